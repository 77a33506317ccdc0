def j_X2_firstOf (a1 : Int32) : Option (Int64) :=
  some ((1 : Int64) <<< ((a1 - (1 : Int32)).toInt64 &&& 63))
set_option maxHeartbeats 4000000 in
set_option maxRecDepth 100000 in
theorem c_X2_firstOf (l : Launch) (dC : Nat → ClassId) (dI : Nat → Nat → Nat) (cI cJ : ClassId) (sz : Nat) (a1 : Int32) (r : Int64) (hj : j_X2_firstOf a1 = some r) : Met l yX2_firstOf wsX2_firstOf ({ frames := 0, cells := 0, slots := 0, locals := 0 } : Room) (va_Pc [.int a1] (fun U => jPr dC dI cI cJ ([] : va_W) sz U)) (va_Ql (fun (v : Int64) (_ : Unit) => v = r) (fun (_ : Unit) t => jPo dC dI cI cJ [] (va_A ([] : va_W) sz) t) (va_A ([] : va_W) sz)) 0 0 (va_A ([] : va_W) sz) := by
  refine Met.ofW (cc := cX2_firstOf) (maxL := 1) (ret := (some .long)) (by decide) rfl ?_
  intro p e s m args below meth c s₁ B hml hv
  obtain ⟨rfl, ⟨hsz, hP, hK, hD0⟩⟩ := hv
  have hx := B.exec
  have hb := B.bytes
  have hr := B.returns
  have hts := atoms_spec (ws := wsX2_firstOf) B.pre
  have hown : s.vm.findClass RX2 = some m.cls := findClass_of_methodNamed B.named
  have hlocks := B.notSynchronized
  have C0 := jCx.of hx hb hr hml hown hts hlocks
  subst hsz
  have hD := hD0.self (sz := s.heap.size)
  generalize hAe : va_A ([] : va_W) s.heap.size = A at hD ⊢
  have hA : ∀ q : Nat, s.heap.size ≤ q → A q := fun q h => by rw [← hAe]; exact Or.inr h
  have hS : va_S A s.heap s.heap [] := va_S.rf
  have hP : va_P (dC, dI) vwCl ([] : va_W) s.heap := hP
  have hl := lv_entry ([.int a1]) (n := 1) (Nat.le_of_ble_eq_true rfl)
  rw [lg_entry_eq]
  generalize (lg_sl ([.int a1]) ++ List.replicate (1 - (lg_sl ([.int a1])).length) Slot.unset).toArray = ls at hl ⊢
  have hl : lv_has ls 1 [(0, .int a1)] := hl
  clear hD0 hAe
  unfold j_X2_firstOf at hj
  refine lv_lconst (v := (1 : Int64)) hx hb dX2_firstOf_0 (by decide) ?_
  refine lv_iload_n hx hb dX2_firstOf_1 rfl (lv_at hl 0 rfl) ?_
  refine lv_iconst (v := (1 : Int32)) hx hb dX2_firstOf_2 (by decide) ?_
  refine lv_isub hx hb dX2_firstOf_3 ?_
  refine lv_lshl hx hb dX2_firstOf_4 rfl ?_
  have hr9 : ((1 : Int64) <<< ((a1 - (1 : Int32)).toInt64 &&& 63)) = r := Option.some.inj hj
  subst hr9
  exact W.lret (v := (1 : Int64) <<< ((a1 - (1 : Int32)).toInt64 &&& 63)) hx hb hr (fun t ht hW => ⟨⟨(1 : Int64) <<< ((a1 - (1 : Int32)).toInt64 &&& 63), (), rfl, rfl, by rw [ht]; exact hP, va_K.moved hW.alike hK, hD⟩, hS.F ht⟩) hS.2.2 dX2_firstOf_5

def jL_X2_bitsFor_2 (sm : Nat → Int64) (x1 : Int32) (x2 : Int32) : Nat → Int32 → Option (Int32)
  | 0, _ => none
  | n + 1, x3 => if (64 : Int32) ≤ x3 then (some (0 : Int32)) else ((j_X2_firstOf x3).bind fun v202 => ((j_X2_lengthOf sm x1 (0 : Int32) v202).bind fun v203 => (if v203 = x2.toInt64 then (some x3) else (jL_X2_bitsFor_2 sm x1 x2 n (x3 + (1 : Int32))))))
set_option maxHeartbeats 4000000 in
set_option maxRecDepth 100000 in
theorem s_X2_bitsFor_2 {p : Program} {l : Launch} {e : Env} {s : State} {m : MethodId} {args : Array Value} {below : List Frame} {meth : Method} {c : Code} {dC : Nat → ClassId} {dI : Nat → Nat → Nat} {cI cJ : ClassId} {A : Nat → Prop} (C0 : jCx p s m args meth c RX2 cX2_bitsFor 4 (some .int) wsX2_bitsFor) (hK : va_K (dC, dI) vwCl (jTy cI cJ) s) (hA : ∀ q : Nat, s.heap.size ≤ q → A q) (g0 : Nat) (gr : Nat) (gl : Nat) (gw : Nat) (gs : Nat) (th : Int32) (rw : Nat → Int32) (mn : Int32) (at_ : Int32) (ml : Nat → Int64) (md_l : Int32) (wd : Nat → Int32) (md : Int32) (sm : Nat → Int64) (fr : Int32) (no : Int32) (x1 : Int32) (x2 : Int32) :
    ∀ (n : Nat) (x3 : Int32) (r : Int32), jL_X2_bitsFor_2 sm x1 x2 n x3 = some r → ∀ (H : Heap) (locs : List Loc) (ls : Array Slot), va_P (dC, dI) vwCl (wM cI cJ g0 gr gl gw gs th rw mn at_ ml md_l wd md sm fr no) H → va_D A (wM cI cJ g0 gr gl gw gs th rw mn at_ ml md_l wd md sm fr no) → va_S A s.heap H locs → lv_has ls 4 [(0, .ref g0), (1, .int x1), (2, .int x2), (3, .int x3)] → W p l e ({ frames := 3, cells := 0, slots := 0, locals := 80 } : Room) s m args below meth c H locs 0 0 (MQ below (va_Qi (fun (v : Int32) (_ : Unit) => v = r) (fun (_ : Unit) t => jPo dC dI cI cJ (wM cI cJ g0 gr gl gw gs th rw mn at_ ml md_l wd md sm fr no) A t) A) args s 0 0 A) (F0 m 2 ls []) := by
  obtain ⟨hx, hb, hr, hml, hown, hts, hlocks⟩ := id C0
  intro n
  induction n with
  | zero =>
    intro x3 r hj
    exact nomatch (show (none : Option (Int32)) = some r from hj)
  | succ n ih =>
    intro x3 r hj H locs ls hP hD hS hl
    replace hj : (if (64 : Int32) ≤ x3 then (some (0 : Int32)) else ((j_X2_firstOf x3).bind fun v202 => ((j_X2_lengthOf sm x1 (0 : Int32) v202).bind fun v203 => (if v203 = x2.toInt64 then (some x3) else (jL_X2_bitsFor_2 sm x1 x2 n (x3 + (1 : Int32))))))) = some r := hj
    refine lv_iload_n hx hb dX2_bitsFor_2 rfl (lv_at hl 3 rfl) ?_
    refine lv_bipush (v := (64 : Int32)) hx hb dX2_bitsFor_3 (by decide) ?_
    refine lv_icmp_ge (tgt := 32) hx hb dX2_bitsFor_5 (by decide) (fun c201 => ?_) (fun c201 => ?_)
    · replace hj := ja_pos c201 hj
      refine lv_iconst (v := (0 : Int32)) hx hb dX2_bitsFor_32 (by decide) ?_
      have hr9 : (0 : Int32) = r := Option.some.inj hj
      subst hr9
      exact W.iret (v := (0 : Int32)) hx hb hr (fun t ht hW => ⟨⟨(0 : Int32), (), rfl, rfl, by rw [ht]; exact hP, va_K.moved hW.alike hK, hD⟩, hS.F ht⟩) hS.2.2 dX2_bitsFor_33
    · replace hj := ja_neg c201 hj
      refine lv_aload_n hx hb dX2_bitsFor_8 rfl (lv_at hl 0 rfl) ?_
      refine lv_iload_n hx hb dX2_bitsFor_9 rfl (lv_at hl 1 rfl) ?_
      refine lv_iconst (v := (0 : Int32)) hx hb dX2_bitsFor_10 (by decide) ?_
      refine lv_iload_n hx hb dX2_bitsFor_11 rfl (lv_at hl 3 rfl) ?_
      obtain ⟨v202, hc, hj⟩ := ja_bd hj
      try dsimp only at hj
      have hPc := hP.sub (ws' := ([] : va_W)) [] rfl
      have hDc := hD.sub (ws' := ([] : va_W)) [] (by decide) rfl
      have hFc := va_free (wc := ([] : va_W)) hD hS hA [] rfl
      refine va_calll (va_runS (As := [.int x3]) (rest := [.int (0 : Int32), .int x1, .ref g0]) ⟨hx, hb, hml, hown, hts⟩ (c_X2_firstOf l dC dI cI cJ H.size x3 _ hc) (va_cwS 1 hts gX2_bitsFor_X2_firstOf rfl rfl rfl (by decide +kernel) ⟨Nat.le_of_ble_eq_true rfl, Nat.le_of_ble_eq_true rfl⟩) ⟨fun a U g mk q => ⟨q.1, jPr.blind q.2⟩, fun U hU hW => ⟨rfl, jPr.mk hU hW hPc hK hDc⟩⟩ rfl rfl hl.1 rfl (lv_room (Nat.le_of_ble_eq_true rfl)) dX2_bitsFor_12 ⟨Nat.le_of_ble_eq_true rfl, Nat.le_of_ble_eq_true rfl⟩) hS (fun q _ h => hFc q h) hFc (fun rr u t H1 locs ht hvm hw9 hB hz1 hk1 hS => ?_)
      have hw8 : v202 = rr := hw9.symm
      subst hw8
      obtain ⟨hP1, hK1, hD1⟩ := hB
      rw [ht] at hP1
      obtain ⟨hP, hD⟩ := va_join (wr := ([(g0, .inr (2, [.int th, .ref gr, .int mn, .int at_, .ref gl, .int md_l, .ref gw, .int md, .ref gs, .int fr, .int no])), (gr, .inl (cI, 4096, .inl rw)), (gl, .inl (cJ, 100, .inr (.inl ml))), (gw, .inl (cI, 4200, .inl wd)), (gs, .inl (cJ, 92, .inr (.inl sm)))] : va_W)) (w1 := ([] : va_W)) hP hD [] [0, 1, 2, 3, 4] rfl rfl (by decide) (by decide) hk1 hFc hP1 hD1
      clear hk1 hP1 hK1 hD1 hvm hz1 hPc hDc hFc
      generalize H1 = H at hP hS ⊢
      have hP : va_P (dC, dI) vwCl (wM cI cJ g0 gr gl gw gs th rw mn at_ ml md_l wd md sm fr no) H := hP
      have hD : va_D A (wM cI cJ g0 gr gl gw gs th rw mn at_ ml md_l wd md sm fr no) := hD
      obtain ⟨v203, hc, hj⟩ := ja_bd hj
      try dsimp only at hj
      have hPc := hP.sub (ws' := (wM cI cJ g0 gr gl gw gs th rw mn at_ ml md_l wd md sm fr no)) [0, 1, 2, 3, 4] rfl
      have hDc := hD.sub (ws' := (wM cI cJ g0 gr gl gw gs th rw mn at_ ml md_l wd md sm fr no)) [0, 1, 2, 3, 4] (by decide) rfl
      have hFc := va_free (wc := (wM cI cJ g0 gr gl gw gs th rw mn at_ ml md_l wd md sm fr no)) hD hS hA [0, 1, 2, 3, 4] rfl
      refine va_calll (va_runV (As := [.int x1, .int (0 : Int32), .long v202]) (rest := []) ⟨hx, hb, hml, hown, hts⟩ (c_X2_lengthOf l dC dI cI cJ g0 gr gl gw gs H.size th rw mn at_ ml md_l wd md sm fr no x1 (0 : Int32) v202 _ hc) (cwV 3 hts gX2_bitsFor_X2_lengthOf rfl rfl rfl (by decide +kernel) ⟨Nat.le_of_ble_eq_true rfl, Nat.le_of_ble_eq_true rfl⟩) ⟨fun a U g mk q => ⟨q.1, jPr.blind q.2⟩, va_recv hK hPc (ci := 2) (q0 := 0) rfl rfl, fun U hU hW => ⟨rfl, jPr.mk hU hW hPc hK hDc⟩⟩ rfl rfl hl.1 rfl (lv_room (Nat.le_of_ble_eq_true rfl)) dX2_bitsFor_15 ⟨Nat.le_of_ble_eq_true rfl, Nat.le_of_ble_eq_true rfl⟩) hS (fun q _ h => hFc q h) hFc (fun rr u t H1 locs ht hvm hw9 hB hz1 hk1 hS => ?_)
      have hw8 : v203 = rr := hw9.symm
      subst hw8
      obtain ⟨hP1, hK1, hD1⟩ := hB
      rw [ht] at hP1
      obtain ⟨hP, hD⟩ := va_join (wr := ([] : va_W)) (w1 := (wM cI cJ g0 gr gl gw gs th rw mn at_ ml md_l wd md sm fr no)) hP hD [0, 1, 2, 3, 4] [] rfl rfl (by decide) (by decide) hk1 hFc hP1 hD1
      clear hk1 hP1 hK1 hD1 hvm hz1 hPc hDc hFc
      generalize H1 = H at hP hS ⊢
      have hP : va_P (dC, dI) vwCl (wM cI cJ g0 gr gl gw gs th rw mn at_ ml md_l wd md sm fr no) H := hP
      have hD : va_D A (wM cI cJ g0 gr gl gw gs th rw mn at_ ml md_l wd md sm fr no) := hD
      refine lv_iload_n hx hb dX2_bitsFor_18 rfl (lv_at hl 2 rfl) ?_
      refine lv_i2l hx hb dX2_bitsFor_19 rfl ?_
      refine W.lcmp hx hb dX2_bitsFor_20 ?_
      refine lv_if_ne (tgt := 26) hx hb dX2_bitsFor_21 (by decide) (fun c204 => ?_) (fun c204 => ?_)
      · replace hj := ja_neg (fun h9 => c204 ((lg_cmp_eq v203 x2.toInt64).mpr h9)) hj
        refine lv_iinc (v := x3 + (1 : Int32)) (lv' := [(3, .int (x3 + (1 : Int32))), (0, .ref g0), (1, .int x1), (2, .int x2)]) hx hb dX2_bitsFor_26 hl (k := 3) rfl (congrArg (fun z => x3 + z) (by decide)) (by decide) rfl (fun ls hl => ?_)
        refine lv_goto (tgt := 2) hx hb dX2_bitsFor_29 (by decide) ?_
        exact ih (x3 + (1 : Int32)) _ hj _ _ _ (hP) (hD) hS (lv_sub hl [1, 2, 3, 0] rfl)
      · replace hj := ja_pos ((lg_cmp_eq v203 x2.toInt64).mp c204) hj
        refine lv_iload_n hx hb dX2_bitsFor_24 rfl (lv_at hl 3 rfl) ?_
        have hr9 : x3 = r := Option.some.inj hj
        subst hr9
        exact W.iret (v := x3) hx hb hr (fun t ht hW => ⟨⟨x3, (), rfl, rfl, by rw [ht]; exact hP, va_K.moved hW.alike hK, hD⟩, hS.F ht⟩) hS.2.2 dX2_bitsFor_25
def j_X2_bitsFor (sm : Nat → Int64) (a1 : Int32) (a2 : Int32) : Option (Int32) :=
  jL_X2_bitsFor_2 sm a1 a2 jF (1 : Int32)
set_option maxHeartbeats 4000000 in
set_option maxRecDepth 100000 in
theorem c_X2_bitsFor (l : Launch) (dC : Nat → ClassId) (dI : Nat → Nat → Nat) (cI cJ : ClassId) (g0 : Nat) (gr : Nat) (gl : Nat) (gw : Nat) (gs : Nat) (sz : Nat) (th : Int32) (rw : Nat → Int32) (mn : Int32) (at_ : Int32) (ml : Nat → Int64) (md_l : Int32) (wd : Nat → Int32) (md : Int32) (sm : Nat → Int64) (fr : Int32) (no : Int32) (a1 : Int32) (a2 : Int32) (r : Int32) (hj : j_X2_bitsFor sm a1 a2 = some r) : Met l yX2_bitsFor wsX2_bitsFor ({ frames := 3, cells := 0, slots := 0, locals := 80 } : Room) (va_Pc [.ref g0, .int a1, .int a2] (fun U => jPr dC dI cI cJ (wM cI cJ g0 gr gl gw gs th rw mn at_ ml md_l wd md sm fr no) sz U)) (va_Qi (fun (v : Int32) (_ : Unit) => v = r) (fun (_ : Unit) t => jPo dC dI cI cJ (wM cI cJ g0 gr gl gw gs th rw mn at_ ml md_l wd md sm fr no) (va_A (wM cI cJ g0 gr gl gw gs th rw mn at_ ml md_l wd md sm fr no) sz) t) (va_A (wM cI cJ g0 gr gl gw gs th rw mn at_ ml md_l wd md sm fr no) sz)) 0 0 (va_A (wM cI cJ g0 gr gl gw gs th rw mn at_ ml md_l wd md sm fr no) sz) := by
  refine Met.ofW (cc := cX2_bitsFor) (maxL := 4) (ret := (some .int)) (by decide) rfl ?_
  intro p e s m args below meth c s₁ B hml hv
  obtain ⟨rfl, ⟨hsz, hP, hK, hD0⟩⟩ := hv
  have hx := B.exec
  have hb := B.bytes
  have hr := B.returns
  have hts := atoms_spec (ws := wsX2_bitsFor) B.pre
  have hown : s.vm.findClass RX2 = some m.cls := findClass_of_methodNamed B.named
  have hlocks := B.notSynchronized
  have C0 := jCx.of hx hb hr hml hown hts hlocks
  subst hsz
  have hD := hD0.self (sz := s.heap.size)
  generalize hAe : va_A (wM cI cJ g0 gr gl gw gs th rw mn at_ ml md_l wd md sm fr no) s.heap.size = A at hD ⊢
  have hA : ∀ q : Nat, s.heap.size ≤ q → A q := fun q h => by rw [← hAe]; exact Or.inr h
  have hS : va_S A s.heap s.heap [] := va_S.rf
  have hP : va_P (dC, dI) vwCl (wM cI cJ g0 gr gl gw gs th rw mn at_ ml md_l wd md sm fr no) s.heap := hP
  have hl := lv_entry ([.ref g0, .int a1, .int a2]) (n := 4) (Nat.le_of_ble_eq_true rfl)
  rw [lg_entry_eq]
  generalize (lg_sl ([.ref g0, .int a1, .int a2]) ++ List.replicate (4 - (lg_sl ([.ref g0, .int a1, .int a2])).length) Slot.unset).toArray = ls at hl ⊢
  have hl : lv_has ls 4 [(0, .ref g0), (1, .int a1), (2, .int a2)] := hl
  clear hD0 hAe
  unfold j_X2_bitsFor at hj
  refine lv_iconst (v := (1 : Int32)) hx hb dX2_bitsFor_0 (by decide) ?_
  refine lv_istore_n (lv' := [(3, .int (1 : Int32)), (0, .ref g0), (1, .int a1), (2, .int a2)]) hx hb dX2_bitsFor_1 rfl hl (by decide) rfl (fun ls hl => ?_)
  exact s_X2_bitsFor_2 C0 hK hA g0 gr gl gw gs th rw mn at_ ml md_l wd md sm fr no a1 a2 jF (1 : Int32) _ hj _ _ _ (hP) (hD) hS (lv_sub hl [1, 2, 3, 0] rfl)

def j_X2_lastOf (a1 : Int32) : Option (Int64) :=
  if a1 ≤ (62 : Int32) then (some (((1 : Int64) <<< (a1.toInt64 &&& 63)) - (1 : Int64))) else (some (4611686018427387904 : Int64))
set_option maxHeartbeats 4000000 in
set_option maxRecDepth 100000 in
theorem c_X2_lastOf (l : Launch) (dC : Nat → ClassId) (dI : Nat → Nat → Nat) (cI cJ : ClassId) (sz : Nat) (a1 : Int32) (r : Int64) (hj : j_X2_lastOf a1 = some r) : Met l yX2_lastOf wsX2_lastOf ({ frames := 0, cells := 0, slots := 0, locals := 0 } : Room) (va_Pc [.int a1] (fun U => jPr dC dI cI cJ ([] : va_W) sz U)) (va_Ql (fun (v : Int64) (_ : Unit) => v = r) (fun (_ : Unit) t => jPo dC dI cI cJ [] (va_A ([] : va_W) sz) t) (va_A ([] : va_W) sz)) 0 0 (va_A ([] : va_W) sz) := by
  refine Met.ofW (cc := cX2_lastOf) (maxL := 1) (ret := (some .long)) (by decide) rfl ?_
  intro p e s m args below meth c s₁ B hml hv
  obtain ⟨rfl, ⟨hsz, hP, hK, hD0⟩⟩ := hv
  have hx := B.exec
  have hb := B.bytes
  have hr := B.returns
  have hts := atoms_spec (ws := wsX2_lastOf) B.pre
  have hown : s.vm.findClass RX2 = some m.cls := findClass_of_methodNamed B.named
  have hlocks := B.notSynchronized
  have C0 := jCx.of hx hb hr hml hown hts hlocks
  subst hsz
  have hD := hD0.self (sz := s.heap.size)
  generalize hAe : va_A ([] : va_W) s.heap.size = A at hD ⊢
  have hA : ∀ q : Nat, s.heap.size ≤ q → A q := fun q h => by rw [← hAe]; exact Or.inr h
  have hS : va_S A s.heap s.heap [] := va_S.rf
  have hP : va_P (dC, dI) vwCl ([] : va_W) s.heap := hP
  have hl := lv_entry ([.int a1]) (n := 1) (Nat.le_of_ble_eq_true rfl)
  rw [lg_entry_eq]
  generalize (lg_sl ([.int a1]) ++ List.replicate (1 - (lg_sl ([.int a1])).length) Slot.unset).toArray = ls at hl ⊢
  have hl : lv_has ls 1 [(0, .int a1)] := hl
  clear hD0 hAe
  unfold j_X2_lastOf at hj
  refine lv_iload_n hx hb dX2_lastOf_0 rfl (lv_at hl 0 rfl) ?_
  refine lv_bipush (v := (62 : Int32)) hx hb dX2_lastOf_1 (by decide) ?_
  refine lv_icmp_le (tgt := 12) hx hb dX2_lastOf_3 (by decide) (fun c1 => ?_) (fun c1 => ?_)
  · replace hj := ja_pos c1 hj
    refine lv_lconst (v := (1 : Int64)) hx hb dX2_lastOf_12 (by decide) ?_
    refine lv_iload_n hx hb dX2_lastOf_13 rfl (lv_at hl 0 rfl) ?_
    refine lv_lshl hx hb dX2_lastOf_14 rfl ?_
    refine lv_lconst (v := (1 : Int64)) hx hb dX2_lastOf_15 (by decide) ?_
    refine lv_lsub hx hb dX2_lastOf_16 ?_
    have hr9 : (((1 : Int64) <<< (a1.toInt64 &&& 63)) - (1 : Int64)) = r := Option.some.inj hj
    subst hr9
    exact W.lret (v := ((1 : Int64) <<< (a1.toInt64 &&& 63)) - (1 : Int64)) hx hb hr (fun t ht hW => ⟨⟨((1 : Int64) <<< (a1.toInt64 &&& 63)) - (1 : Int64), (), rfl, rfl, by rw [ht]; exact hP, va_K.moved hW.alike hK, hD⟩, hS.F ht⟩) hS.2.2 dX2_lastOf_17
  · replace hj := ja_neg c1 hj
    refine lv_ldc2 (v := (4611686018427387904 : Int64)) hx hb hown (hts (.constantLong RX2 30 (4611686018427387904)) (by decide +kernel)) dX2_lastOf_6 ?_
    refine lv_goto (tgt := 17) hx hb dX2_lastOf_9 (by decide) ?_
    have hr9 : (4611686018427387904 : Int64) = r := Option.some.inj hj
    subst hr9
    exact W.lret (v := (4611686018427387904 : Int64)) hx hb hr (fun t ht hW => ⟨⟨(4611686018427387904 : Int64), (), rfl, rfl, by rw [ht]; exact hP, va_K.moved hW.alike hK, hD⟩, hS.F ht⟩) hS.2.2 dX2_lastOf_17

set_option maxRecDepth 100000 in
theorem inn_X2_edge_X2 : ∀ w ∈ u_ws RX2 TX2 11, w ∈ wsX2_edge := by decide +kernel
def j_X2_edge (sm : Nat → Int64) (a1 : Int32) (a2 : Int32) (a3 : Int32) (a4 : Int32) : Option (Int64) :=
  if a1 = (0 : Int32) then (some a3.toInt64) else (if (4 : Int32) ≤ a1 then (if a1 = (4 : Int32) then (if (a3 - (1 : Int32)) < (1 : Int32) then (some (0 : Int64)) else (if (a3 - (1 : Int32)) ≤ (89 : Int32) then (jix ((a3 - (1 : Int32)) + (1 : Int32)) 92 (if a4 = (0 : Int32) then (jix (a3 - (1 : Int32)) 92 (some (sm (a3 - (1 : Int32)).toNatClampNeg))) else (if ((sm ((a3 - (1 : Int32)) + (1 : Int32)).toNatClampNeg) - (1 : Int64)) ≤ (4611686018427387904 : Int64) then (some ((sm ((a3 - (1 : Int32)) + (1 : Int32)).toNatClampNeg) - (1 : Int64))) else (some (4611686018427387904 : Int64))))) else (some (0 : Int64)))) else (if a1 = (6 : Int32) then (if (a3 - a2) < (1 : Int32) then (some (0 : Int64)) else (if ((a3 - a2) - (a3 - a2) / (2 : Int32) * (2 : Int32)) = (0 : Int32) then (some (0 : Int64)) else (if (((a3 - a2) + (1 : Int32)) / (2 : Int32)) ≤ ((63 : Int32) - a2) then (if (62 : Int32) < (((a3 - a2) + (1 : Int32)) / (2 : Int32)) then (if a4 = (0 : Int32) then ((j_X2_firstOf (((a3 - a2) + (1 : Int32)) / (2 : Int32))).bind fun v18 => (some (((v18 - (1 : Int64)) <<< (a2.toInt64 &&& 63)) + (1 : Int64)))) else (some (((((4611686018427387904 : Int64) >>> (a2.toInt64 &&& 63)) - (1 : Int64)) <<< (a2.toInt64 &&& 63)) + ((1 : Int64) <<< (a2.toInt64 &&& 63))))) else ((j_X2_lastOf (((a3 - a2) + (1 : Int32)) / (2 : Int32))).bind fun v19 => (if v19 ≤ ((4611686018427387904 : Int64) >>> (a2.toInt64 &&& 63)) then ((j_X2_lastOf (((a3 - a2) + (1 : Int32)) / (2 : Int32))).bind fun v21 => (if a4 = (0 : Int32) then ((j_X2_firstOf (((a3 - a2) + (1 : Int32)) / (2 : Int32))).bind fun v23 => (some (((v23 - (1 : Int64)) <<< (a2.toInt64 &&& 63)) + (1 : Int64)))) else (some (((v21 - (1 : Int64)) <<< (a2.toInt64 &&& 63)) + ((1 : Int64) <<< (a2.toInt64 &&& 63)))))) else (if a4 = (0 : Int32) then ((j_X2_firstOf (((a3 - a2) + (1 : Int32)) / (2 : Int32))).bind fun v25 => (some (((v25 - (1 : Int64)) <<< (a2.toInt64 &&& 63)) + (1 : Int64)))) else (some (((((4611686018427387904 : Int64) >>> (a2.toInt64 &&& 63)) - (1 : Int64)) <<< (a2.toInt64 &&& 63)) + ((1 : Int64) <<< (a2.toInt64 &&& 63)))))))) else (some (0 : Int64))))) else (jdvI (a2 + (1 : Int32)) (jdvI (a2 + (1 : Int32)) (if (a3 - a3 / (a2 + (1 : Int32)) * (a2 + (1 : Int32))) = (0 : Int32) then (if (a3 / (a2 + (1 : Int32))) < (1 : Int32) then (some (0 : Int64)) else (if (a2 * ((a3 / (a2 + (1 : Int32))) - (1 : Int32))) ≤ (61 : Int32) then (if (a2 * (a3 / (a2 + (1 : Int32)))) ≤ (61 : Int32) then (if a4 = (0 : Int32) then (if (a3 / (a2 + (1 : Int32))) = (1 : Int32) then (some (1 : Int64)) else (some (((1 : Int64) <<< ((a2 * ((a3 / (a2 + (1 : Int32))) - (1 : Int32))).toInt64 &&& 63)) + (1 : Int64)))) else (some ((1 : Int64) <<< ((a2 * (a3 / (a2 + (1 : Int32)))).toInt64 &&& 63)))) else (if a4 = (0 : Int32) then (if (a3 / (a2 + (1 : Int32))) = (1 : Int32) then (some (1 : Int64)) else (some (((1 : Int64) <<< ((a2 * ((a3 / (a2 + (1 : Int32))) - (1 : Int32))).toInt64 &&& 63)) + (1 : Int64)))) else (some (4611686018427387904 : Int64)))) else (some (0 : Int64)))) else (some (0 : Int64))))))) else ((j_X2_bitsFor sm a1 a3).bind fun v30 => (if v30 = (0 : Int32) then (some (0 : Int64)) else (if a4 = (0 : Int32) then ((j_X2_firstOf v30).bind fun v33 => (some v33)) else ((j_X2_lastOf v30).bind fun v34 => (some v34))))))
set_option maxHeartbeats 4000000 in
set_option maxRecDepth 100000 in
theorem c_X2_edge (l : Launch) (dC : Nat → ClassId) (dI : Nat → Nat → Nat) (cI cJ : ClassId) (g0 : Nat) (gr : Nat) (gl : Nat) (gw : Nat) (gs : Nat) (sz : Nat) (th : Int32) (rw : Nat → Int32) (mn : Int32) (at_ : Int32) (ml : Nat → Int64) (md_l : Int32) (wd : Nat → Int32) (md : Int32) (sm : Nat → Int64) (fr : Int32) (no : Int32) (a1 : Int32) (a2 : Int32) (a3 : Int32) (a4 : Int32) (r : Int64) (hj : j_X2_edge sm a1 a2 a3 a4 = some r) : Met l yX2_edge wsX2_edge ({ frames := 4, cells := 0, slots := 0, locals := 103 } : Room) (va_Pc [.ref g0, .int a1, .int a2, .int a3, .int a4] (fun U => jPr dC dI cI cJ (wM cI cJ g0 gr gl gw gs th rw mn at_ ml md_l wd md sm fr no) sz U)) (va_Ql (fun (v : Int64) (_ : Unit) => v = r) (fun (_ : Unit) t => jPo dC dI cI cJ (wM cI cJ g0 gr gl gw gs th rw mn at_ ml md_l wd md sm fr no) (va_A (wM cI cJ g0 gr gl gw gs th rw mn at_ ml md_l wd md sm fr no) sz) t) (va_A (wM cI cJ g0 gr gl gw gs th rw mn at_ ml md_l wd md sm fr no) sz)) 0 0 (va_A (wM cI cJ g0 gr gl gw gs th rw mn at_ ml md_l wd md sm fr no) sz) := by
  refine Met.ofW (cc := cX2_edge) (maxL := 10) (ret := (some .long)) (by decide) rfl ?_
  intro p e s m args below meth c s₁ B hml hv
  obtain ⟨rfl, ⟨hsz, hP, hK, hD0⟩⟩ := hv
  have hx := B.exec
  have hb := B.bytes
  have hr := B.returns
  have hts := atoms_spec (ws := wsX2_edge) B.pre
  have hown : s.vm.findClass RX2 = some m.cls := findClass_of_methodNamed B.named
  have hlocks := B.notSynchronized
  have C0 := jCx.of hx hb hr hml hown hts hlocks
  subst hsz
  have hD := hD0.self (sz := s.heap.size)
  generalize hAe : va_A (wM cI cJ g0 gr gl gw gs th rw mn at_ ml md_l wd md sm fr no) s.heap.size = A at hD ⊢
  have hA : ∀ q : Nat, s.heap.size ≤ q → A q := fun q h => by rw [← hAe]; exact Or.inr h
  have hS : va_S A s.heap s.heap [] := va_S.rf
  have hP : va_P (dC, dI) vwCl (wM cI cJ g0 gr gl gw gs th rw mn at_ ml md_l wd md sm fr no) s.heap := hP
  have hl := lv_entry ([.ref g0, .int a1, .int a2, .int a3, .int a4]) (n := 10) (Nat.le_of_ble_eq_true rfl)
  rw [lg_entry_eq]
  generalize (lg_sl ([.ref g0, .int a1, .int a2, .int a3, .int a4]) ++ List.replicate (10 - (lg_sl ([.ref g0, .int a1, .int a2, .int a3, .int a4])).length) Slot.unset).toArray = ls at hl ⊢
  have hl : lv_has ls 10 [(0, .ref g0), (1, .int a1), (2, .int a2), (3, .int a3), (4, .int a4)] := hl
  clear hD0 hAe
  unfold j_X2_edge at hj
  refine lv_iload_n hx hb dX2_edge_0 rfl (lv_at hl 1 rfl) ?_
  refine lv_if_ne (tgt := 7) hx hb dX2_edge_1 (by decide) (fun c1 => ?_) (fun c1 => ?_)
  · replace hj := ja_neg c1 hj
    refine lv_iload_n hx hb dX2_edge_7 rfl (lv_at hl 1 rfl) ?_
    refine lv_iconst (v := (4 : Int32)) hx hb dX2_edge_8 (by decide) ?_
    refine lv_icmp_ge (tgt := 48) hx hb dX2_edge_9 (by decide) (fun c2 => ?_) (fun c2 => ?_)
    · replace hj := ja_pos c2 hj
      refine lv_iload_n hx hb dX2_edge_48 rfl (lv_at hl 1 rfl) ?_
      refine lv_iconst (v := (4 : Int32)) hx hb dX2_edge_49 (by decide) ?_
      refine lv_icmp_ne (tgt := 119) hx hb dX2_edge_50 (by decide) (fun c3 => ?_) (fun c3 => ?_)
      · replace hj := ja_neg c3 hj
        refine lv_iload_n hx hb dX2_edge_119 rfl (lv_at hl 1 rfl) ?_
        refine lv_bipush (v := (6 : Int32)) hx hb dX2_edge_120 (by decide) ?_
        refine lv_icmp_ne (tgt := 227) hx hb dX2_edge_122 (by decide) (fun c4 => ?_) (fun c4 => ?_)
        · replace hj := ja_neg c4 hj
          refine lv_iload_n hx hb dX2_edge_227 rfl (lv_at hl 3 rfl) ?_
          refine lv_iload_n hx hb dX2_edge_228 rfl (lv_at hl 2 rfl) ?_
          refine lv_iconst (v := (1 : Int32)) hx hb dX2_edge_229 (by decide) ?_
          refine lv_iadd hx hb dX2_edge_230 ?_
          obtain ⟨hne, hj⟩ := ja_dvI hj
          refine lv_idiv hx hb dX2_edge_231 hne ?_
          refine lv_istore (lv' := [(5, .int (a3 / (a2 + (1 : Int32)))), (0, .ref g0), (1, .int a1), (2, .int a2), (3, .int a3), (4, .int a4)]) hx hb dX2_edge_232 hl (by decide) rfl (fun ls hl => ?_)
          refine lv_iload_n hx hb dX2_edge_234 rfl (lv_at hl 4 rfl) ?_
          refine lv_iload_n hx hb dX2_edge_235 rfl (lv_at hl 3 rfl) ?_
          refine lv_iconst (v := (1 : Int32)) hx hb dX2_edge_236 (by decide) ?_
          refine lv_iadd hx hb dX2_edge_237 ?_
          obtain ⟨hne, hj⟩ := ja_dvI hj
          refine lv_irem hx hb dX2_edge_238 hne ?_
          refine lv_if_ne (tgt := 259) hx hb dX2_edge_239 (by decide) (fun c5 => ?_) (fun c5 => ?_)
          · replace hj := ja_neg c5 hj
            refine lv_lconst (v := (0 : Int64)) hx hb dX2_edge_259 (by decide) ?_
            have hr9 : (0 : Int64) = r := Option.some.inj hj
            subst hr9
            exact W.lret (v := (0 : Int64)) hx hb hr (fun t ht hW => ⟨⟨(0 : Int64), (), rfl, rfl, by rw [ht]; exact hP, va_K.moved hW.alike hK, hD⟩, hS.F ht⟩) hS.2.2 dX2_edge_260
          · replace hj := ja_pos c5 hj
            refine lv_iload hx hb dX2_edge_242 (lv_at hl 0 rfl) ?_
            refine lv_iconst (v := (1 : Int32)) hx hb dX2_edge_244 (by decide) ?_
            refine lv_icmp_lt (tgt := 259) hx hb dX2_edge_245 (by decide) (fun c6 => ?_) (fun c6 => ?_)
            · replace hj := ja_pos c6 hj
              refine lv_lconst (v := (0 : Int64)) hx hb dX2_edge_259 (by decide) ?_
              have hr9 : (0 : Int64) = r := Option.some.inj hj
              subst hr9
              exact W.lret (v := (0 : Int64)) hx hb hr (fun t ht hW => ⟨⟨(0 : Int64), (), rfl, rfl, by rw [ht]; exact hP, va_K.moved hW.alike hK, hD⟩, hS.F ht⟩) hS.2.2 dX2_edge_260
            · replace hj := ja_neg c6 hj
              refine lv_iload_n hx hb dX2_edge_248 rfl (lv_at hl 3 rfl) ?_
              refine lv_iload hx hb dX2_edge_249 (lv_at hl 0 rfl) ?_
              refine lv_iconst (v := (1 : Int32)) hx hb dX2_edge_251 (by decide) ?_
              refine lv_isub hx hb dX2_edge_252 ?_
              refine lv_imul hx hb dX2_edge_253 ?_
              refine lv_bipush (v := (61 : Int32)) hx hb dX2_edge_254 (by decide) ?_
              refine lv_icmp_le (tgt := 261) hx hb dX2_edge_256 (by decide) (fun c7 => ?_) (fun c7 => ?_)
              · replace hj := ja_pos c7 hj
                refine lv_iload_n hx hb dX2_edge_261 rfl (lv_at hl 3 rfl) ?_
                refine lv_iload hx hb dX2_edge_262 (lv_at hl 0 rfl) ?_
                refine lv_imul hx hb dX2_edge_264 ?_
                refine lv_bipush (v := (61 : Int32)) hx hb dX2_edge_265 (by decide) ?_
                refine lv_icmp_le (tgt := 276) hx hb dX2_edge_267 (by decide) (fun c8 => ?_) (fun c8 => ?_)
                · replace hj := ja_pos c8 hj
                  refine lv_lconst (v := (1 : Int64)) hx hb dX2_edge_276 (by decide) ?_
                  refine lv_iload_n hx hb dX2_edge_277 rfl (lv_at hl 3 rfl) ?_
                  refine lv_iload hx hb dX2_edge_278 (lv_at hl 0 rfl) ?_
                  refine lv_imul hx hb dX2_edge_280 ?_
                  refine lv_lshl hx hb dX2_edge_281 rfl ?_
                  refine lv_lstore (lv' := [(6, .long ((1 : Int64) <<< ((a2 * (a3 / (a2 + (1 : Int32)))).toInt64 &&& 63))), (5, .int (a3 / (a2 + (1 : Int32)))), (0, .ref g0), (1, .int a1), (2, .int a2), (3, .int a3), (4, .int a4)]) hx hb dX2_edge_282 hl (by decide) rfl (fun ls hl => ?_)
                  refine lv_iload hx hb dX2_edge_284 (lv_at hl 6 rfl) ?_
                  refine lv_if_eq (tgt := 294) hx hb dX2_edge_286 (by decide) (fun c9 => ?_) (fun c9 => ?_)
                  · replace hj := ja_pos c9 hj
                    refine lv_iload hx hb dX2_edge_294 (lv_at hl 1 rfl) ?_
                    refine lv_iconst (v := (1 : Int32)) hx hb dX2_edge_296 (by decide) ?_
                    refine lv_icmp_ne (tgt := 304) hx hb dX2_edge_297 (by decide) (fun c10 => ?_) (fun c10 => ?_)
                    · replace hj := ja_neg c10 hj
                      refine lv_lconst (v := (1 : Int64)) hx hb dX2_edge_304 (by decide) ?_
                      refine lv_iload_n hx hb dX2_edge_305 rfl (lv_at hl 4 rfl) ?_
                      refine lv_iload hx hb dX2_edge_306 (lv_at hl 1 rfl) ?_
                      refine lv_iconst (v := (1 : Int32)) hx hb dX2_edge_308 (by decide) ?_
                      refine lv_isub hx hb dX2_edge_309 ?_
                      refine lv_imul hx hb dX2_edge_310 ?_
                      refine lv_lshl hx hb dX2_edge_311 rfl ?_
                      refine lv_lconst (v := (1 : Int64)) hx hb dX2_edge_312 (by decide) ?_
                      refine lv_ladd hx hb dX2_edge_313 ?_
                      have hr9 : (((1 : Int64) <<< ((a2 * ((a3 / (a2 + (1 : Int32))) - (1 : Int32))).toInt64 &&& 63)) + (1 : Int64)) = r := Option.some.inj hj
                      subst hr9
                      exact W.lret (v := ((1 : Int64) <<< ((a2 * ((a3 / (a2 + (1 : Int32))) - (1 : Int32))).toInt64 &&& 63)) + (1 : Int64)) hx hb hr (fun t ht hW => ⟨⟨((1 : Int64) <<< ((a2 * ((a3 / (a2 + (1 : Int32))) - (1 : Int32))).toInt64 &&& 63)) + (1 : Int64), (), rfl, rfl, by rw [ht]; exact hP, va_K.moved hW.alike hK, hD⟩, hS.F ht⟩) hS.2.2 dX2_edge_314
                    · replace hj := ja_pos c10 hj
                      refine lv_lconst (v := (1 : Int64)) hx hb dX2_edge_300 (by decide) ?_
                      refine lv_goto (tgt := 314) hx hb dX2_edge_301 (by decide) ?_
                      have hr9 : (1 : Int64) = r := Option.some.inj hj
                      subst hr9
                      exact W.lret (v := (1 : Int64)) hx hb hr (fun t ht hW => ⟨⟨(1 : Int64), (), rfl, rfl, by rw [ht]; exact hP, va_K.moved hW.alike hK, hD⟩, hS.F ht⟩) hS.2.2 dX2_edge_314
                  · replace hj := ja_neg c9 hj
                    refine lv_lload hx hb dX2_edge_289 (lv_at hl 0 rfl) ?_
                    refine lv_goto (tgt := 314) hx hb dX2_edge_291 (by decide) ?_
                    have hr9 : ((1 : Int64) <<< ((a2 * (a3 / (a2 + (1 : Int32)))).toInt64 &&& 63)) = r := Option.some.inj hj
                    subst hr9
                    exact W.lret (v := (1 : Int64) <<< ((a2 * (a3 / (a2 + (1 : Int32)))).toInt64 &&& 63)) hx hb hr (fun t ht hW => ⟨⟨(1 : Int64) <<< ((a2 * (a3 / (a2 + (1 : Int32)))).toInt64 &&& 63), (), rfl, rfl, by rw [ht]; exact hP, va_K.moved hW.alike hK, hD⟩, hS.F ht⟩) hS.2.2 dX2_edge_314
                · replace hj := ja_neg c8 hj
                  refine lv_ldc2 (v := (4611686018427387904 : Int64)) hx hb hown (hts (.constantLong RX2 30 (4611686018427387904)) (by decide +kernel)) dX2_edge_270 ?_
                  refine lv_goto (tgt := 282) hx hb dX2_edge_273 (by decide) ?_
                  refine lv_lstore (lv' := [(6, .long (4611686018427387904 : Int64)), (5, .int (a3 / (a2 + (1 : Int32)))), (0, .ref g0), (1, .int a1), (2, .int a2), (3, .int a3), (4, .int a4)]) hx hb dX2_edge_282 hl (by decide) rfl (fun ls hl => ?_)
                  refine lv_iload hx hb dX2_edge_284 (lv_at hl 6 rfl) ?_
                  refine lv_if_eq (tgt := 294) hx hb dX2_edge_286 (by decide) (fun c11 => ?_) (fun c11 => ?_)
                  · replace hj := ja_pos c11 hj
                    refine lv_iload hx hb dX2_edge_294 (lv_at hl 1 rfl) ?_
                    refine lv_iconst (v := (1 : Int32)) hx hb dX2_edge_296 (by decide) ?_
                    refine lv_icmp_ne (tgt := 304) hx hb dX2_edge_297 (by decide) (fun c12 => ?_) (fun c12 => ?_)
                    · replace hj := ja_neg c12 hj
                      refine lv_lconst (v := (1 : Int64)) hx hb dX2_edge_304 (by decide) ?_
                      refine lv_iload_n hx hb dX2_edge_305 rfl (lv_at hl 4 rfl) ?_
                      refine lv_iload hx hb dX2_edge_306 (lv_at hl 1 rfl) ?_
                      refine lv_iconst (v := (1 : Int32)) hx hb dX2_edge_308 (by decide) ?_
                      refine lv_isub hx hb dX2_edge_309 ?_
                      refine lv_imul hx hb dX2_edge_310 ?_
                      refine lv_lshl hx hb dX2_edge_311 rfl ?_
                      refine lv_lconst (v := (1 : Int64)) hx hb dX2_edge_312 (by decide) ?_
                      refine lv_ladd hx hb dX2_edge_313 ?_
                      have hr9 : (((1 : Int64) <<< ((a2 * ((a3 / (a2 + (1 : Int32))) - (1 : Int32))).toInt64 &&& 63)) + (1 : Int64)) = r := Option.some.inj hj
                      subst hr9
                      exact W.lret (v := ((1 : Int64) <<< ((a2 * ((a3 / (a2 + (1 : Int32))) - (1 : Int32))).toInt64 &&& 63)) + (1 : Int64)) hx hb hr (fun t ht hW => ⟨⟨((1 : Int64) <<< ((a2 * ((a3 / (a2 + (1 : Int32))) - (1 : Int32))).toInt64 &&& 63)) + (1 : Int64), (), rfl, rfl, by rw [ht]; exact hP, va_K.moved hW.alike hK, hD⟩, hS.F ht⟩) hS.2.2 dX2_edge_314
                    · replace hj := ja_pos c12 hj
                      refine lv_lconst (v := (1 : Int64)) hx hb dX2_edge_300 (by decide) ?_
                      refine lv_goto (tgt := 314) hx hb dX2_edge_301 (by decide) ?_
                      have hr9 : (1 : Int64) = r := Option.some.inj hj
                      subst hr9
                      exact W.lret (v := (1 : Int64)) hx hb hr (fun t ht hW => ⟨⟨(1 : Int64), (), rfl, rfl, by rw [ht]; exact hP, va_K.moved hW.alike hK, hD⟩, hS.F ht⟩) hS.2.2 dX2_edge_314
                  · replace hj := ja_neg c11 hj
                    refine lv_lload hx hb dX2_edge_289 (lv_at hl 0 rfl) ?_
                    refine lv_goto (tgt := 314) hx hb dX2_edge_291 (by decide) ?_
                    have hr9 : (4611686018427387904 : Int64) = r := Option.some.inj hj
                    subst hr9
                    exact W.lret (v := (4611686018427387904 : Int64)) hx hb hr (fun t ht hW => ⟨⟨(4611686018427387904 : Int64), (), rfl, rfl, by rw [ht]; exact hP, va_K.moved hW.alike hK, hD⟩, hS.F ht⟩) hS.2.2 dX2_edge_314
              · replace hj := ja_neg c7 hj
                refine lv_lconst (v := (0 : Int64)) hx hb dX2_edge_259 (by decide) ?_
                have hr9 : (0 : Int64) = r := Option.some.inj hj
                subst hr9
                exact W.lret (v := (0 : Int64)) hx hb hr (fun t ht hW => ⟨⟨(0 : Int64), (), rfl, rfl, by rw [ht]; exact hP, va_K.moved hW.alike hK, hD⟩, hS.F ht⟩) hS.2.2 dX2_edge_260
        · replace hj := ja_pos c4 hj
          refine lv_iload_n hx hb dX2_edge_125 rfl (lv_at hl 3 rfl) ?_
          refine lv_iload_n hx hb dX2_edge_126 rfl (lv_at hl 2 rfl) ?_
          refine lv_isub hx hb dX2_edge_127 ?_
          refine lv_iconst (v := (1 : Int32)) hx hb dX2_edge_128 (by decide) ?_
          refine lv_iadd hx hb dX2_edge_129 ?_
          refine lv_iconst (v := (2 : Int32)) hx hb dX2_edge_130 (by decide) ?_
          refine lv_idiv hx hb dX2_edge_131 (by decide) ?_
          refine lv_istore (lv' := [(5, .int (((a3 - a2) + (1 : Int32)) / (2 : Int32))), (0, .ref g0), (1, .int a1), (2, .int a2), (3, .int a3), (4, .int a4)]) hx hb dX2_edge_132 hl (by decide) rfl (fun ls hl => ?_)
          refine lv_iload_n hx hb dX2_edge_134 rfl (lv_at hl 4 rfl) ?_
          refine lv_iload_n hx hb dX2_edge_135 rfl (lv_at hl 3 rfl) ?_
          refine lv_isub hx hb dX2_edge_136 ?_
          refine lv_iconst (v := (1 : Int32)) hx hb dX2_edge_137 (by decide) ?_
          refine lv_icmp_lt (tgt := 158) hx hb dX2_edge_138 (by decide) (fun c13 => ?_) (fun c13 => ?_)
          · replace hj := ja_pos c13 hj
            refine lv_lconst (v := (0 : Int64)) hx hb dX2_edge_158 (by decide) ?_
            have hr9 : (0 : Int64) = r := Option.some.inj hj
            subst hr9
            exact W.lret (v := (0 : Int64)) hx hb hr (fun t ht hW => ⟨⟨(0 : Int64), (), rfl, rfl, by rw [ht]; exact hP, va_K.moved hW.alike hK, hD⟩, hS.F ht⟩) hS.2.2 dX2_edge_159
          · replace hj := ja_neg c13 hj
            refine lv_iload_n hx hb dX2_edge_141 rfl (lv_at hl 4 rfl) ?_
            refine lv_iload_n hx hb dX2_edge_142 rfl (lv_at hl 3 rfl) ?_
            refine lv_isub hx hb dX2_edge_143 ?_
            refine lv_iconst (v := (2 : Int32)) hx hb dX2_edge_144 (by decide) ?_
            refine lv_irem hx hb dX2_edge_145 (by decide) ?_
            refine lv_if_eq (tgt := 158) hx hb dX2_edge_146 (by decide) (fun c14 => ?_) (fun c14 => ?_)
            · replace hj := ja_pos c14 hj
              refine lv_lconst (v := (0 : Int64)) hx hb dX2_edge_158 (by decide) ?_
              have hr9 : (0 : Int64) = r := Option.some.inj hj
              subst hr9
              exact W.lret (v := (0 : Int64)) hx hb hr (fun t ht hW => ⟨⟨(0 : Int64), (), rfl, rfl, by rw [ht]; exact hP, va_K.moved hW.alike hK, hD⟩, hS.F ht⟩) hS.2.2 dX2_edge_159
            · replace hj := ja_neg c14 hj
              refine lv_iload hx hb dX2_edge_149 (lv_at hl 0 rfl) ?_
              refine lv_bipush (v := (63 : Int32)) hx hb dX2_edge_151 (by decide) ?_
              refine lv_iload_n hx hb dX2_edge_153 rfl (lv_at hl 3 rfl) ?_
              refine lv_isub hx hb dX2_edge_154 ?_
              refine lv_icmp_le (tgt := 160) hx hb dX2_edge_155 (by decide) (fun c15 => ?_) (fun c15 => ?_)
              · replace hj := ja_pos c15 hj
                refine lv_ldc2 (v := (4611686018427387904 : Int64)) hx hb hown (hts (.constantLong RX2 30 (4611686018427387904)) (by decide +kernel)) dX2_edge_160 ?_
                refine lv_iload_n hx hb dX2_edge_163 rfl (lv_at hl 3 rfl) ?_
                refine lv_lshr hx hb dX2_edge_164 rfl ?_
                refine lv_lstore (lv' := [(6, .long ((4611686018427387904 : Int64) >>> (a2.toInt64 &&& 63))), (5, .int (((a3 - a2) + (1 : Int32)) / (2 : Int32))), (0, .ref g0), (1, .int a1), (2, .int a2), (3, .int a3), (4, .int a4)]) hx hb dX2_edge_165 hl (by decide) rfl (fun ls hl => ?_)
                refine lv_iload hx hb dX2_edge_167 (lv_at hl 1 rfl) ?_
                refine lv_bipush (v := (62 : Int32)) hx hb dX2_edge_169 (by decide) ?_
                refine lv_icmp_gt (tgt := 185) hx hb dX2_edge_171 (by decide) (fun c16 => ?_) (fun c16 => ?_)
                · replace hj := ja_pos c16 hj
                  refine lv_lload hx hb dX2_edge_185 (lv_at hl 0 rfl) ?_
                  refine lv_goto (tgt := 195) hx hb dX2_edge_187 (by decide) ?_
                  refine lv_lstore (lv' := [(8, .long ((4611686018427387904 : Int64) >>> (a2.toInt64 &&& 63))), (6, .long ((4611686018427387904 : Int64) >>> (a2.toInt64 &&& 63))), (5, .int (((a3 - a2) + (1 : Int32)) / (2 : Int32))), (0, .ref g0), (1, .int a1), (2, .int a2), (3, .int a3), (4, .int a4)]) hx hb dX2_edge_195 hl (by decide) rfl (fun ls hl => ?_)
                  refine lv_iload hx hb dX2_edge_197 (lv_at hl 7 rfl) ?_
                  refine lv_if_eq (tgt := 215) hx hb dX2_edge_199 (by decide) (fun c17 => ?_) (fun c17 => ?_)
                  · replace hj := ja_pos c17 hj
                    refine lv_iload hx hb dX2_edge_215 (lv_at hl 2 rfl) ?_
                    obtain ⟨v18, hc, hj⟩ := ja_bd hj
                    try dsimp only at hj
                    have hPc := hP.sub (ws' := ([] : va_W)) [] rfl
                    have hDc := hD.sub (ws' := ([] : va_W)) [] (by decide) rfl
                    have hFc := va_free (wc := ([] : va_W)) hD hS hA [] rfl
                    refine va_calll (va_runS (As := [.int (((a3 - a2) + (1 : Int32)) / (2 : Int32))]) (rest := []) ⟨hx, hb, hml, hown, hts⟩ (c_X2_firstOf l dC dI cI cJ s.heap.size (((a3 - a2) + (1 : Int32)) / (2 : Int32)) _ hc) (va_cwS 1 hts gX2_edge_X2_firstOf rfl rfl rfl (by decide +kernel) ⟨Nat.le_of_ble_eq_true rfl, Nat.le_of_ble_eq_true rfl⟩) ⟨fun a U g mk q => ⟨q.1, jPr.blind q.2⟩, fun U hU hW => ⟨rfl, jPr.mk hU hW hPc hK hDc⟩⟩ rfl rfl hl.1 rfl (lv_room (Nat.le_of_ble_eq_true rfl)) dX2_edge_217 ⟨Nat.le_of_ble_eq_true rfl, Nat.le_of_ble_eq_true rfl⟩) hS (fun q _ h => hFc q h) hFc (fun rr u t H1 locs ht hvm hw9 hB hz1 hk1 hS => ?_)
                    have hw8 : v18 = rr := hw9.symm
                    subst hw8
                    obtain ⟨hP1, hK1, hD1⟩ := hB
                    rw [ht] at hP1
                    obtain ⟨hP, hD⟩ := va_join (wr := ([(g0, .inr (2, [.int th, .ref gr, .int mn, .int at_, .ref gl, .int md_l, .ref gw, .int md, .ref gs, .int fr, .int no])), (gr, .inl (cI, 4096, .inl rw)), (gl, .inl (cJ, 100, .inr (.inl ml))), (gw, .inl (cI, 4200, .inl wd)), (gs, .inl (cJ, 92, .inr (.inl sm)))] : va_W)) (w1 := ([] : va_W)) hP hD [] [0, 1, 2, 3, 4] rfl rfl (by decide) (by decide) hk1 hFc hP1 hD1
                    clear hk1 hP1 hK1 hD1 hvm hz1 hPc hDc hFc
                    generalize H1 = H at hP hS ⊢
                    have hP : va_P (dC, dI) vwCl (wM cI cJ g0 gr gl gw gs th rw mn at_ ml md_l wd md sm fr no) H := hP
                    have hD : va_D A (wM cI cJ g0 gr gl gw gs th rw mn at_ ml md_l wd md sm fr no) := hD
                    refine lv_lconst (v := (1 : Int64)) hx hb dX2_edge_220 (by decide) ?_
                    refine lv_lsub hx hb dX2_edge_221 ?_
                    refine lv_iload_n hx hb dX2_edge_222 rfl (lv_at hl 5 rfl) ?_
                    refine lv_lshl hx hb dX2_edge_223 rfl ?_
                    refine lv_lconst (v := (1 : Int64)) hx hb dX2_edge_224 (by decide) ?_
                    refine lv_ladd hx hb dX2_edge_225 ?_
                    have hr9 : (((v18 - (1 : Int64)) <<< (a2.toInt64 &&& 63)) + (1 : Int64)) = r := Option.some.inj hj
                    subst hr9
                    exact W.lret (v := ((v18 - (1 : Int64)) <<< (a2.toInt64 &&& 63)) + (1 : Int64)) hx hb hr (fun t ht hW => ⟨⟨((v18 - (1 : Int64)) <<< (a2.toInt64 &&& 63)) + (1 : Int64), (), rfl, rfl, by rw [ht]; exact hP, va_K.moved hW.alike hK, hD⟩, hS.F ht⟩) hS.2.2 dX2_edge_226
                  · replace hj := ja_neg c17 hj
                    refine lv_lload hx hb dX2_edge_202 (lv_at hl 0 rfl) ?_
                    refine lv_lconst (v := (1 : Int64)) hx hb dX2_edge_204 (by decide) ?_
                    refine lv_lsub hx hb dX2_edge_205 ?_
                    refine lv_iload_n hx hb dX2_edge_206 rfl (lv_at hl 5 rfl) ?_
                    refine lv_lshl hx hb dX2_edge_207 rfl ?_
                    refine lv_lconst (v := (1 : Int64)) hx hb dX2_edge_208 (by decide) ?_
                    refine lv_iload_n hx hb dX2_edge_209 rfl (lv_at hl 5 rfl) ?_
                    refine lv_lshl hx hb dX2_edge_210 rfl ?_
                    refine lv_ladd hx hb dX2_edge_211 ?_
                    refine lv_goto (tgt := 226) hx hb dX2_edge_212 (by decide) ?_
                    have hr9 : (((((4611686018427387904 : Int64) >>> (a2.toInt64 &&& 63)) - (1 : Int64)) <<< (a2.toInt64 &&& 63)) + ((1 : Int64) <<< (a2.toInt64 &&& 63))) = r := Option.some.inj hj
                    subst hr9
                    exact W.lret (v := ((((4611686018427387904 : Int64) >>> (a2.toInt64 &&& 63)) - (1 : Int64)) <<< (a2.toInt64 &&& 63)) + ((1 : Int64) <<< (a2.toInt64 &&& 63))) hx hb hr (fun t ht hW => ⟨⟨((((4611686018427387904 : Int64) >>> (a2.toInt64 &&& 63)) - (1 : Int64)) <<< (a2.toInt64 &&& 63)) + ((1 : Int64) <<< (a2.toInt64 &&& 63)), (), rfl, rfl, by rw [ht]; exact hP, va_K.moved hW.alike hK, hD⟩, hS.F ht⟩) hS.2.2 dX2_edge_226
                · replace hj := ja_neg c16 hj
                  refine lv_iload hx hb dX2_edge_174 (lv_at hl 1 rfl) ?_
                  obtain ⟨v19, hc, hj⟩ := ja_bd hj
                  try dsimp only at hj
                  have hPc := hP.sub (ws' := ([] : va_W)) [] rfl
                  have hDc := hD.sub (ws' := ([] : va_W)) [] (by decide) rfl
                  have hFc := va_free (wc := ([] : va_W)) hD hS hA [] rfl
                  refine va_calll (va_runS (As := [.int (((a3 - a2) + (1 : Int32)) / (2 : Int32))]) (rest := []) ⟨hx, hb, hml, hown, hts⟩ (c_X2_lastOf l dC dI cI cJ s.heap.size (((a3 - a2) + (1 : Int32)) / (2 : Int32)) _ hc) (va_cwS 1 hts gX2_edge_X2_lastOf rfl rfl rfl (by decide +kernel) ⟨Nat.le_of_ble_eq_true rfl, Nat.le_of_ble_eq_true rfl⟩) ⟨fun a U g mk q => ⟨q.1, jPr.blind q.2⟩, fun U hU hW => ⟨rfl, jPr.mk hU hW hPc hK hDc⟩⟩ rfl rfl hl.1 rfl (lv_room (Nat.le_of_ble_eq_true rfl)) dX2_edge_176 ⟨Nat.le_of_ble_eq_true rfl, Nat.le_of_ble_eq_true rfl⟩) hS (fun q _ h => hFc q h) hFc (fun rr u t H1 locs ht hvm hw9 hB hz1 hk1 hS => ?_)
                  have hw8 : v19 = rr := hw9.symm
                  subst hw8
                  obtain ⟨hP1, hK1, hD1⟩ := hB
                  rw [ht] at hP1
                  obtain ⟨hP, hD⟩ := va_join (wr := ([(g0, .inr (2, [.int th, .ref gr, .int mn, .int at_, .ref gl, .int md_l, .ref gw, .int md, .ref gs, .int fr, .int no])), (gr, .inl (cI, 4096, .inl rw)), (gl, .inl (cJ, 100, .inr (.inl ml))), (gw, .inl (cI, 4200, .inl wd)), (gs, .inl (cJ, 92, .inr (.inl sm)))] : va_W)) (w1 := ([] : va_W)) hP hD [] [0, 1, 2, 3, 4] rfl rfl (by decide) (by decide) hk1 hFc hP1 hD1
                  clear hk1 hP1 hK1 hD1 hvm hz1 hPc hDc hFc
                  generalize H1 = H at hP hS ⊢
                  have hP : va_P (dC, dI) vwCl (wM cI cJ g0 gr gl gw gs th rw mn at_ ml md_l wd md sm fr no) H := hP
                  have hD : va_D A (wM cI cJ g0 gr gl gw gs th rw mn at_ ml md_l wd md sm fr no) := hD
                  refine lv_lload hx hb dX2_edge_179 (lv_at hl 0 rfl) ?_
                  refine W.lcmp hx hb dX2_edge_181 ?_
                  refine lv_if_le (tgt := 190) hx hb dX2_edge_182 (by decide) (fun c20 => ?_) (fun c20 => ?_)
                  · replace hj := ja_pos ((lg_cmp_le v19 ((4611686018427387904 : Int64) >>> (a2.toInt64 &&& 63))).mp c20) hj
                    refine lv_iload hx hb dX2_edge_190 (lv_at hl 1 rfl) ?_
                    obtain ⟨v21, hc, hj⟩ := ja_bd hj
                    try dsimp only at hj
                    have hPc := hP.sub (ws' := ([] : va_W)) [] rfl
                    have hDc := hD.sub (ws' := ([] : va_W)) [] (by decide) rfl
                    have hFc := va_free (wc := ([] : va_W)) hD hS hA [] rfl
                    refine va_calll (va_runS (As := [.int (((a3 - a2) + (1 : Int32)) / (2 : Int32))]) (rest := []) ⟨hx, hb, hml, hown, hts⟩ (c_X2_lastOf l dC dI cI cJ H.size (((a3 - a2) + (1 : Int32)) / (2 : Int32)) _ hc) (va_cwS 1 hts gX2_edge_X2_lastOf rfl rfl rfl (by decide +kernel) ⟨Nat.le_of_ble_eq_true rfl, Nat.le_of_ble_eq_true rfl⟩) ⟨fun a U g mk q => ⟨q.1, jPr.blind q.2⟩, fun U hU hW => ⟨rfl, jPr.mk hU hW hPc hK hDc⟩⟩ rfl rfl hl.1 rfl (lv_room (Nat.le_of_ble_eq_true rfl)) dX2_edge_192 ⟨Nat.le_of_ble_eq_true rfl, Nat.le_of_ble_eq_true rfl⟩) hS (fun q _ h => hFc q h) hFc (fun rr u t H1 locs ht hvm hw9 hB hz1 hk1 hS => ?_)
                    have hw8 : v21 = rr := hw9.symm
                    subst hw8
                    obtain ⟨hP1, hK1, hD1⟩ := hB
                    rw [ht] at hP1
                    obtain ⟨hP, hD⟩ := va_join (wr := ([(g0, .inr (2, [.int th, .ref gr, .int mn, .int at_, .ref gl, .int md_l, .ref gw, .int md, .ref gs, .int fr, .int no])), (gr, .inl (cI, 4096, .inl rw)), (gl, .inl (cJ, 100, .inr (.inl ml))), (gw, .inl (cI, 4200, .inl wd)), (gs, .inl (cJ, 92, .inr (.inl sm)))] : va_W)) (w1 := ([] : va_W)) hP hD [] [0, 1, 2, 3, 4] rfl rfl (by decide) (by decide) hk1 hFc hP1 hD1
                    clear hk1 hP1 hK1 hD1 hvm hz1 hPc hDc hFc
                    generalize H1 = H at hP hS ⊢
                    have hP : va_P (dC, dI) vwCl (wM cI cJ g0 gr gl gw gs th rw mn at_ ml md_l wd md sm fr no) H := hP
                    have hD : va_D A (wM cI cJ g0 gr gl gw gs th rw mn at_ ml md_l wd md sm fr no) := hD
                    refine lv_lstore (lv' := [(8, .long v21), (6, .long ((4611686018427387904 : Int64) >>> (a2.toInt64 &&& 63))), (5, .int (((a3 - a2) + (1 : Int32)) / (2 : Int32))), (0, .ref g0), (1, .int a1), (2, .int a2), (3, .int a3), (4, .int a4)]) hx hb dX2_edge_195 hl (by decide) rfl (fun ls hl => ?_)
                    refine lv_iload hx hb dX2_edge_197 (lv_at hl 7 rfl) ?_
                    refine lv_if_eq (tgt := 215) hx hb dX2_edge_199 (by decide) (fun c22 => ?_) (fun c22 => ?_)
                    · replace hj := ja_pos c22 hj
                      refine lv_iload hx hb dX2_edge_215 (lv_at hl 2 rfl) ?_
                      obtain ⟨v23, hc, hj⟩ := ja_bd hj
                      try dsimp only at hj
                      have hPc := hP.sub (ws' := ([] : va_W)) [] rfl
                      have hDc := hD.sub (ws' := ([] : va_W)) [] (by decide) rfl
                      have hFc := va_free (wc := ([] : va_W)) hD hS hA [] rfl
                      refine va_calll (va_runS (As := [.int (((a3 - a2) + (1 : Int32)) / (2 : Int32))]) (rest := []) ⟨hx, hb, hml, hown, hts⟩ (c_X2_firstOf l dC dI cI cJ H.size (((a3 - a2) + (1 : Int32)) / (2 : Int32)) _ hc) (va_cwS 1 hts gX2_edge_X2_firstOf rfl rfl rfl (by decide +kernel) ⟨Nat.le_of_ble_eq_true rfl, Nat.le_of_ble_eq_true rfl⟩) ⟨fun a U g mk q => ⟨q.1, jPr.blind q.2⟩, fun U hU hW => ⟨rfl, jPr.mk hU hW hPc hK hDc⟩⟩ rfl rfl hl.1 rfl (lv_room (Nat.le_of_ble_eq_true rfl)) dX2_edge_217 ⟨Nat.le_of_ble_eq_true rfl, Nat.le_of_ble_eq_true rfl⟩) hS (fun q _ h => hFc q h) hFc (fun rr u t H1 locs ht hvm hw9 hB hz1 hk1 hS => ?_)
                      have hw8 : v23 = rr := hw9.symm
                      subst hw8
                      obtain ⟨hP1, hK1, hD1⟩ := hB
                      rw [ht] at hP1
                      obtain ⟨hP, hD⟩ := va_join (wr := ([(g0, .inr (2, [.int th, .ref gr, .int mn, .int at_, .ref gl, .int md_l, .ref gw, .int md, .ref gs, .int fr, .int no])), (gr, .inl (cI, 4096, .inl rw)), (gl, .inl (cJ, 100, .inr (.inl ml))), (gw, .inl (cI, 4200, .inl wd)), (gs, .inl (cJ, 92, .inr (.inl sm)))] : va_W)) (w1 := ([] : va_W)) hP hD [] [0, 1, 2, 3, 4] rfl rfl (by decide) (by decide) hk1 hFc hP1 hD1
                      clear hk1 hP1 hK1 hD1 hvm hz1 hPc hDc hFc
                      generalize H1 = H at hP hS ⊢
                      have hP : va_P (dC, dI) vwCl (wM cI cJ g0 gr gl gw gs th rw mn at_ ml md_l wd md sm fr no) H := hP
                      have hD : va_D A (wM cI cJ g0 gr gl gw gs th rw mn at_ ml md_l wd md sm fr no) := hD
                      refine lv_lconst (v := (1 : Int64)) hx hb dX2_edge_220 (by decide) ?_
                      refine lv_lsub hx hb dX2_edge_221 ?_
                      refine lv_iload_n hx hb dX2_edge_222 rfl (lv_at hl 5 rfl) ?_
                      refine lv_lshl hx hb dX2_edge_223 rfl ?_
                      refine lv_lconst (v := (1 : Int64)) hx hb dX2_edge_224 (by decide) ?_
                      refine lv_ladd hx hb dX2_edge_225 ?_
                      have hr9 : (((v23 - (1 : Int64)) <<< (a2.toInt64 &&& 63)) + (1 : Int64)) = r := Option.some.inj hj
                      subst hr9
                      exact W.lret (v := ((v23 - (1 : Int64)) <<< (a2.toInt64 &&& 63)) + (1 : Int64)) hx hb hr (fun t ht hW => ⟨⟨((v23 - (1 : Int64)) <<< (a2.toInt64 &&& 63)) + (1 : Int64), (), rfl, rfl, by rw [ht]; exact hP, va_K.moved hW.alike hK, hD⟩, hS.F ht⟩) hS.2.2 dX2_edge_226
                    · replace hj := ja_neg c22 hj
                      refine lv_lload hx hb dX2_edge_202 (lv_at hl 0 rfl) ?_
                      refine lv_lconst (v := (1 : Int64)) hx hb dX2_edge_204 (by decide) ?_
                      refine lv_lsub hx hb dX2_edge_205 ?_
                      refine lv_iload_n hx hb dX2_edge_206 rfl (lv_at hl 5 rfl) ?_
                      refine lv_lshl hx hb dX2_edge_207 rfl ?_
                      refine lv_lconst (v := (1 : Int64)) hx hb dX2_edge_208 (by decide) ?_
                      refine lv_iload_n hx hb dX2_edge_209 rfl (lv_at hl 5 rfl) ?_
                      refine lv_lshl hx hb dX2_edge_210 rfl ?_
                      refine lv_ladd hx hb dX2_edge_211 ?_
                      refine lv_goto (tgt := 226) hx hb dX2_edge_212 (by decide) ?_
                      have hr9 : (((v21 - (1 : Int64)) <<< (a2.toInt64 &&& 63)) + ((1 : Int64) <<< (a2.toInt64 &&& 63))) = r := Option.some.inj hj
                      subst hr9
                      exact W.lret (v := ((v21 - (1 : Int64)) <<< (a2.toInt64 &&& 63)) + ((1 : Int64) <<< (a2.toInt64 &&& 63))) hx hb hr (fun t ht hW => ⟨⟨((v21 - (1 : Int64)) <<< (a2.toInt64 &&& 63)) + ((1 : Int64) <<< (a2.toInt64 &&& 63)), (), rfl, rfl, by rw [ht]; exact hP, va_K.moved hW.alike hK, hD⟩, hS.F ht⟩) hS.2.2 dX2_edge_226
                  · replace hj := ja_neg (fun h9 => c20 ((lg_cmp_le v19 ((4611686018427387904 : Int64) >>> (a2.toInt64 &&& 63))).mpr h9)) hj
                    refine lv_lload hx hb dX2_edge_185 (lv_at hl 0 rfl) ?_
                    refine lv_goto (tgt := 195) hx hb dX2_edge_187 (by decide) ?_
                    refine lv_lstore (lv' := [(8, .long ((4611686018427387904 : Int64) >>> (a2.toInt64 &&& 63))), (6, .long ((4611686018427387904 : Int64) >>> (a2.toInt64 &&& 63))), (5, .int (((a3 - a2) + (1 : Int32)) / (2 : Int32))), (0, .ref g0), (1, .int a1), (2, .int a2), (3, .int a3), (4, .int a4)]) hx hb dX2_edge_195 hl (by decide) rfl (fun ls hl => ?_)
                    refine lv_iload hx hb dX2_edge_197 (lv_at hl 7 rfl) ?_
                    refine lv_if_eq (tgt := 215) hx hb dX2_edge_199 (by decide) (fun c24 => ?_) (fun c24 => ?_)
                    · replace hj := ja_pos c24 hj
                      refine lv_iload hx hb dX2_edge_215 (lv_at hl 2 rfl) ?_
                      obtain ⟨v25, hc, hj⟩ := ja_bd hj
                      try dsimp only at hj
                      have hPc := hP.sub (ws' := ([] : va_W)) [] rfl
                      have hDc := hD.sub (ws' := ([] : va_W)) [] (by decide) rfl
                      have hFc := va_free (wc := ([] : va_W)) hD hS hA [] rfl
                      refine va_calll (va_runS (As := [.int (((a3 - a2) + (1 : Int32)) / (2 : Int32))]) (rest := []) ⟨hx, hb, hml, hown, hts⟩ (c_X2_firstOf l dC dI cI cJ H.size (((a3 - a2) + (1 : Int32)) / (2 : Int32)) _ hc) (va_cwS 1 hts gX2_edge_X2_firstOf rfl rfl rfl (by decide +kernel) ⟨Nat.le_of_ble_eq_true rfl, Nat.le_of_ble_eq_true rfl⟩) ⟨fun a U g mk q => ⟨q.1, jPr.blind q.2⟩, fun U hU hW => ⟨rfl, jPr.mk hU hW hPc hK hDc⟩⟩ rfl rfl hl.1 rfl (lv_room (Nat.le_of_ble_eq_true rfl)) dX2_edge_217 ⟨Nat.le_of_ble_eq_true rfl, Nat.le_of_ble_eq_true rfl⟩) hS (fun q _ h => hFc q h) hFc (fun rr u t H1 locs ht hvm hw9 hB hz1 hk1 hS => ?_)
                      have hw8 : v25 = rr := hw9.symm
                      subst hw8
                      obtain ⟨hP1, hK1, hD1⟩ := hB
                      rw [ht] at hP1
                      obtain ⟨hP, hD⟩ := va_join (wr := ([(g0, .inr (2, [.int th, .ref gr, .int mn, .int at_, .ref gl, .int md_l, .ref gw, .int md, .ref gs, .int fr, .int no])), (gr, .inl (cI, 4096, .inl rw)), (gl, .inl (cJ, 100, .inr (.inl ml))), (gw, .inl (cI, 4200, .inl wd)), (gs, .inl (cJ, 92, .inr (.inl sm)))] : va_W)) (w1 := ([] : va_W)) hP hD [] [0, 1, 2, 3, 4] rfl rfl (by decide) (by decide) hk1 hFc hP1 hD1
                      clear hk1 hP1 hK1 hD1 hvm hz1 hPc hDc hFc
                      generalize H1 = H at hP hS ⊢
                      have hP : va_P (dC, dI) vwCl (wM cI cJ g0 gr gl gw gs th rw mn at_ ml md_l wd md sm fr no) H := hP
                      have hD : va_D A (wM cI cJ g0 gr gl gw gs th rw mn at_ ml md_l wd md sm fr no) := hD
                      refine lv_lconst (v := (1 : Int64)) hx hb dX2_edge_220 (by decide) ?_
                      refine lv_lsub hx hb dX2_edge_221 ?_
                      refine lv_iload_n hx hb dX2_edge_222 rfl (lv_at hl 5 rfl) ?_
                      refine lv_lshl hx hb dX2_edge_223 rfl ?_
                      refine lv_lconst (v := (1 : Int64)) hx hb dX2_edge_224 (by decide) ?_
                      refine lv_ladd hx hb dX2_edge_225 ?_
                      have hr9 : (((v25 - (1 : Int64)) <<< (a2.toInt64 &&& 63)) + (1 : Int64)) = r := Option.some.inj hj
                      subst hr9
                      exact W.lret (v := ((v25 - (1 : Int64)) <<< (a2.toInt64 &&& 63)) + (1 : Int64)) hx hb hr (fun t ht hW => ⟨⟨((v25 - (1 : Int64)) <<< (a2.toInt64 &&& 63)) + (1 : Int64), (), rfl, rfl, by rw [ht]; exact hP, va_K.moved hW.alike hK, hD⟩, hS.F ht⟩) hS.2.2 dX2_edge_226
                    · replace hj := ja_neg c24 hj
                      refine lv_lload hx hb dX2_edge_202 (lv_at hl 0 rfl) ?_
                      refine lv_lconst (v := (1 : Int64)) hx hb dX2_edge_204 (by decide) ?_
                      refine lv_lsub hx hb dX2_edge_205 ?_
                      refine lv_iload_n hx hb dX2_edge_206 rfl (lv_at hl 5 rfl) ?_
                      refine lv_lshl hx hb dX2_edge_207 rfl ?_
                      refine lv_lconst (v := (1 : Int64)) hx hb dX2_edge_208 (by decide) ?_
                      refine lv_iload_n hx hb dX2_edge_209 rfl (lv_at hl 5 rfl) ?_
                      refine lv_lshl hx hb dX2_edge_210 rfl ?_
                      refine lv_ladd hx hb dX2_edge_211 ?_
                      refine lv_goto (tgt := 226) hx hb dX2_edge_212 (by decide) ?_
                      have hr9 : (((((4611686018427387904 : Int64) >>> (a2.toInt64 &&& 63)) - (1 : Int64)) <<< (a2.toInt64 &&& 63)) + ((1 : Int64) <<< (a2.toInt64 &&& 63))) = r := Option.some.inj hj
                      subst hr9
                      exact W.lret (v := ((((4611686018427387904 : Int64) >>> (a2.toInt64 &&& 63)) - (1 : Int64)) <<< (a2.toInt64 &&& 63)) + ((1 : Int64) <<< (a2.toInt64 &&& 63))) hx hb hr (fun t ht hW => ⟨⟨((((4611686018427387904 : Int64) >>> (a2.toInt64 &&& 63)) - (1 : Int64)) <<< (a2.toInt64 &&& 63)) + ((1 : Int64) <<< (a2.toInt64 &&& 63)), (), rfl, rfl, by rw [ht]; exact hP, va_K.moved hW.alike hK, hD⟩, hS.F ht⟩) hS.2.2 dX2_edge_226
              · replace hj := ja_neg c15 hj
                refine lv_lconst (v := (0 : Int64)) hx hb dX2_edge_158 (by decide) ?_
                have hr9 : (0 : Int64) = r := Option.some.inj hj
                subst hr9
                exact W.lret (v := (0 : Int64)) hx hb hr (fun t ht hW => ⟨⟨(0 : Int64), (), rfl, rfl, by rw [ht]; exact hP, va_K.moved hW.alike hK, hD⟩, hS.F ht⟩) hS.2.2 dX2_edge_159
      · replace hj := ja_pos c3 hj
        refine lv_iload_n hx hb dX2_edge_53 rfl (lv_at hl 3 rfl) ?_
        refine lv_iconst (v := (1 : Int32)) hx hb dX2_edge_54 (by decide) ?_
        refine lv_isub hx hb dX2_edge_55 ?_
        refine lv_istore (lv' := [(5, .int (a3 - (1 : Int32))), (0, .ref g0), (1, .int a1), (2, .int a2), (3, .int a3), (4, .int a4)]) hx hb dX2_edge_56 hl (by decide) rfl (fun ls hl => ?_)
        refine lv_iload hx hb dX2_edge_58 (lv_at hl 0 rfl) ?_
        refine lv_iconst (v := (1 : Int32)) hx hb dX2_edge_60 (by decide) ?_
        refine lv_icmp_lt (tgt := 71) hx hb dX2_edge_61 (by decide) (fun c26 => ?_) (fun c26 => ?_)
        · replace hj := ja_pos c26 hj
          refine lv_lconst (v := (0 : Int64)) hx hb dX2_edge_71 (by decide) ?_
          have hr9 : (0 : Int64) = r := Option.some.inj hj
          subst hr9
          exact W.lret (v := (0 : Int64)) hx hb hr (fun t ht hW => ⟨⟨(0 : Int64), (), rfl, rfl, by rw [ht]; exact hP, va_K.moved hW.alike hK, hD⟩, hS.F ht⟩) hS.2.2 dX2_edge_72
        · replace hj := ja_neg c26 hj
          refine lv_iload hx hb dX2_edge_64 (lv_at hl 0 rfl) ?_
          refine lv_bipush (v := (89 : Int32)) hx hb dX2_edge_66 (by decide) ?_
          refine lv_icmp_le (tgt := 73) hx hb dX2_edge_68 (by decide) (fun c27 => ?_) (fun c27 => ?_)
          · replace hj := ja_pos c27 hj
            refine lv_aload_n hx hb dX2_edge_73 rfl (lv_at hl 1 rfl) ?_
            refine va_get (D := (dC, dI)) (ci := 2) (v := .ref gs) (C := RX2) (T := TX2) (N := 11) hx hb hts inn_X2_edge_X2 hown hK hP 0 rfl rfl 8 (by decide) (hts (.fieldLink RX2 20 "SelfEndingCodesModel" "sums" "[J") (by decide +kernel)) (fun _ h9 => h9) rfl dX2_edge_74 ?_
            refine lv_iload hx hb dX2_edge_77 (lv_at hl 0 rfl) ?_
            refine lv_iconst (v := (1 : Int32)) hx hb dX2_edge_79 (by decide) ?_
            refine lv_iadd hx hb dX2_edge_80 ?_
            obtain ⟨hin, hj⟩ := ja_ix hj
            refine va_lald hx hb hK hP 4 1 rfl rfl hin dX2_edge_81 ?_
            refine lv_lconst (v := (1 : Int64)) hx hb dX2_edge_82 (by decide) ?_
            refine lv_lsub hx hb dX2_edge_83 ?_
            refine lv_lstore (lv' := [(6, .long ((sm ((a3 - (1 : Int32)) + (1 : Int32)).toNatClampNeg) - (1 : Int64))), (5, .int (a3 - (1 : Int32))), (0, .ref g0), (1, .int a1), (2, .int a2), (3, .int a3), (4, .int a4)]) hx hb dX2_edge_84 hl (by decide) rfl (fun ls hl => ?_)
            refine lv_iload hx hb dX2_edge_86 (lv_at hl 6 rfl) ?_
            refine lv_if_ne (tgt := 101) hx hb dX2_edge_88 (by decide) (fun c28 => ?_) (fun c28 => ?_)
            · replace hj := ja_neg c28 hj
              refine lv_lload hx hb dX2_edge_101 (lv_at hl 0 rfl) ?_
              refine lv_ldc2 (v := (4611686018427387904 : Int64)) hx hb hown (hts (.constantLong RX2 30 (4611686018427387904)) (by decide +kernel)) dX2_edge_103 ?_
              refine W.lcmp hx hb dX2_edge_106 ?_
              refine lv_if_le (tgt := 116) hx hb dX2_edge_107 (by decide) (fun c29 => ?_) (fun c29 => ?_)
              · replace hj := ja_pos ((lg_cmp_le ((sm ((a3 - (1 : Int32)) + (1 : Int32)).toNatClampNeg) - (1 : Int64)) (4611686018427387904 : Int64)).mp c29) hj
                refine lv_lload hx hb dX2_edge_116 (lv_at hl 0 rfl) ?_
                have hr9 : ((sm ((a3 - (1 : Int32)) + (1 : Int32)).toNatClampNeg) - (1 : Int64)) = r := Option.some.inj hj
                subst hr9
                exact W.lret (v := (sm ((a3 - (1 : Int32)) + (1 : Int32)).toNatClampNeg) - (1 : Int64)) hx hb hr (fun t ht hW => ⟨⟨(sm ((a3 - (1 : Int32)) + (1 : Int32)).toNatClampNeg) - (1 : Int64), (), rfl, rfl, by rw [ht]; exact hP, va_K.moved hW.alike hK, hD⟩, hS.F ht⟩) hS.2.2 dX2_edge_118
              · replace hj := ja_neg (fun h9 => c29 ((lg_cmp_le ((sm ((a3 - (1 : Int32)) + (1 : Int32)).toNatClampNeg) - (1 : Int64)) (4611686018427387904 : Int64)).mpr h9)) hj
                refine lv_ldc2 (v := (4611686018427387904 : Int64)) hx hb hown (hts (.constantLong RX2 30 (4611686018427387904)) (by decide +kernel)) dX2_edge_110 ?_
                refine lv_goto (tgt := 118) hx hb dX2_edge_113 (by decide) ?_
                have hr9 : (4611686018427387904 : Int64) = r := Option.some.inj hj
                subst hr9
                exact W.lret (v := (4611686018427387904 : Int64)) hx hb hr (fun t ht hW => ⟨⟨(4611686018427387904 : Int64), (), rfl, rfl, by rw [ht]; exact hP, va_K.moved hW.alike hK, hD⟩, hS.F ht⟩) hS.2.2 dX2_edge_118
            · replace hj := ja_pos c28 hj
              refine lv_aload_n hx hb dX2_edge_91 rfl (lv_at hl 2 rfl) ?_
              refine va_get (D := (dC, dI)) (ci := 2) (v := .ref gs) (C := RX2) (T := TX2) (N := 11) hx hb hts inn_X2_edge_X2 hown hK hP 0 rfl rfl 8 (by decide) (hts (.fieldLink RX2 20 "SelfEndingCodesModel" "sums" "[J") (by decide +kernel)) (fun _ h9 => h9) rfl dX2_edge_92 ?_
              refine lv_iload hx hb dX2_edge_95 (lv_at hl 1 rfl) ?_
              obtain ⟨hin, hj⟩ := ja_ix hj
              refine va_lald hx hb hK hP 4 1 rfl rfl hin dX2_edge_97 ?_
              refine lv_goto (tgt := 118) hx hb dX2_edge_98 (by decide) ?_
              have hr9 : (sm (a3 - (1 : Int32)).toNatClampNeg) = r := Option.some.inj hj
              subst hr9
              exact W.lret (v := sm (a3 - (1 : Int32)).toNatClampNeg) hx hb hr (fun t ht hW => ⟨⟨sm (a3 - (1 : Int32)).toNatClampNeg, (), rfl, rfl, by rw [ht]; exact hP, va_K.moved hW.alike hK, hD⟩, hS.F ht⟩) hS.2.2 dX2_edge_118
          · replace hj := ja_neg c27 hj
            refine lv_lconst (v := (0 : Int64)) hx hb dX2_edge_71 (by decide) ?_
            have hr9 : (0 : Int64) = r := Option.some.inj hj
            subst hr9
            exact W.lret (v := (0 : Int64)) hx hb hr (fun t ht hW => ⟨⟨(0 : Int64), (), rfl, rfl, by rw [ht]; exact hP, va_K.moved hW.alike hK, hD⟩, hS.F ht⟩) hS.2.2 dX2_edge_72
    · replace hj := ja_neg c2 hj
      refine lv_aload_n hx hb dX2_edge_12 rfl (lv_at hl 0 rfl) ?_
      refine lv_iload_n hx hb dX2_edge_13 rfl (lv_at hl 1 rfl) ?_
      refine lv_iload_n hx hb dX2_edge_14 rfl (lv_at hl 3 rfl) ?_
      obtain ⟨v30, hc, hj⟩ := ja_bd hj
      try dsimp only at hj
      have hPc := hP.sub (ws' := (wM cI cJ g0 gr gl gw gs th rw mn at_ ml md_l wd md sm fr no)) [0, 1, 2, 3, 4] rfl
      have hDc := hD.sub (ws' := (wM cI cJ g0 gr gl gw gs th rw mn at_ ml md_l wd md sm fr no)) [0, 1, 2, 3, 4] (by decide) rfl
      have hFc := va_free (wc := (wM cI cJ g0 gr gl gw gs th rw mn at_ ml md_l wd md sm fr no)) hD hS hA [0, 1, 2, 3, 4] rfl
      refine va_calli (va_runV (As := [.int a1, .int a3]) (rest := []) ⟨hx, hb, hml, hown, hts⟩ (c_X2_bitsFor l dC dI cI cJ g0 gr gl gw gs s.heap.size th rw mn at_ ml md_l wd md sm fr no a1 a3 _ hc) (cwV 2 hts gX2_edge_X2_bitsFor rfl rfl rfl (by decide +kernel) ⟨Nat.le_of_ble_eq_true rfl, Nat.le_of_ble_eq_true rfl⟩) ⟨fun a U g mk q => ⟨q.1, jPr.blind q.2⟩, va_recv hK hPc (ci := 2) (q0 := 0) rfl rfl, fun U hU hW => ⟨rfl, jPr.mk hU hW hPc hK hDc⟩⟩ rfl rfl hl.1 rfl (lv_room (Nat.le_of_ble_eq_true rfl)) dX2_edge_15 ⟨Nat.le_of_ble_eq_true rfl, Nat.le_of_ble_eq_true rfl⟩) hS (fun q _ h => hFc q h) hFc (fun rr u t H1 locs ht hvm hw9 hB hz1 hk1 hS => ?_)
      have hw8 : v30 = rr := hw9.symm
      subst hw8
      obtain ⟨hP1, hK1, hD1⟩ := hB
      rw [ht] at hP1
      obtain ⟨hP, hD⟩ := va_join (wr := ([] : va_W)) (w1 := (wM cI cJ g0 gr gl gw gs th rw mn at_ ml md_l wd md sm fr no)) hP hD [0, 1, 2, 3, 4] [] rfl rfl (by decide) (by decide) hk1 hFc hP1 hD1
      clear hk1 hP1 hK1 hD1 hvm hz1 hPc hDc hFc
      generalize H1 = H at hP hS ⊢
      have hP : va_P (dC, dI) vwCl (wM cI cJ g0 gr gl gw gs th rw mn at_ ml md_l wd md sm fr no) H := hP
      have hD : va_D A (wM cI cJ g0 gr gl gw gs th rw mn at_ ml md_l wd md sm fr no) := hD
      refine lv_istore (lv' := [(5, .int v30), (0, .ref g0), (1, .int a1), (2, .int a2), (3, .int a3), (4, .int a4)]) hx hb dX2_edge_18 hl (by decide) rfl (fun ls hl => ?_)
      refine lv_iload hx hb dX2_edge_20 (lv_at hl 0 rfl) ?_
      refine lv_if_ne (tgt := 29) hx hb dX2_edge_22 (by decide) (fun c31 => ?_) (fun c31 => ?_)
      · replace hj := ja_neg c31 hj
        refine lv_iload hx hb dX2_edge_29 (lv_at hl 5 rfl) ?_
        refine lv_if_eq (tgt := 42) hx hb dX2_edge_31 (by decide) (fun c32 => ?_) (fun c32 => ?_)
        · replace hj := ja_pos c32 hj
          refine lv_iload hx hb dX2_edge_42 (lv_at hl 0 rfl) ?_
          obtain ⟨v33, hc, hj⟩ := ja_bd hj
          try dsimp only at hj
          have hPc := hP.sub (ws' := ([] : va_W)) [] rfl
          have hDc := hD.sub (ws' := ([] : va_W)) [] (by decide) rfl
          have hFc := va_free (wc := ([] : va_W)) hD hS hA [] rfl
          refine va_calll (va_runS (As := [.int v30]) (rest := []) ⟨hx, hb, hml, hown, hts⟩ (c_X2_firstOf l dC dI cI cJ H.size v30 _ hc) (va_cwS 1 hts gX2_edge_X2_firstOf rfl rfl rfl (by decide +kernel) ⟨Nat.le_of_ble_eq_true rfl, Nat.le_of_ble_eq_true rfl⟩) ⟨fun a U g mk q => ⟨q.1, jPr.blind q.2⟩, fun U hU hW => ⟨rfl, jPr.mk hU hW hPc hK hDc⟩⟩ rfl rfl hl.1 rfl (lv_room (Nat.le_of_ble_eq_true rfl)) dX2_edge_44 ⟨Nat.le_of_ble_eq_true rfl, Nat.le_of_ble_eq_true rfl⟩) hS (fun q _ h => hFc q h) hFc (fun rr u t H1 locs ht hvm hw9 hB hz1 hk1 hS => ?_)
          have hw8 : v33 = rr := hw9.symm
          subst hw8
          obtain ⟨hP1, hK1, hD1⟩ := hB
          rw [ht] at hP1
          obtain ⟨hP, hD⟩ := va_join (wr := ([(g0, .inr (2, [.int th, .ref gr, .int mn, .int at_, .ref gl, .int md_l, .ref gw, .int md, .ref gs, .int fr, .int no])), (gr, .inl (cI, 4096, .inl rw)), (gl, .inl (cJ, 100, .inr (.inl ml))), (gw, .inl (cI, 4200, .inl wd)), (gs, .inl (cJ, 92, .inr (.inl sm)))] : va_W)) (w1 := ([] : va_W)) hP hD [] [0, 1, 2, 3, 4] rfl rfl (by decide) (by decide) hk1 hFc hP1 hD1
          clear hk1 hP1 hK1 hD1 hvm hz1 hPc hDc hFc
          generalize H1 = H at hP hS ⊢
          have hP : va_P (dC, dI) vwCl (wM cI cJ g0 gr gl gw gs th rw mn at_ ml md_l wd md sm fr no) H := hP
          have hD : va_D A (wM cI cJ g0 gr gl gw gs th rw mn at_ ml md_l wd md sm fr no) := hD
          have hr9 : v33 = r := Option.some.inj hj
          subst hr9
          exact W.lret (v := v33) hx hb hr (fun t ht hW => ⟨⟨v33, (), rfl, rfl, by rw [ht]; exact hP, va_K.moved hW.alike hK, hD⟩, hS.F ht⟩) hS.2.2 dX2_edge_47
        · replace hj := ja_neg c32 hj
          refine lv_iload hx hb dX2_edge_34 (lv_at hl 0 rfl) ?_
          obtain ⟨v34, hc, hj⟩ := ja_bd hj
          try dsimp only at hj
          have hPc := hP.sub (ws' := ([] : va_W)) [] rfl
          have hDc := hD.sub (ws' := ([] : va_W)) [] (by decide) rfl
          have hFc := va_free (wc := ([] : va_W)) hD hS hA [] rfl
          refine va_calll (va_runS (As := [.int v30]) (rest := []) ⟨hx, hb, hml, hown, hts⟩ (c_X2_lastOf l dC dI cI cJ H.size v30 _ hc) (va_cwS 1 hts gX2_edge_X2_lastOf rfl rfl rfl (by decide +kernel) ⟨Nat.le_of_ble_eq_true rfl, Nat.le_of_ble_eq_true rfl⟩) ⟨fun a U g mk q => ⟨q.1, jPr.blind q.2⟩, fun U hU hW => ⟨rfl, jPr.mk hU hW hPc hK hDc⟩⟩ rfl rfl hl.1 rfl (lv_room (Nat.le_of_ble_eq_true rfl)) dX2_edge_36 ⟨Nat.le_of_ble_eq_true rfl, Nat.le_of_ble_eq_true rfl⟩) hS (fun q _ h => hFc q h) hFc (fun rr u t H1 locs ht hvm hw9 hB hz1 hk1 hS => ?_)
          have hw8 : v34 = rr := hw9.symm
          subst hw8
          obtain ⟨hP1, hK1, hD1⟩ := hB
          rw [ht] at hP1
          obtain ⟨hP, hD⟩ := va_join (wr := ([(g0, .inr (2, [.int th, .ref gr, .int mn, .int at_, .ref gl, .int md_l, .ref gw, .int md, .ref gs, .int fr, .int no])), (gr, .inl (cI, 4096, .inl rw)), (gl, .inl (cJ, 100, .inr (.inl ml))), (gw, .inl (cI, 4200, .inl wd)), (gs, .inl (cJ, 92, .inr (.inl sm)))] : va_W)) (w1 := ([] : va_W)) hP hD [] [0, 1, 2, 3, 4] rfl rfl (by decide) (by decide) hk1 hFc hP1 hD1
          clear hk1 hP1 hK1 hD1 hvm hz1 hPc hDc hFc
          generalize H1 = H at hP hS ⊢
          have hP : va_P (dC, dI) vwCl (wM cI cJ g0 gr gl gw gs th rw mn at_ ml md_l wd md sm fr no) H := hP
          have hD : va_D A (wM cI cJ g0 gr gl gw gs th rw mn at_ ml md_l wd md sm fr no) := hD
          refine lv_goto (tgt := 47) hx hb dX2_edge_39 (by decide) ?_
          have hr9 : v34 = r := Option.some.inj hj
          subst hr9
          exact W.lret (v := v34) hx hb hr (fun t ht hW => ⟨⟨v34, (), rfl, rfl, by rw [ht]; exact hP, va_K.moved hW.alike hK, hD⟩, hS.F ht⟩) hS.2.2 dX2_edge_47
      · replace hj := ja_pos c31 hj
        refine lv_lconst (v := (0 : Int64)) hx hb dX2_edge_25 (by decide) ?_
        refine lv_goto (tgt := 47) hx hb dX2_edge_26 (by decide) ?_
        have hr9 : (0 : Int64) = r := Option.some.inj hj
        subst hr9
        exact W.lret (v := (0 : Int64)) hx hb hr (fun t ht hW => ⟨⟨(0 : Int64), (), rfl, rfl, by rw [ht]; exact hP, va_K.moved hW.alike hK, hD⟩, hS.F ht⟩) hS.2.2 dX2_edge_47
  · replace hj := ja_pos c1 hj
    refine lv_iload_n hx hb dX2_edge_4 rfl (lv_at hl 3 rfl) ?_
    refine lv_i2l hx hb dX2_edge_5 rfl ?_
    have hr9 : a3.toInt64 = r := Option.some.inj hj
    subst hr9
    exact W.lret (v := a3.toInt64) hx hb hr (fun t ht hW => ⟨⟨a3.toInt64, (), rfl, rfl, by rw [ht]; exact hP, va_K.moved hW.alike hK, hD⟩, hS.F ht⟩) hS.2.2 dX2_edge_6

def j_X2_countOf (sm : Nat → Int64) (a1 : Int32) (a2 : Int32) (a3 : Int32) : Option (Int64) :=
  if a1 = (5 : Int32) then ((j_X2_powerFor a2).bind fun v2 => (if v2 = (0 : Int32) then (if a3 < v2 then (if a3 < (v2 + (1 : Int32)) then (some ((0 : Int64) + (0 : Int64))) else (some ((0 : Int64) + (a2.toInt64 - (0 : Int64))))) else (if a3 < (v2 + (1 : Int32)) then (some ((0 : Int64) + (0 : Int64))) else (some ((0 : Int64) + (a2.toInt64 - (0 : Int64)))))) else (if a3 < v2 then (if a3 < (v2 + (1 : Int32)) then (some ((0 : Int64) + (0 : Int64))) else (some ((0 : Int64) + (a2.toInt64 - (((1 : Int64) <<< (v2.toInt64 &&& 63)) - a2.toInt64))))) else (if a3 < (v2 + (1 : Int32)) then (some ((((1 : Int64) <<< (v2.toInt64 &&& 63)) - a2.toInt64) + (0 : Int64))) else (some ((((1 : Int64) <<< (v2.toInt64 &&& 63)) - a2.toInt64) + (a2.toInt64 - (((1 : Int64) <<< (v2.toInt64 &&& 63)) - a2.toInt64)))))))) else ((j_X2_edge sm a1 a2 a3 (0 : Int32)).bind fun v10 => (if v10 = (0 : Int64) then (some (0 : Int64)) else ((j_X2_edge sm a1 a2 a3 (1 : Int32)).bind fun v12 => (some ((v12 - v10) + (1 : Int64))))))
set_option maxHeartbeats 4000000 in
set_option maxRecDepth 100000 in
theorem c_X2_countOf (l : Launch) (dC : Nat → ClassId) (dI : Nat → Nat → Nat) (cI cJ : ClassId) (g0 : Nat) (gr : Nat) (gl : Nat) (gw : Nat) (gs : Nat) (sz : Nat) (th : Int32) (rw : Nat → Int32) (mn : Int32) (at_ : Int32) (ml : Nat → Int64) (md_l : Int32) (wd : Nat → Int32) (md : Int32) (sm : Nat → Int64) (fr : Int32) (no : Int32) (a1 : Int32) (a2 : Int32) (a3 : Int32) (r : Int64) (hj : j_X2_countOf sm a1 a2 a3 = some r) : Met l yX2_countOf wsX2_countOf ({ frames := 5, cells := 0, slots := 0, locals := 132 } : Room) (va_Pc [.ref g0, .int a1, .int a2, .int a3] (fun U => jPr dC dI cI cJ (wM cI cJ g0 gr gl gw gs th rw mn at_ ml md_l wd md sm fr no) sz U)) (va_Ql (fun (v : Int64) (_ : Unit) => v = r) (fun (_ : Unit) t => jPo dC dI cI cJ (wM cI cJ g0 gr gl gw gs th rw mn at_ ml md_l wd md sm fr no) (va_A (wM cI cJ g0 gr gl gw gs th rw mn at_ ml md_l wd md sm fr no) sz) t) (va_A (wM cI cJ g0 gr gl gw gs th rw mn at_ ml md_l wd md sm fr no) sz)) 0 0 (va_A (wM cI cJ g0 gr gl gw gs th rw mn at_ ml md_l wd md sm fr no) sz) := by
  refine Met.ofW (cc := cX2_countOf) (maxL := 7) (ret := (some .long)) (by decide) rfl ?_
  intro p e s m args below meth c s₁ B hml hv
  obtain ⟨rfl, ⟨hsz, hP, hK, hD0⟩⟩ := hv
  have hx := B.exec
  have hb := B.bytes
  have hr := B.returns
  have hts := atoms_spec (ws := wsX2_countOf) B.pre
  have hown : s.vm.findClass RX2 = some m.cls := findClass_of_methodNamed B.named
  have hlocks := B.notSynchronized
  have C0 := jCx.of hx hb hr hml hown hts hlocks
  subst hsz
  have hD := hD0.self (sz := s.heap.size)
  generalize hAe : va_A (wM cI cJ g0 gr gl gw gs th rw mn at_ ml md_l wd md sm fr no) s.heap.size = A at hD ⊢
  have hA : ∀ q : Nat, s.heap.size ≤ q → A q := fun q h => by rw [← hAe]; exact Or.inr h
  have hS : va_S A s.heap s.heap [] := va_S.rf
  have hP : va_P (dC, dI) vwCl (wM cI cJ g0 gr gl gw gs th rw mn at_ ml md_l wd md sm fr no) s.heap := hP
  have hl := lv_entry ([.ref g0, .int a1, .int a2, .int a3]) (n := 7) (Nat.le_of_ble_eq_true rfl)
  rw [lg_entry_eq]
  generalize (lg_sl ([.ref g0, .int a1, .int a2, .int a3]) ++ List.replicate (7 - (lg_sl ([.ref g0, .int a1, .int a2, .int a3])).length) Slot.unset).toArray = ls at hl ⊢
  have hl : lv_has ls 7 [(0, .ref g0), (1, .int a1), (2, .int a2), (3, .int a3)] := hl
  clear hD0 hAe
  unfold j_X2_countOf at hj
  refine lv_iload_n hx hb dX2_countOf_0 rfl (lv_at hl 1 rfl) ?_
  refine lv_iconst (v := (5 : Int32)) hx hb dX2_countOf_1 (by decide) ?_
  refine lv_icmp_eq (tgt := 40) hx hb dX2_countOf_2 (by decide) (fun c1 => ?_) (fun c1 => ?_)
  · replace hj := ja_pos c1 hj
    refine lv_iload_n hx hb dX2_countOf_40 rfl (lv_at hl 2 rfl) ?_
    obtain ⟨v2, hc, hj⟩ := ja_bd hj
    try dsimp only at hj
    have hPc := hP.sub (ws' := ([] : va_W)) [] rfl
    have hDc := hD.sub (ws' := ([] : va_W)) [] (by decide) rfl
    have hFc := va_free (wc := ([] : va_W)) hD hS hA [] rfl
    refine va_calli (va_runS (As := [.int a2]) (rest := []) ⟨hx, hb, hml, hown, hts⟩ (c_X2_powerFor l dC dI cI cJ s.heap.size a2 _ hc) (va_cwS 1 hts gX2_countOf_X2_powerFor rfl rfl rfl (by decide +kernel) ⟨Nat.le_of_ble_eq_true rfl, Nat.le_of_ble_eq_true rfl⟩) ⟨fun a U g mk q => ⟨q.1, jPr.blind q.2⟩, fun U hU hW => ⟨rfl, jPr.mk hU hW hPc hK hDc⟩⟩ rfl rfl hl.1 rfl (lv_room (Nat.le_of_ble_eq_true rfl)) dX2_countOf_41 ⟨Nat.le_of_ble_eq_true rfl, Nat.le_of_ble_eq_true rfl⟩) hS (fun q _ h => hFc q h) hFc (fun rr u t H1 locs ht hvm hw9 hB hz1 hk1 hS => ?_)
    have hw8 : v2 = rr := hw9.symm
    subst hw8
    obtain ⟨hP1, hK1, hD1⟩ := hB
    rw [ht] at hP1
    obtain ⟨hP, hD⟩ := va_join (wr := ([(g0, .inr (2, [.int th, .ref gr, .int mn, .int at_, .ref gl, .int md_l, .ref gw, .int md, .ref gs, .int fr, .int no])), (gr, .inl (cI, 4096, .inl rw)), (gl, .inl (cJ, 100, .inr (.inl ml))), (gw, .inl (cI, 4200, .inl wd)), (gs, .inl (cJ, 92, .inr (.inl sm)))] : va_W)) (w1 := ([] : va_W)) hP hD [] [0, 1, 2, 3, 4] rfl rfl (by decide) (by decide) hk1 hFc hP1 hD1
    clear hk1 hP1 hK1 hD1 hvm hz1 hPc hDc hFc
    generalize H1 = H at hP hS ⊢
    have hP : va_P (dC, dI) vwCl (wM cI cJ g0 gr gl gw gs th rw mn at_ ml md_l wd md sm fr no) H := hP
    have hD : va_D A (wM cI cJ g0 gr gl gw gs th rw mn at_ ml md_l wd md sm fr no) := hD
    refine lv_istore (lv' := [(4, .int v2), (0, .ref g0), (1, .int a1), (2, .int a2), (3, .int a3)]) hx hb dX2_countOf_44 hl (by decide) rfl (fun ls hl => ?_)
    refine lv_iload hx hb dX2_countOf_46 (lv_at hl 0 rfl) ?_
    refine lv_if_ne (tgt := 55) hx hb dX2_countOf_48 (by decide) (fun c3 => ?_) (fun c3 => ?_)
    · replace hj := ja_neg c3 hj
      refine lv_lconst (v := (1 : Int64)) hx hb dX2_countOf_55 (by decide) ?_
      refine lv_iload hx hb dX2_countOf_56 (lv_at hl 0 rfl) ?_
      refine lv_lshl hx hb dX2_countOf_58 rfl ?_
      refine lv_iload_n hx hb dX2_countOf_59 rfl (lv_at hl 3 rfl) ?_
      refine lv_i2l hx hb dX2_countOf_60 rfl ?_
      refine lv_lsub hx hb dX2_countOf_61 ?_
      refine lv_lstore (lv' := [(5, .long (((1 : Int64) <<< (v2.toInt64 &&& 63)) - a2.toInt64)), (4, .int v2), (0, .ref g0), (1, .int a1), (2, .int a2), (3, .int a3)]) hx hb dX2_countOf_62 hl (by decide) rfl (fun ls hl => ?_)
      refine lv_iload_n hx hb dX2_countOf_64 rfl (lv_at hl 5 rfl) ?_
      refine lv_iload hx hb dX2_countOf_65 (lv_at hl 1 rfl) ?_
      refine lv_icmp_lt (tgt := 75) hx hb dX2_countOf_67 (by decide) (fun c4 => ?_) (fun c4 => ?_)
      · replace hj := ja_pos c4 hj
        refine lv_lconst (v := (0 : Int64)) hx hb dX2_countOf_75 (by decide) ?_
        refine lv_iload_n hx hb dX2_countOf_76 rfl (lv_at hl 5 rfl) ?_
        refine lv_iload hx hb dX2_countOf_77 (lv_at hl 1 rfl) ?_
        refine lv_iconst (v := (1 : Int32)) hx hb dX2_countOf_79 (by decide) ?_
        refine lv_iadd hx hb dX2_countOf_80 ?_
        refine lv_icmp_lt (tgt := 92) hx hb dX2_countOf_81 (by decide) (fun c5 => ?_) (fun c5 => ?_)
        · replace hj := ja_pos c5 hj
          refine lv_lconst (v := (0 : Int64)) hx hb dX2_countOf_92 (by decide) ?_
          refine lv_ladd hx hb dX2_countOf_93 ?_
          have hr9 : ((0 : Int64) + (0 : Int64)) = r := Option.some.inj hj
          subst hr9
          exact W.lret (v := (0 : Int64) + (0 : Int64)) hx hb hr (fun t ht hW => ⟨⟨(0 : Int64) + (0 : Int64), (), rfl, rfl, by rw [ht]; exact hP, va_K.moved hW.alike hK, hD⟩, hS.F ht⟩) hS.2.2 dX2_countOf_94
        · replace hj := ja_neg c5 hj
          refine lv_iload_n hx hb dX2_countOf_84 rfl (lv_at hl 4 rfl) ?_
          refine lv_i2l hx hb dX2_countOf_85 rfl ?_
          refine lv_lload hx hb dX2_countOf_86 (lv_at hl 0 rfl) ?_
          refine lv_lsub hx hb dX2_countOf_88 ?_
          refine lv_goto (tgt := 93) hx hb dX2_countOf_89 (by decide) ?_
          refine lv_ladd hx hb dX2_countOf_93 ?_
          have hr9 : ((0 : Int64) + (a2.toInt64 - (((1 : Int64) <<< (v2.toInt64 &&& 63)) - a2.toInt64))) = r := Option.some.inj hj
          subst hr9
          exact W.lret (v := (0 : Int64) + (a2.toInt64 - (((1 : Int64) <<< (v2.toInt64 &&& 63)) - a2.toInt64))) hx hb hr (fun t ht hW => ⟨⟨(0 : Int64) + (a2.toInt64 - (((1 : Int64) <<< (v2.toInt64 &&& 63)) - a2.toInt64)), (), rfl, rfl, by rw [ht]; exact hP, va_K.moved hW.alike hK, hD⟩, hS.F ht⟩) hS.2.2 dX2_countOf_94
      · replace hj := ja_neg c4 hj
        refine lv_lload hx hb dX2_countOf_70 (lv_at hl 0 rfl) ?_
        refine lv_goto (tgt := 76) hx hb dX2_countOf_72 (by decide) ?_
        refine lv_iload_n hx hb dX2_countOf_76 rfl (lv_at hl 5 rfl) ?_
        refine lv_iload hx hb dX2_countOf_77 (lv_at hl 1 rfl) ?_
        refine lv_iconst (v := (1 : Int32)) hx hb dX2_countOf_79 (by decide) ?_
        refine lv_iadd hx hb dX2_countOf_80 ?_
        refine lv_icmp_lt (tgt := 92) hx hb dX2_countOf_81 (by decide) (fun c6 => ?_) (fun c6 => ?_)
        · replace hj := ja_pos c6 hj
          refine lv_lconst (v := (0 : Int64)) hx hb dX2_countOf_92 (by decide) ?_
          refine lv_ladd hx hb dX2_countOf_93 ?_
          have hr9 : ((((1 : Int64) <<< (v2.toInt64 &&& 63)) - a2.toInt64) + (0 : Int64)) = r := Option.some.inj hj
          subst hr9
          exact W.lret (v := (((1 : Int64) <<< (v2.toInt64 &&& 63)) - a2.toInt64) + (0 : Int64)) hx hb hr (fun t ht hW => ⟨⟨(((1 : Int64) <<< (v2.toInt64 &&& 63)) - a2.toInt64) + (0 : Int64), (), rfl, rfl, by rw [ht]; exact hP, va_K.moved hW.alike hK, hD⟩, hS.F ht⟩) hS.2.2 dX2_countOf_94
        · replace hj := ja_neg c6 hj
          refine lv_iload_n hx hb dX2_countOf_84 rfl (lv_at hl 4 rfl) ?_
          refine lv_i2l hx hb dX2_countOf_85 rfl ?_
          refine lv_lload hx hb dX2_countOf_86 (lv_at hl 0 rfl) ?_
          refine lv_lsub hx hb dX2_countOf_88 ?_
          refine lv_goto (tgt := 93) hx hb dX2_countOf_89 (by decide) ?_
          refine lv_ladd hx hb dX2_countOf_93 ?_
          have hr9 : ((((1 : Int64) <<< (v2.toInt64 &&& 63)) - a2.toInt64) + (a2.toInt64 - (((1 : Int64) <<< (v2.toInt64 &&& 63)) - a2.toInt64))) = r := Option.some.inj hj
          subst hr9
          exact W.lret (v := (((1 : Int64) <<< (v2.toInt64 &&& 63)) - a2.toInt64) + (a2.toInt64 - (((1 : Int64) <<< (v2.toInt64 &&& 63)) - a2.toInt64))) hx hb hr (fun t ht hW => ⟨⟨(((1 : Int64) <<< (v2.toInt64 &&& 63)) - a2.toInt64) + (a2.toInt64 - (((1 : Int64) <<< (v2.toInt64 &&& 63)) - a2.toInt64)), (), rfl, rfl, by rw [ht]; exact hP, va_K.moved hW.alike hK, hD⟩, hS.F ht⟩) hS.2.2 dX2_countOf_94
    · replace hj := ja_pos c3 hj
      refine lv_lconst (v := (0 : Int64)) hx hb dX2_countOf_51 (by decide) ?_
      refine lv_goto (tgt := 62) hx hb dX2_countOf_52 (by decide) ?_
      refine lv_lstore (lv' := [(5, .long (0 : Int64)), (4, .int v2), (0, .ref g0), (1, .int a1), (2, .int a2), (3, .int a3)]) hx hb dX2_countOf_62 hl (by decide) rfl (fun ls hl => ?_)
      refine lv_iload_n hx hb dX2_countOf_64 rfl (lv_at hl 5 rfl) ?_
      refine lv_iload hx hb dX2_countOf_65 (lv_at hl 1 rfl) ?_
      refine lv_icmp_lt (tgt := 75) hx hb dX2_countOf_67 (by decide) (fun c7 => ?_) (fun c7 => ?_)
      · replace hj := ja_pos c7 hj
        refine lv_lconst (v := (0 : Int64)) hx hb dX2_countOf_75 (by decide) ?_
        refine lv_iload_n hx hb dX2_countOf_76 rfl (lv_at hl 5 rfl) ?_
        refine lv_iload hx hb dX2_countOf_77 (lv_at hl 1 rfl) ?_
        refine lv_iconst (v := (1 : Int32)) hx hb dX2_countOf_79 (by decide) ?_
        refine lv_iadd hx hb dX2_countOf_80 ?_
        refine lv_icmp_lt (tgt := 92) hx hb dX2_countOf_81 (by decide) (fun c8 => ?_) (fun c8 => ?_)
        · replace hj := ja_pos c8 hj
          refine lv_lconst (v := (0 : Int64)) hx hb dX2_countOf_92 (by decide) ?_
          refine lv_ladd hx hb dX2_countOf_93 ?_
          have hr9 : ((0 : Int64) + (0 : Int64)) = r := Option.some.inj hj
          subst hr9
          exact W.lret (v := (0 : Int64) + (0 : Int64)) hx hb hr (fun t ht hW => ⟨⟨(0 : Int64) + (0 : Int64), (), rfl, rfl, by rw [ht]; exact hP, va_K.moved hW.alike hK, hD⟩, hS.F ht⟩) hS.2.2 dX2_countOf_94
        · replace hj := ja_neg c8 hj
          refine lv_iload_n hx hb dX2_countOf_84 rfl (lv_at hl 4 rfl) ?_
          refine lv_i2l hx hb dX2_countOf_85 rfl ?_
          refine lv_lload hx hb dX2_countOf_86 (lv_at hl 0 rfl) ?_
          refine lv_lsub hx hb dX2_countOf_88 ?_
          refine lv_goto (tgt := 93) hx hb dX2_countOf_89 (by decide) ?_
          refine lv_ladd hx hb dX2_countOf_93 ?_
          have hr9 : ((0 : Int64) + (a2.toInt64 - (0 : Int64))) = r := Option.some.inj hj
          subst hr9
          exact W.lret (v := (0 : Int64) + (a2.toInt64 - (0 : Int64))) hx hb hr (fun t ht hW => ⟨⟨(0 : Int64) + (a2.toInt64 - (0 : Int64)), (), rfl, rfl, by rw [ht]; exact hP, va_K.moved hW.alike hK, hD⟩, hS.F ht⟩) hS.2.2 dX2_countOf_94
      · replace hj := ja_neg c7 hj
        refine lv_lload hx hb dX2_countOf_70 (lv_at hl 0 rfl) ?_
        refine lv_goto (tgt := 76) hx hb dX2_countOf_72 (by decide) ?_
        refine lv_iload_n hx hb dX2_countOf_76 rfl (lv_at hl 5 rfl) ?_
        refine lv_iload hx hb dX2_countOf_77 (lv_at hl 1 rfl) ?_
        refine lv_iconst (v := (1 : Int32)) hx hb dX2_countOf_79 (by decide) ?_
        refine lv_iadd hx hb dX2_countOf_80 ?_
        refine lv_icmp_lt (tgt := 92) hx hb dX2_countOf_81 (by decide) (fun c9 => ?_) (fun c9 => ?_)
        · replace hj := ja_pos c9 hj
          refine lv_lconst (v := (0 : Int64)) hx hb dX2_countOf_92 (by decide) ?_
          refine lv_ladd hx hb dX2_countOf_93 ?_
          have hr9 : ((0 : Int64) + (0 : Int64)) = r := Option.some.inj hj
          subst hr9
          exact W.lret (v := (0 : Int64) + (0 : Int64)) hx hb hr (fun t ht hW => ⟨⟨(0 : Int64) + (0 : Int64), (), rfl, rfl, by rw [ht]; exact hP, va_K.moved hW.alike hK, hD⟩, hS.F ht⟩) hS.2.2 dX2_countOf_94
        · replace hj := ja_neg c9 hj
          refine lv_iload_n hx hb dX2_countOf_84 rfl (lv_at hl 4 rfl) ?_
          refine lv_i2l hx hb dX2_countOf_85 rfl ?_
          refine lv_lload hx hb dX2_countOf_86 (lv_at hl 0 rfl) ?_
          refine lv_lsub hx hb dX2_countOf_88 ?_
          refine lv_goto (tgt := 93) hx hb dX2_countOf_89 (by decide) ?_
          refine lv_ladd hx hb dX2_countOf_93 ?_
          have hr9 : ((0 : Int64) + (a2.toInt64 - (0 : Int64))) = r := Option.some.inj hj
          subst hr9
          exact W.lret (v := (0 : Int64) + (a2.toInt64 - (0 : Int64))) hx hb hr (fun t ht hW => ⟨⟨(0 : Int64) + (a2.toInt64 - (0 : Int64)), (), rfl, rfl, by rw [ht]; exact hP, va_K.moved hW.alike hK, hD⟩, hS.F ht⟩) hS.2.2 dX2_countOf_94
  · replace hj := ja_neg c1 hj
    refine lv_aload_n hx hb dX2_countOf_5 rfl (lv_at hl 0 rfl) ?_
    refine lv_iload_n hx hb dX2_countOf_6 rfl (lv_at hl 1 rfl) ?_
    refine lv_iload_n hx hb dX2_countOf_7 rfl (lv_at hl 2 rfl) ?_
    refine lv_iload_n hx hb dX2_countOf_8 rfl (lv_at hl 3 rfl) ?_
    refine lv_iconst (v := (0 : Int32)) hx hb dX2_countOf_9 (by decide) ?_
    obtain ⟨v10, hc, hj⟩ := ja_bd hj
    try dsimp only at hj
    have hPc := hP.sub (ws' := (wM cI cJ g0 gr gl gw gs th rw mn at_ ml md_l wd md sm fr no)) [0, 1, 2, 3, 4] rfl
    have hDc := hD.sub (ws' := (wM cI cJ g0 gr gl gw gs th rw mn at_ ml md_l wd md sm fr no)) [0, 1, 2, 3, 4] (by decide) rfl
    have hFc := va_free (wc := (wM cI cJ g0 gr gl gw gs th rw mn at_ ml md_l wd md sm fr no)) hD hS hA [0, 1, 2, 3, 4] rfl
    refine va_calll (va_runV (As := [.int a1, .int a2, .int a3, .int (0 : Int32)]) (rest := []) ⟨hx, hb, hml, hown, hts⟩ (c_X2_edge l dC dI cI cJ g0 gr gl gw gs s.heap.size th rw mn at_ ml md_l wd md sm fr no a1 a2 a3 (0 : Int32) _ hc) (cwV 4 hts gX2_countOf_X2_edge rfl rfl rfl (by decide +kernel) ⟨Nat.le_of_ble_eq_true rfl, Nat.le_of_ble_eq_true rfl⟩) ⟨fun a U g mk q => ⟨q.1, jPr.blind q.2⟩, va_recv hK hPc (ci := 2) (q0 := 0) rfl rfl, fun U hU hW => ⟨rfl, jPr.mk hU hW hPc hK hDc⟩⟩ rfl rfl hl.1 rfl (lv_room (Nat.le_of_ble_eq_true rfl)) dX2_countOf_10 ⟨Nat.le_of_ble_eq_true rfl, Nat.le_of_ble_eq_true rfl⟩) hS (fun q _ h => hFc q h) hFc (fun rr u t H1 locs ht hvm hw9 hB hz1 hk1 hS => ?_)
    have hw8 : v10 = rr := hw9.symm
    subst hw8
    obtain ⟨hP1, hK1, hD1⟩ := hB
    rw [ht] at hP1
    obtain ⟨hP, hD⟩ := va_join (wr := ([] : va_W)) (w1 := (wM cI cJ g0 gr gl gw gs th rw mn at_ ml md_l wd md sm fr no)) hP hD [0, 1, 2, 3, 4] [] rfl rfl (by decide) (by decide) hk1 hFc hP1 hD1
    clear hk1 hP1 hK1 hD1 hvm hz1 hPc hDc hFc
    generalize H1 = H at hP hS ⊢
    have hP : va_P (dC, dI) vwCl (wM cI cJ g0 gr gl gw gs th rw mn at_ ml md_l wd md sm fr no) H := hP
    have hD : va_D A (wM cI cJ g0 gr gl gw gs th rw mn at_ ml md_l wd md sm fr no) := hD
    refine lv_lstore (lv' := [(4, .long v10), (0, .ref g0), (1, .int a1), (2, .int a2), (3, .int a3)]) hx hb dX2_countOf_13 hl (by decide) rfl (fun ls hl => ?_)
    refine lv_lload hx hb dX2_countOf_15 (lv_at hl 0 rfl) ?_
    refine lv_lconst (v := (0 : Int64)) hx hb dX2_countOf_17 (by decide) ?_
    refine W.lcmp hx hb dX2_countOf_18 ?_
    refine lv_if_ne (tgt := 26) hx hb dX2_countOf_19 (by decide) (fun c11 => ?_) (fun c11 => ?_)
    · replace hj := ja_neg (fun h9 => c11 ((lg_cmp_eq v10 (0 : Int64)).mpr h9)) hj
      refine lv_aload_n hx hb dX2_countOf_26 rfl (lv_at hl 1 rfl) ?_
      refine lv_iload_n hx hb dX2_countOf_27 rfl (lv_at hl 2 rfl) ?_
      refine lv_iload_n hx hb dX2_countOf_28 rfl (lv_at hl 3 rfl) ?_
      refine lv_iload_n hx hb dX2_countOf_29 rfl (lv_at hl 4 rfl) ?_
      refine lv_iconst (v := (1 : Int32)) hx hb dX2_countOf_30 (by decide) ?_
      obtain ⟨v12, hc, hj⟩ := ja_bd hj
      try dsimp only at hj
      have hPc := hP.sub (ws' := (wM cI cJ g0 gr gl gw gs th rw mn at_ ml md_l wd md sm fr no)) [0, 1, 2, 3, 4] rfl
      have hDc := hD.sub (ws' := (wM cI cJ g0 gr gl gw gs th rw mn at_ ml md_l wd md sm fr no)) [0, 1, 2, 3, 4] (by decide) rfl
      have hFc := va_free (wc := (wM cI cJ g0 gr gl gw gs th rw mn at_ ml md_l wd md sm fr no)) hD hS hA [0, 1, 2, 3, 4] rfl
      refine va_calll (va_runV (As := [.int a1, .int a2, .int a3, .int (1 : Int32)]) (rest := []) ⟨hx, hb, hml, hown, hts⟩ (c_X2_edge l dC dI cI cJ g0 gr gl gw gs H.size th rw mn at_ ml md_l wd md sm fr no a1 a2 a3 (1 : Int32) _ hc) (cwV 4 hts gX2_countOf_X2_edge rfl rfl rfl (by decide +kernel) ⟨Nat.le_of_ble_eq_true rfl, Nat.le_of_ble_eq_true rfl⟩) ⟨fun a U g mk q => ⟨q.1, jPr.blind q.2⟩, va_recv hK hPc (ci := 2) (q0 := 0) rfl rfl, fun U hU hW => ⟨rfl, jPr.mk hU hW hPc hK hDc⟩⟩ rfl rfl hl.1 rfl (lv_room (Nat.le_of_ble_eq_true rfl)) dX2_countOf_31 ⟨Nat.le_of_ble_eq_true rfl, Nat.le_of_ble_eq_true rfl⟩) hS (fun q _ h => hFc q h) hFc (fun rr u t H1 locs ht hvm hw9 hB hz1 hk1 hS => ?_)
      have hw8 : v12 = rr := hw9.symm
      subst hw8
      obtain ⟨hP1, hK1, hD1⟩ := hB
      rw [ht] at hP1
      obtain ⟨hP, hD⟩ := va_join (wr := ([] : va_W)) (w1 := (wM cI cJ g0 gr gl gw gs th rw mn at_ ml md_l wd md sm fr no)) hP hD [0, 1, 2, 3, 4] [] rfl rfl (by decide) (by decide) hk1 hFc hP1 hD1
      clear hk1 hP1 hK1 hD1 hvm hz1 hPc hDc hFc
      generalize H1 = H at hP hS ⊢
      have hP : va_P (dC, dI) vwCl (wM cI cJ g0 gr gl gw gs th rw mn at_ ml md_l wd md sm fr no) H := hP
      have hD : va_D A (wM cI cJ g0 gr gl gw gs th rw mn at_ ml md_l wd md sm fr no) := hD
      refine lv_lload hx hb dX2_countOf_34 (lv_at hl 0 rfl) ?_
      refine lv_lsub hx hb dX2_countOf_36 ?_
      refine lv_lconst (v := (1 : Int64)) hx hb dX2_countOf_37 (by decide) ?_
      refine lv_ladd hx hb dX2_countOf_38 ?_
      have hr9 : ((v12 - v10) + (1 : Int64)) = r := Option.some.inj hj
      subst hr9
      exact W.lret (v := (v12 - v10) + (1 : Int64)) hx hb hr (fun t ht hW => ⟨⟨(v12 - v10) + (1 : Int64), (), rfl, rfl, by rw [ht]; exact hP, va_K.moved hW.alike hK, hD⟩, hS.F ht⟩) hS.2.2 dX2_countOf_39
    · replace hj := ja_pos ((lg_cmp_eq v10 (0 : Int64)).mp c11) hj
      refine lv_lconst (v := (0 : Int64)) hx hb dX2_countOf_22 (by decide) ?_
      refine lv_goto (tgt := 39) hx hb dX2_countOf_23 (by decide) ?_
      have hr9 : (0 : Int64) = r := Option.some.inj hj
      subst hr9
      exact W.lret (v := (0 : Int64)) hx hb hr (fun t ht hW => ⟨⟨(0 : Int64), (), rfl, rfl, by rw [ht]; exact hP, va_K.moved hW.alike hK, hD⟩, hS.F ht⟩) hS.2.2 dX2_countOf_39

def j_X2_leastOf (sm : Nat → Int64) (a1 : Int32) (a2 : Int32) (a3 : Int32) : Option (Int64) :=
  if a1 = (5 : Int32) then ((j_X2_powerFor a2).bind fun v2 => (if v2 = (0 : Int32) then (if a3 < (v2 + (1 : Int32)) then (if a3 = v2 then (some (0 : Int64)) else (some (0 : Int64))) else (some (((((a3.toInt64 - (1 : Int64)) - v2.toInt64) * a2.toInt64) + (0 : Int64)) + (1 : Int64)))) else (if a3 < (v2 + (1 : Int32)) then (if a3 = v2 then (if (((1 : Int64) <<< (v2.toInt64 &&& 63)) - a2.toInt64) ≤ (0 : Int64) then (some (0 : Int64)) else (some (1 : Int64))) else (some (0 : Int64))) else (some (((((a3.toInt64 - (1 : Int64)) - v2.toInt64) * a2.toInt64) + (((1 : Int64) <<< (v2.toInt64 &&& 63)) - a2.toInt64)) + (1 : Int64)))))) else ((j_X2_edge sm a1 a2 a3 (0 : Int32)).bind fun v10 => (some v10))
set_option maxHeartbeats 4000000 in
set_option maxRecDepth 100000 in
theorem c_X2_leastOf (l : Launch) (dC : Nat → ClassId) (dI : Nat → Nat → Nat) (cI cJ : ClassId) (g0 : Nat) (gr : Nat) (gl : Nat) (gw : Nat) (gs : Nat) (sz : Nat) (th : Int32) (rw : Nat → Int32) (mn : Int32) (at_ : Int32) (ml : Nat → Int64) (md_l : Int32) (wd : Nat → Int32) (md : Int32) (sm : Nat → Int64) (fr : Int32) (no : Int32) (a1 : Int32) (a2 : Int32) (a3 : Int32) (r : Int64) (hj : j_X2_leastOf sm a1 a2 a3 = some r) : Met l yX2_leastOf wsX2_leastOf ({ frames := 5, cells := 0, slots := 0, locals := 132 } : Room) (va_Pc [.ref g0, .int a1, .int a2, .int a3] (fun U => jPr dC dI cI cJ (wM cI cJ g0 gr gl gw gs th rw mn at_ ml md_l wd md sm fr no) sz U)) (va_Ql (fun (v : Int64) (_ : Unit) => v = r) (fun (_ : Unit) t => jPo dC dI cI cJ (wM cI cJ g0 gr gl gw gs th rw mn at_ ml md_l wd md sm fr no) (va_A (wM cI cJ g0 gr gl gw gs th rw mn at_ ml md_l wd md sm fr no) sz) t) (va_A (wM cI cJ g0 gr gl gw gs th rw mn at_ ml md_l wd md sm fr no) sz)) 0 0 (va_A (wM cI cJ g0 gr gl gw gs th rw mn at_ ml md_l wd md sm fr no) sz) := by
  refine Met.ofW (cc := cX2_leastOf) (maxL := 7) (ret := (some .long)) (by decide) rfl ?_
  intro p e s m args below meth c s₁ B hml hv
  obtain ⟨rfl, ⟨hsz, hP, hK, hD0⟩⟩ := hv
  have hx := B.exec
  have hb := B.bytes
  have hr := B.returns
  have hts := atoms_spec (ws := wsX2_leastOf) B.pre
  have hown : s.vm.findClass RX2 = some m.cls := findClass_of_methodNamed B.named
  have hlocks := B.notSynchronized
  have C0 := jCx.of hx hb hr hml hown hts hlocks
  subst hsz
  have hD := hD0.self (sz := s.heap.size)
  generalize hAe : va_A (wM cI cJ g0 gr gl gw gs th rw mn at_ ml md_l wd md sm fr no) s.heap.size = A at hD ⊢
  have hA : ∀ q : Nat, s.heap.size ≤ q → A q := fun q h => by rw [← hAe]; exact Or.inr h
  have hS : va_S A s.heap s.heap [] := va_S.rf
  have hP : va_P (dC, dI) vwCl (wM cI cJ g0 gr gl gw gs th rw mn at_ ml md_l wd md sm fr no) s.heap := hP
  have hl := lv_entry ([.ref g0, .int a1, .int a2, .int a3]) (n := 7) (Nat.le_of_ble_eq_true rfl)
  rw [lg_entry_eq]
  generalize (lg_sl ([.ref g0, .int a1, .int a2, .int a3]) ++ List.replicate (7 - (lg_sl ([.ref g0, .int a1, .int a2, .int a3])).length) Slot.unset).toArray = ls at hl ⊢
  have hl : lv_has ls 7 [(0, .ref g0), (1, .int a1), (2, .int a2), (3, .int a3)] := hl
  clear hD0 hAe
  unfold j_X2_leastOf at hj
  refine lv_iload_n hx hb dX2_leastOf_0 rfl (lv_at hl 1 rfl) ?_
  refine lv_iconst (v := (5 : Int32)) hx hb dX2_leastOf_1 (by decide) ?_
  refine lv_icmp_eq (tgt := 14) hx hb dX2_leastOf_2 (by decide) (fun c1 => ?_) (fun c1 => ?_)
  · replace hj := ja_pos c1 hj
    refine lv_iload_n hx hb dX2_leastOf_14 rfl (lv_at hl 2 rfl) ?_
    obtain ⟨v2, hc, hj⟩ := ja_bd hj
    try dsimp only at hj
    have hPc := hP.sub (ws' := ([] : va_W)) [] rfl
    have hDc := hD.sub (ws' := ([] : va_W)) [] (by decide) rfl
    have hFc := va_free (wc := ([] : va_W)) hD hS hA [] rfl
    refine va_calli (va_runS (As := [.int a2]) (rest := []) ⟨hx, hb, hml, hown, hts⟩ (c_X2_powerFor l dC dI cI cJ s.heap.size a2 _ hc) (va_cwS 1 hts gX2_leastOf_X2_powerFor rfl rfl rfl (by decide +kernel) ⟨Nat.le_of_ble_eq_true rfl, Nat.le_of_ble_eq_true rfl⟩) ⟨fun a U g mk q => ⟨q.1, jPr.blind q.2⟩, fun U hU hW => ⟨rfl, jPr.mk hU hW hPc hK hDc⟩⟩ rfl rfl hl.1 rfl (lv_room (Nat.le_of_ble_eq_true rfl)) dX2_leastOf_15 ⟨Nat.le_of_ble_eq_true rfl, Nat.le_of_ble_eq_true rfl⟩) hS (fun q _ h => hFc q h) hFc (fun rr u t H1 locs ht hvm hw9 hB hz1 hk1 hS => ?_)
    have hw8 : v2 = rr := hw9.symm
    subst hw8
    obtain ⟨hP1, hK1, hD1⟩ := hB
    rw [ht] at hP1
    obtain ⟨hP, hD⟩ := va_join (wr := ([(g0, .inr (2, [.int th, .ref gr, .int mn, .int at_, .ref gl, .int md_l, .ref gw, .int md, .ref gs, .int fr, .int no])), (gr, .inl (cI, 4096, .inl rw)), (gl, .inl (cJ, 100, .inr (.inl ml))), (gw, .inl (cI, 4200, .inl wd)), (gs, .inl (cJ, 92, .inr (.inl sm)))] : va_W)) (w1 := ([] : va_W)) hP hD [] [0, 1, 2, 3, 4] rfl rfl (by decide) (by decide) hk1 hFc hP1 hD1
    clear hk1 hP1 hK1 hD1 hvm hz1 hPc hDc hFc
    generalize H1 = H at hP hS ⊢
    have hP : va_P (dC, dI) vwCl (wM cI cJ g0 gr gl gw gs th rw mn at_ ml md_l wd md sm fr no) H := hP
    have hD : va_D A (wM cI cJ g0 gr gl gw gs th rw mn at_ ml md_l wd md sm fr no) := hD
    refine lv_istore (lv' := [(4, .int v2), (0, .ref g0), (1, .int a1), (2, .int a2), (3, .int a3)]) hx hb dX2_leastOf_18 hl (by decide) rfl (fun ls hl => ?_)
    refine lv_iload hx hb dX2_leastOf_20 (lv_at hl 0 rfl) ?_
    refine lv_if_ne (tgt := 29) hx hb dX2_leastOf_22 (by decide) (fun c3 => ?_) (fun c3 => ?_)
    · replace hj := ja_neg c3 hj
      refine lv_lconst (v := (1 : Int64)) hx hb dX2_leastOf_29 (by decide) ?_
      refine lv_iload hx hb dX2_leastOf_30 (lv_at hl 0 rfl) ?_
      refine lv_lshl hx hb dX2_leastOf_32 rfl ?_
      refine lv_iload_n hx hb dX2_leastOf_33 rfl (lv_at hl 3 rfl) ?_
      refine lv_i2l hx hb dX2_leastOf_34 rfl ?_
      refine lv_lsub hx hb dX2_leastOf_35 ?_
      refine lv_lstore (lv' := [(5, .long (((1 : Int64) <<< (v2.toInt64 &&& 63)) - a2.toInt64)), (4, .int v2), (0, .ref g0), (1, .int a1), (2, .int a2), (3, .int a3)]) hx hb dX2_leastOf_36 hl (by decide) rfl (fun ls hl => ?_)
      refine lv_iload_n hx hb dX2_leastOf_38 rfl (lv_at hl 5 rfl) ?_
      refine lv_iload hx hb dX2_leastOf_39 (lv_at hl 1 rfl) ?_
      refine lv_iconst (v := (1 : Int32)) hx hb dX2_leastOf_41 (by decide) ?_
      refine lv_iadd hx hb dX2_leastOf_42 ?_
      refine lv_icmp_lt (tgt := 63) hx hb dX2_leastOf_43 (by decide) (fun c4 => ?_) (fun c4 => ?_)
      · replace hj := ja_pos c4 hj
        refine lv_iload_n hx hb dX2_leastOf_63 rfl (lv_at hl 5 rfl) ?_
        refine lv_iload hx hb dX2_leastOf_64 (lv_at hl 1 rfl) ?_
        refine lv_icmp_ne (tgt := 80) hx hb dX2_leastOf_66 (by decide) (fun c5 => ?_) (fun c5 => ?_)
        · replace hj := ja_neg c5 hj
          refine lv_lconst (v := (0 : Int64)) hx hb dX2_leastOf_80 (by decide) ?_
          have hr9 : (0 : Int64) = r := Option.some.inj hj
          subst hr9
          exact W.lret (v := (0 : Int64)) hx hb hr (fun t ht hW => ⟨⟨(0 : Int64), (), rfl, rfl, by rw [ht]; exact hP, va_K.moved hW.alike hK, hD⟩, hS.F ht⟩) hS.2.2 dX2_leastOf_81
        · replace hj := ja_pos c5 hj
          refine lv_lload hx hb dX2_leastOf_69 (lv_at hl 0 rfl) ?_
          refine lv_lconst (v := (0 : Int64)) hx hb dX2_leastOf_71 (by decide) ?_
          refine W.lcmp hx hb dX2_leastOf_72 ?_
          refine lv_if_le (tgt := 80) hx hb dX2_leastOf_73 (by decide) (fun c6 => ?_) (fun c6 => ?_)
          · replace hj := ja_pos ((lg_cmp_le (((1 : Int64) <<< (v2.toInt64 &&& 63)) - a2.toInt64) (0 : Int64)).mp c6) hj
            refine lv_lconst (v := (0 : Int64)) hx hb dX2_leastOf_80 (by decide) ?_
            have hr9 : (0 : Int64) = r := Option.some.inj hj
            subst hr9
            exact W.lret (v := (0 : Int64)) hx hb hr (fun t ht hW => ⟨⟨(0 : Int64), (), rfl, rfl, by rw [ht]; exact hP, va_K.moved hW.alike hK, hD⟩, hS.F ht⟩) hS.2.2 dX2_leastOf_81
          · replace hj := ja_neg (fun h9 => c6 ((lg_cmp_le (((1 : Int64) <<< (v2.toInt64 &&& 63)) - a2.toInt64) (0 : Int64)).mpr h9)) hj
            refine lv_lconst (v := (1 : Int64)) hx hb dX2_leastOf_76 (by decide) ?_
            refine lv_goto (tgt := 81) hx hb dX2_leastOf_77 (by decide) ?_
            have hr9 : (1 : Int64) = r := Option.some.inj hj
            subst hr9
            exact W.lret (v := (1 : Int64)) hx hb hr (fun t ht hW => ⟨⟨(1 : Int64), (), rfl, rfl, by rw [ht]; exact hP, va_K.moved hW.alike hK, hD⟩, hS.F ht⟩) hS.2.2 dX2_leastOf_81
      · replace hj := ja_neg c4 hj
        refine lv_iload_n hx hb dX2_leastOf_46 rfl (lv_at hl 5 rfl) ?_
        refine lv_i2l hx hb dX2_leastOf_47 rfl ?_
        refine lv_lconst (v := (1 : Int64)) hx hb dX2_leastOf_48 (by decide) ?_
        refine lv_lsub hx hb dX2_leastOf_49 ?_
        refine lv_iload hx hb dX2_leastOf_50 (lv_at hl 1 rfl) ?_
        refine lv_i2l hx hb dX2_leastOf_52 rfl ?_
        refine lv_lsub hx hb dX2_leastOf_53 ?_
        refine lv_iload_n hx hb dX2_leastOf_54 rfl (lv_at hl 4 rfl) ?_
        refine lv_i2l hx hb dX2_leastOf_55 rfl ?_
        refine lv_lmul hx hb dX2_leastOf_56 ?_
        refine lv_lload hx hb dX2_leastOf_57 (lv_at hl 0 rfl) ?_
        refine lv_ladd hx hb dX2_leastOf_59 ?_
        refine lv_lconst (v := (1 : Int64)) hx hb dX2_leastOf_60 (by decide) ?_
        refine lv_ladd hx hb dX2_leastOf_61 ?_
        have hr9 : (((((a3.toInt64 - (1 : Int64)) - v2.toInt64) * a2.toInt64) + (((1 : Int64) <<< (v2.toInt64 &&& 63)) - a2.toInt64)) + (1 : Int64)) = r := Option.some.inj hj
        subst hr9
        exact W.lret (v := ((((a3.toInt64 - (1 : Int64)) - v2.toInt64) * a2.toInt64) + (((1 : Int64) <<< (v2.toInt64 &&& 63)) - a2.toInt64)) + (1 : Int64)) hx hb hr (fun t ht hW => ⟨⟨((((a3.toInt64 - (1 : Int64)) - v2.toInt64) * a2.toInt64) + (((1 : Int64) <<< (v2.toInt64 &&& 63)) - a2.toInt64)) + (1 : Int64), (), rfl, rfl, by rw [ht]; exact hP, va_K.moved hW.alike hK, hD⟩, hS.F ht⟩) hS.2.2 dX2_leastOf_62
    · replace hj := ja_pos c3 hj
      refine lv_lconst (v := (0 : Int64)) hx hb dX2_leastOf_25 (by decide) ?_
      refine lv_goto (tgt := 36) hx hb dX2_leastOf_26 (by decide) ?_
      refine lv_lstore (lv' := [(5, .long (0 : Int64)), (4, .int v2), (0, .ref g0), (1, .int a1), (2, .int a2), (3, .int a3)]) hx hb dX2_leastOf_36 hl (by decide) rfl (fun ls hl => ?_)
      refine lv_iload_n hx hb dX2_leastOf_38 rfl (lv_at hl 5 rfl) ?_
      refine lv_iload hx hb dX2_leastOf_39 (lv_at hl 1 rfl) ?_
      refine lv_iconst (v := (1 : Int32)) hx hb dX2_leastOf_41 (by decide) ?_
      refine lv_iadd hx hb dX2_leastOf_42 ?_
      refine lv_icmp_lt (tgt := 63) hx hb dX2_leastOf_43 (by decide) (fun c7 => ?_) (fun c7 => ?_)
      · replace hj := ja_pos c7 hj
        refine lv_iload_n hx hb dX2_leastOf_63 rfl (lv_at hl 5 rfl) ?_
        refine lv_iload hx hb dX2_leastOf_64 (lv_at hl 1 rfl) ?_
        refine lv_icmp_ne (tgt := 80) hx hb dX2_leastOf_66 (by decide) (fun c8 => ?_) (fun c8 => ?_)
        · replace hj := ja_neg c8 hj
          refine lv_lconst (v := (0 : Int64)) hx hb dX2_leastOf_80 (by decide) ?_
          have hr9 : (0 : Int64) = r := Option.some.inj hj
          subst hr9
          exact W.lret (v := (0 : Int64)) hx hb hr (fun t ht hW => ⟨⟨(0 : Int64), (), rfl, rfl, by rw [ht]; exact hP, va_K.moved hW.alike hK, hD⟩, hS.F ht⟩) hS.2.2 dX2_leastOf_81
        · replace hj := ja_pos c8 hj
          refine lv_lload hx hb dX2_leastOf_69 (lv_at hl 0 rfl) ?_
          refine lv_lconst (v := (0 : Int64)) hx hb dX2_leastOf_71 (by decide) ?_
          refine W.lcmp hx hb dX2_leastOf_72 ?_
          refine lv_if_le (tgt := 80) hx hb dX2_leastOf_73 (by decide) (fun _ => ?_) (fun h9 => absurd (by decide) h9)
          refine lv_lconst (v := (0 : Int64)) hx hb dX2_leastOf_80 (by decide) ?_
          have hr9 : (0 : Int64) = r := Option.some.inj hj
          subst hr9
          exact W.lret (v := (0 : Int64)) hx hb hr (fun t ht hW => ⟨⟨(0 : Int64), (), rfl, rfl, by rw [ht]; exact hP, va_K.moved hW.alike hK, hD⟩, hS.F ht⟩) hS.2.2 dX2_leastOf_81
      · replace hj := ja_neg c7 hj
        refine lv_iload_n hx hb dX2_leastOf_46 rfl (lv_at hl 5 rfl) ?_
        refine lv_i2l hx hb dX2_leastOf_47 rfl ?_
        refine lv_lconst (v := (1 : Int64)) hx hb dX2_leastOf_48 (by decide) ?_
        refine lv_lsub hx hb dX2_leastOf_49 ?_
        refine lv_iload hx hb dX2_leastOf_50 (lv_at hl 1 rfl) ?_
        refine lv_i2l hx hb dX2_leastOf_52 rfl ?_
        refine lv_lsub hx hb dX2_leastOf_53 ?_
        refine lv_iload_n hx hb dX2_leastOf_54 rfl (lv_at hl 4 rfl) ?_
        refine lv_i2l hx hb dX2_leastOf_55 rfl ?_
        refine lv_lmul hx hb dX2_leastOf_56 ?_
        refine lv_lload hx hb dX2_leastOf_57 (lv_at hl 0 rfl) ?_
        refine lv_ladd hx hb dX2_leastOf_59 ?_
        refine lv_lconst (v := (1 : Int64)) hx hb dX2_leastOf_60 (by decide) ?_
        refine lv_ladd hx hb dX2_leastOf_61 ?_
        have hr9 : (((((a3.toInt64 - (1 : Int64)) - v2.toInt64) * a2.toInt64) + (0 : Int64)) + (1 : Int64)) = r := Option.some.inj hj
        subst hr9
        exact W.lret (v := ((((a3.toInt64 - (1 : Int64)) - v2.toInt64) * a2.toInt64) + (0 : Int64)) + (1 : Int64)) hx hb hr (fun t ht hW => ⟨⟨((((a3.toInt64 - (1 : Int64)) - v2.toInt64) * a2.toInt64) + (0 : Int64)) + (1 : Int64), (), rfl, rfl, by rw [ht]; exact hP, va_K.moved hW.alike hK, hD⟩, hS.F ht⟩) hS.2.2 dX2_leastOf_62
  · replace hj := ja_neg c1 hj
    refine lv_aload_n hx hb dX2_leastOf_5 rfl (lv_at hl 0 rfl) ?_
    refine lv_iload_n hx hb dX2_leastOf_6 rfl (lv_at hl 1 rfl) ?_
    refine lv_iload_n hx hb dX2_leastOf_7 rfl (lv_at hl 2 rfl) ?_
    refine lv_iload_n hx hb dX2_leastOf_8 rfl (lv_at hl 3 rfl) ?_
    refine lv_iconst (v := (0 : Int32)) hx hb dX2_leastOf_9 (by decide) ?_
    obtain ⟨v10, hc, hj⟩ := ja_bd hj
    try dsimp only at hj
    have hPc := hP.sub (ws' := (wM cI cJ g0 gr gl gw gs th rw mn at_ ml md_l wd md sm fr no)) [0, 1, 2, 3, 4] rfl
    have hDc := hD.sub (ws' := (wM cI cJ g0 gr gl gw gs th rw mn at_ ml md_l wd md sm fr no)) [0, 1, 2, 3, 4] (by decide) rfl
    have hFc := va_free (wc := (wM cI cJ g0 gr gl gw gs th rw mn at_ ml md_l wd md sm fr no)) hD hS hA [0, 1, 2, 3, 4] rfl
    refine va_calll (va_runV (As := [.int a1, .int a2, .int a3, .int (0 : Int32)]) (rest := []) ⟨hx, hb, hml, hown, hts⟩ (c_X2_edge l dC dI cI cJ g0 gr gl gw gs s.heap.size th rw mn at_ ml md_l wd md sm fr no a1 a2 a3 (0 : Int32) _ hc) (cwV 4 hts gX2_leastOf_X2_edge rfl rfl rfl (by decide +kernel) ⟨Nat.le_of_ble_eq_true rfl, Nat.le_of_ble_eq_true rfl⟩) ⟨fun a U g mk q => ⟨q.1, jPr.blind q.2⟩, va_recv hK hPc (ci := 2) (q0 := 0) rfl rfl, fun U hU hW => ⟨rfl, jPr.mk hU hW hPc hK hDc⟩⟩ rfl rfl hl.1 rfl (lv_room (Nat.le_of_ble_eq_true rfl)) dX2_leastOf_10 ⟨Nat.le_of_ble_eq_true rfl, Nat.le_of_ble_eq_true rfl⟩) hS (fun q _ h => hFc q h) hFc (fun rr u t H1 locs ht hvm hw9 hB hz1 hk1 hS => ?_)
    have hw8 : v10 = rr := hw9.symm
    subst hw8
    obtain ⟨hP1, hK1, hD1⟩ := hB
    rw [ht] at hP1
    obtain ⟨hP, hD⟩ := va_join (wr := ([] : va_W)) (w1 := (wM cI cJ g0 gr gl gw gs th rw mn at_ ml md_l wd md sm fr no)) hP hD [0, 1, 2, 3, 4] [] rfl rfl (by decide) (by decide) hk1 hFc hP1 hD1
    clear hk1 hP1 hK1 hD1 hvm hz1 hPc hDc hFc
    generalize H1 = H at hP hS ⊢
    have hP : va_P (dC, dI) vwCl (wM cI cJ g0 gr gl gw gs th rw mn at_ ml md_l wd md sm fr no) H := hP
    have hD : va_D A (wM cI cJ g0 gr gl gw gs th rw mn at_ ml md_l wd md sm fr no) := hD
    have hr9 : v10 = r := Option.some.inj hj
    subst hr9
    exact W.lret (v := v10) hx hb hr (fun t ht hW => ⟨⟨v10, (), rfl, rfl, by rw [ht]; exact hP, va_K.moved hW.alike hK, hD⟩, hS.F ht⟩) hS.2.2 dX2_leastOf_13

