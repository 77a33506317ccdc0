set_option maxRecDepth 100000 in
theorem inn_X2_next_X2 : ∀ w ∈ u_ws RX2 TX2 11, w ∈ wsX2_next := by decide +kernel
def j_X2_next (rw : Nat → Int32) (mn : Int32) (fr : Int32) (no : Int32) : Option (Int32 × Int32 × Int32) :=
  if fr < mn then (jix ((fr + (1 : Int32)) - (1 : Int32)) 4096 (some (rw ((fr + (1 : Int32)) - (1 : Int32)).toNatClampNeg, fr + (1 : Int32), no))) else (some ((0 : Int32), fr, (1 : Int32)))
set_option maxHeartbeats 4000000 in
set_option maxRecDepth 100000 in
theorem c_X2_next (l : Launch) (dC : Nat → ClassId) (dI : Nat → Nat → Nat) (cI cJ : ClassId) (g0 : Nat) (gr : Nat) (gl : Nat) (gw : Nat) (gs : Nat) (sz : Nat) (th : Int32) (rw : Nat → Int32) (mn : Int32) (at_ : Int32) (ml : Nat → Int64) (md_l : Int32) (wd : Nat → Int32) (md : Int32) (sm : Nat → Int64) (fr : Int32) (no : Int32) (r : Int32 × Int32 × Int32) (hj : j_X2_next rw mn fr no = some r) : Met l yX2_next wsX2_next ({ frames := 0, cells := 0, slots := 0, locals := 0 } : Room) (va_Pc [.ref g0] (fun U => jPr dC dI cI cJ (wM cI cJ g0 gr gl gw gs th rw mn at_ ml md_l wd md sm fr no) sz U)) (va_Qi (fun (v : Int32) (_ : Unit) => v = r.1) (fun (_ : Unit) t => jPo dC dI cI cJ (wM cI cJ g0 gr gl gw gs th rw mn at_ ml md_l wd md sm r.2.1 r.2.2) (va_A (wM cI cJ g0 gr gl gw gs th rw mn at_ ml md_l wd md sm fr no) sz) t) (va_A (wM cI cJ g0 gr gl gw gs th rw mn at_ ml md_l wd md sm fr no) sz)) 0 0 (va_A (wM cI cJ g0 gr gl gw gs th rw mn at_ ml md_l wd md sm fr no) sz) := by
  refine Met.ofW (cc := cX2_next) (maxL := 1) (ret := (some .int)) (by decide) rfl ?_
  intro p e s m args below meth c s₁ B hml hv
  obtain ⟨rfl, ⟨hsz, hP, hK, hD0⟩⟩ := hv
  have hx := B.exec
  have hb := B.bytes
  have hr := B.returns
  have hts := atoms_spec (ws := wsX2_next) B.pre
  have hown : s.vm.findClass RX2 = some m.cls := findClass_of_methodNamed B.named
  have hlocks := B.notSynchronized
  have C0 := jCx.of hx hb hr hml hown hts hlocks
  subst hsz
  have hD := hD0.self (sz := s.heap.size)
  generalize hAe : va_A (wM cI cJ g0 gr gl gw gs th rw mn at_ ml md_l wd md sm fr no) s.heap.size = A at hD ⊢
  have hA : ∀ q : Nat, s.heap.size ≤ q → A q := fun q h => by rw [← hAe]; exact Or.inr h
  have hS : va_S A s.heap s.heap [] := va_S.rf
  have hP : va_P (dC, dI) vwCl (wM cI cJ g0 gr gl gw gs th rw mn at_ ml md_l wd md sm fr no) s.heap := hP
  have hl := lv_entry ([.ref g0]) (n := 1) (Nat.le_of_ble_eq_true rfl)
  rw [lg_entry_eq]
  generalize (lg_sl ([.ref g0]) ++ List.replicate (1 - (lg_sl ([.ref g0])).length) Slot.unset).toArray = ls at hl ⊢
  have hl : lv_has ls 1 [(0, .ref g0)] := hl
  clear hD0 hAe
  unfold j_X2_next at hj
  refine lv_aload_n hx hb dX2_next_0 rfl (lv_at hl 0 rfl) ?_
  refine va_get (D := (dC, dI)) (ci := 2) (v := .int fr) (C := RX2) (T := TX2) (N := 11) hx hb hts inn_X2_next_X2 hown hK hP 0 rfl rfl 9 (by decide) (hts (.fieldLink RX2 89 "SelfEndingCodesModel" "from" "I") (by decide +kernel)) (fun _ h9 => h9) rfl dX2_next_1 ?_
  refine lv_aload_n hx hb dX2_next_4 rfl (lv_at hl 0 rfl) ?_
  refine va_get (D := (dC, dI)) (ci := 2) (v := .int mn) (C := RX2) (T := TX2) (N := 11) hx hb hts inn_X2_next_X2 hown hK hP 0 rfl rfl 2 (by decide) (hts (.fieldLink RX2 82 "SelfEndingCodesModel" "many" "I") (by decide +kernel)) (fun _ h9 => h9) rfl dX2_next_5 ?_
  refine lv_icmp_lt (tgt := 18) hx hb dX2_next_8 (by decide) (fun c1 => ?_) (fun c1 => ?_)
  · replace hj := ja_pos c1 hj
    refine lv_aload_n hx hb dX2_next_18 rfl (lv_at hl 0 rfl) ?_
    refine lv_dup hx hb dX2_next_19 rfl ?_
    refine va_get (D := (dC, dI)) (ci := 2) (v := .int fr) (C := RX2) (T := TX2) (N := 11) hx hb hts inn_X2_next_X2 hown hK hP 0 rfl rfl 9 (by decide) (hts (.fieldLink RX2 89 "SelfEndingCodesModel" "from" "I") (by decide +kernel)) (fun _ h9 => h9) rfl dX2_next_20 ?_
    refine lv_iconst (v := (1 : Int32)) hx hb dX2_next_23 (by decide) ?_
    refine lv_iadd hx hb dX2_next_24 ?_
    refine va_put (D := (dC, dI)) (ci := 2) (v := .int (fr + (1 : Int32))) (ty := .int) (C := RX2) (T := TX2) (N := 11) hx hb hts inn_X2_next_X2 tyX2 tyX2_ok nmX2 hown hK hP hD hS 0 rfl rfl 9 (by decide) (hts (.fieldLink RX2 89 "SelfEndingCodesModel" "from" "I") (by decide +kernel)) (fun _ h9 => h9) rfl (by decide +kernel) rfl rfl (Nat.le_of_ble_eq_true rfl) dX2_next_25 (fun H locs hP hD hS => ?_)
    have hP : va_P (dC, dI) vwCl (wM cI cJ g0 gr gl gw gs th rw mn at_ ml md_l wd md sm (fr + (1 : Int32)) no) H := hP
    have hD : va_D A (wM cI cJ g0 gr gl gw gs th rw mn at_ ml md_l wd md sm (fr + (1 : Int32)) no) := hD
    refine lv_aload_n hx hb dX2_next_28 rfl (lv_at hl 0 rfl) ?_
    refine va_get (D := (dC, dI)) (ci := 2) (v := .ref gr) (C := RX2) (T := TX2) (N := 11) hx hb hts inn_X2_next_X2 hown hK hP 0 rfl rfl 1 (by decide) (hts (.fieldLink RX2 7 "SelfEndingCodesModel" "row" "[I") (by decide +kernel)) (fun _ h9 => h9) rfl dX2_next_29 ?_
    refine lv_aload_n hx hb dX2_next_32 rfl (lv_at hl 0 rfl) ?_
    refine va_get (D := (dC, dI)) (ci := 2) (v := .int (fr + (1 : Int32))) (C := RX2) (T := TX2) (N := 11) hx hb hts inn_X2_next_X2 hown hK hP 0 rfl rfl 9 (by decide) (hts (.fieldLink RX2 89 "SelfEndingCodesModel" "from" "I") (by decide +kernel)) (fun _ h9 => h9) rfl dX2_next_33 ?_
    refine lv_iconst (v := (1 : Int32)) hx hb dX2_next_36 (by decide) ?_
    refine lv_isub hx hb dX2_next_37 ?_
    obtain ⟨hin, hj⟩ := ja_ix hj
    refine va_iald hx hb hK hP 1 0 rfl rfl hin dX2_next_38 ?_
    have hr9 : (rw ((fr + (1 : Int32)) - (1 : Int32)).toNatClampNeg, fr + (1 : Int32), no) = r := Option.some.inj hj
    subst hr9
    exact W.iret (v := rw ((fr + (1 : Int32)) - (1 : Int32)).toNatClampNeg) hx hb hr (fun t ht hW => ⟨⟨rw ((fr + (1 : Int32)) - (1 : Int32)).toNatClampNeg, (), rfl, rfl, by rw [ht]; exact hP, va_K.moved hW.alike hK, hD⟩, hS.F ht⟩) hS.2.2 dX2_next_39
  · replace hj := ja_neg c1 hj
    refine lv_aload_n hx hb dX2_next_11 rfl (lv_at hl 0 rfl) ?_
    refine lv_iconst (v := (1 : Int32)) hx hb dX2_next_12 (by decide) ?_
    refine va_put (D := (dC, dI)) (ci := 2) (v := .int (1 : Int32)) (ty := .boolean) (C := RX2) (T := TX2) (N := 11) hx hb hts inn_X2_next_X2 tyX2 tyX2_ok nmX2 hown hK hP hD hS 0 rfl rfl 10 (by decide) (hts (.fieldLink RX2 92 "SelfEndingCodesModel" "none" "Z") (by decide +kernel)) (fun _ h9 => h9) rfl (by decide +kernel) (by decide) (by decide) (Nat.le_of_ble_eq_true rfl) dX2_next_13 (fun H locs hP hD hS => ?_)
    have hP : va_P (dC, dI) vwCl (wM cI cJ g0 gr gl gw gs th rw mn at_ ml md_l wd md sm fr (1 : Int32)) H := hP
    have hD : va_D A (wM cI cJ g0 gr gl gw gs th rw mn at_ ml md_l wd md sm fr (1 : Int32)) := hD
    refine lv_iconst (v := (0 : Int32)) hx hb dX2_next_16 (by decide) ?_
    have hr9 : ((0 : Int32), fr, (1 : Int32)) = r := Option.some.inj hj
    subst hr9
    exact W.iret (v := (0 : Int32)) hx hb hr (fun t ht hW => ⟨⟨(0 : Int32), (), rfl, rfl, by rw [ht]; exact hP, va_K.moved hW.alike hK, hD⟩, hS.F ht⟩) hS.2.2 dX2_next_17

set_option maxRecDepth 100000 in
theorem inn_X2_some_X2 : ∀ w ∈ u_ws RX2 TX2 11, w ∈ wsX2_some := by decide +kernel
def jL_X2_some_16 (rw : Nat → Int32) (mn : Int32) (x1 : Int32) : Nat → Int64 → Int32 → Int32 → Int32 → Option (Int64 × Int32 × Int32)
  | 0, _, _, _, _ => none
  | n + 1, x2, x4, fr, no => if x1 ≤ x4 then (some (x2, fr, no)) else (if no = (0 : Int32) then ((j_X2_next rw mn fr no).bind fun (v1603, v1604, v1605) => (jL_X2_some_16 rw mn x1 n (((2 : Int64) * x2) + v1603.toInt64) (x4 + (1 : Int32)) v1604 v1605)) else (some (x2, fr, no)))
set_option maxHeartbeats 4000000 in
set_option maxRecDepth 100000 in
theorem s_X2_some_16 {p : Program} {l : Launch} {e : Env} {s : State} {m : MethodId} {args : Array Value} {below : List Frame} {meth : Method} {c : Code} {dC : Nat → ClassId} {dI : Nat → Nat → Nat} {cI cJ : ClassId} {A : Nat → Prop} (C0 : jCx p s m args meth c RX2 cX2_some 5 (some .long) wsX2_some) (hK : va_K (dC, dI) vwCl (jTy cI cJ) s) (hA : ∀ q : Nat, s.heap.size ≤ q → A q) (g0 : Nat) (gr : Nat) (gl : Nat) (gw : Nat) (gs : Nat) (th : Int32) (rw : Nat → Int32) (mn : Int32) (at_ : Int32) (ml : Nat → Int64) (md_l : Int32) (wd : Nat → Int32) (md : Int32) (sm : Nat → Int64) (x1 : Int32) :
    ∀ (n : Nat) (x2 : Int64) (x4 : Int32) (fr : Int32) (no : Int32) (r : Int64 × Int32 × Int32), jL_X2_some_16 rw mn x1 n x2 x4 fr no = some r → ∀ (H : Heap) (locs : List Loc) (ls : Array Slot), va_P (dC, dI) vwCl (wM cI cJ g0 gr gl gw gs th rw mn at_ ml md_l wd md sm fr no) H → va_D A (wM cI cJ g0 gr gl gw gs th rw mn at_ ml md_l wd md sm fr no) → va_S A s.heap H locs → lv_has ls 5 [(0, .ref g0), (1, .int x1), (2, .long x2), (4, .int x4)] → W p l e ({ frames := 1, cells := 0, slots := 0, locals := 20 } : Room) s m args below meth c H locs 0 0 (MQ below (va_Ql (fun (v : Int64) (_ : Unit) => v = r.1) (fun (_ : Unit) t => jPo dC dI cI cJ (wM cI cJ g0 gr gl gw gs th rw mn at_ ml md_l wd md sm r.2.1 r.2.2) A t) A) args s 0 0 A) (F0 m 16 ls []) := by
  obtain ⟨hx, hb, hr, hml, hown, hts, hlocks⟩ := id C0
  intro n
  induction n with
  | zero =>
    intro x2 x4 fr no r hj
    exact nomatch (show (none : Option (Int64 × Int32 × Int32)) = some r from hj)
  | succ n ih =>
    intro x2 x4 fr no r hj H locs ls hP hD hS hl
    replace hj : (if x1 ≤ x4 then (some (x2, fr, no)) else (if no = (0 : Int32) then ((j_X2_next rw mn fr no).bind fun (v1603, v1604, v1605) => (jL_X2_some_16 rw mn x1 n (((2 : Int64) * x2) + v1603.toInt64) (x4 + (1 : Int32)) v1604 v1605)) else (some (x2, fr, no)))) = some r := hj
    refine lv_iload hx hb dX2_some_16 (lv_at hl 3 rfl) ?_
    refine lv_iload_n hx hb dX2_some_18 rfl (lv_at hl 1 rfl) ?_
    refine lv_icmp_ge (tgt := 47) hx hb dX2_some_19 (by decide) (fun c1601 => ?_) (fun c1601 => ?_)
    · replace hj := ja_pos c1601 hj
      refine lv_lload_n hx hb dX2_some_47 rfl (lv_at hl 2 rfl) ?_
      have hr9 : (x2, fr, no) = r := Option.some.inj hj
      subst hr9
      exact W.lret (v := x2) hx hb hr (fun t ht hW => ⟨⟨x2, (), rfl, rfl, by rw [ht]; exact hP, va_K.moved hW.alike hK, hD⟩, hS.F ht⟩) hS.2.2 dX2_some_48
    · replace hj := ja_neg c1601 hj
      refine lv_aload_n hx hb dX2_some_22 rfl (lv_at hl 0 rfl) ?_
      refine va_get (D := (dC, dI)) (ci := 2) (v := .int no) (C := RX2) (T := TX2) (N := 11) hx hb hts inn_X2_some_X2 hown hK hP 0 rfl rfl 10 (by decide) (hts (.fieldLink RX2 92 "SelfEndingCodesModel" "none" "Z") (by decide +kernel)) (fun _ h9 => h9) rfl dX2_some_23 ?_
      refine lv_if_ne (tgt := 47) hx hb dX2_some_26 (by decide) (fun c1602 => ?_) (fun c1602 => ?_)
      · replace hj := ja_neg c1602 hj
        refine lv_lload_n hx hb dX2_some_47 rfl (lv_at hl 2 rfl) ?_
        have hr9 : (x2, fr, no) = r := Option.some.inj hj
        subst hr9
        exact W.lret (v := x2) hx hb hr (fun t ht hW => ⟨⟨x2, (), rfl, rfl, by rw [ht]; exact hP, va_K.moved hW.alike hK, hD⟩, hS.F ht⟩) hS.2.2 dX2_some_48
      · replace hj := ja_pos c1602 hj
        refine lv_ldc2 (v := (2 : Int64)) hx hb hown (hts (.constantLong RX2 23 (2)) (by decide +kernel)) dX2_some_29 ?_
        refine lv_lload_n hx hb dX2_some_32 rfl (lv_at hl 2 rfl) ?_
        refine lv_lmul hx hb dX2_some_33 ?_
        refine lv_aload_n hx hb dX2_some_34 rfl (lv_at hl 0 rfl) ?_
        obtain ⟨⟨v1603, v1604, v1605⟩, hc, hj⟩ := ja_bd hj
        try dsimp only at hj
        have hPc := hP.sub (ws' := (wM cI cJ g0 gr gl gw gs th rw mn at_ ml md_l wd md sm fr no)) [0, 1, 2, 3, 4] rfl
        have hDc := hD.sub (ws' := (wM cI cJ g0 gr gl gw gs th rw mn at_ ml md_l wd md sm fr no)) [0, 1, 2, 3, 4] (by decide) rfl
        have hFc := va_free (wc := (wM cI cJ g0 gr gl gw gs th rw mn at_ ml md_l wd md sm fr no)) hD hS hA [0, 1, 2, 3, 4] rfl
        refine va_calli (va_runV (As := []) (rest := [.long ((2 : Int64) * x2)]) ⟨hx, hb, hml, hown, hts⟩ (c_X2_next l dC dI cI cJ g0 gr gl gw gs H.size th rw mn at_ ml md_l wd md sm fr no _ hc) (cwV 0 hts gX2_some_X2_next rfl rfl rfl (by decide +kernel) ⟨Nat.le_of_ble_eq_true rfl, Nat.le_of_ble_eq_true rfl⟩) ⟨fun a U g mk q => ⟨q.1, jPr.blind q.2⟩, va_recv hK hPc (ci := 2) (q0 := 0) rfl rfl, fun U hU hW => ⟨rfl, jPr.mk hU hW hPc hK hDc⟩⟩ rfl rfl hl.1 rfl (lv_room (Nat.le_of_ble_eq_true rfl)) dX2_some_35 ⟨Nat.le_of_ble_eq_true rfl, Nat.le_of_ble_eq_true rfl⟩) hS (fun q _ h => hFc q h) hFc (fun rr u t H1 locs ht hvm hw9 hB hz1 hk1 hS => ?_)
        have hw8 : v1603 = rr := hw9.symm
        subst hw8
        obtain ⟨hP1, hK1, hD1⟩ := hB
        rw [ht] at hP1
        obtain ⟨hP, hD⟩ := va_join (wr := ([] : va_W)) (w1 := (wM cI cJ g0 gr gl gw gs th rw mn at_ ml md_l wd md sm v1604 v1605)) hP hD [0, 1, 2, 3, 4] [] rfl rfl (by decide) (by decide) hk1 hFc hP1 hD1
        clear hk1 hP1 hK1 hD1 hvm hz1 hPc hDc hFc
        generalize H1 = H at hP hS ⊢
        have hP : va_P (dC, dI) vwCl (wM cI cJ g0 gr gl gw gs th rw mn at_ ml md_l wd md sm v1604 v1605) H := hP
        have hD : va_D A (wM cI cJ g0 gr gl gw gs th rw mn at_ ml md_l wd md sm v1604 v1605) := hD
        refine lv_i2l hx hb dX2_some_38 rfl ?_
        refine lv_ladd hx hb dX2_some_39 ?_
        refine lv_lstore_n (lv' := [(2, .long (((2 : Int64) * x2) + v1603.toInt64)), (0, .ref g0), (1, .int x1), (4, .int x4)]) hx hb dX2_some_40 rfl hl (by decide) rfl (fun ls hl => ?_)
        refine lv_iinc (v := x4 + (1 : Int32)) (lv' := [(4, .int (x4 + (1 : Int32))), (2, .long (((2 : Int64) * x2) + v1603.toInt64)), (0, .ref g0), (1, .int x1)]) hx hb dX2_some_41 hl (k := 3) rfl (congrArg (fun z => x4 + z) (by decide)) (by decide) rfl (fun ls hl => ?_)
        refine lv_goto (tgt := 16) hx hb dX2_some_44 (by decide) ?_
        exact ih (((2 : Int64) * x2) + v1603.toInt64) (x4 + (1 : Int32)) v1604 v1605 _ hj _ _ _ (hP) (hD) hS (lv_sub hl [2, 3, 1, 0] rfl)
def j_X2_some (rw : Nat → Int32) (mn : Int32) (fr : Int32) (no : Int32) (a1 : Int32) : Option (Int64 × Int32 × Int32) :=
  if a1 ≤ (63 : Int32) then (jL_X2_some_16 rw mn a1 jF (0 : Int64) (0 : Int32) fr no) else (jL_X2_some_16 rw mn a1 jF (0 : Int64) (0 : Int32) fr (1 : Int32))
set_option maxHeartbeats 4000000 in
set_option maxRecDepth 100000 in
theorem c_X2_some (l : Launch) (dC : Nat → ClassId) (dI : Nat → Nat → Nat) (cI cJ : ClassId) (g0 : Nat) (gr : Nat) (gl : Nat) (gw : Nat) (gs : Nat) (sz : Nat) (th : Int32) (rw : Nat → Int32) (mn : Int32) (at_ : Int32) (ml : Nat → Int64) (md_l : Int32) (wd : Nat → Int32) (md : Int32) (sm : Nat → Int64) (fr : Int32) (no : Int32) (a1 : Int32) (r : Int64 × Int32 × Int32) (hj : j_X2_some rw mn fr no a1 = some r) : Met l yX2_some wsX2_some ({ frames := 1, cells := 0, slots := 0, locals := 20 } : Room) (va_Pc [.ref g0, .int a1] (fun U => jPr dC dI cI cJ (wM cI cJ g0 gr gl gw gs th rw mn at_ ml md_l wd md sm fr no) sz U)) (va_Ql (fun (v : Int64) (_ : Unit) => v = r.1) (fun (_ : Unit) t => jPo dC dI cI cJ (wM cI cJ g0 gr gl gw gs th rw mn at_ ml md_l wd md sm r.2.1 r.2.2) (va_A (wM cI cJ g0 gr gl gw gs th rw mn at_ ml md_l wd md sm fr no) sz) t) (va_A (wM cI cJ g0 gr gl gw gs th rw mn at_ ml md_l wd md sm fr no) sz)) 0 0 (va_A (wM cI cJ g0 gr gl gw gs th rw mn at_ ml md_l wd md sm fr no) sz) := by
  refine Met.ofW (cc := cX2_some) (maxL := 5) (ret := (some .long)) (by decide) rfl ?_
  intro p e s m args below meth c s₁ B hml hv
  obtain ⟨rfl, ⟨hsz, hP, hK, hD0⟩⟩ := hv
  have hx := B.exec
  have hb := B.bytes
  have hr := B.returns
  have hts := atoms_spec (ws := wsX2_some) B.pre
  have hown : s.vm.findClass RX2 = some m.cls := findClass_of_methodNamed B.named
  have hlocks := B.notSynchronized
  have C0 := jCx.of hx hb hr hml hown hts hlocks
  subst hsz
  have hD := hD0.self (sz := s.heap.size)
  generalize hAe : va_A (wM cI cJ g0 gr gl gw gs th rw mn at_ ml md_l wd md sm fr no) s.heap.size = A at hD ⊢
  have hA : ∀ q : Nat, s.heap.size ≤ q → A q := fun q h => by rw [← hAe]; exact Or.inr h
  have hS : va_S A s.heap s.heap [] := va_S.rf
  have hP : va_P (dC, dI) vwCl (wM cI cJ g0 gr gl gw gs th rw mn at_ ml md_l wd md sm fr no) s.heap := hP
  have hl := lv_entry ([.ref g0, .int a1]) (n := 5) (Nat.le_of_ble_eq_true rfl)
  rw [lg_entry_eq]
  generalize (lg_sl ([.ref g0, .int a1]) ++ List.replicate (5 - (lg_sl ([.ref g0, .int a1])).length) Slot.unset).toArray = ls at hl ⊢
  have hl : lv_has ls 5 [(0, .ref g0), (1, .int a1)] := hl
  clear hD0 hAe
  unfold j_X2_some at hj
  refine lv_iload_n hx hb dX2_some_0 rfl (lv_at hl 1 rfl) ?_
  refine lv_bipush (v := (63 : Int32)) hx hb dX2_some_1 (by decide) ?_
  refine lv_icmp_le (tgt := 11) hx hb dX2_some_3 (by decide) (fun c1 => ?_) (fun c1 => ?_)
  · replace hj := ja_pos c1 hj
    refine lv_lconst (v := (0 : Int64)) hx hb dX2_some_11 (by decide) ?_
    refine lv_lstore_n (lv' := [(2, .long (0 : Int64)), (0, .ref g0), (1, .int a1)]) hx hb dX2_some_12 rfl hl (by decide) rfl (fun ls hl => ?_)
    refine lv_iconst (v := (0 : Int32)) hx hb dX2_some_13 (by decide) ?_
    refine lv_istore (lv' := [(4, .int (0 : Int32)), (2, .long (0 : Int64)), (0, .ref g0), (1, .int a1)]) hx hb dX2_some_14 hl (by decide) rfl (fun ls hl => ?_)
    exact s_X2_some_16 C0 hK hA g0 gr gl gw gs th rw mn at_ ml md_l wd md sm a1 jF (0 : Int64) (0 : Int32) fr no _ hj _ _ _ (hP) (hD) hS (lv_sub hl [2, 3, 1, 0] rfl)
  · replace hj := ja_neg c1 hj
    refine lv_aload_n hx hb dX2_some_6 rfl (lv_at hl 0 rfl) ?_
    refine lv_iconst (v := (1 : Int32)) hx hb dX2_some_7 (by decide) ?_
    refine va_put (D := (dC, dI)) (ci := 2) (v := .int (1 : Int32)) (ty := .boolean) (C := RX2) (T := TX2) (N := 11) hx hb hts inn_X2_some_X2 tyX2 tyX2_ok nmX2 hown hK hP hD hS 0 rfl rfl 10 (by decide) (hts (.fieldLink RX2 92 "SelfEndingCodesModel" "none" "Z") (by decide +kernel)) (fun _ h9 => h9) rfl (by decide +kernel) (by decide) (by decide) (Nat.le_of_ble_eq_true rfl) dX2_some_8 (fun H locs hP hD hS => ?_)
    have hP : va_P (dC, dI) vwCl (wM cI cJ g0 gr gl gw gs th rw mn at_ ml md_l wd md sm fr (1 : Int32)) H := hP
    have hD : va_D A (wM cI cJ g0 gr gl gw gs th rw mn at_ ml md_l wd md sm fr (1 : Int32)) := hD
    refine lv_lconst (v := (0 : Int64)) hx hb dX2_some_11 (by decide) ?_
    refine lv_lstore_n (lv' := [(2, .long (0 : Int64)), (0, .ref g0), (1, .int a1)]) hx hb dX2_some_12 rfl hl (by decide) rfl (fun ls hl => ?_)
    refine lv_iconst (v := (0 : Int32)) hx hb dX2_some_13 (by decide) ?_
    refine lv_istore (lv' := [(4, .int (0 : Int32)), (2, .long (0 : Int64)), (0, .ref g0), (1, .int a1)]) hx hb dX2_some_14 hl (by decide) rfl (fun ls hl => ?_)
    exact s_X2_some_16 C0 hK hA g0 gr gl gw gs th rw mn at_ ml md_l wd md sm a1 jF (0 : Int64) (0 : Int32) fr (1 : Int32) _ hj _ _ _ (hP) (hD) hS (lv_sub hl [2, 3, 1, 0] rfl)

set_option maxRecDepth 100000 in
theorem inn_X2_readChain_X2 : ∀ w ∈ u_ws RX2 TX2 11, w ∈ wsX2_readChain := by decide +kernel
def jL_X2_readChain_2 (rw : Nat → Int32) (mn : Int32) : Nat → Int64 → Int32 → Int32 → Option (Int64 × Int32 × Int32)
  | 0, _, _, _ => none
  | n + 1, x1, fr, no => if no = (0 : Int32) then ((j_X2_next rw mn fr no).bind fun (v202, v203, v204) => (if v202 = (1 : Int32) then (if x1 ≤ (62 : Int64) then ((j_X2_some rw mn v203 v204 x1.toInt32).bind fun (v207, v208, v209) => (if v209 = (0 : Int32) then (jL_X2_readChain_2 rw mn n (((1 : Int64) <<< (x1.toInt32.toInt64 &&& 63)) + v207) v208 v209) else (jL_X2_readChain_2 rw mn n (0 : Int64) v208 v209))) else (jL_X2_readChain_2 rw mn n x1 v203 (1 : Int32))) else (some (x1, v203, v204)))) else (some (x1, fr, no))
set_option maxHeartbeats 4000000 in
set_option maxRecDepth 100000 in
theorem s_X2_readChain_2 {p : Program} {l : Launch} {e : Env} {s : State} {m : MethodId} {args : Array Value} {below : List Frame} {meth : Method} {c : Code} {dC : Nat → ClassId} {dI : Nat → Nat → Nat} {cI cJ : ClassId} {A : Nat → Prop} (C0 : jCx p s m args meth c RX2 cX2_readChain 5 (some .long) wsX2_readChain) (hK : va_K (dC, dI) vwCl (jTy cI cJ) s) (hA : ∀ q : Nat, s.heap.size ≤ q → A q) (g0 : Nat) (gr : Nat) (gl : Nat) (gw : Nat) (gs : Nat) (th : Int32) (rw : Nat → Int32) (mn : Int32) (at_ : Int32) (ml : Nat → Int64) (md_l : Int32) (wd : Nat → Int32) (md : Int32) (sm : Nat → Int64) :
    ∀ (n : Nat) (x1 : Int64) (fr : Int32) (no : Int32) (r : Int64 × Int32 × Int32), jL_X2_readChain_2 rw mn n x1 fr no = some r → ∀ (H : Heap) (locs : List Loc) (ls : Array Slot), va_P (dC, dI) vwCl (wM cI cJ g0 gr gl gw gs th rw mn at_ ml md_l wd md sm fr no) H → va_D A (wM cI cJ g0 gr gl gw gs th rw mn at_ ml md_l wd md sm fr no) → va_S A s.heap H locs → lv_has ls 5 [(0, .ref g0), (1, .long x1)] → W p l e ({ frames := 2, cells := 0, slots := 0, locals := 44 } : Room) s m args below meth c H locs 0 0 (MQ below (va_Ql (fun (v : Int64) (_ : Unit) => v = r.1) (fun (_ : Unit) t => jPo dC dI cI cJ (wM cI cJ g0 gr gl gw gs th rw mn at_ ml md_l wd md sm r.2.1 r.2.2) A t) A) args s 0 0 A) (F0 m 2 ls []) := by
  obtain ⟨hx, hb, hr, hml, hown, hts, hlocks⟩ := id C0
  intro n
  induction n with
  | zero =>
    intro x1 fr no r hj
    exact nomatch (show (none : Option (Int64 × Int32 × Int32)) = some r from hj)
  | succ n ih =>
    intro x1 fr no r hj H locs ls hP hD hS hl
    replace hj : (if no = (0 : Int32) then ((j_X2_next rw mn fr no).bind fun (v202, v203, v204) => (if v202 = (1 : Int32) then (if x1 ≤ (62 : Int64) then ((j_X2_some rw mn v203 v204 x1.toInt32).bind fun (v207, v208, v209) => (if v209 = (0 : Int32) then (jL_X2_readChain_2 rw mn n (((1 : Int64) <<< (x1.toInt32.toInt64 &&& 63)) + v207) v208 v209) else (jL_X2_readChain_2 rw mn n (0 : Int64) v208 v209))) else (jL_X2_readChain_2 rw mn n x1 v203 (1 : Int32))) else (some (x1, v203, v204)))) else (some (x1, fr, no))) = some r := hj
    refine lv_aload_n hx hb dX2_readChain_2 rfl (lv_at hl 0 rfl) ?_
    refine va_get (D := (dC, dI)) (ci := 2) (v := .int no) (C := RX2) (T := TX2) (N := 11) hx hb hts inn_X2_readChain_X2 hown hK hP 0 rfl rfl 10 (by decide) (hts (.fieldLink RX2 92 "SelfEndingCodesModel" "none" "Z") (by decide +kernel)) (fun _ h9 => h9) rfl dX2_readChain_3 ?_
    refine lv_if_ne (tgt := 61) hx hb dX2_readChain_6 (by decide) (fun c201 => ?_) (fun c201 => ?_)
    · replace hj := ja_neg c201 hj
      refine lv_lload_n hx hb dX2_readChain_61 rfl (lv_at hl 1 rfl) ?_
      have hr9 : (x1, fr, no) = r := Option.some.inj hj
      subst hr9
      exact W.lret (v := x1) hx hb hr (fun t ht hW => ⟨⟨x1, (), rfl, rfl, by rw [ht]; exact hP, va_K.moved hW.alike hK, hD⟩, hS.F ht⟩) hS.2.2 dX2_readChain_62
    · replace hj := ja_pos c201 hj
      refine lv_aload_n hx hb dX2_readChain_9 rfl (lv_at hl 0 rfl) ?_
      obtain ⟨⟨v202, v203, v204⟩, hc, hj⟩ := ja_bd hj
      try dsimp only at hj
      have hPc := hP.sub (ws' := (wM cI cJ g0 gr gl gw gs th rw mn at_ ml md_l wd md sm fr no)) [0, 1, 2, 3, 4] rfl
      have hDc := hD.sub (ws' := (wM cI cJ g0 gr gl gw gs th rw mn at_ ml md_l wd md sm fr no)) [0, 1, 2, 3, 4] (by decide) rfl
      have hFc := va_free (wc := (wM cI cJ g0 gr gl gw gs th rw mn at_ ml md_l wd md sm fr no)) hD hS hA [0, 1, 2, 3, 4] rfl
      refine va_calli (va_runV (As := []) (rest := []) ⟨hx, hb, hml, hown, hts⟩ (c_X2_next l dC dI cI cJ g0 gr gl gw gs H.size th rw mn at_ ml md_l wd md sm fr no _ hc) (cwV 0 hts gX2_readChain_X2_next rfl rfl rfl (by decide +kernel) ⟨Nat.le_of_ble_eq_true rfl, Nat.le_of_ble_eq_true rfl⟩) ⟨fun a U g mk q => ⟨q.1, jPr.blind q.2⟩, va_recv hK hPc (ci := 2) (q0 := 0) rfl rfl, fun U hU hW => ⟨rfl, jPr.mk hU hW hPc hK hDc⟩⟩ rfl rfl hl.1 rfl (lv_room (Nat.le_of_ble_eq_true rfl)) dX2_readChain_10 ⟨Nat.le_of_ble_eq_true rfl, Nat.le_of_ble_eq_true rfl⟩) hS (fun q _ h => hFc q h) hFc (fun rr u t H1 locs ht hvm hw9 hB hz1 hk1 hS => ?_)
      have hw8 : v202 = rr := hw9.symm
      subst hw8
      obtain ⟨hP1, hK1, hD1⟩ := hB
      rw [ht] at hP1
      obtain ⟨hP, hD⟩ := va_join (wr := ([] : va_W)) (w1 := (wM cI cJ g0 gr gl gw gs th rw mn at_ ml md_l wd md sm v203 v204)) hP hD [0, 1, 2, 3, 4] [] rfl rfl (by decide) (by decide) hk1 hFc hP1 hD1
      clear hk1 hP1 hK1 hD1 hvm hz1 hPc hDc hFc
      generalize H1 = H at hP hS ⊢
      have hP : va_P (dC, dI) vwCl (wM cI cJ g0 gr gl gw gs th rw mn at_ ml md_l wd md sm v203 v204) H := hP
      have hD : va_D A (wM cI cJ g0 gr gl gw gs th rw mn at_ ml md_l wd md sm v203 v204) := hD
      refine lv_iconst (v := (1 : Int32)) hx hb dX2_readChain_13 (by decide) ?_
      refine lv_icmp_ne (tgt := 61) hx hb dX2_readChain_14 (by decide) (fun c205 => ?_) (fun c205 => ?_)
      · replace hj := ja_neg c205 hj
        refine lv_lload_n hx hb dX2_readChain_61 rfl (lv_at hl 1 rfl) ?_
        have hr9 : (x1, v203, v204) = r := Option.some.inj hj
        subst hr9
        exact W.lret (v := x1) hx hb hr (fun t ht hW => ⟨⟨x1, (), rfl, rfl, by rw [ht]; exact hP, va_K.moved hW.alike hK, hD⟩, hS.F ht⟩) hS.2.2 dX2_readChain_62
      · replace hj := ja_pos c205 hj
        refine lv_lload_n hx hb dX2_readChain_17 rfl (lv_at hl 1 rfl) ?_
        refine lv_ldc2 (v := (62 : Int64)) hx hb hown (hts (.constantLong RX2 107 (62)) (by decide +kernel)) dX2_readChain_18 ?_
        refine W.lcmp hx hb dX2_readChain_21 ?_
        refine lv_if_le (tgt := 33) hx hb dX2_readChain_22 (by decide) (fun c206 => ?_) (fun c206 => ?_)
        · replace hj := ja_pos ((lg_cmp_le x1 (62 : Int64)).mp c206) hj
          refine lv_aload_n hx hb dX2_readChain_33 rfl (lv_at hl 0 rfl) ?_
          refine lv_lload_n hx hb dX2_readChain_34 rfl (lv_at hl 1 rfl) ?_
          refine lv_l2i hx hb dX2_readChain_35 rfl ?_
          obtain ⟨⟨v207, v208, v209⟩, hc, hj⟩ := ja_bd hj
          try dsimp only at hj
          have hPc := hP.sub (ws' := (wM cI cJ g0 gr gl gw gs th rw mn at_ ml md_l wd md sm v203 v204)) [0, 1, 2, 3, 4] rfl
          have hDc := hD.sub (ws' := (wM cI cJ g0 gr gl gw gs th rw mn at_ ml md_l wd md sm v203 v204)) [0, 1, 2, 3, 4] (by decide) rfl
          have hFc := va_free (wc := (wM cI cJ g0 gr gl gw gs th rw mn at_ ml md_l wd md sm v203 v204)) hD hS hA [0, 1, 2, 3, 4] rfl
          refine va_calll (va_runV (As := [.int x1.toInt32]) (rest := []) ⟨hx, hb, hml, hown, hts⟩ (c_X2_some l dC dI cI cJ g0 gr gl gw gs H.size th rw mn at_ ml md_l wd md sm v203 v204 x1.toInt32 _ hc) (cwV 1 hts gX2_readChain_X2_some rfl rfl rfl (by decide +kernel) ⟨Nat.le_of_ble_eq_true rfl, Nat.le_of_ble_eq_true rfl⟩) ⟨fun a U g mk q => ⟨q.1, jPr.blind q.2⟩, va_recv hK hPc (ci := 2) (q0 := 0) rfl rfl, fun U hU hW => ⟨rfl, jPr.mk hU hW hPc hK hDc⟩⟩ rfl rfl hl.1 rfl (lv_room (Nat.le_of_ble_eq_true rfl)) dX2_readChain_36 ⟨Nat.le_of_ble_eq_true rfl, Nat.le_of_ble_eq_true rfl⟩) hS (fun q _ h => hFc q h) hFc (fun rr u t H1 locs ht hvm hw9 hB hz1 hk1 hS => ?_)
          have hw8 : v207 = rr := hw9.symm
          subst hw8
          obtain ⟨hP1, hK1, hD1⟩ := hB
          rw [ht] at hP1
          obtain ⟨hP, hD⟩ := va_join (wr := ([] : va_W)) (w1 := (wM cI cJ g0 gr gl gw gs th rw mn at_ ml md_l wd md sm v208 v209)) hP hD [0, 1, 2, 3, 4] [] rfl rfl (by decide) (by decide) hk1 hFc hP1 hD1
          clear hk1 hP1 hK1 hD1 hvm hz1 hPc hDc hFc
          generalize H1 = H at hP hS ⊢
          have hP : va_P (dC, dI) vwCl (wM cI cJ g0 gr gl gw gs th rw mn at_ ml md_l wd md sm v208 v209) H := hP
          have hD : va_D A (wM cI cJ g0 gr gl gw gs th rw mn at_ ml md_l wd md sm v208 v209) := hD
          refine lv_lstore_n (lv' := [(3, .long v207), (0, .ref g0), (1, .long x1)]) hx hb dX2_readChain_39 rfl hl (by decide) rfl (fun ls hl => ?_)
          refine lv_aload_n hx hb dX2_readChain_40 rfl (lv_at hl 1 rfl) ?_
          refine va_get (D := (dC, dI)) (ci := 2) (v := .int v209) (C := RX2) (T := TX2) (N := 11) hx hb hts inn_X2_readChain_X2 hown hK hP 0 rfl rfl 10 (by decide) (hts (.fieldLink RX2 92 "SelfEndingCodesModel" "none" "Z") (by decide +kernel)) (fun _ h9 => h9) rfl dX2_readChain_41 ?_
          refine lv_if_eq (tgt := 51) hx hb dX2_readChain_44 (by decide) (fun c210 => ?_) (fun c210 => ?_)
          · replace hj := ja_pos c210 hj
            refine lv_lconst (v := (1 : Int64)) hx hb dX2_readChain_51 (by decide) ?_
            refine lv_lload_n hx hb dX2_readChain_52 rfl (lv_at hl 2 rfl) ?_
            refine lv_l2i hx hb dX2_readChain_53 rfl ?_
            refine lv_lshl hx hb dX2_readChain_54 rfl ?_
            refine lv_lload_n hx hb dX2_readChain_55 rfl (lv_at hl 0 rfl) ?_
            refine lv_ladd hx hb dX2_readChain_56 ?_
            refine lv_lstore_n (lv' := [(1, .long (((1 : Int64) <<< (x1.toInt32.toInt64 &&& 63)) + v207)), (3, .long v207), (0, .ref g0)]) hx hb dX2_readChain_57 rfl hl (by decide) rfl (fun ls hl => ?_)
            refine lv_goto (tgt := 2) hx hb dX2_readChain_58 (by decide) ?_
            exact ih (((1 : Int64) <<< (x1.toInt32.toInt64 &&& 63)) + v207) v208 v209 _ hj _ _ _ (hP) (hD) hS (lv_sub hl [2, 0] rfl)
          · replace hj := ja_neg c210 hj
            refine lv_lconst (v := (0 : Int64)) hx hb dX2_readChain_47 (by decide) ?_
            refine lv_goto (tgt := 57) hx hb dX2_readChain_48 (by decide) ?_
            refine lv_lstore_n (lv' := [(1, .long (0 : Int64)), (3, .long v207), (0, .ref g0)]) hx hb dX2_readChain_57 rfl hl (by decide) rfl (fun ls hl => ?_)
            refine lv_goto (tgt := 2) hx hb dX2_readChain_58 (by decide) ?_
            exact ih (0 : Int64) v208 v209 _ hj _ _ _ (hP) (hD) hS (lv_sub hl [2, 0] rfl)
        · replace hj := ja_neg (fun h9 => c206 ((lg_cmp_le x1 (62 : Int64)).mpr h9)) hj
          refine lv_aload_n hx hb dX2_readChain_25 rfl (lv_at hl 0 rfl) ?_
          refine lv_iconst (v := (1 : Int32)) hx hb dX2_readChain_26 (by decide) ?_
          refine va_put (D := (dC, dI)) (ci := 2) (v := .int (1 : Int32)) (ty := .boolean) (C := RX2) (T := TX2) (N := 11) hx hb hts inn_X2_readChain_X2 tyX2 tyX2_ok nmX2 hown hK hP hD hS 0 rfl rfl 10 (by decide) (hts (.fieldLink RX2 92 "SelfEndingCodesModel" "none" "Z") (by decide +kernel)) (fun _ h9 => h9) rfl (by decide +kernel) (by decide) (by decide) (Nat.le_of_ble_eq_true rfl) dX2_readChain_27 (fun H locs hP hD hS => ?_)
          have hP : va_P (dC, dI) vwCl (wM cI cJ g0 gr gl gw gs th rw mn at_ ml md_l wd md sm v203 (1 : Int32)) H := hP
          have hD : va_D A (wM cI cJ g0 gr gl gw gs th rw mn at_ ml md_l wd md sm v203 (1 : Int32)) := hD
          refine lv_goto (tgt := 2) hx hb dX2_readChain_30 (by decide) ?_
          exact ih x1 v203 (1 : Int32) _ hj _ _ _ (hP) (hD) hS (lv_sub hl [0, 1] rfl)
def j_X2_readChain (rw : Nat → Int32) (mn : Int32) (fr : Int32) (no : Int32) : Option (Int64 × Int32 × Int32) :=
  jL_X2_readChain_2 rw mn jF (1 : Int64) fr no
set_option maxHeartbeats 4000000 in
set_option maxRecDepth 100000 in
theorem c_X2_readChain (l : Launch) (dC : Nat → ClassId) (dI : Nat → Nat → Nat) (cI cJ : ClassId) (g0 : Nat) (gr : Nat) (gl : Nat) (gw : Nat) (gs : Nat) (sz : Nat) (th : Int32) (rw : Nat → Int32) (mn : Int32) (at_ : Int32) (ml : Nat → Int64) (md_l : Int32) (wd : Nat → Int32) (md : Int32) (sm : Nat → Int64) (fr : Int32) (no : Int32) (r : Int64 × Int32 × Int32) (hj : j_X2_readChain rw mn fr no = some r) : Met l yX2_readChain wsX2_readChain ({ frames := 2, cells := 0, slots := 0, locals := 44 } : Room) (va_Pc [.ref g0] (fun U => jPr dC dI cI cJ (wM cI cJ g0 gr gl gw gs th rw mn at_ ml md_l wd md sm fr no) sz U)) (va_Ql (fun (v : Int64) (_ : Unit) => v = r.1) (fun (_ : Unit) t => jPo dC dI cI cJ (wM cI cJ g0 gr gl gw gs th rw mn at_ ml md_l wd md sm r.2.1 r.2.2) (va_A (wM cI cJ g0 gr gl gw gs th rw mn at_ ml md_l wd md sm fr no) sz) t) (va_A (wM cI cJ g0 gr gl gw gs th rw mn at_ ml md_l wd md sm fr no) sz)) 0 0 (va_A (wM cI cJ g0 gr gl gw gs th rw mn at_ ml md_l wd md sm fr no) sz) := by
  refine Met.ofW (cc := cX2_readChain) (maxL := 5) (ret := (some .long)) (by decide) rfl ?_
  intro p e s m args below meth c s₁ B hml hv
  obtain ⟨rfl, ⟨hsz, hP, hK, hD0⟩⟩ := hv
  have hx := B.exec
  have hb := B.bytes
  have hr := B.returns
  have hts := atoms_spec (ws := wsX2_readChain) B.pre
  have hown : s.vm.findClass RX2 = some m.cls := findClass_of_methodNamed B.named
  have hlocks := B.notSynchronized
  have C0 := jCx.of hx hb hr hml hown hts hlocks
  subst hsz
  have hD := hD0.self (sz := s.heap.size)
  generalize hAe : va_A (wM cI cJ g0 gr gl gw gs th rw mn at_ ml md_l wd md sm fr no) s.heap.size = A at hD ⊢
  have hA : ∀ q : Nat, s.heap.size ≤ q → A q := fun q h => by rw [← hAe]; exact Or.inr h
  have hS : va_S A s.heap s.heap [] := va_S.rf
  have hP : va_P (dC, dI) vwCl (wM cI cJ g0 gr gl gw gs th rw mn at_ ml md_l wd md sm fr no) s.heap := hP
  have hl := lv_entry ([.ref g0]) (n := 5) (Nat.le_of_ble_eq_true rfl)
  rw [lg_entry_eq]
  generalize (lg_sl ([.ref g0]) ++ List.replicate (5 - (lg_sl ([.ref g0])).length) Slot.unset).toArray = ls at hl ⊢
  have hl : lv_has ls 5 [(0, .ref g0)] := hl
  clear hD0 hAe
  unfold j_X2_readChain at hj
  refine lv_lconst (v := (1 : Int64)) hx hb dX2_readChain_0 (by decide) ?_
  refine lv_lstore_n (lv' := [(1, .long (1 : Int64)), (0, .ref g0)]) hx hb dX2_readChain_1 rfl hl (by decide) rfl (fun ls hl => ?_)
  exact s_X2_readChain_2 C0 hK hA g0 gr gl gw gs th rw mn at_ ml md_l wd md sm jF (1 : Int64) fr no _ hj _ _ _ (hP) (hD) hS (lv_sub hl [1, 0] rfl)

set_option maxRecDepth 100000 in
theorem inn_X2_run_X2 : ∀ w ∈ u_ws RX2 TX2 11, w ∈ wsX2_run := by decide +kernel
def jS_X2_run_49 (rw : Nat → Int32) (mn : Int32) (x2 : Int32) (fr : Int32) (no : Int32) : Option (Int32 × Int32 × Int32) :=
  if fr < mn then (some (x2, fr, no)) else (some (x2, fr, (1 : Int32)))
set_option maxHeartbeats 4000000 in
set_option maxRecDepth 100000 in
theorem s_X2_run_49 {p : Program} {l : Launch} {e : Env} {s : State} {m : MethodId} {args : Array Value} {below : List Frame} {meth : Method} {c : Code} {dC : Nat → ClassId} {dI : Nat → Nat → Nat} {cI cJ : ClassId} {A : Nat → Prop} (C0 : jCx p s m args meth c RX2 cX2_run 3 (some .int) wsX2_run) (hK : va_K (dC, dI) vwCl (jTy cI cJ) s) (hA : ∀ q : Nat, s.heap.size ≤ q → A q) (g0 : Nat) (gr : Nat) (gl : Nat) (gw : Nat) (gs : Nat) (th : Int32) (rw : Nat → Int32) (mn : Int32) (at_ : Int32) (ml : Nat → Int64) (md_l : Int32) (wd : Nat → Int32) (md : Int32) (sm : Nat → Int64) :
    ∀ (x2 : Int32) (fr : Int32) (no : Int32) (r : Int32 × Int32 × Int32), jS_X2_run_49 rw mn x2 fr no = some r → ∀ (H : Heap) (locs : List Loc) (ls : Array Slot), va_P (dC, dI) vwCl (wM cI cJ g0 gr gl gw gs th rw mn at_ ml md_l wd md sm fr no) H → va_D A (wM cI cJ g0 gr gl gw gs th rw mn at_ ml md_l wd md sm fr no) → va_S A s.heap H locs → lv_has ls 3 [(0, .ref g0), (2, .int x2)] → W p l e ({ frames := 0, cells := 0, slots := 0, locals := 0 } : Room) s m args below meth c H locs 0 0 (MQ below (va_Qi (fun (v : Int32) (_ : Unit) => v = r.1) (fun (_ : Unit) t => jPo dC dI cI cJ (wM cI cJ g0 gr gl gw gs th rw mn at_ ml md_l wd md sm r.2.1 r.2.2) A t) A) args s 0 0 A) (F0 m 49 ls []) := by
  obtain ⟨hx, hb, hr, hml, hown, hts, hlocks⟩ := id C0
  intro x2 fr no r hj H locs ls hP hD hS hl
  unfold jS_X2_run_49 at hj
  refine lv_aload_n hx hb dX2_run_49 rfl (lv_at hl 0 rfl) ?_
  refine va_get (D := (dC, dI)) (ci := 2) (v := .int fr) (C := RX2) (T := TX2) (N := 11) hx hb hts inn_X2_run_X2 hown hK hP 0 rfl rfl 9 (by decide) (hts (.fieldLink RX2 89 "SelfEndingCodesModel" "from" "I") (by decide +kernel)) (fun _ h9 => h9) rfl dX2_run_50 ?_
  refine lv_aload_n hx hb dX2_run_53 rfl (lv_at hl 0 rfl) ?_
  refine va_get (D := (dC, dI)) (ci := 2) (v := .int mn) (C := RX2) (T := TX2) (N := 11) hx hb hts inn_X2_run_X2 hown hK hP 0 rfl rfl 2 (by decide) (hts (.fieldLink RX2 82 "SelfEndingCodesModel" "many" "I") (by decide +kernel)) (fun _ h9 => h9) rfl dX2_run_54 ?_
  refine lv_icmp_lt (tgt := 65) hx hb dX2_run_57 (by decide) (fun c4901 => ?_) (fun c4901 => ?_)
  · replace hj := ja_pos c4901 hj
    refine lv_iload_n hx hb dX2_run_65 rfl (lv_at hl 1 rfl) ?_
    have hr9 : (x2, fr, no) = r := Option.some.inj hj
    subst hr9
    exact W.iret (v := x2) hx hb hr (fun t ht hW => ⟨⟨x2, (), rfl, rfl, by rw [ht]; exact hP, va_K.moved hW.alike hK, hD⟩, hS.F ht⟩) hS.2.2 dX2_run_66
  · replace hj := ja_neg c4901 hj
    refine lv_aload_n hx hb dX2_run_60 rfl (lv_at hl 0 rfl) ?_
    refine lv_iconst (v := (1 : Int32)) hx hb dX2_run_61 (by decide) ?_
    refine va_put (D := (dC, dI)) (ci := 2) (v := .int (1 : Int32)) (ty := .boolean) (C := RX2) (T := TX2) (N := 11) hx hb hts inn_X2_run_X2 tyX2 tyX2_ok nmX2 hown hK hP hD hS 0 rfl rfl 10 (by decide) (hts (.fieldLink RX2 92 "SelfEndingCodesModel" "none" "Z") (by decide +kernel)) (fun _ h9 => h9) rfl (by decide +kernel) (by decide) (by decide) (Nat.le_of_ble_eq_true rfl) dX2_run_62 (fun H locs hP hD hS => ?_)
    have hP : va_P (dC, dI) vwCl (wM cI cJ g0 gr gl gw gs th rw mn at_ ml md_l wd md sm fr (1 : Int32)) H := hP
    have hD : va_D A (wM cI cJ g0 gr gl gw gs th rw mn at_ ml md_l wd md sm fr (1 : Int32)) := hD
    refine lv_iload_n hx hb dX2_run_65 rfl (lv_at hl 1 rfl) ?_
    have hr9 : (x2, fr, (1 : Int32)) = r := Option.some.inj hj
    subst hr9
    exact W.iret (v := x2) hx hb hr (fun t ht hW => ⟨⟨x2, (), rfl, rfl, by rw [ht]; exact hP, va_K.moved hW.alike hK, hD⟩, hS.F ht⟩) hS.2.2 dX2_run_66
def jL_X2_run_2 (rw : Nat → Int32) (mn : Int32) (no : Int32) (x1 : Int32) : Nat → Int32 → Int32 → Option (Int32 × Int32 × Int32)
  | 0, _, _ => none
  | n + 1, x2, fr => if no = (0 : Int32) then (if mn ≤ fr then (jS_X2_run_49 rw mn x2 fr no) else (jix fr 4096 (if (rw fr.toNatClampNeg) = x1 then (jL_X2_run_2 rw mn no x1 n (x2 + (1 : Int32)) (fr + (1 : Int32))) else (jS_X2_run_49 rw mn x2 fr no)))) else (jS_X2_run_49 rw mn x2 fr no)
set_option maxHeartbeats 4000000 in
set_option maxRecDepth 100000 in
theorem s_X2_run_2 {p : Program} {l : Launch} {e : Env} {s : State} {m : MethodId} {args : Array Value} {below : List Frame} {meth : Method} {c : Code} {dC : Nat → ClassId} {dI : Nat → Nat → Nat} {cI cJ : ClassId} {A : Nat → Prop} (C0 : jCx p s m args meth c RX2 cX2_run 3 (some .int) wsX2_run) (hK : va_K (dC, dI) vwCl (jTy cI cJ) s) (hA : ∀ q : Nat, s.heap.size ≤ q → A q) (g0 : Nat) (gr : Nat) (gl : Nat) (gw : Nat) (gs : Nat) (th : Int32) (rw : Nat → Int32) (mn : Int32) (at_ : Int32) (ml : Nat → Int64) (md_l : Int32) (wd : Nat → Int32) (md : Int32) (sm : Nat → Int64) (no : Int32) (x1 : Int32) :
    ∀ (n : Nat) (x2 : Int32) (fr : Int32) (r : Int32 × Int32 × Int32), jL_X2_run_2 rw mn no x1 n x2 fr = some r → ∀ (H : Heap) (locs : List Loc) (ls : Array Slot), va_P (dC, dI) vwCl (wM cI cJ g0 gr gl gw gs th rw mn at_ ml md_l wd md sm fr no) H → va_D A (wM cI cJ g0 gr gl gw gs th rw mn at_ ml md_l wd md sm fr no) → va_S A s.heap H locs → lv_has ls 3 [(0, .ref g0), (1, .int x1), (2, .int x2)] → W p l e ({ frames := 0, cells := 0, slots := 0, locals := 0 } : Room) s m args below meth c H locs 0 0 (MQ below (va_Qi (fun (v : Int32) (_ : Unit) => v = r.1) (fun (_ : Unit) t => jPo dC dI cI cJ (wM cI cJ g0 gr gl gw gs th rw mn at_ ml md_l wd md sm r.2.1 r.2.2) A t) A) args s 0 0 A) (F0 m 2 ls []) := by
  obtain ⟨hx, hb, hr, hml, hown, hts, hlocks⟩ := id C0
  intro n
  induction n with
  | zero =>
    intro x2 fr r hj
    exact nomatch (show (none : Option (Int32 × Int32 × Int32)) = some r from hj)
  | succ n ih =>
    intro x2 fr r hj H locs ls hP hD hS hl
    replace hj : (if no = (0 : Int32) then (if mn ≤ fr then (jS_X2_run_49 rw mn x2 fr no) else (jix fr 4096 (if (rw fr.toNatClampNeg) = x1 then (jL_X2_run_2 rw mn no x1 n (x2 + (1 : Int32)) (fr + (1 : Int32))) else (jS_X2_run_49 rw mn x2 fr no)))) else (jS_X2_run_49 rw mn x2 fr no)) = some r := hj
    refine lv_aload_n hx hb dX2_run_2 rfl (lv_at hl 0 rfl) ?_
    refine va_get (D := (dC, dI)) (ci := 2) (v := .int no) (C := RX2) (T := TX2) (N := 11) hx hb hts inn_X2_run_X2 hown hK hP 0 rfl rfl 10 (by decide) (hts (.fieldLink RX2 92 "SelfEndingCodesModel" "none" "Z") (by decide +kernel)) (fun _ h9 => h9) rfl dX2_run_3 ?_
    refine lv_if_ne (tgt := 49) hx hb dX2_run_6 (by decide) (fun c201 => ?_) (fun c201 => ?_)
    · replace hj := ja_neg c201 hj
      exact s_X2_run_49 C0 hK hA g0 gr gl gw gs th rw mn at_ ml md_l wd md sm x2 fr no _ hj _ _ _ (hP) (hD) hS (lv_sub hl [0, 2] rfl)
    · replace hj := ja_pos c201 hj
      refine lv_aload_n hx hb dX2_run_9 rfl (lv_at hl 0 rfl) ?_
      refine va_get (D := (dC, dI)) (ci := 2) (v := .int fr) (C := RX2) (T := TX2) (N := 11) hx hb hts inn_X2_run_X2 hown hK hP 0 rfl rfl 9 (by decide) (hts (.fieldLink RX2 89 "SelfEndingCodesModel" "from" "I") (by decide +kernel)) (fun _ h9 => h9) rfl dX2_run_10 ?_
      refine lv_aload_n hx hb dX2_run_13 rfl (lv_at hl 0 rfl) ?_
      refine va_get (D := (dC, dI)) (ci := 2) (v := .int mn) (C := RX2) (T := TX2) (N := 11) hx hb hts inn_X2_run_X2 hown hK hP 0 rfl rfl 2 (by decide) (hts (.fieldLink RX2 82 "SelfEndingCodesModel" "many" "I") (by decide +kernel)) (fun _ h9 => h9) rfl dX2_run_14 ?_
      refine lv_icmp_ge (tgt := 49) hx hb dX2_run_17 (by decide) (fun c202 => ?_) (fun c202 => ?_)
      · replace hj := ja_pos c202 hj
        exact s_X2_run_49 C0 hK hA g0 gr gl gw gs th rw mn at_ ml md_l wd md sm x2 fr no _ hj _ _ _ (hP) (hD) hS (lv_sub hl [0, 2] rfl)
      · replace hj := ja_neg c202 hj
        refine lv_aload_n hx hb dX2_run_20 rfl (lv_at hl 0 rfl) ?_
        refine va_get (D := (dC, dI)) (ci := 2) (v := .ref gr) (C := RX2) (T := TX2) (N := 11) hx hb hts inn_X2_run_X2 hown hK hP 0 rfl rfl 1 (by decide) (hts (.fieldLink RX2 7 "SelfEndingCodesModel" "row" "[I") (by decide +kernel)) (fun _ h9 => h9) rfl dX2_run_21 ?_
        refine lv_aload_n hx hb dX2_run_24 rfl (lv_at hl 0 rfl) ?_
        refine va_get (D := (dC, dI)) (ci := 2) (v := .int fr) (C := RX2) (T := TX2) (N := 11) hx hb hts inn_X2_run_X2 hown hK hP 0 rfl rfl 9 (by decide) (hts (.fieldLink RX2 89 "SelfEndingCodesModel" "from" "I") (by decide +kernel)) (fun _ h9 => h9) rfl dX2_run_25 ?_
        obtain ⟨hin, hj⟩ := ja_ix hj
        refine va_iald hx hb hK hP 1 0 rfl rfl hin dX2_run_28 ?_
        refine lv_iload_n hx hb dX2_run_29 rfl (lv_at hl 1 rfl) ?_
        refine lv_icmp_ne (tgt := 49) hx hb dX2_run_30 (by decide) (fun c203 => ?_) (fun c203 => ?_)
        · replace hj := ja_neg c203 hj
          exact s_X2_run_49 C0 hK hA g0 gr gl gw gs th rw mn at_ ml md_l wd md sm x2 fr no _ hj _ _ _ (hP) (hD) hS (lv_sub hl [0, 2] rfl)
        · replace hj := ja_pos c203 hj
          refine lv_aload_n hx hb dX2_run_33 rfl (lv_at hl 0 rfl) ?_
          refine lv_dup hx hb dX2_run_34 rfl ?_
          refine va_get (D := (dC, dI)) (ci := 2) (v := .int fr) (C := RX2) (T := TX2) (N := 11) hx hb hts inn_X2_run_X2 hown hK hP 0 rfl rfl 9 (by decide) (hts (.fieldLink RX2 89 "SelfEndingCodesModel" "from" "I") (by decide +kernel)) (fun _ h9 => h9) rfl dX2_run_35 ?_
          refine lv_iconst (v := (1 : Int32)) hx hb dX2_run_38 (by decide) ?_
          refine lv_iadd hx hb dX2_run_39 ?_
          refine va_put (D := (dC, dI)) (ci := 2) (v := .int (fr + (1 : Int32))) (ty := .int) (C := RX2) (T := TX2) (N := 11) hx hb hts inn_X2_run_X2 tyX2 tyX2_ok nmX2 hown hK hP hD hS 0 rfl rfl 9 (by decide) (hts (.fieldLink RX2 89 "SelfEndingCodesModel" "from" "I") (by decide +kernel)) (fun _ h9 => h9) rfl (by decide +kernel) rfl rfl (Nat.le_of_ble_eq_true rfl) dX2_run_40 (fun H locs hP hD hS => ?_)
          have hP : va_P (dC, dI) vwCl (wM cI cJ g0 gr gl gw gs th rw mn at_ ml md_l wd md sm (fr + (1 : Int32)) no) H := hP
          have hD : va_D A (wM cI cJ g0 gr gl gw gs th rw mn at_ ml md_l wd md sm (fr + (1 : Int32)) no) := hD
          refine lv_iinc (v := x2 + (1 : Int32)) (lv' := [(2, .int (x2 + (1 : Int32))), (0, .ref g0), (1, .int x1)]) hx hb dX2_run_43 hl (k := 2) rfl (congrArg (fun z => x2 + z) (by decide)) (by decide) rfl (fun ls hl => ?_)
          refine lv_goto (tgt := 2) hx hb dX2_run_46 (by decide) ?_
          exact ih (x2 + (1 : Int32)) (fr + (1 : Int32)) _ hj _ _ _ (hP) (hD) hS (lv_sub hl [1, 2, 0] rfl)
def j_X2_run (rw : Nat → Int32) (mn : Int32) (fr : Int32) (no : Int32) (a1 : Int32) : Option (Int32 × Int32 × Int32) :=
  jL_X2_run_2 rw mn no a1 jF (0 : Int32) fr
set_option maxHeartbeats 4000000 in
set_option maxRecDepth 100000 in
theorem c_X2_run (l : Launch) (dC : Nat → ClassId) (dI : Nat → Nat → Nat) (cI cJ : ClassId) (g0 : Nat) (gr : Nat) (gl : Nat) (gw : Nat) (gs : Nat) (sz : Nat) (th : Int32) (rw : Nat → Int32) (mn : Int32) (at_ : Int32) (ml : Nat → Int64) (md_l : Int32) (wd : Nat → Int32) (md : Int32) (sm : Nat → Int64) (fr : Int32) (no : Int32) (a1 : Int32) (r : Int32 × Int32 × Int32) (hj : j_X2_run rw mn fr no a1 = some r) : Met l yX2_run wsX2_run ({ frames := 0, cells := 0, slots := 0, locals := 0 } : Room) (va_Pc [.ref g0, .int a1] (fun U => jPr dC dI cI cJ (wM cI cJ g0 gr gl gw gs th rw mn at_ ml md_l wd md sm fr no) sz U)) (va_Qi (fun (v : Int32) (_ : Unit) => v = r.1) (fun (_ : Unit) t => jPo dC dI cI cJ (wM cI cJ g0 gr gl gw gs th rw mn at_ ml md_l wd md sm r.2.1 r.2.2) (va_A (wM cI cJ g0 gr gl gw gs th rw mn at_ ml md_l wd md sm fr no) sz) t) (va_A (wM cI cJ g0 gr gl gw gs th rw mn at_ ml md_l wd md sm fr no) sz)) 0 0 (va_A (wM cI cJ g0 gr gl gw gs th rw mn at_ ml md_l wd md sm fr no) sz) := by
  refine Met.ofW (cc := cX2_run) (maxL := 3) (ret := (some .int)) (by decide) rfl ?_
  intro p e s m args below meth c s₁ B hml hv
  obtain ⟨rfl, ⟨hsz, hP, hK, hD0⟩⟩ := hv
  have hx := B.exec
  have hb := B.bytes
  have hr := B.returns
  have hts := atoms_spec (ws := wsX2_run) B.pre
  have hown : s.vm.findClass RX2 = some m.cls := findClass_of_methodNamed B.named
  have hlocks := B.notSynchronized
  have C0 := jCx.of hx hb hr hml hown hts hlocks
  subst hsz
  have hD := hD0.self (sz := s.heap.size)
  generalize hAe : va_A (wM cI cJ g0 gr gl gw gs th rw mn at_ ml md_l wd md sm fr no) s.heap.size = A at hD ⊢
  have hA : ∀ q : Nat, s.heap.size ≤ q → A q := fun q h => by rw [← hAe]; exact Or.inr h
  have hS : va_S A s.heap s.heap [] := va_S.rf
  have hP : va_P (dC, dI) vwCl (wM cI cJ g0 gr gl gw gs th rw mn at_ ml md_l wd md sm fr no) s.heap := hP
  have hl := lv_entry ([.ref g0, .int a1]) (n := 3) (Nat.le_of_ble_eq_true rfl)
  rw [lg_entry_eq]
  generalize (lg_sl ([.ref g0, .int a1]) ++ List.replicate (3 - (lg_sl ([.ref g0, .int a1])).length) Slot.unset).toArray = ls at hl ⊢
  have hl : lv_has ls 3 [(0, .ref g0), (1, .int a1)] := hl
  clear hD0 hAe
  unfold j_X2_run at hj
  refine lv_iconst (v := (0 : Int32)) hx hb dX2_run_0 (by decide) ?_
  refine lv_istore_n (lv' := [(2, .int (0 : Int32)), (0, .ref g0), (1, .int a1)]) hx hb dX2_run_1 rfl hl (by decide) rfl (fun ls hl => ?_)
  exact s_X2_run_2 C0 hK hA g0 gr gl gw gs th rw mn at_ ml md_l wd md sm no a1 jF (0 : Int32) fr _ hj _ _ _ (hP) (hD) hS (lv_sub hl [1, 2, 0] rfl)

set_option maxRecDepth 100000 in
theorem inn_X2_readDoubled_X2 : ∀ w ∈ u_ws RX2 TX2 11, w ∈ wsX2_readDoubled := by decide +kernel
def j_X2_readDoubled (rw : Nat → Int32) (mn : Int32) (fr : Int32) (no : Int32) : Option (Int64 × Int32 × Int32) :=
  (j_X2_run rw mn fr no (0 : Int32)).bind fun (v1, v2, v3) => (if v3 = (0 : Int32) then ((j_X2_some rw mn v2 v3 (v1 + (1 : Int32))).bind fun (v5, v6, v7) => (some (v5, v6, v7))) else (some ((0 : Int64), v2, v3)))
set_option maxHeartbeats 4000000 in
set_option maxRecDepth 100000 in
theorem c_X2_readDoubled (l : Launch) (dC : Nat → ClassId) (dI : Nat → Nat → Nat) (cI cJ : ClassId) (g0 : Nat) (gr : Nat) (gl : Nat) (gw : Nat) (gs : Nat) (sz : Nat) (th : Int32) (rw : Nat → Int32) (mn : Int32) (at_ : Int32) (ml : Nat → Int64) (md_l : Int32) (wd : Nat → Int32) (md : Int32) (sm : Nat → Int64) (fr : Int32) (no : Int32) (r : Int64 × Int32 × Int32) (hj : j_X2_readDoubled rw mn fr no = some r) : Met l yX2_readDoubled wsX2_readDoubled ({ frames := 2, cells := 0, slots := 0, locals := 44 } : Room) (va_Pc [.ref g0] (fun U => jPr dC dI cI cJ (wM cI cJ g0 gr gl gw gs th rw mn at_ ml md_l wd md sm fr no) sz U)) (va_Ql (fun (v : Int64) (_ : Unit) => v = r.1) (fun (_ : Unit) t => jPo dC dI cI cJ (wM cI cJ g0 gr gl gw gs th rw mn at_ ml md_l wd md sm r.2.1 r.2.2) (va_A (wM cI cJ g0 gr gl gw gs th rw mn at_ ml md_l wd md sm fr no) sz) t) (va_A (wM cI cJ g0 gr gl gw gs th rw mn at_ ml md_l wd md sm fr no) sz)) 0 0 (va_A (wM cI cJ g0 gr gl gw gs th rw mn at_ ml md_l wd md sm fr no) sz) := by
  refine Met.ofW (cc := cX2_readDoubled) (maxL := 2) (ret := (some .long)) (by decide) rfl ?_
  intro p e s m args below meth c s₁ B hml hv
  obtain ⟨rfl, ⟨hsz, hP, hK, hD0⟩⟩ := hv
  have hx := B.exec
  have hb := B.bytes
  have hr := B.returns
  have hts := atoms_spec (ws := wsX2_readDoubled) B.pre
  have hown : s.vm.findClass RX2 = some m.cls := findClass_of_methodNamed B.named
  have hlocks := B.notSynchronized
  have C0 := jCx.of hx hb hr hml hown hts hlocks
  subst hsz
  have hD := hD0.self (sz := s.heap.size)
  generalize hAe : va_A (wM cI cJ g0 gr gl gw gs th rw mn at_ ml md_l wd md sm fr no) s.heap.size = A at hD ⊢
  have hA : ∀ q : Nat, s.heap.size ≤ q → A q := fun q h => by rw [← hAe]; exact Or.inr h
  have hS : va_S A s.heap s.heap [] := va_S.rf
  have hP : va_P (dC, dI) vwCl (wM cI cJ g0 gr gl gw gs th rw mn at_ ml md_l wd md sm fr no) s.heap := hP
  have hl := lv_entry ([.ref g0]) (n := 2) (Nat.le_of_ble_eq_true rfl)
  rw [lg_entry_eq]
  generalize (lg_sl ([.ref g0]) ++ List.replicate (2 - (lg_sl ([.ref g0])).length) Slot.unset).toArray = ls at hl ⊢
  have hl : lv_has ls 2 [(0, .ref g0)] := hl
  clear hD0 hAe
  unfold j_X2_readDoubled at hj
  refine lv_aload_n hx hb dX2_readDoubled_0 rfl (lv_at hl 0 rfl) ?_
  refine lv_iconst (v := (0 : Int32)) hx hb dX2_readDoubled_1 (by decide) ?_
  obtain ⟨⟨v1, v2, v3⟩, hc, hj⟩ := ja_bd hj
  try dsimp only at hj
  have hPc := hP.sub (ws' := (wM cI cJ g0 gr gl gw gs th rw mn at_ ml md_l wd md sm fr no)) [0, 1, 2, 3, 4] rfl
  have hDc := hD.sub (ws' := (wM cI cJ g0 gr gl gw gs th rw mn at_ ml md_l wd md sm fr no)) [0, 1, 2, 3, 4] (by decide) rfl
  have hFc := va_free (wc := (wM cI cJ g0 gr gl gw gs th rw mn at_ ml md_l wd md sm fr no)) hD hS hA [0, 1, 2, 3, 4] rfl
  refine va_calli (va_runV (As := [.int (0 : Int32)]) (rest := []) ⟨hx, hb, hml, hown, hts⟩ (c_X2_run l dC dI cI cJ g0 gr gl gw gs s.heap.size th rw mn at_ ml md_l wd md sm fr no (0 : Int32) _ hc) (cwV 1 hts gX2_readDoubled_X2_run rfl rfl rfl (by decide +kernel) ⟨Nat.le_of_ble_eq_true rfl, Nat.le_of_ble_eq_true rfl⟩) ⟨fun a U g mk q => ⟨q.1, jPr.blind q.2⟩, va_recv hK hPc (ci := 2) (q0 := 0) rfl rfl, fun U hU hW => ⟨rfl, jPr.mk hU hW hPc hK hDc⟩⟩ rfl rfl hl.1 rfl (lv_room (Nat.le_of_ble_eq_true rfl)) dX2_readDoubled_2 ⟨Nat.le_of_ble_eq_true rfl, Nat.le_of_ble_eq_true rfl⟩) hS (fun q _ h => hFc q h) hFc (fun rr u t H1 locs ht hvm hw9 hB hz1 hk1 hS => ?_)
  have hw8 : v1 = rr := hw9.symm
  subst hw8
  obtain ⟨hP1, hK1, hD1⟩ := hB
  rw [ht] at hP1
  obtain ⟨hP, hD⟩ := va_join (wr := ([] : va_W)) (w1 := (wM cI cJ g0 gr gl gw gs th rw mn at_ ml md_l wd md sm v2 v3)) hP hD [0, 1, 2, 3, 4] [] rfl rfl (by decide) (by decide) hk1 hFc hP1 hD1
  clear hk1 hP1 hK1 hD1 hvm hz1 hPc hDc hFc
  generalize H1 = H at hP hS ⊢
  have hP : va_P (dC, dI) vwCl (wM cI cJ g0 gr gl gw gs th rw mn at_ ml md_l wd md sm v2 v3) H := hP
  have hD : va_D A (wM cI cJ g0 gr gl gw gs th rw mn at_ ml md_l wd md sm v2 v3) := hD
  refine lv_istore_n (lv' := [(1, .int v1), (0, .ref g0)]) hx hb dX2_readDoubled_5 rfl hl (by decide) rfl (fun ls hl => ?_)
  refine lv_aload_n hx hb dX2_readDoubled_6 rfl (lv_at hl 1 rfl) ?_
  refine va_get (D := (dC, dI)) (ci := 2) (v := .int v3) (C := RX2) (T := TX2) (N := 11) hx hb hts inn_X2_readDoubled_X2 hown hK hP 0 rfl rfl 10 (by decide) (hts (.fieldLink RX2 92 "SelfEndingCodesModel" "none" "Z") (by decide +kernel)) (fun _ h9 => h9) rfl dX2_readDoubled_7 ?_
  refine lv_if_eq (tgt := 17) hx hb dX2_readDoubled_10 (by decide) (fun c4 => ?_) (fun c4 => ?_)
  · replace hj := ja_pos c4 hj
    refine lv_aload_n hx hb dX2_readDoubled_17 rfl (lv_at hl 1 rfl) ?_
    refine lv_iload_n hx hb dX2_readDoubled_18 rfl (lv_at hl 0 rfl) ?_
    refine lv_iconst (v := (1 : Int32)) hx hb dX2_readDoubled_19 (by decide) ?_
    refine lv_iadd hx hb dX2_readDoubled_20 ?_
    obtain ⟨⟨v5, v6, v7⟩, hc, hj⟩ := ja_bd hj
    try dsimp only at hj
    have hPc := hP.sub (ws' := (wM cI cJ g0 gr gl gw gs th rw mn at_ ml md_l wd md sm v2 v3)) [0, 1, 2, 3, 4] rfl
    have hDc := hD.sub (ws' := (wM cI cJ g0 gr gl gw gs th rw mn at_ ml md_l wd md sm v2 v3)) [0, 1, 2, 3, 4] (by decide) rfl
    have hFc := va_free (wc := (wM cI cJ g0 gr gl gw gs th rw mn at_ ml md_l wd md sm v2 v3)) hD hS hA [0, 1, 2, 3, 4] rfl
    refine va_calll (va_runV (As := [.int (v1 + (1 : Int32))]) (rest := []) ⟨hx, hb, hml, hown, hts⟩ (c_X2_some l dC dI cI cJ g0 gr gl gw gs H.size th rw mn at_ ml md_l wd md sm v2 v3 (v1 + (1 : Int32)) _ hc) (cwV 1 hts gX2_readDoubled_X2_some rfl rfl rfl (by decide +kernel) ⟨Nat.le_of_ble_eq_true rfl, Nat.le_of_ble_eq_true rfl⟩) ⟨fun a U g mk q => ⟨q.1, jPr.blind q.2⟩, va_recv hK hPc (ci := 2) (q0 := 0) rfl rfl, fun U hU hW => ⟨rfl, jPr.mk hU hW hPc hK hDc⟩⟩ rfl rfl hl.1 rfl (lv_room (Nat.le_of_ble_eq_true rfl)) dX2_readDoubled_21 ⟨Nat.le_of_ble_eq_true rfl, Nat.le_of_ble_eq_true rfl⟩) hS (fun q _ h => hFc q h) hFc (fun rr u t H1 locs ht hvm hw9 hB hz1 hk1 hS => ?_)
    have hw8 : v5 = rr := hw9.symm
    subst hw8
    obtain ⟨hP1, hK1, hD1⟩ := hB
    rw [ht] at hP1
    obtain ⟨hP, hD⟩ := va_join (wr := ([] : va_W)) (w1 := (wM cI cJ g0 gr gl gw gs th rw mn at_ ml md_l wd md sm v6 v7)) hP hD [0, 1, 2, 3, 4] [] rfl rfl (by decide) (by decide) hk1 hFc hP1 hD1
    clear hk1 hP1 hK1 hD1 hvm hz1 hPc hDc hFc
    generalize H1 = H at hP hS ⊢
    have hP : va_P (dC, dI) vwCl (wM cI cJ g0 gr gl gw gs th rw mn at_ ml md_l wd md sm v6 v7) H := hP
    have hD : va_D A (wM cI cJ g0 gr gl gw gs th rw mn at_ ml md_l wd md sm v6 v7) := hD
    have hr9 : (v5, v6, v7) = r := Option.some.inj hj
    subst hr9
    exact W.lret (v := v5) hx hb hr (fun t ht hW => ⟨⟨v5, (), rfl, rfl, by rw [ht]; exact hP, va_K.moved hW.alike hK, hD⟩, hS.F ht⟩) hS.2.2 dX2_readDoubled_24
  · replace hj := ja_neg c4 hj
    refine lv_lconst (v := (0 : Int64)) hx hb dX2_readDoubled_13 (by decide) ?_
    refine lv_goto (tgt := 24) hx hb dX2_readDoubled_14 (by decide) ?_
    have hr9 : ((0 : Int64), v2, v3) = r := Option.some.inj hj
    subst hr9
    exact W.lret (v := (0 : Int64)) hx hb hr (fun t ht hW => ⟨⟨(0 : Int64), (), rfl, rfl, by rw [ht]; exact hP, va_K.moved hW.alike hK, hD⟩, hS.F ht⟩) hS.2.2 dX2_readDoubled_24

set_option maxRecDepth 100000 in
theorem inn_X2_readGroups_X2 : ∀ w ∈ u_ws RX2 TX2 11, w ∈ wsX2_readGroups := by decide +kernel
def jS_X2_readGroups_148 (rw : Nat → Int32) (mn : Int32) (x1 : Int32) (k8 : Int64 → Int32 → Int32 → Int32 → Int32 → Option (Int64 × Int32 × Int32)) (x2 : Int64) (x5 : Int32) (y0 : Int32) (fr : Int32) (no : Int32) : Option (Int64 × Int32 × Int32) :=
  k8 x2 y0 x5 fr no
set_option maxHeartbeats 4000000 in
set_option maxRecDepth 100000 in
theorem s_X2_readGroups_148 {p : Program} {l : Launch} {e : Env} {s : State} {m : MethodId} {args : Array Value} {below : List Frame} {meth : Method} {c : Code} {dC : Nat → ClassId} {dI : Nat → Nat → Nat} {cI cJ : ClassId} {A : Nat → Prop} (C0 : jCx p s m args meth c RX2 cX2_readGroups 8 (some .long) wsX2_readGroups) (hK : va_K (dC, dI) vwCl (jTy cI cJ) s) (hA : ∀ q : Nat, s.heap.size ≤ q → A q) (g0 : Nat) (gr : Nat) (gl : Nat) (gw : Nat) (gs : Nat) (th : Int32) (rw : Nat → Int32) (mn : Int32) (at_ : Int32) (ml : Nat → Int64) (md_l : Int32) (wd : Nat → Int32) (md : Int32) (sm : Nat → Int64) (x1 : Int32) (k8 : Int64 → Int32 → Int32 → Int32 → Int32 → Option (Int64 × Int32 × Int32)) (hk8 : ∀ (z2 : Int64) (z4 : Int32) (z5 : Int32) (fr_z : Int32) (no_z : Int32) (r : Int64 × Int32 × Int32), k8 z2 z4 z5 fr_z no_z = some r → ∀ (H : Heap) (locs : List Loc) (ls : Array Slot), va_P (dC, dI) vwCl (wM cI cJ g0 gr gl gw gs th rw mn at_ ml md_l wd md sm fr_z no_z) H → va_D A (wM cI cJ g0 gr gl gw gs th rw mn at_ ml md_l wd md sm fr_z no_z) → va_S A s.heap H locs → lv_has ls 8 [(0, .ref g0), (1, .int x1), (2, .long z2), (4, .int z4), (5, .int z5)] → W p l e ({ frames := 2, cells := 0, slots := 0, locals := 44 } : Room) s m args below meth c H locs 0 0 (MQ below (va_Ql (fun (v : Int64) (_ : Unit) => v = r.1) (fun (_ : Unit) t => jPo dC dI cI cJ (wM cI cJ g0 gr gl gw gs th rw mn at_ ml md_l wd md sm r.2.1 r.2.2) A t) A) args s 0 0 A) (F0 m 8 ls [])) :
    ∀ (x2 : Int64) (x5 : Int32) (y0 : Int32) (fr : Int32) (no : Int32) (r : Int64 × Int32 × Int32), jS_X2_readGroups_148 rw mn x1 k8 x2 x5 y0 fr no = some r → ∀ (H : Heap) (locs : List Loc) (ls : Array Slot), va_P (dC, dI) vwCl (wM cI cJ g0 gr gl gw gs th rw mn at_ ml md_l wd md sm fr no) H → va_D A (wM cI cJ g0 gr gl gw gs th rw mn at_ ml md_l wd md sm fr no) → va_S A s.heap H locs → lv_has ls 8 [(0, .ref g0), (1, .int x1), (2, .long x2), (5, .int x5)] → W p l e ({ frames := 2, cells := 0, slots := 0, locals := 44 } : Room) s m args below meth c H locs 0 0 (MQ below (va_Ql (fun (v : Int64) (_ : Unit) => v = r.1) (fun (_ : Unit) t => jPo dC dI cI cJ (wM cI cJ g0 gr gl gw gs th rw mn at_ ml md_l wd md sm r.2.1 r.2.2) A t) A) args s 0 0 A) (F0 m 148 ls [.int y0]) := by
  obtain ⟨hx, hb, hr, hml, hown, hts, hlocks⟩ := id C0
  intro x2 x5 y0 fr no r hj H locs ls hP hD hS hl
  unfold jS_X2_readGroups_148 at hj
  refine lv_istore (lv' := [(4, .int y0), (0, .ref g0), (1, .int x1), (2, .long x2), (5, .int x5)]) hx hb dX2_readGroups_148 hl (by decide) rfl (fun ls hl => ?_)
  refine lv_goto (tgt := 8) hx hb dX2_readGroups_150 (by decide) ?_
  exact hk8 x2 y0 x5 fr no _ hj _ _ _ (hP) (hD) hS (lv_sub hl [1, 2, 3, 0, 4] rfl)
def jS_X2_readGroups_131 (rw : Nat → Int32) (mn : Int32) (x1 : Int32) (k8 : Int64 → Int32 → Int32 → Int32 → Int32 → Option (Int64 × Int32 × Int32)) (x4 : Int32) (x5 : Int32) (y0 : Int64) (fr : Int32) (no : Int32) : Option (Int64 × Int32 × Int32) :=
  if x4 ≤ (100 : Int32) then (jS_X2_readGroups_148 rw mn x1 k8 y0 x5 (x4 + x1) fr no) else (jS_X2_readGroups_148 rw mn x1 k8 y0 x5 x4 fr no)
set_option maxHeartbeats 4000000 in
set_option maxRecDepth 100000 in
theorem s_X2_readGroups_131 {p : Program} {l : Launch} {e : Env} {s : State} {m : MethodId} {args : Array Value} {below : List Frame} {meth : Method} {c : Code} {dC : Nat → ClassId} {dI : Nat → Nat → Nat} {cI cJ : ClassId} {A : Nat → Prop} (C0 : jCx p s m args meth c RX2 cX2_readGroups 8 (some .long) wsX2_readGroups) (hK : va_K (dC, dI) vwCl (jTy cI cJ) s) (hA : ∀ q : Nat, s.heap.size ≤ q → A q) (g0 : Nat) (gr : Nat) (gl : Nat) (gw : Nat) (gs : Nat) (th : Int32) (rw : Nat → Int32) (mn : Int32) (at_ : Int32) (ml : Nat → Int64) (md_l : Int32) (wd : Nat → Int32) (md : Int32) (sm : Nat → Int64) (x1 : Int32) (k8 : Int64 → Int32 → Int32 → Int32 → Int32 → Option (Int64 × Int32 × Int32)) (hk8 : ∀ (z2 : Int64) (z4 : Int32) (z5 : Int32) (fr_z : Int32) (no_z : Int32) (r : Int64 × Int32 × Int32), k8 z2 z4 z5 fr_z no_z = some r → ∀ (H : Heap) (locs : List Loc) (ls : Array Slot), va_P (dC, dI) vwCl (wM cI cJ g0 gr gl gw gs th rw mn at_ ml md_l wd md sm fr_z no_z) H → va_D A (wM cI cJ g0 gr gl gw gs th rw mn at_ ml md_l wd md sm fr_z no_z) → va_S A s.heap H locs → lv_has ls 8 [(0, .ref g0), (1, .int x1), (2, .long z2), (4, .int z4), (5, .int z5)] → W p l e ({ frames := 2, cells := 0, slots := 0, locals := 44 } : Room) s m args below meth c H locs 0 0 (MQ below (va_Ql (fun (v : Int64) (_ : Unit) => v = r.1) (fun (_ : Unit) t => jPo dC dI cI cJ (wM cI cJ g0 gr gl gw gs th rw mn at_ ml md_l wd md sm r.2.1 r.2.2) A t) A) args s 0 0 A) (F0 m 8 ls [])) :
    ∀ (x4 : Int32) (x5 : Int32) (y0 : Int64) (fr : Int32) (no : Int32) (r : Int64 × Int32 × Int32), jS_X2_readGroups_131 rw mn x1 k8 x4 x5 y0 fr no = some r → ∀ (H : Heap) (locs : List Loc) (ls : Array Slot), va_P (dC, dI) vwCl (wM cI cJ g0 gr gl gw gs th rw mn at_ ml md_l wd md sm fr no) H → va_D A (wM cI cJ g0 gr gl gw gs th rw mn at_ ml md_l wd md sm fr no) → va_S A s.heap H locs → lv_has ls 8 [(0, .ref g0), (1, .int x1), (4, .int x4), (5, .int x5)] → W p l e ({ frames := 2, cells := 0, slots := 0, locals := 44 } : Room) s m args below meth c H locs 0 0 (MQ below (va_Ql (fun (v : Int64) (_ : Unit) => v = r.1) (fun (_ : Unit) t => jPo dC dI cI cJ (wM cI cJ g0 gr gl gw gs th rw mn at_ ml md_l wd md sm r.2.1 r.2.2) A t) A) args s 0 0 A) (F0 m 131 ls [.long y0]) := by
  obtain ⟨hx, hb, hr, hml, hown, hts, hlocks⟩ := id C0
  intro x4 x5 y0 fr no r hj H locs ls hP hD hS hl
  unfold jS_X2_readGroups_131 at hj
  refine lv_lstore_n (lv' := [(2, .long y0), (0, .ref g0), (1, .int x1), (4, .int x4), (5, .int x5)]) hx hb dX2_readGroups_131 rfl hl (by decide) rfl (fun ls hl => ?_)
  refine lv_iload hx hb dX2_readGroups_132 (lv_at hl 3 rfl) ?_
  refine lv_bipush (v := (100 : Int32)) hx hb dX2_readGroups_134 (by decide) ?_
  refine lv_icmp_le (tgt := 144) hx hb dX2_readGroups_136 (by decide) (fun c13101 => ?_) (fun c13101 => ?_)
  · replace hj := ja_pos c13101 hj
    refine lv_iload hx hb dX2_readGroups_144 (lv_at hl 3 rfl) ?_
    refine lv_iload_n hx hb dX2_readGroups_146 rfl (lv_at hl 2 rfl) ?_
    refine lv_iadd hx hb dX2_readGroups_147 ?_
    exact s_X2_readGroups_148 C0 hK hA g0 gr gl gw gs th rw mn at_ ml md_l wd md sm x1 k8 hk8 y0 x5 (x4 + x1) fr no _ hj _ _ _ (hP) (hD) hS (lv_sub hl [1, 2, 0, 4] rfl)
  · replace hj := ja_neg c13101 hj
    refine lv_iload hx hb dX2_readGroups_139 (lv_at hl 3 rfl) ?_
    refine lv_goto (tgt := 148) hx hb dX2_readGroups_141 (by decide) ?_
    exact s_X2_readGroups_148 C0 hK hA g0 gr gl gw gs th rw mn at_ ml md_l wd md sm x1 k8 hk8 y0 x5 x4 fr no _ hj _ _ _ (hP) (hD) hS (lv_sub hl [1, 2, 0, 4] rfl)
def jS_X2_readGroups_106 (rw : Nat → Int32) (mn : Int32) (x1 : Int32) (k8 : Int64 → Int32 → Int32 → Int32 → Int32 → Option (Int64 × Int32 × Int32)) (x2 : Int64) (x4 : Int32) (x5 : Int32) (x6 : Int64) (fr : Int32) (no : Int32) : Option (Int64 × Int32 × Int32) :=
  if x6 ≤ (0 : Int64) then (jS_X2_readGroups_131 rw mn x1 k8 x4 x5 x2 fr no) else (if no = (0 : Int32) then (jS_X2_readGroups_131 rw mn x1 k8 x4 x5 (x2 + (x6 <<< (x4.toInt64 &&& 63))) fr no) else (jS_X2_readGroups_131 rw mn x1 k8 x4 x5 x2 fr no))
set_option maxHeartbeats 4000000 in
set_option maxRecDepth 100000 in
theorem s_X2_readGroups_106 {p : Program} {l : Launch} {e : Env} {s : State} {m : MethodId} {args : Array Value} {below : List Frame} {meth : Method} {c : Code} {dC : Nat → ClassId} {dI : Nat → Nat → Nat} {cI cJ : ClassId} {A : Nat → Prop} (C0 : jCx p s m args meth c RX2 cX2_readGroups 8 (some .long) wsX2_readGroups) (hK : va_K (dC, dI) vwCl (jTy cI cJ) s) (hA : ∀ q : Nat, s.heap.size ≤ q → A q) (g0 : Nat) (gr : Nat) (gl : Nat) (gw : Nat) (gs : Nat) (th : Int32) (rw : Nat → Int32) (mn : Int32) (at_ : Int32) (ml : Nat → Int64) (md_l : Int32) (wd : Nat → Int32) (md : Int32) (sm : Nat → Int64) (x1 : Int32) (k8 : Int64 → Int32 → Int32 → Int32 → Int32 → Option (Int64 × Int32 × Int32)) (hk8 : ∀ (z2 : Int64) (z4 : Int32) (z5 : Int32) (fr_z : Int32) (no_z : Int32) (r : Int64 × Int32 × Int32), k8 z2 z4 z5 fr_z no_z = some r → ∀ (H : Heap) (locs : List Loc) (ls : Array Slot), va_P (dC, dI) vwCl (wM cI cJ g0 gr gl gw gs th rw mn at_ ml md_l wd md sm fr_z no_z) H → va_D A (wM cI cJ g0 gr gl gw gs th rw mn at_ ml md_l wd md sm fr_z no_z) → va_S A s.heap H locs → lv_has ls 8 [(0, .ref g0), (1, .int x1), (2, .long z2), (4, .int z4), (5, .int z5)] → W p l e ({ frames := 2, cells := 0, slots := 0, locals := 44 } : Room) s m args below meth c H locs 0 0 (MQ below (va_Ql (fun (v : Int64) (_ : Unit) => v = r.1) (fun (_ : Unit) t => jPo dC dI cI cJ (wM cI cJ g0 gr gl gw gs th rw mn at_ ml md_l wd md sm r.2.1 r.2.2) A t) A) args s 0 0 A) (F0 m 8 ls [])) :
    ∀ (x2 : Int64) (x4 : Int32) (x5 : Int32) (x6 : Int64) (fr : Int32) (no : Int32) (r : Int64 × Int32 × Int32), jS_X2_readGroups_106 rw mn x1 k8 x2 x4 x5 x6 fr no = some r → ∀ (H : Heap) (locs : List Loc) (ls : Array Slot), va_P (dC, dI) vwCl (wM cI cJ g0 gr gl gw gs th rw mn at_ ml md_l wd md sm fr no) H → va_D A (wM cI cJ g0 gr gl gw gs th rw mn at_ ml md_l wd md sm fr no) → va_S A s.heap H locs → lv_has ls 8 [(0, .ref g0), (1, .int x1), (2, .long x2), (4, .int x4), (5, .int x5), (6, .long x6)] → W p l e ({ frames := 2, cells := 0, slots := 0, locals := 44 } : Room) s m args below meth c H locs 0 0 (MQ below (va_Ql (fun (v : Int64) (_ : Unit) => v = r.1) (fun (_ : Unit) t => jPo dC dI cI cJ (wM cI cJ g0 gr gl gw gs th rw mn at_ ml md_l wd md sm r.2.1 r.2.2) A t) A) args s 0 0 A) (F0 m 106 ls []) := by
  obtain ⟨hx, hb, hr, hml, hown, hts, hlocks⟩ := id C0
  intro x2 x4 x5 x6 fr no r hj H locs ls hP hD hS hl
  unfold jS_X2_readGroups_106 at hj
  refine lv_lload hx hb dX2_readGroups_106 (lv_at hl 5 rfl) ?_
  refine lv_lconst (v := (0 : Int64)) hx hb dX2_readGroups_108 (by decide) ?_
  refine W.lcmp hx hb dX2_readGroups_109 ?_
  refine lv_if_le (tgt := 130) hx hb dX2_readGroups_110 (by decide) (fun c10601 => ?_) (fun c10601 => ?_)
  · replace hj := ja_pos ((lg_cmp_le x6 (0 : Int64)).mp c10601) hj
    refine lv_lload_n hx hb dX2_readGroups_130 rfl (lv_at hl 2 rfl) ?_
    exact s_X2_readGroups_131 C0 hK hA g0 gr gl gw gs th rw mn at_ ml md_l wd md sm x1 k8 hk8 x4 x5 x2 fr no _ hj _ _ _ (hP) (hD) hS (lv_sub hl [0, 1, 3, 4] rfl)
  · replace hj := ja_neg (fun h9 => c10601 ((lg_cmp_le x6 (0 : Int64)).mpr h9)) hj
    refine lv_aload_n hx hb dX2_readGroups_113 rfl (lv_at hl 0 rfl) ?_
    refine va_get (D := (dC, dI)) (ci := 2) (v := .int no) (C := RX2) (T := TX2) (N := 11) hx hb hts inn_X2_readGroups_X2 hown hK hP 0 rfl rfl 10 (by decide) (hts (.fieldLink RX2 92 "SelfEndingCodesModel" "none" "Z") (by decide +kernel)) (fun _ h9 => h9) rfl dX2_readGroups_114 ?_
    refine lv_if_ne (tgt := 130) hx hb dX2_readGroups_117 (by decide) (fun c10602 => ?_) (fun c10602 => ?_)
    · replace hj := ja_neg c10602 hj
      refine lv_lload_n hx hb dX2_readGroups_130 rfl (lv_at hl 2 rfl) ?_
      exact s_X2_readGroups_131 C0 hK hA g0 gr gl gw gs th rw mn at_ ml md_l wd md sm x1 k8 hk8 x4 x5 x2 fr no _ hj _ _ _ (hP) (hD) hS (lv_sub hl [0, 1, 3, 4] rfl)
    · replace hj := ja_pos c10602 hj
      refine lv_lload_n hx hb dX2_readGroups_120 rfl (lv_at hl 2 rfl) ?_
      refine lv_lload hx hb dX2_readGroups_121 (lv_at hl 5 rfl) ?_
      refine lv_iload hx hb dX2_readGroups_123 (lv_at hl 3 rfl) ?_
      refine lv_lshl hx hb dX2_readGroups_125 rfl ?_
      refine lv_ladd hx hb dX2_readGroups_126 ?_
      refine lv_goto (tgt := 131) hx hb dX2_readGroups_127 (by decide) ?_
      exact s_X2_readGroups_131 C0 hK hA g0 gr gl gw gs th rw mn at_ ml md_l wd md sm x1 k8 hk8 x4 x5 (x2 + (x6 <<< (x4.toInt64 &&& 63))) fr no _ hj _ _ _ (hP) (hD) hS (lv_sub hl [0, 1, 3, 4] rfl)
def jS_X2_readGroups_75 (rw : Nat → Int32) (mn : Int32) (x1 : Int32) (k8 : Int64 → Int32 → Int32 → Int32 → Int32 → Option (Int64 × Int32 × Int32)) (x2 : Int64) (x4 : Int32) (x5 : Int32) (x6 : Int64) (fr : Int32) (no : Int32) : Option (Int64 × Int32 × Int32) :=
  if x6 ≤ (0 : Int64) then (jS_X2_readGroups_106 rw mn x1 k8 x2 x4 x5 x6 fr no) else (if (62 : Int32) < x4 then (jS_X2_readGroups_106 rw mn x1 k8 x2 x4 x5 x6 fr (1 : Int32)) else (if x6 ≤ ((4611686018427387903 : Int64) >>> (x4.toInt64 &&& 63)) then (jS_X2_readGroups_106 rw mn x1 k8 x2 x4 x5 x6 fr no) else (jS_X2_readGroups_106 rw mn x1 k8 x2 x4 x5 x6 fr (1 : Int32))))
set_option maxHeartbeats 4000000 in
set_option maxRecDepth 100000 in
theorem s_X2_readGroups_75 {p : Program} {l : Launch} {e : Env} {s : State} {m : MethodId} {args : Array Value} {below : List Frame} {meth : Method} {c : Code} {dC : Nat → ClassId} {dI : Nat → Nat → Nat} {cI cJ : ClassId} {A : Nat → Prop} (C0 : jCx p s m args meth c RX2 cX2_readGroups 8 (some .long) wsX2_readGroups) (hK : va_K (dC, dI) vwCl (jTy cI cJ) s) (hA : ∀ q : Nat, s.heap.size ≤ q → A q) (g0 : Nat) (gr : Nat) (gl : Nat) (gw : Nat) (gs : Nat) (th : Int32) (rw : Nat → Int32) (mn : Int32) (at_ : Int32) (ml : Nat → Int64) (md_l : Int32) (wd : Nat → Int32) (md : Int32) (sm : Nat → Int64) (x1 : Int32) (k8 : Int64 → Int32 → Int32 → Int32 → Int32 → Option (Int64 × Int32 × Int32)) (hk8 : ∀ (z2 : Int64) (z4 : Int32) (z5 : Int32) (fr_z : Int32) (no_z : Int32) (r : Int64 × Int32 × Int32), k8 z2 z4 z5 fr_z no_z = some r → ∀ (H : Heap) (locs : List Loc) (ls : Array Slot), va_P (dC, dI) vwCl (wM cI cJ g0 gr gl gw gs th rw mn at_ ml md_l wd md sm fr_z no_z) H → va_D A (wM cI cJ g0 gr gl gw gs th rw mn at_ ml md_l wd md sm fr_z no_z) → va_S A s.heap H locs → lv_has ls 8 [(0, .ref g0), (1, .int x1), (2, .long z2), (4, .int z4), (5, .int z5)] → W p l e ({ frames := 2, cells := 0, slots := 0, locals := 44 } : Room) s m args below meth c H locs 0 0 (MQ below (va_Ql (fun (v : Int64) (_ : Unit) => v = r.1) (fun (_ : Unit) t => jPo dC dI cI cJ (wM cI cJ g0 gr gl gw gs th rw mn at_ ml md_l wd md sm r.2.1 r.2.2) A t) A) args s 0 0 A) (F0 m 8 ls [])) :
    ∀ (x2 : Int64) (x4 : Int32) (x5 : Int32) (x6 : Int64) (fr : Int32) (no : Int32) (r : Int64 × Int32 × Int32), jS_X2_readGroups_75 rw mn x1 k8 x2 x4 x5 x6 fr no = some r → ∀ (H : Heap) (locs : List Loc) (ls : Array Slot), va_P (dC, dI) vwCl (wM cI cJ g0 gr gl gw gs th rw mn at_ ml md_l wd md sm fr no) H → va_D A (wM cI cJ g0 gr gl gw gs th rw mn at_ ml md_l wd md sm fr no) → va_S A s.heap H locs → lv_has ls 8 [(0, .ref g0), (1, .int x1), (2, .long x2), (4, .int x4), (5, .int x5), (6, .long x6)] → W p l e ({ frames := 2, cells := 0, slots := 0, locals := 44 } : Room) s m args below meth c H locs 0 0 (MQ below (va_Ql (fun (v : Int64) (_ : Unit) => v = r.1) (fun (_ : Unit) t => jPo dC dI cI cJ (wM cI cJ g0 gr gl gw gs th rw mn at_ ml md_l wd md sm r.2.1 r.2.2) A t) A) args s 0 0 A) (F0 m 75 ls []) := by
  obtain ⟨hx, hb, hr, hml, hown, hts, hlocks⟩ := id C0
  intro x2 x4 x5 x6 fr no r hj H locs ls hP hD hS hl
  unfold jS_X2_readGroups_75 at hj
  refine lv_lload hx hb dX2_readGroups_75 (lv_at hl 5 rfl) ?_
  refine lv_lconst (v := (0 : Int64)) hx hb dX2_readGroups_77 (by decide) ?_
  refine W.lcmp hx hb dX2_readGroups_78 ?_
  refine lv_if_le (tgt := 106) hx hb dX2_readGroups_79 (by decide) (fun c7501 => ?_) (fun c7501 => ?_)
  · replace hj := ja_pos ((lg_cmp_le x6 (0 : Int64)).mp c7501) hj
    exact s_X2_readGroups_106 C0 hK hA g0 gr gl gw gs th rw mn at_ ml md_l wd md sm x1 k8 hk8 x2 x4 x5 x6 fr no _ hj _ _ _ (hP) (hD) hS (lv_sub hl [0, 1, 2, 3, 4, 5] rfl)
  · replace hj := ja_neg (fun h9 => c7501 ((lg_cmp_le x6 (0 : Int64)).mpr h9)) hj
    refine lv_iload hx hb dX2_readGroups_82 (lv_at hl 3 rfl) ?_
    refine lv_bipush (v := (62 : Int32)) hx hb dX2_readGroups_84 (by decide) ?_
    refine lv_icmp_gt (tgt := 101) hx hb dX2_readGroups_86 (by decide) (fun c7502 => ?_) (fun c7502 => ?_)
    · replace hj := ja_pos c7502 hj
      refine lv_aload_n hx hb dX2_readGroups_101 rfl (lv_at hl 0 rfl) ?_
      refine lv_iconst (v := (1 : Int32)) hx hb dX2_readGroups_102 (by decide) ?_
      refine va_put (D := (dC, dI)) (ci := 2) (v := .int (1 : Int32)) (ty := .boolean) (C := RX2) (T := TX2) (N := 11) hx hb hts inn_X2_readGroups_X2 tyX2 tyX2_ok nmX2 hown hK hP hD hS 0 rfl rfl 10 (by decide) (hts (.fieldLink RX2 92 "SelfEndingCodesModel" "none" "Z") (by decide +kernel)) (fun _ h9 => h9) rfl (by decide +kernel) (by decide) (by decide) (Nat.le_of_ble_eq_true rfl) dX2_readGroups_103 (fun H locs hP hD hS => ?_)
      have hP : va_P (dC, dI) vwCl (wM cI cJ g0 gr gl gw gs th rw mn at_ ml md_l wd md sm fr (1 : Int32)) H := hP
      have hD : va_D A (wM cI cJ g0 gr gl gw gs th rw mn at_ ml md_l wd md sm fr (1 : Int32)) := hD
      exact s_X2_readGroups_106 C0 hK hA g0 gr gl gw gs th rw mn at_ ml md_l wd md sm x1 k8 hk8 x2 x4 x5 x6 fr (1 : Int32) _ hj _ _ _ (hP) (hD) hS (lv_sub hl [0, 1, 2, 3, 4, 5] rfl)
    · replace hj := ja_neg c7502 hj
      refine lv_lload hx hb dX2_readGroups_89 (lv_at hl 5 rfl) ?_
      refine lv_ldc2 (v := (4611686018427387903 : Int64)) hx hb hown (hts (.constantLong RX2 113 (4611686018427387903)) (by decide +kernel)) dX2_readGroups_91 ?_
      refine lv_iload hx hb dX2_readGroups_94 (lv_at hl 3 rfl) ?_
      refine lv_lshr hx hb dX2_readGroups_96 rfl ?_
      refine W.lcmp hx hb dX2_readGroups_97 ?_
      refine lv_if_le (tgt := 106) hx hb dX2_readGroups_98 (by decide) (fun c7503 => ?_) (fun c7503 => ?_)
      · replace hj := ja_pos ((lg_cmp_le x6 ((4611686018427387903 : Int64) >>> (x4.toInt64 &&& 63))).mp c7503) hj
        exact s_X2_readGroups_106 C0 hK hA g0 gr gl gw gs th rw mn at_ ml md_l wd md sm x1 k8 hk8 x2 x4 x5 x6 fr no _ hj _ _ _ (hP) (hD) hS (lv_sub hl [0, 1, 2, 3, 4, 5] rfl)
      · replace hj := ja_neg (fun h9 => c7503 ((lg_cmp_le x6 ((4611686018427387903 : Int64) >>> (x4.toInt64 &&& 63))).mpr h9)) hj
        refine lv_aload_n hx hb dX2_readGroups_101 rfl (lv_at hl 0 rfl) ?_
        refine lv_iconst (v := (1 : Int32)) hx hb dX2_readGroups_102 (by decide) ?_
        refine va_put (D := (dC, dI)) (ci := 2) (v := .int (1 : Int32)) (ty := .boolean) (C := RX2) (T := TX2) (N := 11) hx hb hts inn_X2_readGroups_X2 tyX2 tyX2_ok nmX2 hown hK hP hD hS 0 rfl rfl 10 (by decide) (hts (.fieldLink RX2 92 "SelfEndingCodesModel" "none" "Z") (by decide +kernel)) (fun _ h9 => h9) rfl (by decide +kernel) (by decide) (by decide) (Nat.le_of_ble_eq_true rfl) dX2_readGroups_103 (fun H locs hP hD hS => ?_)
        have hP : va_P (dC, dI) vwCl (wM cI cJ g0 gr gl gw gs th rw mn at_ ml md_l wd md sm fr (1 : Int32)) H := hP
        have hD : va_D A (wM cI cJ g0 gr gl gw gs th rw mn at_ ml md_l wd md sm fr (1 : Int32)) := hD
        exact s_X2_readGroups_106 C0 hK hA g0 gr gl gw gs th rw mn at_ ml md_l wd md sm x1 k8 hk8 x2 x4 x5 x6 fr (1 : Int32) _ hj _ _ _ (hP) (hD) hS (lv_sub hl [0, 1, 2, 3, 4, 5] rfl)
def jS_X2_readGroups_51 (rw : Nat → Int32) (mn : Int32) (x1 : Int32) (k8 : Int64 → Int32 → Int32 → Int32 → Int32 → Option (Int64 × Int32 × Int32)) (x2 : Int64) (x4 : Int32) (x5 : Int32) (y0 : Int64) (fr : Int32) (no : Int32) : Option (Int64 × Int32 × Int32) :=
  if x5 = (0 : Int32) then (if y0 = (0 : Int64) then (if x4 ≤ (0 : Int32) then (jS_X2_readGroups_75 rw mn x1 k8 x2 x4 x5 y0 fr no) else (jS_X2_readGroups_75 rw mn x1 k8 x2 x4 x5 y0 fr (1 : Int32))) else (jS_X2_readGroups_75 rw mn x1 k8 x2 x4 x5 y0 fr no)) else (jS_X2_readGroups_75 rw mn x1 k8 x2 x4 x5 y0 fr no)
set_option maxHeartbeats 4000000 in
set_option maxRecDepth 100000 in
theorem s_X2_readGroups_51 {p : Program} {l : Launch} {e : Env} {s : State} {m : MethodId} {args : Array Value} {below : List Frame} {meth : Method} {c : Code} {dC : Nat → ClassId} {dI : Nat → Nat → Nat} {cI cJ : ClassId} {A : Nat → Prop} (C0 : jCx p s m args meth c RX2 cX2_readGroups 8 (some .long) wsX2_readGroups) (hK : va_K (dC, dI) vwCl (jTy cI cJ) s) (hA : ∀ q : Nat, s.heap.size ≤ q → A q) (g0 : Nat) (gr : Nat) (gl : Nat) (gw : Nat) (gs : Nat) (th : Int32) (rw : Nat → Int32) (mn : Int32) (at_ : Int32) (ml : Nat → Int64) (md_l : Int32) (wd : Nat → Int32) (md : Int32) (sm : Nat → Int64) (x1 : Int32) (k8 : Int64 → Int32 → Int32 → Int32 → Int32 → Option (Int64 × Int32 × Int32)) (hk8 : ∀ (z2 : Int64) (z4 : Int32) (z5 : Int32) (fr_z : Int32) (no_z : Int32) (r : Int64 × Int32 × Int32), k8 z2 z4 z5 fr_z no_z = some r → ∀ (H : Heap) (locs : List Loc) (ls : Array Slot), va_P (dC, dI) vwCl (wM cI cJ g0 gr gl gw gs th rw mn at_ ml md_l wd md sm fr_z no_z) H → va_D A (wM cI cJ g0 gr gl gw gs th rw mn at_ ml md_l wd md sm fr_z no_z) → va_S A s.heap H locs → lv_has ls 8 [(0, .ref g0), (1, .int x1), (2, .long z2), (4, .int z4), (5, .int z5)] → W p l e ({ frames := 2, cells := 0, slots := 0, locals := 44 } : Room) s m args below meth c H locs 0 0 (MQ below (va_Ql (fun (v : Int64) (_ : Unit) => v = r.1) (fun (_ : Unit) t => jPo dC dI cI cJ (wM cI cJ g0 gr gl gw gs th rw mn at_ ml md_l wd md sm r.2.1 r.2.2) A t) A) args s 0 0 A) (F0 m 8 ls [])) :
    ∀ (x2 : Int64) (x4 : Int32) (x5 : Int32) (y0 : Int64) (fr : Int32) (no : Int32) (r : Int64 × Int32 × Int32), jS_X2_readGroups_51 rw mn x1 k8 x2 x4 x5 y0 fr no = some r → ∀ (H : Heap) (locs : List Loc) (ls : Array Slot), va_P (dC, dI) vwCl (wM cI cJ g0 gr gl gw gs th rw mn at_ ml md_l wd md sm fr no) H → va_D A (wM cI cJ g0 gr gl gw gs th rw mn at_ ml md_l wd md sm fr no) → va_S A s.heap H locs → lv_has ls 8 [(0, .ref g0), (1, .int x1), (2, .long x2), (4, .int x4), (5, .int x5)] → W p l e ({ frames := 2, cells := 0, slots := 0, locals := 44 } : Room) s m args below meth c H locs 0 0 (MQ below (va_Ql (fun (v : Int64) (_ : Unit) => v = r.1) (fun (_ : Unit) t => jPo dC dI cI cJ (wM cI cJ g0 gr gl gw gs th rw mn at_ ml md_l wd md sm r.2.1 r.2.2) A t) A) args s 0 0 A) (F0 m 51 ls [.long y0]) := by
  obtain ⟨hx, hb, hr, hml, hown, hts, hlocks⟩ := id C0
  intro x2 x4 x5 y0 fr no r hj H locs ls hP hD hS hl
  unfold jS_X2_readGroups_51 at hj
  refine lv_lstore (lv' := [(6, .long y0), (0, .ref g0), (1, .int x1), (2, .long x2), (4, .int x4), (5, .int x5)]) hx hb dX2_readGroups_51 hl (by decide) rfl (fun ls hl => ?_)
  refine lv_iload hx hb dX2_readGroups_53 (lv_at hl 5 rfl) ?_
  refine lv_if_ne (tgt := 75) hx hb dX2_readGroups_55 (by decide) (fun c5101 => ?_) (fun c5101 => ?_)
  · replace hj := ja_neg c5101 hj
    exact s_X2_readGroups_75 C0 hK hA g0 gr gl gw gs th rw mn at_ ml md_l wd md sm x1 k8 hk8 x2 x4 x5 y0 fr no _ hj _ _ _ (hP) (hD) hS (lv_sub hl [1, 2, 3, 4, 5, 0] rfl)
  · replace hj := ja_pos c5101 hj
    refine lv_lload hx hb dX2_readGroups_58 (lv_at hl 0 rfl) ?_
    refine lv_lconst (v := (0 : Int64)) hx hb dX2_readGroups_60 (by decide) ?_
    refine W.lcmp hx hb dX2_readGroups_61 ?_
    refine lv_if_ne (tgt := 75) hx hb dX2_readGroups_62 (by decide) (fun c5102 => ?_) (fun c5102 => ?_)
    · replace hj := ja_neg (fun h9 => c5102 ((lg_cmp_eq y0 (0 : Int64)).mpr h9)) hj
      exact s_X2_readGroups_75 C0 hK hA g0 gr gl gw gs th rw mn at_ ml md_l wd md sm x1 k8 hk8 x2 x4 x5 y0 fr no _ hj _ _ _ (hP) (hD) hS (lv_sub hl [1, 2, 3, 4, 5, 0] rfl)
    · replace hj := ja_pos ((lg_cmp_eq y0 (0 : Int64)).mp c5102) hj
      refine lv_iload hx hb dX2_readGroups_65 (lv_at hl 4 rfl) ?_
      refine lv_if_le (tgt := 75) hx hb dX2_readGroups_67 (by decide) (fun c5103 => ?_) (fun c5103 => ?_)
      · replace hj := ja_pos c5103 hj
        exact s_X2_readGroups_75 C0 hK hA g0 gr gl gw gs th rw mn at_ ml md_l wd md sm x1 k8 hk8 x2 x4 x5 y0 fr no _ hj _ _ _ (hP) (hD) hS (lv_sub hl [1, 2, 3, 4, 5, 0] rfl)
      · replace hj := ja_neg c5103 hj
        refine lv_aload_n hx hb dX2_readGroups_70 rfl (lv_at hl 1 rfl) ?_
        refine lv_iconst (v := (1 : Int32)) hx hb dX2_readGroups_71 (by decide) ?_
        refine va_put (D := (dC, dI)) (ci := 2) (v := .int (1 : Int32)) (ty := .boolean) (C := RX2) (T := TX2) (N := 11) hx hb hts inn_X2_readGroups_X2 tyX2 tyX2_ok nmX2 hown hK hP hD hS 0 rfl rfl 10 (by decide) (hts (.fieldLink RX2 92 "SelfEndingCodesModel" "none" "Z") (by decide +kernel)) (fun _ h9 => h9) rfl (by decide +kernel) (by decide) (by decide) (Nat.le_of_ble_eq_true rfl) dX2_readGroups_72 (fun H locs hP hD hS => ?_)
        have hP : va_P (dC, dI) vwCl (wM cI cJ g0 gr gl gw gs th rw mn at_ ml md_l wd md sm fr (1 : Int32)) H := hP
        have hD : va_D A (wM cI cJ g0 gr gl gw gs th rw mn at_ ml md_l wd md sm fr (1 : Int32)) := hD
        exact s_X2_readGroups_75 C0 hK hA g0 gr gl gw gs th rw mn at_ ml md_l wd md sm x1 k8 hk8 x2 x4 x5 y0 fr (1 : Int32) _ hj _ _ _ (hP) (hD) hS (lv_sub hl [1, 2, 3, 4, 5, 0] rfl)
def jS_X2_readGroups_33 (rw : Nat → Int32) (mn : Int32) (x1 : Int32) (k8 : Int64 → Int32 → Int32 → Int32 → Int32 → Option (Int64 × Int32 × Int32)) (x2 : Int64) (x4 : Int32) (y0 : Int32) (fr : Int32) (no : Int32) : Option (Int64 × Int32 × Int32) :=
  if no = (0 : Int32) then ((j_X2_some rw mn fr no x1).bind fun (v3302, v3303, v3304) => (jS_X2_readGroups_51 rw mn x1 k8 x2 x4 y0 v3302 v3303 v3304)) else (jS_X2_readGroups_51 rw mn x1 k8 x2 x4 y0 (0 : Int64) fr no)
set_option maxHeartbeats 4000000 in
set_option maxRecDepth 100000 in
theorem s_X2_readGroups_33 {p : Program} {l : Launch} {e : Env} {s : State} {m : MethodId} {args : Array Value} {below : List Frame} {meth : Method} {c : Code} {dC : Nat → ClassId} {dI : Nat → Nat → Nat} {cI cJ : ClassId} {A : Nat → Prop} (C0 : jCx p s m args meth c RX2 cX2_readGroups 8 (some .long) wsX2_readGroups) (hK : va_K (dC, dI) vwCl (jTy cI cJ) s) (hA : ∀ q : Nat, s.heap.size ≤ q → A q) (g0 : Nat) (gr : Nat) (gl : Nat) (gw : Nat) (gs : Nat) (th : Int32) (rw : Nat → Int32) (mn : Int32) (at_ : Int32) (ml : Nat → Int64) (md_l : Int32) (wd : Nat → Int32) (md : Int32) (sm : Nat → Int64) (x1 : Int32) (k8 : Int64 → Int32 → Int32 → Int32 → Int32 → Option (Int64 × Int32 × Int32)) (hk8 : ∀ (z2 : Int64) (z4 : Int32) (z5 : Int32) (fr_z : Int32) (no_z : Int32) (r : Int64 × Int32 × Int32), k8 z2 z4 z5 fr_z no_z = some r → ∀ (H : Heap) (locs : List Loc) (ls : Array Slot), va_P (dC, dI) vwCl (wM cI cJ g0 gr gl gw gs th rw mn at_ ml md_l wd md sm fr_z no_z) H → va_D A (wM cI cJ g0 gr gl gw gs th rw mn at_ ml md_l wd md sm fr_z no_z) → va_S A s.heap H locs → lv_has ls 8 [(0, .ref g0), (1, .int x1), (2, .long z2), (4, .int z4), (5, .int z5)] → W p l e ({ frames := 2, cells := 0, slots := 0, locals := 44 } : Room) s m args below meth c H locs 0 0 (MQ below (va_Ql (fun (v : Int64) (_ : Unit) => v = r.1) (fun (_ : Unit) t => jPo dC dI cI cJ (wM cI cJ g0 gr gl gw gs th rw mn at_ ml md_l wd md sm r.2.1 r.2.2) A t) A) args s 0 0 A) (F0 m 8 ls [])) :
    ∀ (x2 : Int64) (x4 : Int32) (y0 : Int32) (fr : Int32) (no : Int32) (r : Int64 × Int32 × Int32), jS_X2_readGroups_33 rw mn x1 k8 x2 x4 y0 fr no = some r → ∀ (H : Heap) (locs : List Loc) (ls : Array Slot), va_P (dC, dI) vwCl (wM cI cJ g0 gr gl gw gs th rw mn at_ ml md_l wd md sm fr no) H → va_D A (wM cI cJ g0 gr gl gw gs th rw mn at_ ml md_l wd md sm fr no) → va_S A s.heap H locs → lv_has ls 8 [(0, .ref g0), (1, .int x1), (2, .long x2), (4, .int x4)] → W p l e ({ frames := 2, cells := 0, slots := 0, locals := 44 } : Room) s m args below meth c H locs 0 0 (MQ below (va_Ql (fun (v : Int64) (_ : Unit) => v = r.1) (fun (_ : Unit) t => jPo dC dI cI cJ (wM cI cJ g0 gr gl gw gs th rw mn at_ ml md_l wd md sm r.2.1 r.2.2) A t) A) args s 0 0 A) (F0 m 33 ls [.int y0]) := by
  obtain ⟨hx, hb, hr, hml, hown, hts, hlocks⟩ := id C0
  intro x2 x4 y0 fr no r hj H locs ls hP hD hS hl
  unfold jS_X2_readGroups_33 at hj
  refine lv_istore (lv' := [(5, .int y0), (0, .ref g0), (1, .int x1), (2, .long x2), (4, .int x4)]) hx hb dX2_readGroups_33 hl (by decide) rfl (fun ls hl => ?_)
  refine lv_aload_n hx hb dX2_readGroups_35 rfl (lv_at hl 1 rfl) ?_
  refine va_get (D := (dC, dI)) (ci := 2) (v := .int no) (C := RX2) (T := TX2) (N := 11) hx hb hts inn_X2_readGroups_X2 hown hK hP 0 rfl rfl 10 (by decide) (hts (.fieldLink RX2 92 "SelfEndingCodesModel" "none" "Z") (by decide +kernel)) (fun _ h9 => h9) rfl dX2_readGroups_36 ?_
  refine lv_if_eq (tgt := 46) hx hb dX2_readGroups_39 (by decide) (fun c3301 => ?_) (fun c3301 => ?_)
  · replace hj := ja_pos c3301 hj
    refine lv_aload_n hx hb dX2_readGroups_46 rfl (lv_at hl 1 rfl) ?_
    refine lv_iload_n hx hb dX2_readGroups_47 rfl (lv_at hl 2 rfl) ?_
    obtain ⟨⟨v3302, v3303, v3304⟩, hc, hj⟩ := ja_bd hj
    try dsimp only at hj
    have hPc := hP.sub (ws' := (wM cI cJ g0 gr gl gw gs th rw mn at_ ml md_l wd md sm fr no)) [0, 1, 2, 3, 4] rfl
    have hDc := hD.sub (ws' := (wM cI cJ g0 gr gl gw gs th rw mn at_ ml md_l wd md sm fr no)) [0, 1, 2, 3, 4] (by decide) rfl
    have hFc := va_free (wc := (wM cI cJ g0 gr gl gw gs th rw mn at_ ml md_l wd md sm fr no)) hD hS hA [0, 1, 2, 3, 4] rfl
    refine va_calll (va_runV (As := [.int x1]) (rest := []) ⟨hx, hb, hml, hown, hts⟩ (c_X2_some l dC dI cI cJ g0 gr gl gw gs H.size th rw mn at_ ml md_l wd md sm fr no x1 _ hc) (cwV 1 hts gX2_readGroups_X2_some rfl rfl rfl (by decide +kernel) ⟨Nat.le_of_ble_eq_true rfl, Nat.le_of_ble_eq_true rfl⟩) ⟨fun a U g mk q => ⟨q.1, jPr.blind q.2⟩, va_recv hK hPc (ci := 2) (q0 := 0) rfl rfl, fun U hU hW => ⟨rfl, jPr.mk hU hW hPc hK hDc⟩⟩ rfl rfl hl.1 rfl (lv_room (Nat.le_of_ble_eq_true rfl)) dX2_readGroups_48 ⟨Nat.le_of_ble_eq_true rfl, Nat.le_of_ble_eq_true rfl⟩) hS (fun q _ h => hFc q h) hFc (fun rr u t H1 locs ht hvm hw9 hB hz1 hk1 hS => ?_)
    have hw8 : v3302 = rr := hw9.symm
    subst hw8
    obtain ⟨hP1, hK1, hD1⟩ := hB
    rw [ht] at hP1
    obtain ⟨hP, hD⟩ := va_join (wr := ([] : va_W)) (w1 := (wM cI cJ g0 gr gl gw gs th rw mn at_ ml md_l wd md sm v3303 v3304)) hP hD [0, 1, 2, 3, 4] [] rfl rfl (by decide) (by decide) hk1 hFc hP1 hD1
    clear hk1 hP1 hK1 hD1 hvm hz1 hPc hDc hFc
    generalize H1 = H at hP hS ⊢
    have hP : va_P (dC, dI) vwCl (wM cI cJ g0 gr gl gw gs th rw mn at_ ml md_l wd md sm v3303 v3304) H := hP
    have hD : va_D A (wM cI cJ g0 gr gl gw gs th rw mn at_ ml md_l wd md sm v3303 v3304) := hD
    exact s_X2_readGroups_51 C0 hK hA g0 gr gl gw gs th rw mn at_ ml md_l wd md sm x1 k8 hk8 x2 x4 y0 v3302 v3303 v3304 _ hj _ _ _ (hP) (hD) hS (lv_sub hl [1, 2, 3, 4, 0] rfl)
  · replace hj := ja_neg c3301 hj
    refine lv_lconst (v := (0 : Int64)) hx hb dX2_readGroups_42 (by decide) ?_
    refine lv_goto (tgt := 51) hx hb dX2_readGroups_43 (by decide) ?_
    exact s_X2_readGroups_51 C0 hK hA g0 gr gl gw gs th rw mn at_ ml md_l wd md sm x1 k8 hk8 x2 x4 y0 (0 : Int64) fr no _ hj _ _ _ (hP) (hD) hS (lv_sub hl [1, 2, 3, 4, 0] rfl)
def jL_X2_readGroups_8 (rw : Nat → Int32) (mn : Int32) (x1 : Int32) : Nat → Int64 → Int32 → Int32 → Int32 → Int32 → Option (Int64 × Int32 × Int32)
  | 0, _, _, _, _, _ => none
  | n + 1, x2, x4, x5, fr, no => if x5 = (0 : Int32) then (some (x2 + (1 : Int64), fr, no)) else (if no = (0 : Int32) then ((j_X2_next rw mn fr no).bind fun (v803, v804, v805) => (if v803 = (1 : Int32) then (jS_X2_readGroups_33 rw mn x1 (jL_X2_readGroups_8 rw mn x1 n) x2 x4 (1 : Int32) v804 v805) else (jS_X2_readGroups_33 rw mn x1 (jL_X2_readGroups_8 rw mn x1 n) x2 x4 (0 : Int32) v804 v805))) else (some (x2 + (1 : Int64), fr, no)))
set_option maxHeartbeats 4000000 in
set_option maxRecDepth 100000 in
theorem s_X2_readGroups_8 {p : Program} {l : Launch} {e : Env} {s : State} {m : MethodId} {args : Array Value} {below : List Frame} {meth : Method} {c : Code} {dC : Nat → ClassId} {dI : Nat → Nat → Nat} {cI cJ : ClassId} {A : Nat → Prop} (C0 : jCx p s m args meth c RX2 cX2_readGroups 8 (some .long) wsX2_readGroups) (hK : va_K (dC, dI) vwCl (jTy cI cJ) s) (hA : ∀ q : Nat, s.heap.size ≤ q → A q) (g0 : Nat) (gr : Nat) (gl : Nat) (gw : Nat) (gs : Nat) (th : Int32) (rw : Nat → Int32) (mn : Int32) (at_ : Int32) (ml : Nat → Int64) (md_l : Int32) (wd : Nat → Int32) (md : Int32) (sm : Nat → Int64) (x1 : Int32) :
    ∀ (n : Nat) (x2 : Int64) (x4 : Int32) (x5 : Int32) (fr : Int32) (no : Int32) (r : Int64 × Int32 × Int32), jL_X2_readGroups_8 rw mn x1 n x2 x4 x5 fr no = some r → ∀ (H : Heap) (locs : List Loc) (ls : Array Slot), va_P (dC, dI) vwCl (wM cI cJ g0 gr gl gw gs th rw mn at_ ml md_l wd md sm fr no) H → va_D A (wM cI cJ g0 gr gl gw gs th rw mn at_ ml md_l wd md sm fr no) → va_S A s.heap H locs → lv_has ls 8 [(0, .ref g0), (1, .int x1), (2, .long x2), (4, .int x4), (5, .int x5)] → W p l e ({ frames := 2, cells := 0, slots := 0, locals := 44 } : Room) s m args below meth c H locs 0 0 (MQ below (va_Ql (fun (v : Int64) (_ : Unit) => v = r.1) (fun (_ : Unit) t => jPo dC dI cI cJ (wM cI cJ g0 gr gl gw gs th rw mn at_ ml md_l wd md sm r.2.1 r.2.2) A t) A) args s 0 0 A) (F0 m 8 ls []) := by
  obtain ⟨hx, hb, hr, hml, hown, hts, hlocks⟩ := id C0
  intro n
  induction n with
  | zero =>
    intro x2 x4 x5 fr no r hj
    exact nomatch (show (none : Option (Int64 × Int32 × Int32)) = some r from hj)
  | succ n ih =>
    intro x2 x4 x5 fr no r hj H locs ls hP hD hS hl
    replace hj : (if x5 = (0 : Int32) then (some (x2 + (1 : Int64), fr, no)) else (if no = (0 : Int32) then ((j_X2_next rw mn fr no).bind fun (v803, v804, v805) => (if v803 = (1 : Int32) then (jS_X2_readGroups_33 rw mn x1 (jL_X2_readGroups_8 rw mn x1 n) x2 x4 (1 : Int32) v804 v805) else (jS_X2_readGroups_33 rw mn x1 (jL_X2_readGroups_8 rw mn x1 n) x2 x4 (0 : Int32) v804 v805))) else (some (x2 + (1 : Int64), fr, no)))) = some r := hj
    refine lv_iload hx hb dX2_readGroups_8 (lv_at hl 4 rfl) ?_
    refine lv_if_eq (tgt := 153) hx hb dX2_readGroups_10 (by decide) (fun c801 => ?_) (fun c801 => ?_)
    · replace hj := ja_pos c801 hj
      refine lv_lload_n hx hb dX2_readGroups_153 rfl (lv_at hl 2 rfl) ?_
      refine lv_lconst (v := (1 : Int64)) hx hb dX2_readGroups_154 (by decide) ?_
      refine lv_ladd hx hb dX2_readGroups_155 ?_
      have hr9 : (x2 + (1 : Int64), fr, no) = r := Option.some.inj hj
      subst hr9
      exact W.lret (v := x2 + (1 : Int64)) hx hb hr (fun t ht hW => ⟨⟨x2 + (1 : Int64), (), rfl, rfl, by rw [ht]; exact hP, va_K.moved hW.alike hK, hD⟩, hS.F ht⟩) hS.2.2 dX2_readGroups_156
    · replace hj := ja_neg c801 hj
      refine lv_aload_n hx hb dX2_readGroups_13 rfl (lv_at hl 0 rfl) ?_
      refine va_get (D := (dC, dI)) (ci := 2) (v := .int no) (C := RX2) (T := TX2) (N := 11) hx hb hts inn_X2_readGroups_X2 hown hK hP 0 rfl rfl 10 (by decide) (hts (.fieldLink RX2 92 "SelfEndingCodesModel" "none" "Z") (by decide +kernel)) (fun _ h9 => h9) rfl dX2_readGroups_14 ?_
      refine lv_if_ne (tgt := 153) hx hb dX2_readGroups_17 (by decide) (fun c802 => ?_) (fun c802 => ?_)
      · replace hj := ja_neg c802 hj
        refine lv_lload_n hx hb dX2_readGroups_153 rfl (lv_at hl 2 rfl) ?_
        refine lv_lconst (v := (1 : Int64)) hx hb dX2_readGroups_154 (by decide) ?_
        refine lv_ladd hx hb dX2_readGroups_155 ?_
        have hr9 : (x2 + (1 : Int64), fr, no) = r := Option.some.inj hj
        subst hr9
        exact W.lret (v := x2 + (1 : Int64)) hx hb hr (fun t ht hW => ⟨⟨x2 + (1 : Int64), (), rfl, rfl, by rw [ht]; exact hP, va_K.moved hW.alike hK, hD⟩, hS.F ht⟩) hS.2.2 dX2_readGroups_156
      · replace hj := ja_pos c802 hj
        refine lv_aload_n hx hb dX2_readGroups_20 rfl (lv_at hl 0 rfl) ?_
        obtain ⟨⟨v803, v804, v805⟩, hc, hj⟩ := ja_bd hj
        try dsimp only at hj
        have hPc := hP.sub (ws' := (wM cI cJ g0 gr gl gw gs th rw mn at_ ml md_l wd md sm fr no)) [0, 1, 2, 3, 4] rfl
        have hDc := hD.sub (ws' := (wM cI cJ g0 gr gl gw gs th rw mn at_ ml md_l wd md sm fr no)) [0, 1, 2, 3, 4] (by decide) rfl
        have hFc := va_free (wc := (wM cI cJ g0 gr gl gw gs th rw mn at_ ml md_l wd md sm fr no)) hD hS hA [0, 1, 2, 3, 4] rfl
        refine va_calli (va_runV (As := []) (rest := []) ⟨hx, hb, hml, hown, hts⟩ (c_X2_next l dC dI cI cJ g0 gr gl gw gs H.size th rw mn at_ ml md_l wd md sm fr no _ hc) (cwV 0 hts gX2_readGroups_X2_next rfl rfl rfl (by decide +kernel) ⟨Nat.le_of_ble_eq_true rfl, Nat.le_of_ble_eq_true rfl⟩) ⟨fun a U g mk q => ⟨q.1, jPr.blind q.2⟩, va_recv hK hPc (ci := 2) (q0 := 0) rfl rfl, fun U hU hW => ⟨rfl, jPr.mk hU hW hPc hK hDc⟩⟩ rfl rfl hl.1 rfl (lv_room (Nat.le_of_ble_eq_true rfl)) dX2_readGroups_21 ⟨Nat.le_of_ble_eq_true rfl, Nat.le_of_ble_eq_true rfl⟩) hS (fun q _ h => hFc q h) hFc (fun rr u t H1 locs ht hvm hw9 hB hz1 hk1 hS => ?_)
        have hw8 : v803 = rr := hw9.symm
        subst hw8
        obtain ⟨hP1, hK1, hD1⟩ := hB
        rw [ht] at hP1
        obtain ⟨hP, hD⟩ := va_join (wr := ([] : va_W)) (w1 := (wM cI cJ g0 gr gl gw gs th rw mn at_ ml md_l wd md sm v804 v805)) hP hD [0, 1, 2, 3, 4] [] rfl rfl (by decide) (by decide) hk1 hFc hP1 hD1
        clear hk1 hP1 hK1 hD1 hvm hz1 hPc hDc hFc
        generalize H1 = H at hP hS ⊢
        have hP : va_P (dC, dI) vwCl (wM cI cJ g0 gr gl gw gs th rw mn at_ ml md_l wd md sm v804 v805) H := hP
        have hD : va_D A (wM cI cJ g0 gr gl gw gs th rw mn at_ ml md_l wd md sm v804 v805) := hD
        refine lv_iconst (v := (1 : Int32)) hx hb dX2_readGroups_24 (by decide) ?_
        refine lv_icmp_ne (tgt := 32) hx hb dX2_readGroups_25 (by decide) (fun c806 => ?_) (fun c806 => ?_)
        · replace hj := ja_neg c806 hj
          refine lv_iconst (v := (0 : Int32)) hx hb dX2_readGroups_32 (by decide) ?_
          exact s_X2_readGroups_33 C0 hK hA g0 gr gl gw gs th rw mn at_ ml md_l wd md sm x1 (jL_X2_readGroups_8 rw mn x1 n) ih x2 x4 (0 : Int32) v804 v805 _ hj _ _ _ (hP) (hD) hS (lv_sub hl [0, 1, 2, 3] rfl)
        · replace hj := ja_pos c806 hj
          refine lv_iconst (v := (1 : Int32)) hx hb dX2_readGroups_28 (by decide) ?_
          refine lv_goto (tgt := 33) hx hb dX2_readGroups_29 (by decide) ?_
          exact s_X2_readGroups_33 C0 hK hA g0 gr gl gw gs th rw mn at_ ml md_l wd md sm x1 (jL_X2_readGroups_8 rw mn x1 n) ih x2 x4 (1 : Int32) v804 v805 _ hj _ _ _ (hP) (hD) hS (lv_sub hl [0, 1, 2, 3] rfl)
def j_X2_readGroups (rw : Nat → Int32) (mn : Int32) (fr : Int32) (no : Int32) (a1 : Int32) : Option (Int64 × Int32 × Int32) :=
  jL_X2_readGroups_8 rw mn a1 jF (0 : Int64) (0 : Int32) (1 : Int32) fr no
set_option maxHeartbeats 4000000 in
set_option maxRecDepth 100000 in
theorem c_X2_readGroups (l : Launch) (dC : Nat → ClassId) (dI : Nat → Nat → Nat) (cI cJ : ClassId) (g0 : Nat) (gr : Nat) (gl : Nat) (gw : Nat) (gs : Nat) (sz : Nat) (th : Int32) (rw : Nat → Int32) (mn : Int32) (at_ : Int32) (ml : Nat → Int64) (md_l : Int32) (wd : Nat → Int32) (md : Int32) (sm : Nat → Int64) (fr : Int32) (no : Int32) (a1 : Int32) (r : Int64 × Int32 × Int32) (hj : j_X2_readGroups rw mn fr no a1 = some r) : Met l yX2_readGroups wsX2_readGroups ({ frames := 2, cells := 0, slots := 0, locals := 44 } : Room) (va_Pc [.ref g0, .int a1] (fun U => jPr dC dI cI cJ (wM cI cJ g0 gr gl gw gs th rw mn at_ ml md_l wd md sm fr no) sz U)) (va_Ql (fun (v : Int64) (_ : Unit) => v = r.1) (fun (_ : Unit) t => jPo dC dI cI cJ (wM cI cJ g0 gr gl gw gs th rw mn at_ ml md_l wd md sm r.2.1 r.2.2) (va_A (wM cI cJ g0 gr gl gw gs th rw mn at_ ml md_l wd md sm fr no) sz) t) (va_A (wM cI cJ g0 gr gl gw gs th rw mn at_ ml md_l wd md sm fr no) sz)) 0 0 (va_A (wM cI cJ g0 gr gl gw gs th rw mn at_ ml md_l wd md sm fr no) sz) := by
  refine Met.ofW (cc := cX2_readGroups) (maxL := 8) (ret := (some .long)) (by decide) rfl ?_
  intro p e s m args below meth c s₁ B hml hv
  obtain ⟨rfl, ⟨hsz, hP, hK, hD0⟩⟩ := hv
  have hx := B.exec
  have hb := B.bytes
  have hr := B.returns
  have hts := atoms_spec (ws := wsX2_readGroups) B.pre
  have hown : s.vm.findClass RX2 = some m.cls := findClass_of_methodNamed B.named
  have hlocks := B.notSynchronized
  have C0 := jCx.of hx hb hr hml hown hts hlocks
  subst hsz
  have hD := hD0.self (sz := s.heap.size)
  generalize hAe : va_A (wM cI cJ g0 gr gl gw gs th rw mn at_ ml md_l wd md sm fr no) s.heap.size = A at hD ⊢
  have hA : ∀ q : Nat, s.heap.size ≤ q → A q := fun q h => by rw [← hAe]; exact Or.inr h
  have hS : va_S A s.heap s.heap [] := va_S.rf
  have hP : va_P (dC, dI) vwCl (wM cI cJ g0 gr gl gw gs th rw mn at_ ml md_l wd md sm fr no) s.heap := hP
  have hl := lv_entry ([.ref g0, .int a1]) (n := 8) (Nat.le_of_ble_eq_true rfl)
  rw [lg_entry_eq]
  generalize (lg_sl ([.ref g0, .int a1]) ++ List.replicate (8 - (lg_sl ([.ref g0, .int a1])).length) Slot.unset).toArray = ls at hl ⊢
  have hl : lv_has ls 8 [(0, .ref g0), (1, .int a1)] := hl
  clear hD0 hAe
  unfold j_X2_readGroups at hj
  refine lv_lconst (v := (0 : Int64)) hx hb dX2_readGroups_0 (by decide) ?_
  refine lv_lstore_n (lv' := [(2, .long (0 : Int64)), (0, .ref g0), (1, .int a1)]) hx hb dX2_readGroups_1 rfl hl (by decide) rfl (fun ls hl => ?_)
  refine lv_iconst (v := (0 : Int32)) hx hb dX2_readGroups_2 (by decide) ?_
  refine lv_istore (lv' := [(4, .int (0 : Int32)), (2, .long (0 : Int64)), (0, .ref g0), (1, .int a1)]) hx hb dX2_readGroups_3 hl (by decide) rfl (fun ls hl => ?_)
  refine lv_iconst (v := (1 : Int32)) hx hb dX2_readGroups_5 (by decide) ?_
  refine lv_istore (lv' := [(5, .int (1 : Int32)), (4, .int (0 : Int32)), (2, .long (0 : Int64)), (0, .ref g0), (1, .int a1)]) hx hb dX2_readGroups_6 hl (by decide) rfl (fun ls hl => ?_)
  exact s_X2_readGroups_8 C0 hK hA g0 gr gl gw gs th rw mn at_ ml md_l wd md sm a1 jF (0 : Int64) (0 : Int32) (1 : Int32) fr no _ hj _ _ _ (hP) (hD) hS (lv_sub hl [3, 4, 2, 1, 0] rfl)

set_option maxRecDepth 100000 in
theorem inn_X2_readQuotient_X2 : ∀ w ∈ u_ws RX2 TX2 11, w ∈ wsX2_readQuotient := by decide +kernel
def jS_X2_readQuotient_97 (rw : Nat → Int32) (mn : Int32) (x1 : Int32) (x2 : Int64) (x7 : Int64) (fr : Int32) (no : Int32) : Option (Int64 × Int32 × Int32) :=
  some (((x2 * x1.toInt64) + x7) + (1 : Int64), fr, no)
set_option maxHeartbeats 4000000 in
set_option maxRecDepth 100000 in
theorem s_X2_readQuotient_97 {p : Program} {l : Launch} {e : Env} {s : State} {m : MethodId} {args : Array Value} {below : List Frame} {meth : Method} {c : Code} {dC : Nat → ClassId} {dI : Nat → Nat → Nat} {cI cJ : ClassId} {A : Nat → Prop} (C0 : jCx p s m args meth c RX2 cX2_readQuotient 9 (some .long) wsX2_readQuotient) (hK : va_K (dC, dI) vwCl (jTy cI cJ) s) (hA : ∀ q : Nat, s.heap.size ≤ q → A q) (g0 : Nat) (gr : Nat) (gl : Nat) (gw : Nat) (gs : Nat) (th : Int32) (rw : Nat → Int32) (mn : Int32) (at_ : Int32) (ml : Nat → Int64) (md_l : Int32) (wd : Nat → Int32) (md : Int32) (sm : Nat → Int64) :
    ∀ (x1 : Int32) (x2 : Int64) (x7 : Int64) (fr : Int32) (no : Int32) (r : Int64 × Int32 × Int32), jS_X2_readQuotient_97 rw mn x1 x2 x7 fr no = some r → ∀ (H : Heap) (locs : List Loc) (ls : Array Slot), va_P (dC, dI) vwCl (wM cI cJ g0 gr gl gw gs th rw mn at_ ml md_l wd md sm fr no) H → va_D A (wM cI cJ g0 gr gl gw gs th rw mn at_ ml md_l wd md sm fr no) → va_S A s.heap H locs → lv_has ls 9 [(1, .int x1), (2, .long x2), (7, .long x7)] → W p l e ({ frames := 2, cells := 0, slots := 0, locals := 44 } : Room) s m args below meth c H locs 0 0 (MQ below (va_Ql (fun (v : Int64) (_ : Unit) => v = r.1) (fun (_ : Unit) t => jPo dC dI cI cJ (wM cI cJ g0 gr gl gw gs th rw mn at_ ml md_l wd md sm r.2.1 r.2.2) A t) A) args s 0 0 A) (F0 m 97 ls []) := by
  obtain ⟨hx, hb, hr, hml, hown, hts, hlocks⟩ := id C0
  intro x1 x2 x7 fr no r hj H locs ls hP hD hS hl
  unfold jS_X2_readQuotient_97 at hj
  refine lv_lload_n hx hb dX2_readQuotient_97 rfl (lv_at hl 1 rfl) ?_
  refine lv_iload_n hx hb dX2_readQuotient_98 rfl (lv_at hl 0 rfl) ?_
  refine lv_i2l hx hb dX2_readQuotient_99 rfl ?_
  refine lv_lmul hx hb dX2_readQuotient_100 ?_
  refine lv_lload hx hb dX2_readQuotient_101 (lv_at hl 2 rfl) ?_
  refine lv_ladd hx hb dX2_readQuotient_103 ?_
  refine lv_lconst (v := (1 : Int64)) hx hb dX2_readQuotient_104 (by decide) ?_
  refine lv_ladd hx hb dX2_readQuotient_105 ?_
  have hr9 : (((x2 * x1.toInt64) + x7) + (1 : Int64), fr, no) = r := Option.some.inj hj
  subst hr9
  exact W.lret (v := ((x2 * x1.toInt64) + x7) + (1 : Int64)) hx hb hr (fun t ht hW => ⟨⟨((x2 * x1.toInt64) + x7) + (1 : Int64), (), rfl, rfl, by rw [ht]; exact hP, va_K.moved hW.alike hK, hD⟩, hS.F ht⟩) hS.2.2 dX2_readQuotient_106
def jS_X2_readQuotient_58 (rw : Nat → Int32) (mn : Int32) (x1 : Int32) (x2 : Int64) (x4 : Int32) (x5 : Int64) (y0 : Int64) (fr : Int32) (no : Int32) : Option (Int64 × Int32 × Int32) :=
  if x4 ≤ (0 : Int32) then (jS_X2_readQuotient_97 rw mn x1 x2 y0 fr no) else (if y0 < x5 then (jS_X2_readQuotient_97 rw mn x1 x2 y0 fr no) else (if no = (0 : Int32) then ((j_X2_next rw mn fr no).bind fun (v5804, v5805, v5806) => (jS_X2_readQuotient_97 rw mn x1 x2 ((((2 : Int64) * y0) + v5804.toInt64) - x5) v5805 v5806)) else (jS_X2_readQuotient_97 rw mn x1 x2 y0 fr no)))
set_option maxHeartbeats 4000000 in
set_option maxRecDepth 100000 in
theorem s_X2_readQuotient_58 {p : Program} {l : Launch} {e : Env} {s : State} {m : MethodId} {args : Array Value} {below : List Frame} {meth : Method} {c : Code} {dC : Nat → ClassId} {dI : Nat → Nat → Nat} {cI cJ : ClassId} {A : Nat → Prop} (C0 : jCx p s m args meth c RX2 cX2_readQuotient 9 (some .long) wsX2_readQuotient) (hK : va_K (dC, dI) vwCl (jTy cI cJ) s) (hA : ∀ q : Nat, s.heap.size ≤ q → A q) (g0 : Nat) (gr : Nat) (gl : Nat) (gw : Nat) (gs : Nat) (th : Int32) (rw : Nat → Int32) (mn : Int32) (at_ : Int32) (ml : Nat → Int64) (md_l : Int32) (wd : Nat → Int32) (md : Int32) (sm : Nat → Int64) :
    ∀ (x1 : Int32) (x2 : Int64) (x4 : Int32) (x5 : Int64) (y0 : Int64) (fr : Int32) (no : Int32) (r : Int64 × Int32 × Int32), jS_X2_readQuotient_58 rw mn x1 x2 x4 x5 y0 fr no = some r → ∀ (H : Heap) (locs : List Loc) (ls : Array Slot), va_P (dC, dI) vwCl (wM cI cJ g0 gr gl gw gs th rw mn at_ ml md_l wd md sm fr no) H → va_D A (wM cI cJ g0 gr gl gw gs th rw mn at_ ml md_l wd md sm fr no) → va_S A s.heap H locs → lv_has ls 9 [(0, .ref g0), (1, .int x1), (2, .long x2), (4, .int x4), (5, .long x5)] → W p l e ({ frames := 2, cells := 0, slots := 0, locals := 44 } : Room) s m args below meth c H locs 0 0 (MQ below (va_Ql (fun (v : Int64) (_ : Unit) => v = r.1) (fun (_ : Unit) t => jPo dC dI cI cJ (wM cI cJ g0 gr gl gw gs th rw mn at_ ml md_l wd md sm r.2.1 r.2.2) A t) A) args s 0 0 A) (F0 m 58 ls [.long y0]) := by
  obtain ⟨hx, hb, hr, hml, hown, hts, hlocks⟩ := id C0
  intro x1 x2 x4 x5 y0 fr no r hj H locs ls hP hD hS hl
  unfold jS_X2_readQuotient_58 at hj
  refine lv_lstore (lv' := [(7, .long y0), (0, .ref g0), (1, .int x1), (2, .long x2), (4, .int x4), (5, .long x5)]) hx hb dX2_readQuotient_58 hl (by decide) rfl (fun ls hl => ?_)
  refine lv_iload hx hb dX2_readQuotient_60 (lv_at hl 4 rfl) ?_
  refine lv_if_le (tgt := 97) hx hb dX2_readQuotient_62 (by decide) (fun c5801 => ?_) (fun c5801 => ?_)
  · replace hj := ja_pos c5801 hj
    exact s_X2_readQuotient_97 C0 hK hA g0 gr gl gw gs th rw mn at_ ml md_l wd md sm x1 x2 y0 fr no _ hj _ _ _ (hP) (hD) hS (lv_sub hl [2, 3, 0] rfl)
  · replace hj := ja_neg c5801 hj
    refine lv_lload hx hb dX2_readQuotient_65 (lv_at hl 0 rfl) ?_
    refine lv_lload hx hb dX2_readQuotient_67 (lv_at hl 5 rfl) ?_
    refine W.lcmp hx hb dX2_readQuotient_69 ?_
    refine lv_if_lt (tgt := 97) hx hb dX2_readQuotient_70 (by decide) (fun c5802 => ?_) (fun c5802 => ?_)
    · replace hj := ja_pos ((lg_cmp_lt y0 x5).mp c5802) hj
      exact s_X2_readQuotient_97 C0 hK hA g0 gr gl gw gs th rw mn at_ ml md_l wd md sm x1 x2 y0 fr no _ hj _ _ _ (hP) (hD) hS (lv_sub hl [2, 3, 0] rfl)
    · replace hj := ja_neg (fun h9 => c5802 ((lg_cmp_lt y0 x5).mpr h9)) hj
      refine lv_aload_n hx hb dX2_readQuotient_73 rfl (lv_at hl 1 rfl) ?_
      refine va_get (D := (dC, dI)) (ci := 2) (v := .int no) (C := RX2) (T := TX2) (N := 11) hx hb hts inn_X2_readQuotient_X2 hown hK hP 0 rfl rfl 10 (by decide) (hts (.fieldLink RX2 92 "SelfEndingCodesModel" "none" "Z") (by decide +kernel)) (fun _ h9 => h9) rfl dX2_readQuotient_74 ?_
      refine lv_if_ne (tgt := 97) hx hb dX2_readQuotient_77 (by decide) (fun c5803 => ?_) (fun c5803 => ?_)
      · replace hj := ja_neg c5803 hj
        exact s_X2_readQuotient_97 C0 hK hA g0 gr gl gw gs th rw mn at_ ml md_l wd md sm x1 x2 y0 fr no _ hj _ _ _ (hP) (hD) hS (lv_sub hl [2, 3, 0] rfl)
      · replace hj := ja_pos c5803 hj
        refine lv_ldc2 (v := (2 : Int64)) hx hb hown (hts (.constantLong RX2 23 (2)) (by decide +kernel)) dX2_readQuotient_80 ?_
        refine lv_lload hx hb dX2_readQuotient_83 (lv_at hl 0 rfl) ?_
        refine lv_lmul hx hb dX2_readQuotient_85 ?_
        refine lv_aload_n hx hb dX2_readQuotient_86 rfl (lv_at hl 1 rfl) ?_
        obtain ⟨⟨v5804, v5805, v5806⟩, hc, hj⟩ := ja_bd hj
        try dsimp only at hj
        have hPc := hP.sub (ws' := (wM cI cJ g0 gr gl gw gs th rw mn at_ ml md_l wd md sm fr no)) [0, 1, 2, 3, 4] rfl
        have hDc := hD.sub (ws' := (wM cI cJ g0 gr gl gw gs th rw mn at_ ml md_l wd md sm fr no)) [0, 1, 2, 3, 4] (by decide) rfl
        have hFc := va_free (wc := (wM cI cJ g0 gr gl gw gs th rw mn at_ ml md_l wd md sm fr no)) hD hS hA [0, 1, 2, 3, 4] rfl
        refine va_calli (va_runV (As := []) (rest := [.long ((2 : Int64) * y0)]) ⟨hx, hb, hml, hown, hts⟩ (c_X2_next l dC dI cI cJ g0 gr gl gw gs H.size th rw mn at_ ml md_l wd md sm fr no _ hc) (cwV 0 hts gX2_readQuotient_X2_next rfl rfl rfl (by decide +kernel) ⟨Nat.le_of_ble_eq_true rfl, Nat.le_of_ble_eq_true rfl⟩) ⟨fun a U g mk q => ⟨q.1, jPr.blind q.2⟩, va_recv hK hPc (ci := 2) (q0 := 0) rfl rfl, fun U hU hW => ⟨rfl, jPr.mk hU hW hPc hK hDc⟩⟩ rfl rfl hl.1 rfl (lv_room (Nat.le_of_ble_eq_true rfl)) dX2_readQuotient_87 ⟨Nat.le_of_ble_eq_true rfl, Nat.le_of_ble_eq_true rfl⟩) hS (fun q _ h => hFc q h) hFc (fun rr u t H1 locs ht hvm hw9 hB hz1 hk1 hS => ?_)
        have hw8 : v5804 = rr := hw9.symm
        subst hw8
        obtain ⟨hP1, hK1, hD1⟩ := hB
        rw [ht] at hP1
        obtain ⟨hP, hD⟩ := va_join (wr := ([] : va_W)) (w1 := (wM cI cJ g0 gr gl gw gs th rw mn at_ ml md_l wd md sm v5805 v5806)) hP hD [0, 1, 2, 3, 4] [] rfl rfl (by decide) (by decide) hk1 hFc hP1 hD1
        clear hk1 hP1 hK1 hD1 hvm hz1 hPc hDc hFc
        generalize H1 = H at hP hS ⊢
        have hP : va_P (dC, dI) vwCl (wM cI cJ g0 gr gl gw gs th rw mn at_ ml md_l wd md sm v5805 v5806) H := hP
        have hD : va_D A (wM cI cJ g0 gr gl gw gs th rw mn at_ ml md_l wd md sm v5805 v5806) := hD
        refine lv_i2l hx hb dX2_readQuotient_90 rfl ?_
        refine lv_ladd hx hb dX2_readQuotient_91 ?_
        refine lv_lload hx hb dX2_readQuotient_92 (lv_at hl 5 rfl) ?_
        refine lv_lsub hx hb dX2_readQuotient_94 ?_
        refine lv_lstore (lv' := [(7, .long ((((2 : Int64) * y0) + v5804.toInt64) - x5)), (0, .ref g0), (1, .int x1), (2, .long x2), (4, .int x4), (5, .long x5)]) hx hb dX2_readQuotient_95 hl (by decide) rfl (fun ls hl => ?_)
        exact s_X2_readQuotient_97 C0 hK hA g0 gr gl gw gs th rw mn at_ ml md_l wd md sm x1 x2 ((((2 : Int64) * y0) + v5804.toInt64) - x5) v5805 v5806 _ hj _ _ _ (hP) (hD) hS (lv_sub hl [2, 3, 0] rfl)
def j_X2_readQuotient (rw : Nat → Int32) (mn : Int32) (fr : Int32) (no : Int32) (a1 : Int32) : Option (Int64 × Int32 × Int32) :=
  (j_X2_run rw mn fr no (1 : Int32)).bind fun (v1, v2, v3) => (if v3 = (0 : Int32) then ((j_X2_powerFor a1).bind fun v5 => (if v5 ≤ (0 : Int32) then (jS_X2_readQuotient_58 rw mn a1 v1.toInt64 v5 (((1 : Int64) <<< (v5.toInt64 &&& 63)) - a1.toInt64) (0 : Int64) (v2 + (1 : Int32)) v3) else ((j_X2_some rw mn (v2 + (1 : Int32)) v3 (v5 - (1 : Int32))).bind fun (v7, v8, v9) => (jS_X2_readQuotient_58 rw mn a1 v1.toInt64 v5 (((1 : Int64) <<< (v5.toInt64 &&& 63)) - a1.toInt64) v7 v8 v9)))) else (some ((0 : Int64), v2, v3)))
set_option maxHeartbeats 4000000 in
set_option maxRecDepth 100000 in
theorem c_X2_readQuotient (l : Launch) (dC : Nat → ClassId) (dI : Nat → Nat → Nat) (cI cJ : ClassId) (g0 : Nat) (gr : Nat) (gl : Nat) (gw : Nat) (gs : Nat) (sz : Nat) (th : Int32) (rw : Nat → Int32) (mn : Int32) (at_ : Int32) (ml : Nat → Int64) (md_l : Int32) (wd : Nat → Int32) (md : Int32) (sm : Nat → Int64) (fr : Int32) (no : Int32) (a1 : Int32) (r : Int64 × Int32 × Int32) (hj : j_X2_readQuotient rw mn fr no a1 = some r) : Met l yX2_readQuotient wsX2_readQuotient ({ frames := 2, cells := 0, slots := 0, locals := 44 } : Room) (va_Pc [.ref g0, .int a1] (fun U => jPr dC dI cI cJ (wM cI cJ g0 gr gl gw gs th rw mn at_ ml md_l wd md sm fr no) sz U)) (va_Ql (fun (v : Int64) (_ : Unit) => v = r.1) (fun (_ : Unit) t => jPo dC dI cI cJ (wM cI cJ g0 gr gl gw gs th rw mn at_ ml md_l wd md sm r.2.1 r.2.2) (va_A (wM cI cJ g0 gr gl gw gs th rw mn at_ ml md_l wd md sm fr no) sz) t) (va_A (wM cI cJ g0 gr gl gw gs th rw mn at_ ml md_l wd md sm fr no) sz)) 0 0 (va_A (wM cI cJ g0 gr gl gw gs th rw mn at_ ml md_l wd md sm fr no) sz) := by
  refine Met.ofW (cc := cX2_readQuotient) (maxL := 9) (ret := (some .long)) (by decide) rfl ?_
  intro p e s m args below meth c s₁ B hml hv
  obtain ⟨rfl, ⟨hsz, hP, hK, hD0⟩⟩ := hv
  have hx := B.exec
  have hb := B.bytes
  have hr := B.returns
  have hts := atoms_spec (ws := wsX2_readQuotient) B.pre
  have hown : s.vm.findClass RX2 = some m.cls := findClass_of_methodNamed B.named
  have hlocks := B.notSynchronized
  have C0 := jCx.of hx hb hr hml hown hts hlocks
  subst hsz
  have hD := hD0.self (sz := s.heap.size)
  generalize hAe : va_A (wM cI cJ g0 gr gl gw gs th rw mn at_ ml md_l wd md sm fr no) s.heap.size = A at hD ⊢
  have hA : ∀ q : Nat, s.heap.size ≤ q → A q := fun q h => by rw [← hAe]; exact Or.inr h
  have hS : va_S A s.heap s.heap [] := va_S.rf
  have hP : va_P (dC, dI) vwCl (wM cI cJ g0 gr gl gw gs th rw mn at_ ml md_l wd md sm fr no) s.heap := hP
  have hl := lv_entry ([.ref g0, .int a1]) (n := 9) (Nat.le_of_ble_eq_true rfl)
  rw [lg_entry_eq]
  generalize (lg_sl ([.ref g0, .int a1]) ++ List.replicate (9 - (lg_sl ([.ref g0, .int a1])).length) Slot.unset).toArray = ls at hl ⊢
  have hl : lv_has ls 9 [(0, .ref g0), (1, .int a1)] := hl
  clear hD0 hAe
  unfold j_X2_readQuotient at hj
  refine lv_aload_n hx hb dX2_readQuotient_0 rfl (lv_at hl 0 rfl) ?_
  refine lv_iconst (v := (1 : Int32)) hx hb dX2_readQuotient_1 (by decide) ?_
  obtain ⟨⟨v1, v2, v3⟩, hc, hj⟩ := ja_bd hj
  try dsimp only at hj
  have hPc := hP.sub (ws' := (wM cI cJ g0 gr gl gw gs th rw mn at_ ml md_l wd md sm fr no)) [0, 1, 2, 3, 4] rfl
  have hDc := hD.sub (ws' := (wM cI cJ g0 gr gl gw gs th rw mn at_ ml md_l wd md sm fr no)) [0, 1, 2, 3, 4] (by decide) rfl
  have hFc := va_free (wc := (wM cI cJ g0 gr gl gw gs th rw mn at_ ml md_l wd md sm fr no)) hD hS hA [0, 1, 2, 3, 4] rfl
  refine va_calli (va_runV (As := [.int (1 : Int32)]) (rest := []) ⟨hx, hb, hml, hown, hts⟩ (c_X2_run l dC dI cI cJ g0 gr gl gw gs s.heap.size th rw mn at_ ml md_l wd md sm fr no (1 : Int32) _ hc) (cwV 1 hts gX2_readQuotient_X2_run rfl rfl rfl (by decide +kernel) ⟨Nat.le_of_ble_eq_true rfl, Nat.le_of_ble_eq_true rfl⟩) ⟨fun a U g mk q => ⟨q.1, jPr.blind q.2⟩, va_recv hK hPc (ci := 2) (q0 := 0) rfl rfl, fun U hU hW => ⟨rfl, jPr.mk hU hW hPc hK hDc⟩⟩ rfl rfl hl.1 rfl (lv_room (Nat.le_of_ble_eq_true rfl)) dX2_readQuotient_2 ⟨Nat.le_of_ble_eq_true rfl, Nat.le_of_ble_eq_true rfl⟩) hS (fun q _ h => hFc q h) hFc (fun rr u t H1 locs ht hvm hw9 hB hz1 hk1 hS => ?_)
  have hw8 : v1 = rr := hw9.symm
  subst hw8
  obtain ⟨hP1, hK1, hD1⟩ := hB
  rw [ht] at hP1
  obtain ⟨hP, hD⟩ := va_join (wr := ([] : va_W)) (w1 := (wM cI cJ g0 gr gl gw gs th rw mn at_ ml md_l wd md sm v2 v3)) hP hD [0, 1, 2, 3, 4] [] rfl rfl (by decide) (by decide) hk1 hFc hP1 hD1
  clear hk1 hP1 hK1 hD1 hvm hz1 hPc hDc hFc
  generalize H1 = H at hP hS ⊢
  have hP : va_P (dC, dI) vwCl (wM cI cJ g0 gr gl gw gs th rw mn at_ ml md_l wd md sm v2 v3) H := hP
  have hD : va_D A (wM cI cJ g0 gr gl gw gs th rw mn at_ ml md_l wd md sm v2 v3) := hD
  refine lv_i2l hx hb dX2_readQuotient_5 rfl ?_
  refine lv_lstore_n (lv' := [(2, .long v1.toInt64), (0, .ref g0), (1, .int a1)]) hx hb dX2_readQuotient_6 rfl hl (by decide) rfl (fun ls hl => ?_)
  refine lv_aload_n hx hb dX2_readQuotient_7 rfl (lv_at hl 1 rfl) ?_
  refine va_get (D := (dC, dI)) (ci := 2) (v := .int v3) (C := RX2) (T := TX2) (N := 11) hx hb hts inn_X2_readQuotient_X2 hown hK hP 0 rfl rfl 10 (by decide) (hts (.fieldLink RX2 92 "SelfEndingCodesModel" "none" "Z") (by decide +kernel)) (fun _ h9 => h9) rfl dX2_readQuotient_8 ?_
  refine lv_if_eq (tgt := 16) hx hb dX2_readQuotient_11 (by decide) (fun c4 => ?_) (fun c4 => ?_)
  · replace hj := ja_pos c4 hj
    refine lv_aload_n hx hb dX2_readQuotient_16 rfl (lv_at hl 1 rfl) ?_
    refine lv_dup hx hb dX2_readQuotient_17 rfl ?_
    refine va_get (D := (dC, dI)) (ci := 2) (v := .int v2) (C := RX2) (T := TX2) (N := 11) hx hb hts inn_X2_readQuotient_X2 hown hK hP 0 rfl rfl 9 (by decide) (hts (.fieldLink RX2 89 "SelfEndingCodesModel" "from" "I") (by decide +kernel)) (fun _ h9 => h9) rfl dX2_readQuotient_18 ?_
    refine lv_iconst (v := (1 : Int32)) hx hb dX2_readQuotient_21 (by decide) ?_
    refine lv_iadd hx hb dX2_readQuotient_22 ?_
    refine va_put (D := (dC, dI)) (ci := 2) (v := .int (v2 + (1 : Int32))) (ty := .int) (C := RX2) (T := TX2) (N := 11) hx hb hts inn_X2_readQuotient_X2 tyX2 tyX2_ok nmX2 hown hK hP hD hS 0 rfl rfl 9 (by decide) (hts (.fieldLink RX2 89 "SelfEndingCodesModel" "from" "I") (by decide +kernel)) (fun _ h9 => h9) rfl (by decide +kernel) rfl rfl (Nat.le_of_ble_eq_true rfl) dX2_readQuotient_23 (fun H locs hP hD hS => ?_)
    have hP : va_P (dC, dI) vwCl (wM cI cJ g0 gr gl gw gs th rw mn at_ ml md_l wd md sm (v2 + (1 : Int32)) v3) H := hP
    have hD : va_D A (wM cI cJ g0 gr gl gw gs th rw mn at_ ml md_l wd md sm (v2 + (1 : Int32)) v3) := hD
    refine lv_iload_n hx hb dX2_readQuotient_26 rfl (lv_at hl 2 rfl) ?_
    obtain ⟨v5, hc, hj⟩ := ja_bd hj
    try dsimp only at hj
    have hPc := hP.sub (ws' := ([] : va_W)) [] rfl
    have hDc := hD.sub (ws' := ([] : va_W)) [] (by decide) rfl
    have hFc := va_free (wc := ([] : va_W)) hD hS hA [] rfl
    refine va_calli (va_runS (As := [.int a1]) (rest := []) ⟨hx, hb, hml, hown, hts⟩ (c_X2_powerFor l dC dI cI cJ H.size a1 _ hc) (va_cwS 1 hts gX2_readQuotient_X2_powerFor rfl rfl rfl (by decide +kernel) ⟨Nat.le_of_ble_eq_true rfl, Nat.le_of_ble_eq_true rfl⟩) ⟨fun a U g mk q => ⟨q.1, jPr.blind q.2⟩, fun U hU hW => ⟨rfl, jPr.mk hU hW hPc hK hDc⟩⟩ rfl rfl hl.1 rfl (lv_room (Nat.le_of_ble_eq_true rfl)) dX2_readQuotient_27 ⟨Nat.le_of_ble_eq_true rfl, Nat.le_of_ble_eq_true rfl⟩) hS (fun q _ h => hFc q h) hFc (fun rr u t H1 locs ht hvm hw9 hB hz1 hk1 hS => ?_)
    have hw8 : v5 = rr := hw9.symm
    subst hw8
    obtain ⟨hP1, hK1, hD1⟩ := hB
    rw [ht] at hP1
    obtain ⟨hP, hD⟩ := va_join (wr := ([(g0, .inr (2, [.int th, .ref gr, .int mn, .int at_, .ref gl, .int md_l, .ref gw, .int md, .ref gs, .int (v2 + (1 : Int32)), .int v3])), (gr, .inl (cI, 4096, .inl rw)), (gl, .inl (cJ, 100, .inr (.inl ml))), (gw, .inl (cI, 4200, .inl wd)), (gs, .inl (cJ, 92, .inr (.inl sm)))] : va_W)) (w1 := ([] : va_W)) hP hD [] [0, 1, 2, 3, 4] rfl rfl (by decide) (by decide) hk1 hFc hP1 hD1
    clear hk1 hP1 hK1 hD1 hvm hz1 hPc hDc hFc
    generalize H1 = H at hP hS ⊢
    have hP : va_P (dC, dI) vwCl (wM cI cJ g0 gr gl gw gs th rw mn at_ ml md_l wd md sm (v2 + (1 : Int32)) v3) H := hP
    have hD : va_D A (wM cI cJ g0 gr gl gw gs th rw mn at_ ml md_l wd md sm (v2 + (1 : Int32)) v3) := hD
    refine lv_istore (lv' := [(4, .int v5), (2, .long v1.toInt64), (0, .ref g0), (1, .int a1)]) hx hb dX2_readQuotient_30 hl (by decide) rfl (fun ls hl => ?_)
    refine lv_lconst (v := (1 : Int64)) hx hb dX2_readQuotient_32 (by decide) ?_
    refine lv_iload hx hb dX2_readQuotient_33 (lv_at hl 0 rfl) ?_
    refine lv_lshl hx hb dX2_readQuotient_35 rfl ?_
    refine lv_iload_n hx hb dX2_readQuotient_36 rfl (lv_at hl 3 rfl) ?_
    refine lv_i2l hx hb dX2_readQuotient_37 rfl ?_
    refine lv_lsub hx hb dX2_readQuotient_38 ?_
    refine lv_lstore (lv' := [(5, .long (((1 : Int64) <<< (v5.toInt64 &&& 63)) - a1.toInt64)), (4, .int v5), (2, .long v1.toInt64), (0, .ref g0), (1, .int a1)]) hx hb dX2_readQuotient_39 hl (by decide) rfl (fun ls hl => ?_)
    refine lv_iload hx hb dX2_readQuotient_41 (lv_at hl 1 rfl) ?_
    refine lv_if_le (tgt := 57) hx hb dX2_readQuotient_43 (by decide) (fun c6 => ?_) (fun c6 => ?_)
    · replace hj := ja_pos c6 hj
      refine lv_lconst (v := (0 : Int64)) hx hb dX2_readQuotient_57 (by decide) ?_
      exact s_X2_readQuotient_58 C0 hK hA g0 gr gl gw gs th rw mn at_ ml md_l wd md sm a1 v1.toInt64 v5 (((1 : Int64) <<< (v5.toInt64 &&& 63)) - a1.toInt64) (0 : Int64) (v2 + (1 : Int32)) v3 _ hj _ _ _ (hP) (hD) hS (lv_sub hl [3, 4, 2, 1, 0] rfl)
    · replace hj := ja_neg c6 hj
      refine lv_aload_n hx hb dX2_readQuotient_46 rfl (lv_at hl 3 rfl) ?_
      refine lv_iload hx hb dX2_readQuotient_47 (lv_at hl 1 rfl) ?_
      refine lv_iconst (v := (1 : Int32)) hx hb dX2_readQuotient_49 (by decide) ?_
      refine lv_isub hx hb dX2_readQuotient_50 ?_
      obtain ⟨⟨v7, v8, v9⟩, hc, hj⟩ := ja_bd hj
      try dsimp only at hj
      have hPc := hP.sub (ws' := (wM cI cJ g0 gr gl gw gs th rw mn at_ ml md_l wd md sm (v2 + (1 : Int32)) v3)) [0, 1, 2, 3, 4] rfl
      have hDc := hD.sub (ws' := (wM cI cJ g0 gr gl gw gs th rw mn at_ ml md_l wd md sm (v2 + (1 : Int32)) v3)) [0, 1, 2, 3, 4] (by decide) rfl
      have hFc := va_free (wc := (wM cI cJ g0 gr gl gw gs th rw mn at_ ml md_l wd md sm (v2 + (1 : Int32)) v3)) hD hS hA [0, 1, 2, 3, 4] rfl
      refine va_calll (va_runV (As := [.int (v5 - (1 : Int32))]) (rest := []) ⟨hx, hb, hml, hown, hts⟩ (c_X2_some l dC dI cI cJ g0 gr gl gw gs H.size th rw mn at_ ml md_l wd md sm (v2 + (1 : Int32)) v3 (v5 - (1 : Int32)) _ hc) (cwV 1 hts gX2_readQuotient_X2_some rfl rfl rfl (by decide +kernel) ⟨Nat.le_of_ble_eq_true rfl, Nat.le_of_ble_eq_true rfl⟩) ⟨fun a U g mk q => ⟨q.1, jPr.blind q.2⟩, va_recv hK hPc (ci := 2) (q0 := 0) rfl rfl, fun U hU hW => ⟨rfl, jPr.mk hU hW hPc hK hDc⟩⟩ rfl rfl hl.1 rfl (lv_room (Nat.le_of_ble_eq_true rfl)) dX2_readQuotient_51 ⟨Nat.le_of_ble_eq_true rfl, Nat.le_of_ble_eq_true rfl⟩) hS (fun q _ h => hFc q h) hFc (fun rr u t H1 locs ht hvm hw9 hB hz1 hk1 hS => ?_)
      have hw8 : v7 = rr := hw9.symm
      subst hw8
      obtain ⟨hP1, hK1, hD1⟩ := hB
      rw [ht] at hP1
      obtain ⟨hP, hD⟩ := va_join (wr := ([] : va_W)) (w1 := (wM cI cJ g0 gr gl gw gs th rw mn at_ ml md_l wd md sm v8 v9)) hP hD [0, 1, 2, 3, 4] [] rfl rfl (by decide) (by decide) hk1 hFc hP1 hD1
      clear hk1 hP1 hK1 hD1 hvm hz1 hPc hDc hFc
      generalize H1 = H at hP hS ⊢
      have hP : va_P (dC, dI) vwCl (wM cI cJ g0 gr gl gw gs th rw mn at_ ml md_l wd md sm v8 v9) H := hP
      have hD : va_D A (wM cI cJ g0 gr gl gw gs th rw mn at_ ml md_l wd md sm v8 v9) := hD
      refine lv_goto (tgt := 58) hx hb dX2_readQuotient_54 (by decide) ?_
      exact s_X2_readQuotient_58 C0 hK hA g0 gr gl gw gs th rw mn at_ ml md_l wd md sm a1 v1.toInt64 v5 (((1 : Int64) <<< (v5.toInt64 &&& 63)) - a1.toInt64) v7 v8 v9 _ hj _ _ _ (hP) (hD) hS (lv_sub hl [3, 4, 2, 1, 0] rfl)
  · replace hj := ja_neg c4 hj
    refine lv_lconst (v := (0 : Int64)) hx hb dX2_readQuotient_14 (by decide) ?_
    have hr9 : ((0 : Int64), v2, v3) = r := Option.some.inj hj
    subst hr9
    exact W.lret (v := (0 : Int64)) hx hb hr (fun t ht hW => ⟨⟨(0 : Int64), (), rfl, rfl, by rw [ht]; exact hP, va_K.moved hW.alike hK, hD⟩, hS.F ht⟩) hS.2.2 dX2_readQuotient_15

set_option maxRecDepth 100000 in
theorem inn_X2_readShort_X2 : ∀ w ∈ u_ws RX2 TX2 11, w ∈ wsX2_readShort := by decide +kernel
def j_X2_readShort (rw : Nat → Int32) (mn : Int32) (fr : Int32) (no : Int32) (a1 : Int32) : Option (Int64 × Int32 × Int32) :=
  (j_X2_readDoubled rw mn fr no).bind fun (v1, v2, v3) => (if v3 = (0 : Int32) then ((j_X2_some rw mn v2 v3 a1).bind fun (v5, v6, v7) => (if v7 = (0 : Int32) then (if (v1 - (1 : Int64)) ≤ ((4611686018427387903 : Int64) >>> (a1.toInt64 &&& 63)) then (some ((((v1 - (1 : Int64)) <<< (a1.toInt64 &&& 63)) + v5) + (1 : Int64), v6, v7)) else (some ((0 : Int64), v6, (1 : Int32)))) else (some ((0 : Int64), v6, (1 : Int32))))) else (if v3 = (0 : Int32) then (if (v1 - (1 : Int64)) ≤ ((4611686018427387903 : Int64) >>> (a1.toInt64 &&& 63)) then (some ((((v1 - (1 : Int64)) <<< (a1.toInt64 &&& 63)) + (0 : Int64)) + (1 : Int64), v2, v3)) else (some ((0 : Int64), v2, (1 : Int32)))) else (some ((0 : Int64), v2, (1 : Int32)))))
set_option maxHeartbeats 4000000 in
set_option maxRecDepth 100000 in
theorem c_X2_readShort (l : Launch) (dC : Nat → ClassId) (dI : Nat → Nat → Nat) (cI cJ : ClassId) (g0 : Nat) (gr : Nat) (gl : Nat) (gw : Nat) (gs : Nat) (sz : Nat) (th : Int32) (rw : Nat → Int32) (mn : Int32) (at_ : Int32) (ml : Nat → Int64) (md_l : Int32) (wd : Nat → Int32) (md : Int32) (sm : Nat → Int64) (fr : Int32) (no : Int32) (a1 : Int32) (r : Int64 × Int32 × Int32) (hj : j_X2_readShort rw mn fr no a1 = some r) : Met l yX2_readShort wsX2_readShort ({ frames := 3, cells := 0, slots := 0, locals := 65 } : Room) (va_Pc [.ref g0, .int a1] (fun U => jPr dC dI cI cJ (wM cI cJ g0 gr gl gw gs th rw mn at_ ml md_l wd md sm fr no) sz U)) (va_Ql (fun (v : Int64) (_ : Unit) => v = r.1) (fun (_ : Unit) t => jPo dC dI cI cJ (wM cI cJ g0 gr gl gw gs th rw mn at_ ml md_l wd md sm r.2.1 r.2.2) (va_A (wM cI cJ g0 gr gl gw gs th rw mn at_ ml md_l wd md sm fr no) sz) t) (va_A (wM cI cJ g0 gr gl gw gs th rw mn at_ ml md_l wd md sm fr no) sz)) 0 0 (va_A (wM cI cJ g0 gr gl gw gs th rw mn at_ ml md_l wd md sm fr no) sz) := by
  refine Met.ofW (cc := cX2_readShort) (maxL := 6) (ret := (some .long)) (by decide) rfl ?_
  intro p e s m args below meth c s₁ B hml hv
  obtain ⟨rfl, ⟨hsz, hP, hK, hD0⟩⟩ := hv
  have hx := B.exec
  have hb := B.bytes
  have hr := B.returns
  have hts := atoms_spec (ws := wsX2_readShort) B.pre
  have hown : s.vm.findClass RX2 = some m.cls := findClass_of_methodNamed B.named
  have hlocks := B.notSynchronized
  have C0 := jCx.of hx hb hr hml hown hts hlocks
  subst hsz
  have hD := hD0.self (sz := s.heap.size)
  generalize hAe : va_A (wM cI cJ g0 gr gl gw gs th rw mn at_ ml md_l wd md sm fr no) s.heap.size = A at hD ⊢
  have hA : ∀ q : Nat, s.heap.size ≤ q → A q := fun q h => by rw [← hAe]; exact Or.inr h
  have hS : va_S A s.heap s.heap [] := va_S.rf
  have hP : va_P (dC, dI) vwCl (wM cI cJ g0 gr gl gw gs th rw mn at_ ml md_l wd md sm fr no) s.heap := hP
  have hl := lv_entry ([.ref g0, .int a1]) (n := 6) (Nat.le_of_ble_eq_true rfl)
  rw [lg_entry_eq]
  generalize (lg_sl ([.ref g0, .int a1]) ++ List.replicate (6 - (lg_sl ([.ref g0, .int a1])).length) Slot.unset).toArray = ls at hl ⊢
  have hl : lv_has ls 6 [(0, .ref g0), (1, .int a1)] := hl
  clear hD0 hAe
  unfold j_X2_readShort at hj
  refine lv_aload_n hx hb dX2_readShort_0 rfl (lv_at hl 0 rfl) ?_
  obtain ⟨⟨v1, v2, v3⟩, hc, hj⟩ := ja_bd hj
  try dsimp only at hj
  have hPc := hP.sub (ws' := (wM cI cJ g0 gr gl gw gs th rw mn at_ ml md_l wd md sm fr no)) [0, 1, 2, 3, 4] rfl
  have hDc := hD.sub (ws' := (wM cI cJ g0 gr gl gw gs th rw mn at_ ml md_l wd md sm fr no)) [0, 1, 2, 3, 4] (by decide) rfl
  have hFc := va_free (wc := (wM cI cJ g0 gr gl gw gs th rw mn at_ ml md_l wd md sm fr no)) hD hS hA [0, 1, 2, 3, 4] rfl
  refine va_calll (va_runV (As := []) (rest := []) ⟨hx, hb, hml, hown, hts⟩ (c_X2_readDoubled l dC dI cI cJ g0 gr gl gw gs s.heap.size th rw mn at_ ml md_l wd md sm fr no _ hc) (cwV 0 hts gX2_readShort_X2_readDoubled rfl rfl rfl (by decide +kernel) ⟨Nat.le_of_ble_eq_true rfl, Nat.le_of_ble_eq_true rfl⟩) ⟨fun a U g mk q => ⟨q.1, jPr.blind q.2⟩, va_recv hK hPc (ci := 2) (q0 := 0) rfl rfl, fun U hU hW => ⟨rfl, jPr.mk hU hW hPc hK hDc⟩⟩ rfl rfl hl.1 rfl (lv_room (Nat.le_of_ble_eq_true rfl)) dX2_readShort_1 ⟨Nat.le_of_ble_eq_true rfl, Nat.le_of_ble_eq_true rfl⟩) hS (fun q _ h => hFc q h) hFc (fun rr u t H1 locs ht hvm hw9 hB hz1 hk1 hS => ?_)
  have hw8 : v1 = rr := hw9.symm
  subst hw8
  obtain ⟨hP1, hK1, hD1⟩ := hB
  rw [ht] at hP1
  obtain ⟨hP, hD⟩ := va_join (wr := ([] : va_W)) (w1 := (wM cI cJ g0 gr gl gw gs th rw mn at_ ml md_l wd md sm v2 v3)) hP hD [0, 1, 2, 3, 4] [] rfl rfl (by decide) (by decide) hk1 hFc hP1 hD1
  clear hk1 hP1 hK1 hD1 hvm hz1 hPc hDc hFc
  generalize H1 = H at hP hS ⊢
  have hP : va_P (dC, dI) vwCl (wM cI cJ g0 gr gl gw gs th rw mn at_ ml md_l wd md sm v2 v3) H := hP
  have hD : va_D A (wM cI cJ g0 gr gl gw gs th rw mn at_ ml md_l wd md sm v2 v3) := hD
  refine lv_lstore_n (lv' := [(2, .long v1), (0, .ref g0), (1, .int a1)]) hx hb dX2_readShort_4 rfl hl (by decide) rfl (fun ls hl => ?_)
  refine lv_aload_n hx hb dX2_readShort_5 rfl (lv_at hl 1 rfl) ?_
  refine va_get (D := (dC, dI)) (ci := 2) (v := .int v3) (C := RX2) (T := TX2) (N := 11) hx hb hts inn_X2_readShort_X2 hown hK hP 0 rfl rfl 10 (by decide) (hts (.fieldLink RX2 92 "SelfEndingCodesModel" "none" "Z") (by decide +kernel)) (fun _ h9 => h9) rfl dX2_readShort_6 ?_
  refine lv_if_eq (tgt := 16) hx hb dX2_readShort_9 (by decide) (fun c4 => ?_) (fun c4 => ?_)
  · replace hj := ja_pos c4 hj
    refine lv_aload_n hx hb dX2_readShort_16 rfl (lv_at hl 1 rfl) ?_
    refine lv_iload_n hx hb dX2_readShort_17 rfl (lv_at hl 2 rfl) ?_
    obtain ⟨⟨v5, v6, v7⟩, hc, hj⟩ := ja_bd hj
    try dsimp only at hj
    have hPc := hP.sub (ws' := (wM cI cJ g0 gr gl gw gs th rw mn at_ ml md_l wd md sm v2 v3)) [0, 1, 2, 3, 4] rfl
    have hDc := hD.sub (ws' := (wM cI cJ g0 gr gl gw gs th rw mn at_ ml md_l wd md sm v2 v3)) [0, 1, 2, 3, 4] (by decide) rfl
    have hFc := va_free (wc := (wM cI cJ g0 gr gl gw gs th rw mn at_ ml md_l wd md sm v2 v3)) hD hS hA [0, 1, 2, 3, 4] rfl
    refine va_calll (va_runV (As := [.int a1]) (rest := []) ⟨hx, hb, hml, hown, hts⟩ (c_X2_some l dC dI cI cJ g0 gr gl gw gs H.size th rw mn at_ ml md_l wd md sm v2 v3 a1 _ hc) (cwV 1 hts gX2_readShort_X2_some rfl rfl rfl (by decide +kernel) ⟨Nat.le_of_ble_eq_true rfl, Nat.le_of_ble_eq_true rfl⟩) ⟨fun a U g mk q => ⟨q.1, jPr.blind q.2⟩, va_recv hK hPc (ci := 2) (q0 := 0) rfl rfl, fun U hU hW => ⟨rfl, jPr.mk hU hW hPc hK hDc⟩⟩ rfl rfl hl.1 rfl (lv_room (Nat.le_of_ble_eq_true rfl)) dX2_readShort_18 ⟨Nat.le_of_ble_eq_true rfl, Nat.le_of_ble_eq_true rfl⟩) hS (fun q _ h => hFc q h) hFc (fun rr u t H1 locs ht hvm hw9 hB hz1 hk1 hS => ?_)
    have hw8 : v5 = rr := hw9.symm
    subst hw8
    obtain ⟨hP1, hK1, hD1⟩ := hB
    rw [ht] at hP1
    obtain ⟨hP, hD⟩ := va_join (wr := ([] : va_W)) (w1 := (wM cI cJ g0 gr gl gw gs th rw mn at_ ml md_l wd md sm v6 v7)) hP hD [0, 1, 2, 3, 4] [] rfl rfl (by decide) (by decide) hk1 hFc hP1 hD1
    clear hk1 hP1 hK1 hD1 hvm hz1 hPc hDc hFc
    generalize H1 = H at hP hS ⊢
    have hP : va_P (dC, dI) vwCl (wM cI cJ g0 gr gl gw gs th rw mn at_ ml md_l wd md sm v6 v7) H := hP
    have hD : va_D A (wM cI cJ g0 gr gl gw gs th rw mn at_ ml md_l wd md sm v6 v7) := hD
    refine lv_lstore (lv' := [(4, .long v5), (2, .long v1), (0, .ref g0), (1, .int a1)]) hx hb dX2_readShort_21 hl (by decide) rfl (fun ls hl => ?_)
    refine lv_aload_n hx hb dX2_readShort_23 rfl (lv_at hl 2 rfl) ?_
    refine va_get (D := (dC, dI)) (ci := 2) (v := .int v7) (C := RX2) (T := TX2) (N := 11) hx hb hts inn_X2_readShort_X2 hown hK hP 0 rfl rfl 10 (by decide) (hts (.fieldLink RX2 92 "SelfEndingCodesModel" "none" "Z") (by decide +kernel)) (fun _ h9 => h9) rfl dX2_readShort_24 ?_
    refine lv_if_ne (tgt := 42) hx hb dX2_readShort_27 (by decide) (fun c8 => ?_) (fun c8 => ?_)
    · replace hj := ja_neg c8 hj
      refine lv_aload_n hx hb dX2_readShort_42 rfl (lv_at hl 2 rfl) ?_
      refine lv_iconst (v := (1 : Int32)) hx hb dX2_readShort_43 (by decide) ?_
      refine va_put (D := (dC, dI)) (ci := 2) (v := .int (1 : Int32)) (ty := .boolean) (C := RX2) (T := TX2) (N := 11) hx hb hts inn_X2_readShort_X2 tyX2 tyX2_ok nmX2 hown hK hP hD hS 0 rfl rfl 10 (by decide) (hts (.fieldLink RX2 92 "SelfEndingCodesModel" "none" "Z") (by decide +kernel)) (fun _ h9 => h9) rfl (by decide +kernel) (by decide) (by decide) (Nat.le_of_ble_eq_true rfl) dX2_readShort_44 (fun H locs hP hD hS => ?_)
      have hP : va_P (dC, dI) vwCl (wM cI cJ g0 gr gl gw gs th rw mn at_ ml md_l wd md sm v6 (1 : Int32)) H := hP
      have hD : va_D A (wM cI cJ g0 gr gl gw gs th rw mn at_ ml md_l wd md sm v6 (1 : Int32)) := hD
      refine lv_lconst (v := (0 : Int64)) hx hb dX2_readShort_47 (by decide) ?_
      have hr9 : ((0 : Int64), v6, (1 : Int32)) = r := Option.some.inj hj
      subst hr9
      exact W.lret (v := (0 : Int64)) hx hb hr (fun t ht hW => ⟨⟨(0 : Int64), (), rfl, rfl, by rw [ht]; exact hP, va_K.moved hW.alike hK, hD⟩, hS.F ht⟩) hS.2.2 dX2_readShort_48
    · replace hj := ja_pos c8 hj
      refine lv_lload_n hx hb dX2_readShort_30 rfl (lv_at hl 1 rfl) ?_
      refine lv_lconst (v := (1 : Int64)) hx hb dX2_readShort_31 (by decide) ?_
      refine lv_lsub hx hb dX2_readShort_32 ?_
      refine lv_ldc2 (v := (4611686018427387903 : Int64)) hx hb hown (hts (.constantLong RX2 113 (4611686018427387903)) (by decide +kernel)) dX2_readShort_33 ?_
      refine lv_iload_n hx hb dX2_readShort_36 rfl (lv_at hl 3 rfl) ?_
      refine lv_lshr hx hb dX2_readShort_37 rfl ?_
      refine W.lcmp hx hb dX2_readShort_38 ?_
      refine lv_if_le (tgt := 49) hx hb dX2_readShort_39 (by decide) (fun c9 => ?_) (fun c9 => ?_)
      · replace hj := ja_pos ((lg_cmp_le (v1 - (1 : Int64)) ((4611686018427387903 : Int64) >>> (a1.toInt64 &&& 63))).mp c9) hj
        refine lv_lload_n hx hb dX2_readShort_49 rfl (lv_at hl 1 rfl) ?_
        refine lv_lconst (v := (1 : Int64)) hx hb dX2_readShort_50 (by decide) ?_
        refine lv_lsub hx hb dX2_readShort_51 ?_
        refine lv_iload_n hx hb dX2_readShort_52 rfl (lv_at hl 3 rfl) ?_
        refine lv_lshl hx hb dX2_readShort_53 rfl ?_
        refine lv_lload hx hb dX2_readShort_54 (lv_at hl 0 rfl) ?_
        refine lv_ladd hx hb dX2_readShort_56 ?_
        refine lv_lconst (v := (1 : Int64)) hx hb dX2_readShort_57 (by decide) ?_
        refine lv_ladd hx hb dX2_readShort_58 ?_
        have hr9 : ((((v1 - (1 : Int64)) <<< (a1.toInt64 &&& 63)) + v5) + (1 : Int64), v6, v7) = r := Option.some.inj hj
        subst hr9
        exact W.lret (v := (((v1 - (1 : Int64)) <<< (a1.toInt64 &&& 63)) + v5) + (1 : Int64)) hx hb hr (fun t ht hW => ⟨⟨(((v1 - (1 : Int64)) <<< (a1.toInt64 &&& 63)) + v5) + (1 : Int64), (), rfl, rfl, by rw [ht]; exact hP, va_K.moved hW.alike hK, hD⟩, hS.F ht⟩) hS.2.2 dX2_readShort_59
      · replace hj := ja_neg (fun h9 => c9 ((lg_cmp_le (v1 - (1 : Int64)) ((4611686018427387903 : Int64) >>> (a1.toInt64 &&& 63))).mpr h9)) hj
        refine lv_aload_n hx hb dX2_readShort_42 rfl (lv_at hl 2 rfl) ?_
        refine lv_iconst (v := (1 : Int32)) hx hb dX2_readShort_43 (by decide) ?_
        refine va_put (D := (dC, dI)) (ci := 2) (v := .int (1 : Int32)) (ty := .boolean) (C := RX2) (T := TX2) (N := 11) hx hb hts inn_X2_readShort_X2 tyX2 tyX2_ok nmX2 hown hK hP hD hS 0 rfl rfl 10 (by decide) (hts (.fieldLink RX2 92 "SelfEndingCodesModel" "none" "Z") (by decide +kernel)) (fun _ h9 => h9) rfl (by decide +kernel) (by decide) (by decide) (Nat.le_of_ble_eq_true rfl) dX2_readShort_44 (fun H locs hP hD hS => ?_)
        have hP : va_P (dC, dI) vwCl (wM cI cJ g0 gr gl gw gs th rw mn at_ ml md_l wd md sm v6 (1 : Int32)) H := hP
        have hD : va_D A (wM cI cJ g0 gr gl gw gs th rw mn at_ ml md_l wd md sm v6 (1 : Int32)) := hD
        refine lv_lconst (v := (0 : Int64)) hx hb dX2_readShort_47 (by decide) ?_
        have hr9 : ((0 : Int64), v6, (1 : Int32)) = r := Option.some.inj hj
        subst hr9
        exact W.lret (v := (0 : Int64)) hx hb hr (fun t ht hW => ⟨⟨(0 : Int64), (), rfl, rfl, by rw [ht]; exact hP, va_K.moved hW.alike hK, hD⟩, hS.F ht⟩) hS.2.2 dX2_readShort_48
  · replace hj := ja_neg c4 hj
    refine lv_lconst (v := (0 : Int64)) hx hb dX2_readShort_12 (by decide) ?_
    refine lv_goto (tgt := 21) hx hb dX2_readShort_13 (by decide) ?_
    refine lv_lstore (lv' := [(4, .long (0 : Int64)), (2, .long v1), (0, .ref g0), (1, .int a1)]) hx hb dX2_readShort_21 hl (by decide) rfl (fun ls hl => ?_)
    refine lv_aload_n hx hb dX2_readShort_23 rfl (lv_at hl 2 rfl) ?_
    refine va_get (D := (dC, dI)) (ci := 2) (v := .int v3) (C := RX2) (T := TX2) (N := 11) hx hb hts inn_X2_readShort_X2 hown hK hP 0 rfl rfl 10 (by decide) (hts (.fieldLink RX2 92 "SelfEndingCodesModel" "none" "Z") (by decide +kernel)) (fun _ h9 => h9) rfl dX2_readShort_24 ?_
    refine lv_if_ne (tgt := 42) hx hb dX2_readShort_27 (by decide) (fun c10 => ?_) (fun c10 => ?_)
    · replace hj := ja_neg c10 hj
      refine lv_aload_n hx hb dX2_readShort_42 rfl (lv_at hl 2 rfl) ?_
      refine lv_iconst (v := (1 : Int32)) hx hb dX2_readShort_43 (by decide) ?_
      refine va_put (D := (dC, dI)) (ci := 2) (v := .int (1 : Int32)) (ty := .boolean) (C := RX2) (T := TX2) (N := 11) hx hb hts inn_X2_readShort_X2 tyX2 tyX2_ok nmX2 hown hK hP hD hS 0 rfl rfl 10 (by decide) (hts (.fieldLink RX2 92 "SelfEndingCodesModel" "none" "Z") (by decide +kernel)) (fun _ h9 => h9) rfl (by decide +kernel) (by decide) (by decide) (Nat.le_of_ble_eq_true rfl) dX2_readShort_44 (fun H locs hP hD hS => ?_)
      have hP : va_P (dC, dI) vwCl (wM cI cJ g0 gr gl gw gs th rw mn at_ ml md_l wd md sm v2 (1 : Int32)) H := hP
      have hD : va_D A (wM cI cJ g0 gr gl gw gs th rw mn at_ ml md_l wd md sm v2 (1 : Int32)) := hD
      refine lv_lconst (v := (0 : Int64)) hx hb dX2_readShort_47 (by decide) ?_
      have hr9 : ((0 : Int64), v2, (1 : Int32)) = r := Option.some.inj hj
      subst hr9
      exact W.lret (v := (0 : Int64)) hx hb hr (fun t ht hW => ⟨⟨(0 : Int64), (), rfl, rfl, by rw [ht]; exact hP, va_K.moved hW.alike hK, hD⟩, hS.F ht⟩) hS.2.2 dX2_readShort_48
    · replace hj := ja_pos c10 hj
      refine lv_lload_n hx hb dX2_readShort_30 rfl (lv_at hl 1 rfl) ?_
      refine lv_lconst (v := (1 : Int64)) hx hb dX2_readShort_31 (by decide) ?_
      refine lv_lsub hx hb dX2_readShort_32 ?_
      refine lv_ldc2 (v := (4611686018427387903 : Int64)) hx hb hown (hts (.constantLong RX2 113 (4611686018427387903)) (by decide +kernel)) dX2_readShort_33 ?_
      refine lv_iload_n hx hb dX2_readShort_36 rfl (lv_at hl 3 rfl) ?_
      refine lv_lshr hx hb dX2_readShort_37 rfl ?_
      refine W.lcmp hx hb dX2_readShort_38 ?_
      refine lv_if_le (tgt := 49) hx hb dX2_readShort_39 (by decide) (fun c11 => ?_) (fun c11 => ?_)
      · replace hj := ja_pos ((lg_cmp_le (v1 - (1 : Int64)) ((4611686018427387903 : Int64) >>> (a1.toInt64 &&& 63))).mp c11) hj
        refine lv_lload_n hx hb dX2_readShort_49 rfl (lv_at hl 1 rfl) ?_
        refine lv_lconst (v := (1 : Int64)) hx hb dX2_readShort_50 (by decide) ?_
        refine lv_lsub hx hb dX2_readShort_51 ?_
        refine lv_iload_n hx hb dX2_readShort_52 rfl (lv_at hl 3 rfl) ?_
        refine lv_lshl hx hb dX2_readShort_53 rfl ?_
        refine lv_lload hx hb dX2_readShort_54 (lv_at hl 0 rfl) ?_
        refine lv_ladd hx hb dX2_readShort_56 ?_
        refine lv_lconst (v := (1 : Int64)) hx hb dX2_readShort_57 (by decide) ?_
        refine lv_ladd hx hb dX2_readShort_58 ?_
        have hr9 : ((((v1 - (1 : Int64)) <<< (a1.toInt64 &&& 63)) + (0 : Int64)) + (1 : Int64), v2, v3) = r := Option.some.inj hj
        subst hr9
        exact W.lret (v := (((v1 - (1 : Int64)) <<< (a1.toInt64 &&& 63)) + (0 : Int64)) + (1 : Int64)) hx hb hr (fun t ht hW => ⟨⟨(((v1 - (1 : Int64)) <<< (a1.toInt64 &&& 63)) + (0 : Int64)) + (1 : Int64), (), rfl, rfl, by rw [ht]; exact hP, va_K.moved hW.alike hK, hD⟩, hS.F ht⟩) hS.2.2 dX2_readShort_59
      · replace hj := ja_neg (fun h9 => c11 ((lg_cmp_le (v1 - (1 : Int64)) ((4611686018427387903 : Int64) >>> (a1.toInt64 &&& 63))).mpr h9)) hj
        refine lv_aload_n hx hb dX2_readShort_42 rfl (lv_at hl 2 rfl) ?_
        refine lv_iconst (v := (1 : Int32)) hx hb dX2_readShort_43 (by decide) ?_
        refine va_put (D := (dC, dI)) (ci := 2) (v := .int (1 : Int32)) (ty := .boolean) (C := RX2) (T := TX2) (N := 11) hx hb hts inn_X2_readShort_X2 tyX2 tyX2_ok nmX2 hown hK hP hD hS 0 rfl rfl 10 (by decide) (hts (.fieldLink RX2 92 "SelfEndingCodesModel" "none" "Z") (by decide +kernel)) (fun _ h9 => h9) rfl (by decide +kernel) (by decide) (by decide) (Nat.le_of_ble_eq_true rfl) dX2_readShort_44 (fun H locs hP hD hS => ?_)
        have hP : va_P (dC, dI) vwCl (wM cI cJ g0 gr gl gw gs th rw mn at_ ml md_l wd md sm v2 (1 : Int32)) H := hP
        have hD : va_D A (wM cI cJ g0 gr gl gw gs th rw mn at_ ml md_l wd md sm v2 (1 : Int32)) := hD
        refine lv_lconst (v := (0 : Int64)) hx hb dX2_readShort_47 (by decide) ?_
        have hr9 : ((0 : Int64), v2, (1 : Int32)) = r := Option.some.inj hj
        subst hr9
        exact W.lret (v := (0 : Int64)) hx hb hr (fun t ht hW => ⟨⟨(0 : Int64), (), rfl, rfl, by rw [ht]; exact hP, va_K.moved hW.alike hK, hD⟩, hS.F ht⟩) hS.2.2 dX2_readShort_48

set_option maxRecDepth 100000 in
theorem inn_X2_readSums_X2 : ∀ w ∈ u_ws RX2 TX2 11, w ∈ wsX2_readSums := by decide +kernel
def jS_X2_readSums_99 (rw : Nat → Int32) (mn : Int32) (sm : Nat → Int64) (k10 : Int64 → Int32 → Int32 → Int32 → Int32 → Int32 → Option (Int64 × Int32 × Int32)) (x1 : Int64) (x4 : Int32) (x5 : Int32) (x6 : Int32) (fr : Int32) (no : Int32) : Option (Int64 × Int32 × Int32) :=
  k10 x1 x6 x4 x5 fr no
set_option maxHeartbeats 4000000 in
set_option maxRecDepth 100000 in
theorem s_X2_readSums_99 {p : Program} {l : Launch} {e : Env} {s : State} {m : MethodId} {args : Array Value} {below : List Frame} {meth : Method} {c : Code} {dC : Nat → ClassId} {dI : Nat → Nat → Nat} {cI cJ : ClassId} {A : Nat → Prop} (C0 : jCx p s m args meth c RX2 cX2_readSums 7 (some .long) wsX2_readSums) (hK : va_K (dC, dI) vwCl (jTy cI cJ) s) (hA : ∀ q : Nat, s.heap.size ≤ q → A q) (g0 : Nat) (gr : Nat) (gl : Nat) (gw : Nat) (gs : Nat) (th : Int32) (rw : Nat → Int32) (mn : Int32) (at_ : Int32) (ml : Nat → Int64) (md_l : Int32) (wd : Nat → Int32) (md : Int32) (sm : Nat → Int64) (k10 : Int64 → Int32 → Int32 → Int32 → Int32 → Int32 → Option (Int64 × Int32 × Int32)) (hk10 : ∀ (z1 : Int64) (z3 : Int32) (z4 : Int32) (z5 : Int32) (fr_z : Int32) (no_z : Int32) (r : Int64 × Int32 × Int32), k10 z1 z3 z4 z5 fr_z no_z = some r → ∀ (H : Heap) (locs : List Loc) (ls : Array Slot), va_P (dC, dI) vwCl (wM cI cJ g0 gr gl gw gs th rw mn at_ ml md_l wd md sm fr_z no_z) H → va_D A (wM cI cJ g0 gr gl gw gs th rw mn at_ ml md_l wd md sm fr_z no_z) → va_S A s.heap H locs → lv_has ls 7 [(0, .ref g0), (1, .long z1), (3, .int z3), (4, .int z4), (5, .int z5)] → W p l e ({ frames := 1, cells := 0, slots := 0, locals := 20 } : Room) s m args below meth c H locs 0 0 (MQ below (va_Ql (fun (v : Int64) (_ : Unit) => v = r.1) (fun (_ : Unit) t => jPo dC dI cI cJ (wM cI cJ g0 gr gl gw gs th rw mn at_ ml md_l wd md sm r.2.1 r.2.2) A t) A) args s 0 0 A) (F0 m 10 ls [])) :
    ∀ (x1 : Int64) (x4 : Int32) (x5 : Int32) (x6 : Int32) (fr : Int32) (no : Int32) (r : Int64 × Int32 × Int32), jS_X2_readSums_99 rw mn sm k10 x1 x4 x5 x6 fr no = some r → ∀ (H : Heap) (locs : List Loc) (ls : Array Slot), va_P (dC, dI) vwCl (wM cI cJ g0 gr gl gw gs th rw mn at_ ml md_l wd md sm fr no) H → va_D A (wM cI cJ g0 gr gl gw gs th rw mn at_ ml md_l wd md sm fr no) → va_S A s.heap H locs → lv_has ls 7 [(0, .ref g0), (1, .long x1), (4, .int x4), (5, .int x5), (6, .int x6)] → W p l e ({ frames := 1, cells := 0, slots := 0, locals := 20 } : Room) s m args below meth c H locs 0 0 (MQ below (va_Ql (fun (v : Int64) (_ : Unit) => v = r.1) (fun (_ : Unit) t => jPo dC dI cI cJ (wM cI cJ g0 gr gl gw gs th rw mn at_ ml md_l wd md sm r.2.1 r.2.2) A t) A) args s 0 0 A) (F0 m 99 ls []) := by
  obtain ⟨hx, hb, hr, hml, hown, hts, hlocks⟩ := id C0
  intro x1 x4 x5 x6 fr no r hj H locs ls hP hD hS hl
  unfold jS_X2_readSums_99 at hj
  refine lv_iload hx hb dX2_readSums_99 (lv_at hl 4 rfl) ?_
  refine lv_istore_n (lv' := [(3, .int x6), (0, .ref g0), (1, .long x1), (4, .int x4), (5, .int x5), (6, .int x6)]) hx hb dX2_readSums_101 rfl hl (by decide) rfl (fun ls hl => ?_)
  refine lv_goto (tgt := 10) hx hb dX2_readSums_102 (by decide) ?_
  exact hk10 x1 x6 x4 x5 fr no _ hj _ _ _ (hP) (hD) hS (lv_sub hl [1, 2, 0, 3, 4] rfl)
def jL_X2_readSums_10 (rw : Nat → Int32) (mn : Int32) (sm : Nat → Int64) : Nat → Int64 → Int32 → Int32 → Int32 → Int32 → Int32 → Option (Int64 × Int32 × Int32)
  | 0, _, _, _, _, _, _ => none
  | n + 1, x1, x3, x4, x5, fr, no => if x5 = (0 : Int32) then (some (x1, fr, no)) else (if no = (0 : Int32) then ((j_X2_next rw mn fr no).bind fun (v1003, v1004, v1005) => (if v1003 = (1 : Int32) then (if x3 = (1 : Int32) then (jS_X2_readSums_99 rw mn sm (jL_X2_readSums_10 rw mn sm n) x1 (x4 + (1 : Int32)) (0 : Int32) v1003 v1004 v1005) else (if (x4 + (1 : Int32)) ≤ (90 : Int32) then (if v1003 = (1 : Int32) then (if v1005 = (0 : Int32) then (jix (x4 + (1 : Int32)) 92 (if (x1 + (sm (x4 + (1 : Int32)).toNatClampNeg)) ≤ (4611686018427387904 : Int64) then (jS_X2_readSums_99 rw mn sm (jL_X2_readSums_10 rw mn sm n) (x1 + (sm (x4 + (1 : Int32)).toNatClampNeg)) (x4 + (1 : Int32)) x5 v1003 v1004 v1005) else (jS_X2_readSums_99 rw mn sm (jL_X2_readSums_10 rw mn sm n) (x1 + (sm (x4 + (1 : Int32)).toNatClampNeg)) (x4 + (1 : Int32)) x5 v1003 v1004 (1 : Int32)))) else (jS_X2_readSums_99 rw mn sm (jL_X2_readSums_10 rw mn sm n) x1 (x4 + (1 : Int32)) x5 v1003 v1004 v1005)) else (jS_X2_readSums_99 rw mn sm (jL_X2_readSums_10 rw mn sm n) x1 (x4 + (1 : Int32)) x5 v1003 v1004 v1005)) else (jS_X2_readSums_99 rw mn sm (jL_X2_readSums_10 rw mn sm n) x1 (x4 + (1 : Int32)) x5 v1003 v1004 (1 : Int32)))) else (if (x4 + (1 : Int32)) ≤ (90 : Int32) then (if v1003 = (1 : Int32) then (if v1005 = (0 : Int32) then (jix (x4 + (1 : Int32)) 92 (if (x1 + (sm (x4 + (1 : Int32)).toNatClampNeg)) ≤ (4611686018427387904 : Int64) then (jS_X2_readSums_99 rw mn sm (jL_X2_readSums_10 rw mn sm n) (x1 + (sm (x4 + (1 : Int32)).toNatClampNeg)) (x4 + (1 : Int32)) x5 v1003 v1004 v1005) else (jS_X2_readSums_99 rw mn sm (jL_X2_readSums_10 rw mn sm n) (x1 + (sm (x4 + (1 : Int32)).toNatClampNeg)) (x4 + (1 : Int32)) x5 v1003 v1004 (1 : Int32)))) else (jS_X2_readSums_99 rw mn sm (jL_X2_readSums_10 rw mn sm n) x1 (x4 + (1 : Int32)) x5 v1003 v1004 v1005)) else (jS_X2_readSums_99 rw mn sm (jL_X2_readSums_10 rw mn sm n) x1 (x4 + (1 : Int32)) x5 v1003 v1004 v1005)) else (jS_X2_readSums_99 rw mn sm (jL_X2_readSums_10 rw mn sm n) x1 (x4 + (1 : Int32)) x5 v1003 v1004 (1 : Int32))))) else (some (x1, fr, no)))
set_option maxHeartbeats 4000000 in
set_option maxRecDepth 100000 in
theorem s_X2_readSums_10 {p : Program} {l : Launch} {e : Env} {s : State} {m : MethodId} {args : Array Value} {below : List Frame} {meth : Method} {c : Code} {dC : Nat → ClassId} {dI : Nat → Nat → Nat} {cI cJ : ClassId} {A : Nat → Prop} (C0 : jCx p s m args meth c RX2 cX2_readSums 7 (some .long) wsX2_readSums) (hK : va_K (dC, dI) vwCl (jTy cI cJ) s) (hA : ∀ q : Nat, s.heap.size ≤ q → A q) (g0 : Nat) (gr : Nat) (gl : Nat) (gw : Nat) (gs : Nat) (th : Int32) (rw : Nat → Int32) (mn : Int32) (at_ : Int32) (ml : Nat → Int64) (md_l : Int32) (wd : Nat → Int32) (md : Int32) (sm : Nat → Int64) :
    ∀ (n : Nat) (x1 : Int64) (x3 : Int32) (x4 : Int32) (x5 : Int32) (fr : Int32) (no : Int32) (r : Int64 × Int32 × Int32), jL_X2_readSums_10 rw mn sm n x1 x3 x4 x5 fr no = some r → ∀ (H : Heap) (locs : List Loc) (ls : Array Slot), va_P (dC, dI) vwCl (wM cI cJ g0 gr gl gw gs th rw mn at_ ml md_l wd md sm fr no) H → va_D A (wM cI cJ g0 gr gl gw gs th rw mn at_ ml md_l wd md sm fr no) → va_S A s.heap H locs → lv_has ls 7 [(0, .ref g0), (1, .long x1), (3, .int x3), (4, .int x4), (5, .int x5)] → W p l e ({ frames := 1, cells := 0, slots := 0, locals := 20 } : Room) s m args below meth c H locs 0 0 (MQ below (va_Ql (fun (v : Int64) (_ : Unit) => v = r.1) (fun (_ : Unit) t => jPo dC dI cI cJ (wM cI cJ g0 gr gl gw gs th rw mn at_ ml md_l wd md sm r.2.1 r.2.2) A t) A) args s 0 0 A) (F0 m 10 ls []) := by
  obtain ⟨hx, hb, hr, hml, hown, hts, hlocks⟩ := id C0
  intro n
  induction n with
  | zero =>
    intro x1 x3 x4 x5 fr no r hj
    exact nomatch (show (none : Option (Int64 × Int32 × Int32)) = some r from hj)
  | succ n ih =>
    intro x1 x3 x4 x5 fr no r hj H locs ls hP hD hS hl
    replace hj : (if x5 = (0 : Int32) then (some (x1, fr, no)) else (if no = (0 : Int32) then ((j_X2_next rw mn fr no).bind fun (v1003, v1004, v1005) => (if v1003 = (1 : Int32) then (if x3 = (1 : Int32) then (jS_X2_readSums_99 rw mn sm (jL_X2_readSums_10 rw mn sm n) x1 (x4 + (1 : Int32)) (0 : Int32) v1003 v1004 v1005) else (if (x4 + (1 : Int32)) ≤ (90 : Int32) then (if v1003 = (1 : Int32) then (if v1005 = (0 : Int32) then (jix (x4 + (1 : Int32)) 92 (if (x1 + (sm (x4 + (1 : Int32)).toNatClampNeg)) ≤ (4611686018427387904 : Int64) then (jS_X2_readSums_99 rw mn sm (jL_X2_readSums_10 rw mn sm n) (x1 + (sm (x4 + (1 : Int32)).toNatClampNeg)) (x4 + (1 : Int32)) x5 v1003 v1004 v1005) else (jS_X2_readSums_99 rw mn sm (jL_X2_readSums_10 rw mn sm n) (x1 + (sm (x4 + (1 : Int32)).toNatClampNeg)) (x4 + (1 : Int32)) x5 v1003 v1004 (1 : Int32)))) else (jS_X2_readSums_99 rw mn sm (jL_X2_readSums_10 rw mn sm n) x1 (x4 + (1 : Int32)) x5 v1003 v1004 v1005)) else (jS_X2_readSums_99 rw mn sm (jL_X2_readSums_10 rw mn sm n) x1 (x4 + (1 : Int32)) x5 v1003 v1004 v1005)) else (jS_X2_readSums_99 rw mn sm (jL_X2_readSums_10 rw mn sm n) x1 (x4 + (1 : Int32)) x5 v1003 v1004 (1 : Int32)))) else (if (x4 + (1 : Int32)) ≤ (90 : Int32) then (if v1003 = (1 : Int32) then (if v1005 = (0 : Int32) then (jix (x4 + (1 : Int32)) 92 (if (x1 + (sm (x4 + (1 : Int32)).toNatClampNeg)) ≤ (4611686018427387904 : Int64) then (jS_X2_readSums_99 rw mn sm (jL_X2_readSums_10 rw mn sm n) (x1 + (sm (x4 + (1 : Int32)).toNatClampNeg)) (x4 + (1 : Int32)) x5 v1003 v1004 v1005) else (jS_X2_readSums_99 rw mn sm (jL_X2_readSums_10 rw mn sm n) (x1 + (sm (x4 + (1 : Int32)).toNatClampNeg)) (x4 + (1 : Int32)) x5 v1003 v1004 (1 : Int32)))) else (jS_X2_readSums_99 rw mn sm (jL_X2_readSums_10 rw mn sm n) x1 (x4 + (1 : Int32)) x5 v1003 v1004 v1005)) else (jS_X2_readSums_99 rw mn sm (jL_X2_readSums_10 rw mn sm n) x1 (x4 + (1 : Int32)) x5 v1003 v1004 v1005)) else (jS_X2_readSums_99 rw mn sm (jL_X2_readSums_10 rw mn sm n) x1 (x4 + (1 : Int32)) x5 v1003 v1004 (1 : Int32))))) else (some (x1, fr, no)))) = some r := hj
    refine lv_iload hx hb dX2_readSums_10 (lv_at hl 4 rfl) ?_
    refine lv_if_eq (tgt := 105) hx hb dX2_readSums_12 (by decide) (fun c1001 => ?_) (fun c1001 => ?_)
    · replace hj := ja_pos c1001 hj
      refine lv_lload_n hx hb dX2_readSums_105 rfl (lv_at hl 1 rfl) ?_
      have hr9 : (x1, fr, no) = r := Option.some.inj hj
      subst hr9
      exact W.lret (v := x1) hx hb hr (fun t ht hW => ⟨⟨x1, (), rfl, rfl, by rw [ht]; exact hP, va_K.moved hW.alike hK, hD⟩, hS.F ht⟩) hS.2.2 dX2_readSums_106
    · replace hj := ja_neg c1001 hj
      refine lv_aload_n hx hb dX2_readSums_15 rfl (lv_at hl 0 rfl) ?_
      refine va_get (D := (dC, dI)) (ci := 2) (v := .int no) (C := RX2) (T := TX2) (N := 11) hx hb hts inn_X2_readSums_X2 hown hK hP 0 rfl rfl 10 (by decide) (hts (.fieldLink RX2 92 "SelfEndingCodesModel" "none" "Z") (by decide +kernel)) (fun _ h9 => h9) rfl dX2_readSums_16 ?_
      refine lv_if_ne (tgt := 105) hx hb dX2_readSums_19 (by decide) (fun c1002 => ?_) (fun c1002 => ?_)
      · replace hj := ja_neg c1002 hj
        refine lv_lload_n hx hb dX2_readSums_105 rfl (lv_at hl 1 rfl) ?_
        have hr9 : (x1, fr, no) = r := Option.some.inj hj
        subst hr9
        exact W.lret (v := x1) hx hb hr (fun t ht hW => ⟨⟨x1, (), rfl, rfl, by rw [ht]; exact hP, va_K.moved hW.alike hK, hD⟩, hS.F ht⟩) hS.2.2 dX2_readSums_106
      · replace hj := ja_pos c1002 hj
        refine lv_aload_n hx hb dX2_readSums_22 rfl (lv_at hl 0 rfl) ?_
        obtain ⟨⟨v1003, v1004, v1005⟩, hc, hj⟩ := ja_bd hj
        try dsimp only at hj
        have hPc := hP.sub (ws' := (wM cI cJ g0 gr gl gw gs th rw mn at_ ml md_l wd md sm fr no)) [0, 1, 2, 3, 4] rfl
        have hDc := hD.sub (ws' := (wM cI cJ g0 gr gl gw gs th rw mn at_ ml md_l wd md sm fr no)) [0, 1, 2, 3, 4] (by decide) rfl
        have hFc := va_free (wc := (wM cI cJ g0 gr gl gw gs th rw mn at_ ml md_l wd md sm fr no)) hD hS hA [0, 1, 2, 3, 4] rfl
        refine va_calli (va_runV (As := []) (rest := []) ⟨hx, hb, hml, hown, hts⟩ (c_X2_next l dC dI cI cJ g0 gr gl gw gs H.size th rw mn at_ ml md_l wd md sm fr no _ hc) (cwV 0 hts gX2_readSums_X2_next rfl rfl rfl (by decide +kernel) ⟨Nat.le_of_ble_eq_true rfl, Nat.le_of_ble_eq_true rfl⟩) ⟨fun a U g mk q => ⟨q.1, jPr.blind q.2⟩, va_recv hK hPc (ci := 2) (q0 := 0) rfl rfl, fun U hU hW => ⟨rfl, jPr.mk hU hW hPc hK hDc⟩⟩ rfl rfl hl.1 rfl (lv_room (Nat.le_of_ble_eq_true rfl)) dX2_readSums_23 ⟨Nat.le_of_ble_eq_true rfl, Nat.le_of_ble_eq_true rfl⟩) hS (fun q _ h => hFc q h) hFc (fun rr u t H1 locs ht hvm hw9 hB hz1 hk1 hS => ?_)
        have hw8 : v1003 = rr := hw9.symm
        subst hw8
        obtain ⟨hP1, hK1, hD1⟩ := hB
        rw [ht] at hP1
        obtain ⟨hP, hD⟩ := va_join (wr := ([] : va_W)) (w1 := (wM cI cJ g0 gr gl gw gs th rw mn at_ ml md_l wd md sm v1004 v1005)) hP hD [0, 1, 2, 3, 4] [] rfl rfl (by decide) (by decide) hk1 hFc hP1 hD1
        clear hk1 hP1 hK1 hD1 hvm hz1 hPc hDc hFc
        generalize H1 = H at hP hS ⊢
        have hP : va_P (dC, dI) vwCl (wM cI cJ g0 gr gl gw gs th rw mn at_ ml md_l wd md sm v1004 v1005) H := hP
        have hD : va_D A (wM cI cJ g0 gr gl gw gs th rw mn at_ ml md_l wd md sm v1004 v1005) := hD
        refine lv_istore (lv' := [(6, .int v1003), (0, .ref g0), (1, .long x1), (3, .int x3), (4, .int x4), (5, .int x5)]) hx hb dX2_readSums_26 hl (by decide) rfl (fun ls hl => ?_)
        refine lv_iinc (v := x4 + (1 : Int32)) (lv' := [(4, .int (x4 + (1 : Int32))), (6, .int v1003), (0, .ref g0), (1, .long x1), (3, .int x3), (5, .int x5)]) hx hb dX2_readSums_28 hl (k := 4) rfl (congrArg (fun z => x4 + z) (by decide)) (by decide) rfl (fun ls hl => ?_)
        refine lv_iload hx hb dX2_readSums_31 (lv_at hl 1 rfl) ?_
        refine lv_iconst (v := (1 : Int32)) hx hb dX2_readSums_33 (by decide) ?_
        refine lv_icmp_ne (tgt := 48) hx hb dX2_readSums_34 (by decide) (fun c1006 => ?_) (fun c1006 => ?_)
        · replace hj := ja_neg c1006 hj
          refine lv_iload hx hb dX2_readSums_48 (lv_at hl 0 rfl) ?_
          refine lv_bipush (v := (90 : Int32)) hx hb dX2_readSums_50 (by decide) ?_
          refine lv_icmp_le (tgt := 63) hx hb dX2_readSums_52 (by decide) (fun c1007 => ?_) (fun c1007 => ?_)
          · replace hj := ja_pos c1007 hj
            refine lv_iload hx hb dX2_readSums_63 (lv_at hl 1 rfl) ?_
            refine lv_iconst (v := (1 : Int32)) hx hb dX2_readSums_65 (by decide) ?_
            refine lv_icmp_ne (tgt := 99) hx hb dX2_readSums_66 (by decide) (fun c1008 => ?_) (fun c1008 => ?_)
            · replace hj := ja_neg c1008 hj
              exact s_X2_readSums_99 C0 hK hA g0 gr gl gw gs th rw mn at_ ml md_l wd md sm (jL_X2_readSums_10 rw mn sm n) ih x1 (x4 + (1 : Int32)) x5 v1003 v1004 v1005 _ hj _ _ _ (hP) (hD) hS (lv_sub hl [2, 3, 0, 5, 1] rfl)
            · replace hj := ja_pos c1008 hj
              refine lv_aload_n hx hb dX2_readSums_69 rfl (lv_at hl 2 rfl) ?_
              refine va_get (D := (dC, dI)) (ci := 2) (v := .int v1005) (C := RX2) (T := TX2) (N := 11) hx hb hts inn_X2_readSums_X2 hown hK hP 0 rfl rfl 10 (by decide) (hts (.fieldLink RX2 92 "SelfEndingCodesModel" "none" "Z") (by decide +kernel)) (fun _ h9 => h9) rfl dX2_readSums_70 ?_
              refine lv_if_ne (tgt := 99) hx hb dX2_readSums_73 (by decide) (fun c1009 => ?_) (fun c1009 => ?_)
              · replace hj := ja_neg c1009 hj
                exact s_X2_readSums_99 C0 hK hA g0 gr gl gw gs th rw mn at_ ml md_l wd md sm (jL_X2_readSums_10 rw mn sm n) ih x1 (x4 + (1 : Int32)) x5 v1003 v1004 v1005 _ hj _ _ _ (hP) (hD) hS (lv_sub hl [2, 3, 0, 5, 1] rfl)
              · replace hj := ja_pos c1009 hj
                refine lv_lload_n hx hb dX2_readSums_76 rfl (lv_at hl 3 rfl) ?_
                refine lv_aload_n hx hb dX2_readSums_77 rfl (lv_at hl 2 rfl) ?_
                refine va_get (D := (dC, dI)) (ci := 2) (v := .ref gs) (C := RX2) (T := TX2) (N := 11) hx hb hts inn_X2_readSums_X2 hown hK hP 0 rfl rfl 8 (by decide) (hts (.fieldLink RX2 20 "SelfEndingCodesModel" "sums" "[J") (by decide +kernel)) (fun _ h9 => h9) rfl dX2_readSums_78 ?_
                refine lv_iload hx hb dX2_readSums_81 (lv_at hl 0 rfl) ?_
                obtain ⟨hin, hj⟩ := ja_ix hj
                refine va_lald hx hb hK hP 4 1 rfl rfl hin dX2_readSums_83 ?_
                refine lv_ladd hx hb dX2_readSums_84 ?_
                refine lv_lstore_n (lv' := [(1, .long (x1 + (sm (x4 + (1 : Int32)).toNatClampNeg))), (4, .int (x4 + (1 : Int32))), (6, .int v1003), (0, .ref g0), (3, .int x3), (5, .int x5)]) hx hb dX2_readSums_85 rfl hl (by decide) rfl (fun ls hl => ?_)
                refine lv_lload_n hx hb dX2_readSums_86 rfl (lv_at hl 0 rfl) ?_
                refine lv_ldc2 (v := (4611686018427387904 : Int64)) hx hb hown (hts (.constantLong RX2 30 (4611686018427387904)) (by decide +kernel)) dX2_readSums_87 ?_
                refine W.lcmp hx hb dX2_readSums_90 ?_
                refine lv_if_le (tgt := 99) hx hb dX2_readSums_91 (by decide) (fun c1010 => ?_) (fun c1010 => ?_)
                · replace hj := ja_pos ((lg_cmp_le (x1 + (sm (x4 + (1 : Int32)).toNatClampNeg)) (4611686018427387904 : Int64)).mp c1010) hj
                  exact s_X2_readSums_99 C0 hK hA g0 gr gl gw gs th rw mn at_ ml md_l wd md sm (jL_X2_readSums_10 rw mn sm n) ih (x1 + (sm (x4 + (1 : Int32)).toNatClampNeg)) (x4 + (1 : Int32)) x5 v1003 v1004 v1005 _ hj _ _ _ (hP) (hD) hS (lv_sub hl [3, 0, 1, 5, 2] rfl)
                · replace hj := ja_neg (fun h9 => c1010 ((lg_cmp_le (x1 + (sm (x4 + (1 : Int32)).toNatClampNeg)) (4611686018427387904 : Int64)).mpr h9)) hj
                  refine lv_aload_n hx hb dX2_readSums_94 rfl (lv_at hl 3 rfl) ?_
                  refine lv_iconst (v := (1 : Int32)) hx hb dX2_readSums_95 (by decide) ?_
                  refine va_put (D := (dC, dI)) (ci := 2) (v := .int (1 : Int32)) (ty := .boolean) (C := RX2) (T := TX2) (N := 11) hx hb hts inn_X2_readSums_X2 tyX2 tyX2_ok nmX2 hown hK hP hD hS 0 rfl rfl 10 (by decide) (hts (.fieldLink RX2 92 "SelfEndingCodesModel" "none" "Z") (by decide +kernel)) (fun _ h9 => h9) rfl (by decide +kernel) (by decide) (by decide) (Nat.le_of_ble_eq_true rfl) dX2_readSums_96 (fun H locs hP hD hS => ?_)
                  have hP : va_P (dC, dI) vwCl (wM cI cJ g0 gr gl gw gs th rw mn at_ ml md_l wd md sm v1004 (1 : Int32)) H := hP
                  have hD : va_D A (wM cI cJ g0 gr gl gw gs th rw mn at_ ml md_l wd md sm v1004 (1 : Int32)) := hD
                  exact s_X2_readSums_99 C0 hK hA g0 gr gl gw gs th rw mn at_ ml md_l wd md sm (jL_X2_readSums_10 rw mn sm n) ih (x1 + (sm (x4 + (1 : Int32)).toNatClampNeg)) (x4 + (1 : Int32)) x5 v1003 v1004 (1 : Int32) _ hj _ _ _ (hP) (hD) hS (lv_sub hl [3, 0, 1, 5, 2] rfl)
          · replace hj := ja_neg c1007 hj
            refine lv_aload_n hx hb dX2_readSums_55 rfl (lv_at hl 2 rfl) ?_
            refine lv_iconst (v := (1 : Int32)) hx hb dX2_readSums_56 (by decide) ?_
            refine va_put (D := (dC, dI)) (ci := 2) (v := .int (1 : Int32)) (ty := .boolean) (C := RX2) (T := TX2) (N := 11) hx hb hts inn_X2_readSums_X2 tyX2 tyX2_ok nmX2 hown hK hP hD hS 0 rfl rfl 10 (by decide) (hts (.fieldLink RX2 92 "SelfEndingCodesModel" "none" "Z") (by decide +kernel)) (fun _ h9 => h9) rfl (by decide +kernel) (by decide) (by decide) (Nat.le_of_ble_eq_true rfl) dX2_readSums_57 (fun H locs hP hD hS => ?_)
            have hP : va_P (dC, dI) vwCl (wM cI cJ g0 gr gl gw gs th rw mn at_ ml md_l wd md sm v1004 (1 : Int32)) H := hP
            have hD : va_D A (wM cI cJ g0 gr gl gw gs th rw mn at_ ml md_l wd md sm v1004 (1 : Int32)) := hD
            refine lv_goto (tgt := 99) hx hb dX2_readSums_60 (by decide) ?_
            exact s_X2_readSums_99 C0 hK hA g0 gr gl gw gs th rw mn at_ ml md_l wd md sm (jL_X2_readSums_10 rw mn sm n) ih x1 (x4 + (1 : Int32)) x5 v1003 v1004 (1 : Int32) _ hj _ _ _ (hP) (hD) hS (lv_sub hl [2, 3, 0, 5, 1] rfl)
        · replace hj := ja_pos c1006 hj
          refine lv_iload_n hx hb dX2_readSums_37 rfl (lv_at hl 4 rfl) ?_
          refine lv_iconst (v := (1 : Int32)) hx hb dX2_readSums_38 (by decide) ?_
          refine lv_icmp_ne (tgt := 48) hx hb dX2_readSums_39 (by decide) (fun c1011 => ?_) (fun c1011 => ?_)
          · replace hj := ja_neg c1011 hj
            refine lv_iload hx hb dX2_readSums_48 (lv_at hl 0 rfl) ?_
            refine lv_bipush (v := (90 : Int32)) hx hb dX2_readSums_50 (by decide) ?_
            refine lv_icmp_le (tgt := 63) hx hb dX2_readSums_52 (by decide) (fun c1012 => ?_) (fun c1012 => ?_)
            · replace hj := ja_pos c1012 hj
              refine lv_iload hx hb dX2_readSums_63 (lv_at hl 1 rfl) ?_
              refine lv_iconst (v := (1 : Int32)) hx hb dX2_readSums_65 (by decide) ?_
              refine lv_icmp_ne (tgt := 99) hx hb dX2_readSums_66 (by decide) (fun c1013 => ?_) (fun c1013 => ?_)
              · replace hj := ja_neg c1013 hj
                exact s_X2_readSums_99 C0 hK hA g0 gr gl gw gs th rw mn at_ ml md_l wd md sm (jL_X2_readSums_10 rw mn sm n) ih x1 (x4 + (1 : Int32)) x5 v1003 v1004 v1005 _ hj _ _ _ (hP) (hD) hS (lv_sub hl [2, 3, 0, 5, 1] rfl)
              · replace hj := ja_pos c1013 hj
                refine lv_aload_n hx hb dX2_readSums_69 rfl (lv_at hl 2 rfl) ?_
                refine va_get (D := (dC, dI)) (ci := 2) (v := .int v1005) (C := RX2) (T := TX2) (N := 11) hx hb hts inn_X2_readSums_X2 hown hK hP 0 rfl rfl 10 (by decide) (hts (.fieldLink RX2 92 "SelfEndingCodesModel" "none" "Z") (by decide +kernel)) (fun _ h9 => h9) rfl dX2_readSums_70 ?_
                refine lv_if_ne (tgt := 99) hx hb dX2_readSums_73 (by decide) (fun c1014 => ?_) (fun c1014 => ?_)
                · replace hj := ja_neg c1014 hj
                  exact s_X2_readSums_99 C0 hK hA g0 gr gl gw gs th rw mn at_ ml md_l wd md sm (jL_X2_readSums_10 rw mn sm n) ih x1 (x4 + (1 : Int32)) x5 v1003 v1004 v1005 _ hj _ _ _ (hP) (hD) hS (lv_sub hl [2, 3, 0, 5, 1] rfl)
                · replace hj := ja_pos c1014 hj
                  refine lv_lload_n hx hb dX2_readSums_76 rfl (lv_at hl 3 rfl) ?_
                  refine lv_aload_n hx hb dX2_readSums_77 rfl (lv_at hl 2 rfl) ?_
                  refine va_get (D := (dC, dI)) (ci := 2) (v := .ref gs) (C := RX2) (T := TX2) (N := 11) hx hb hts inn_X2_readSums_X2 hown hK hP 0 rfl rfl 8 (by decide) (hts (.fieldLink RX2 20 "SelfEndingCodesModel" "sums" "[J") (by decide +kernel)) (fun _ h9 => h9) rfl dX2_readSums_78 ?_
                  refine lv_iload hx hb dX2_readSums_81 (lv_at hl 0 rfl) ?_
                  obtain ⟨hin, hj⟩ := ja_ix hj
                  refine va_lald hx hb hK hP 4 1 rfl rfl hin dX2_readSums_83 ?_
                  refine lv_ladd hx hb dX2_readSums_84 ?_
                  refine lv_lstore_n (lv' := [(1, .long (x1 + (sm (x4 + (1 : Int32)).toNatClampNeg))), (4, .int (x4 + (1 : Int32))), (6, .int v1003), (0, .ref g0), (3, .int x3), (5, .int x5)]) hx hb dX2_readSums_85 rfl hl (by decide) rfl (fun ls hl => ?_)
                  refine lv_lload_n hx hb dX2_readSums_86 rfl (lv_at hl 0 rfl) ?_
                  refine lv_ldc2 (v := (4611686018427387904 : Int64)) hx hb hown (hts (.constantLong RX2 30 (4611686018427387904)) (by decide +kernel)) dX2_readSums_87 ?_
                  refine W.lcmp hx hb dX2_readSums_90 ?_
                  refine lv_if_le (tgt := 99) hx hb dX2_readSums_91 (by decide) (fun c1015 => ?_) (fun c1015 => ?_)
                  · replace hj := ja_pos ((lg_cmp_le (x1 + (sm (x4 + (1 : Int32)).toNatClampNeg)) (4611686018427387904 : Int64)).mp c1015) hj
                    exact s_X2_readSums_99 C0 hK hA g0 gr gl gw gs th rw mn at_ ml md_l wd md sm (jL_X2_readSums_10 rw mn sm n) ih (x1 + (sm (x4 + (1 : Int32)).toNatClampNeg)) (x4 + (1 : Int32)) x5 v1003 v1004 v1005 _ hj _ _ _ (hP) (hD) hS (lv_sub hl [3, 0, 1, 5, 2] rfl)
                  · replace hj := ja_neg (fun h9 => c1015 ((lg_cmp_le (x1 + (sm (x4 + (1 : Int32)).toNatClampNeg)) (4611686018427387904 : Int64)).mpr h9)) hj
                    refine lv_aload_n hx hb dX2_readSums_94 rfl (lv_at hl 3 rfl) ?_
                    refine lv_iconst (v := (1 : Int32)) hx hb dX2_readSums_95 (by decide) ?_
                    refine va_put (D := (dC, dI)) (ci := 2) (v := .int (1 : Int32)) (ty := .boolean) (C := RX2) (T := TX2) (N := 11) hx hb hts inn_X2_readSums_X2 tyX2 tyX2_ok nmX2 hown hK hP hD hS 0 rfl rfl 10 (by decide) (hts (.fieldLink RX2 92 "SelfEndingCodesModel" "none" "Z") (by decide +kernel)) (fun _ h9 => h9) rfl (by decide +kernel) (by decide) (by decide) (Nat.le_of_ble_eq_true rfl) dX2_readSums_96 (fun H locs hP hD hS => ?_)
                    have hP : va_P (dC, dI) vwCl (wM cI cJ g0 gr gl gw gs th rw mn at_ ml md_l wd md sm v1004 (1 : Int32)) H := hP
                    have hD : va_D A (wM cI cJ g0 gr gl gw gs th rw mn at_ ml md_l wd md sm v1004 (1 : Int32)) := hD
                    exact s_X2_readSums_99 C0 hK hA g0 gr gl gw gs th rw mn at_ ml md_l wd md sm (jL_X2_readSums_10 rw mn sm n) ih (x1 + (sm (x4 + (1 : Int32)).toNatClampNeg)) (x4 + (1 : Int32)) x5 v1003 v1004 (1 : Int32) _ hj _ _ _ (hP) (hD) hS (lv_sub hl [3, 0, 1, 5, 2] rfl)
            · replace hj := ja_neg c1012 hj
              refine lv_aload_n hx hb dX2_readSums_55 rfl (lv_at hl 2 rfl) ?_
              refine lv_iconst (v := (1 : Int32)) hx hb dX2_readSums_56 (by decide) ?_
              refine va_put (D := (dC, dI)) (ci := 2) (v := .int (1 : Int32)) (ty := .boolean) (C := RX2) (T := TX2) (N := 11) hx hb hts inn_X2_readSums_X2 tyX2 tyX2_ok nmX2 hown hK hP hD hS 0 rfl rfl 10 (by decide) (hts (.fieldLink RX2 92 "SelfEndingCodesModel" "none" "Z") (by decide +kernel)) (fun _ h9 => h9) rfl (by decide +kernel) (by decide) (by decide) (Nat.le_of_ble_eq_true rfl) dX2_readSums_57 (fun H locs hP hD hS => ?_)
              have hP : va_P (dC, dI) vwCl (wM cI cJ g0 gr gl gw gs th rw mn at_ ml md_l wd md sm v1004 (1 : Int32)) H := hP
              have hD : va_D A (wM cI cJ g0 gr gl gw gs th rw mn at_ ml md_l wd md sm v1004 (1 : Int32)) := hD
              refine lv_goto (tgt := 99) hx hb dX2_readSums_60 (by decide) ?_
              exact s_X2_readSums_99 C0 hK hA g0 gr gl gw gs th rw mn at_ ml md_l wd md sm (jL_X2_readSums_10 rw mn sm n) ih x1 (x4 + (1 : Int32)) x5 v1003 v1004 (1 : Int32) _ hj _ _ _ (hP) (hD) hS (lv_sub hl [2, 3, 0, 5, 1] rfl)
          · replace hj := ja_pos c1011 hj
            refine lv_iconst (v := (0 : Int32)) hx hb dX2_readSums_42 (by decide) ?_
            refine lv_istore (lv' := [(5, .int (0 : Int32)), (4, .int (x4 + (1 : Int32))), (6, .int v1003), (0, .ref g0), (1, .long x1), (3, .int x3)]) hx hb dX2_readSums_43 hl (by decide) rfl (fun ls hl => ?_)
            refine lv_goto (tgt := 99) hx hb dX2_readSums_45 (by decide) ?_
            exact s_X2_readSums_99 C0 hK hA g0 gr gl gw gs th rw mn at_ ml md_l wd md sm (jL_X2_readSums_10 rw mn sm n) ih x1 (x4 + (1 : Int32)) (0 : Int32) v1003 v1004 v1005 _ hj _ _ _ (hP) (hD) hS (lv_sub hl [3, 4, 1, 0, 2] rfl)
def j_X2_readSums (rw : Nat → Int32) (mn : Int32) (sm : Nat → Int64) (fr : Int32) (no : Int32) : Option (Int64 × Int32 × Int32) :=
  jL_X2_readSums_10 rw mn sm jF (0 : Int64) (0 : Int32) (0 : Int32) (1 : Int32) fr no
set_option maxHeartbeats 4000000 in
set_option maxRecDepth 100000 in
theorem c_X2_readSums (l : Launch) (dC : Nat → ClassId) (dI : Nat → Nat → Nat) (cI cJ : ClassId) (g0 : Nat) (gr : Nat) (gl : Nat) (gw : Nat) (gs : Nat) (sz : Nat) (th : Int32) (rw : Nat → Int32) (mn : Int32) (at_ : Int32) (ml : Nat → Int64) (md_l : Int32) (wd : Nat → Int32) (md : Int32) (sm : Nat → Int64) (fr : Int32) (no : Int32) (r : Int64 × Int32 × Int32) (hj : j_X2_readSums rw mn sm fr no = some r) : Met l yX2_readSums wsX2_readSums ({ frames := 1, cells := 0, slots := 0, locals := 20 } : Room) (va_Pc [.ref g0] (fun U => jPr dC dI cI cJ (wM cI cJ g0 gr gl gw gs th rw mn at_ ml md_l wd md sm fr no) sz U)) (va_Ql (fun (v : Int64) (_ : Unit) => v = r.1) (fun (_ : Unit) t => jPo dC dI cI cJ (wM cI cJ g0 gr gl gw gs th rw mn at_ ml md_l wd md sm r.2.1 r.2.2) (va_A (wM cI cJ g0 gr gl gw gs th rw mn at_ ml md_l wd md sm fr no) sz) t) (va_A (wM cI cJ g0 gr gl gw gs th rw mn at_ ml md_l wd md sm fr no) sz)) 0 0 (va_A (wM cI cJ g0 gr gl gw gs th rw mn at_ ml md_l wd md sm fr no) sz) := by
  refine Met.ofW (cc := cX2_readSums) (maxL := 7) (ret := (some .long)) (by decide) rfl ?_
  intro p e s m args below meth c s₁ B hml hv
  obtain ⟨rfl, ⟨hsz, hP, hK, hD0⟩⟩ := hv
  have hx := B.exec
  have hb := B.bytes
  have hr := B.returns
  have hts := atoms_spec (ws := wsX2_readSums) B.pre
  have hown : s.vm.findClass RX2 = some m.cls := findClass_of_methodNamed B.named
  have hlocks := B.notSynchronized
  have C0 := jCx.of hx hb hr hml hown hts hlocks
  subst hsz
  have hD := hD0.self (sz := s.heap.size)
  generalize hAe : va_A (wM cI cJ g0 gr gl gw gs th rw mn at_ ml md_l wd md sm fr no) s.heap.size = A at hD ⊢
  have hA : ∀ q : Nat, s.heap.size ≤ q → A q := fun q h => by rw [← hAe]; exact Or.inr h
  have hS : va_S A s.heap s.heap [] := va_S.rf
  have hP : va_P (dC, dI) vwCl (wM cI cJ g0 gr gl gw gs th rw mn at_ ml md_l wd md sm fr no) s.heap := hP
  have hl := lv_entry ([.ref g0]) (n := 7) (Nat.le_of_ble_eq_true rfl)
  rw [lg_entry_eq]
  generalize (lg_sl ([.ref g0]) ++ List.replicate (7 - (lg_sl ([.ref g0])).length) Slot.unset).toArray = ls at hl ⊢
  have hl : lv_has ls 7 [(0, .ref g0)] := hl
  clear hD0 hAe
  unfold j_X2_readSums at hj
  refine lv_lconst (v := (0 : Int64)) hx hb dX2_readSums_0 (by decide) ?_
  refine lv_lstore_n (lv' := [(1, .long (0 : Int64)), (0, .ref g0)]) hx hb dX2_readSums_1 rfl hl (by decide) rfl (fun ls hl => ?_)
  refine lv_iconst (v := (0 : Int32)) hx hb dX2_readSums_2 (by decide) ?_
  refine lv_istore_n (lv' := [(3, .int (0 : Int32)), (1, .long (0 : Int64)), (0, .ref g0)]) hx hb dX2_readSums_3 rfl hl (by decide) rfl (fun ls hl => ?_)
  refine lv_iconst (v := (0 : Int32)) hx hb dX2_readSums_4 (by decide) ?_
  refine lv_istore (lv' := [(4, .int (0 : Int32)), (3, .int (0 : Int32)), (1, .long (0 : Int64)), (0, .ref g0)]) hx hb dX2_readSums_5 hl (by decide) rfl (fun ls hl => ?_)
  refine lv_iconst (v := (1 : Int32)) hx hb dX2_readSums_7 (by decide) ?_
  refine lv_istore (lv' := [(5, .int (1 : Int32)), (4, .int (0 : Int32)), (3, .int (0 : Int32)), (1, .long (0 : Int64)), (0, .ref g0)]) hx hb dX2_readSums_8 hl (by decide) rfl (fun ls hl => ?_)
  exact s_X2_readSums_10 C0 hK hA g0 gr gl gw gs th rw mn at_ ml md_l wd md sm jF (0 : Int64) (0 : Int32) (0 : Int32) (1 : Int32) fr no _ hj _ _ _ (hP) (hD) hS (lv_sub hl [4, 3, 2, 1, 0] rfl)

set_option maxRecDepth 100000 in
theorem inn_X2_reads_X2 : ∀ w ∈ u_ws RX2 TX2 11, w ∈ wsX2_reads := by decide +kernel
def jS_X2_reads_196 (rw : Nat → Int32) (mn : Int32) (sm : Nat → Int64) (x3 : Int64) (at_ : Int32) (fr : Int32) (no : Int32) : Option (Int64 × Int32 × Int32 × Int32) :=
  if no = (0 : Int32) then (if x3 < (1 : Int64) then (some ((-1 : Int64), at_, fr, no)) else (if x3 ≤ (4611686018427387904 : Int64) then (some (x3, fr, fr, no)) else (some ((-1 : Int64), at_, fr, no)))) else (some ((-1 : Int64), at_, fr, no))
set_option maxHeartbeats 4000000 in
set_option maxRecDepth 100000 in
theorem s_X2_reads_196 {p : Program} {l : Launch} {e : Env} {s : State} {m : MethodId} {args : Array Value} {below : List Frame} {meth : Method} {c : Code} {dC : Nat → ClassId} {dI : Nat → Nat → Nat} {cI cJ : ClassId} {A : Nat → Prop} (C0 : jCx p s m args meth c RX2 cX2_reads 9 (some .long) wsX2_reads) (hK : va_K (dC, dI) vwCl (jTy cI cJ) s) (hA : ∀ q : Nat, s.heap.size ≤ q → A q) (g0 : Nat) (gr : Nat) (gl : Nat) (gw : Nat) (gs : Nat) (th : Int32) (rw : Nat → Int32) (mn : Int32) (ml : Nat → Int64) (md_l : Int32) (wd : Nat → Int32) (md : Int32) (sm : Nat → Int64) :
    ∀ (x3 : Int64) (at_ : Int32) (fr : Int32) (no : Int32) (r : Int64 × Int32 × Int32 × Int32), jS_X2_reads_196 rw mn sm x3 at_ fr no = some r → ∀ (H : Heap) (locs : List Loc) (ls : Array Slot), va_P (dC, dI) vwCl (wM cI cJ g0 gr gl gw gs th rw mn at_ ml md_l wd md sm fr no) H → va_D A (wM cI cJ g0 gr gl gw gs th rw mn at_ ml md_l wd md sm fr no) → va_S A s.heap H locs → lv_has ls 9 [(0, .ref g0), (3, .long x3)] → W p l e ({ frames := 4, cells := 0, slots := 0, locals := 90 } : Room) s m args below meth c H locs 0 0 (MQ below (va_Ql (fun (v : Int64) (_ : Unit) => v = r.1) (fun (_ : Unit) t => jPo dC dI cI cJ (wM cI cJ g0 gr gl gw gs th rw mn r.2.1 ml md_l wd md sm r.2.2.1 r.2.2.2) A t) A) args s 0 0 A) (F0 m 196 ls []) := by
  obtain ⟨hx, hb, hr, hml, hown, hts, hlocks⟩ := id C0
  intro x3 at_ fr no r hj H locs ls hP hD hS hl
  unfold jS_X2_reads_196 at hj
  refine lv_aload_n hx hb dX2_reads_196 rfl (lv_at hl 0 rfl) ?_
  refine va_get (D := (dC, dI)) (ci := 2) (v := .int no) (C := RX2) (T := TX2) (N := 11) hx hb hts inn_X2_reads_X2 hown hK hP 0 rfl rfl 10 (by decide) (hts (.fieldLink RX2 92 "SelfEndingCodesModel" "none" "Z") (by decide +kernel)) (fun _ h9 => h9) rfl dX2_reads_197 ?_
  refine lv_if_ne (tgt := 217) hx hb dX2_reads_200 (by decide) (fun c19601 => ?_) (fun c19601 => ?_)
  · replace hj := ja_neg c19601 hj
    refine lv_ldc2 (v := (-1 : Int64)) hx hb hown (hts (.constantLong RX2 135 (-1)) (by decide +kernel)) dX2_reads_217 ?_
    have hr9 : ((-1 : Int64), at_, fr, no) = r := Option.some.inj hj
    subst hr9
    exact W.lret (v := (-1 : Int64)) hx hb hr (fun t ht hW => ⟨⟨(-1 : Int64), (), rfl, rfl, by rw [ht]; exact hP, va_K.moved hW.alike hK, hD⟩, hS.F ht⟩) hS.2.2 dX2_reads_220
  · replace hj := ja_pos c19601 hj
    refine lv_lload_n hx hb dX2_reads_203 rfl (lv_at hl 1 rfl) ?_
    refine lv_lconst (v := (1 : Int64)) hx hb dX2_reads_204 (by decide) ?_
    refine W.lcmp hx hb dX2_reads_205 ?_
    refine lv_if_lt (tgt := 217) hx hb dX2_reads_206 (by decide) (fun c19602 => ?_) (fun c19602 => ?_)
    · replace hj := ja_pos ((lg_cmp_lt x3 (1 : Int64)).mp c19602) hj
      refine lv_ldc2 (v := (-1 : Int64)) hx hb hown (hts (.constantLong RX2 135 (-1)) (by decide +kernel)) dX2_reads_217 ?_
      have hr9 : ((-1 : Int64), at_, fr, no) = r := Option.some.inj hj
      subst hr9
      exact W.lret (v := (-1 : Int64)) hx hb hr (fun t ht hW => ⟨⟨(-1 : Int64), (), rfl, rfl, by rw [ht]; exact hP, va_K.moved hW.alike hK, hD⟩, hS.F ht⟩) hS.2.2 dX2_reads_220
    · replace hj := ja_neg (fun h9 => c19602 ((lg_cmp_lt x3 (1 : Int64)).mpr h9)) hj
      refine lv_lload_n hx hb dX2_reads_209 rfl (lv_at hl 1 rfl) ?_
      refine lv_ldc2 (v := (4611686018427387904 : Int64)) hx hb hown (hts (.constantLong RX2 30 (4611686018427387904)) (by decide +kernel)) dX2_reads_210 ?_
      refine W.lcmp hx hb dX2_reads_213 ?_
      refine lv_if_le (tgt := 221) hx hb dX2_reads_214 (by decide) (fun c19603 => ?_) (fun c19603 => ?_)
      · replace hj := ja_pos ((lg_cmp_le x3 (4611686018427387904 : Int64)).mp c19603) hj
        refine lv_aload_n hx hb dX2_reads_221 rfl (lv_at hl 0 rfl) ?_
        refine lv_aload_n hx hb dX2_reads_222 rfl (lv_at hl 0 rfl) ?_
        refine va_get (D := (dC, dI)) (ci := 2) (v := .int fr) (C := RX2) (T := TX2) (N := 11) hx hb hts inn_X2_reads_X2 hown hK hP 0 rfl rfl 9 (by decide) (hts (.fieldLink RX2 89 "SelfEndingCodesModel" "from" "I") (by decide +kernel)) (fun _ h9 => h9) rfl dX2_reads_223 ?_
        refine va_put (D := (dC, dI)) (ci := 2) (v := .int fr) (ty := .int) (C := RX2) (T := TX2) (N := 11) hx hb hts inn_X2_reads_X2 tyX2 tyX2_ok nmX2 hown hK hP hD hS 0 rfl rfl 3 (by decide) (hts (.fieldLink RX2 115 "SelfEndingCodesModel" "at" "I") (by decide +kernel)) (fun _ h9 => h9) rfl (by decide +kernel) rfl rfl (Nat.le_of_ble_eq_true rfl) dX2_reads_226 (fun H locs hP hD hS => ?_)
        have hP : va_P (dC, dI) vwCl (wM cI cJ g0 gr gl gw gs th rw mn fr ml md_l wd md sm fr no) H := hP
        have hD : va_D A (wM cI cJ g0 gr gl gw gs th rw mn fr ml md_l wd md sm fr no) := hD
        refine lv_lload_n hx hb dX2_reads_229 rfl (lv_at hl 1 rfl) ?_
        have hr9 : (x3, fr, fr, no) = r := Option.some.inj hj
        subst hr9
        exact W.lret (v := x3) hx hb hr (fun t ht hW => ⟨⟨x3, (), rfl, rfl, by rw [ht]; exact hP, va_K.moved hW.alike hK, hD⟩, hS.F ht⟩) hS.2.2 dX2_reads_230
      · replace hj := ja_neg (fun h9 => c19603 ((lg_cmp_le x3 (4611686018427387904 : Int64)).mpr h9)) hj
        refine lv_ldc2 (v := (-1 : Int64)) hx hb hown (hts (.constantLong RX2 135 (-1)) (by decide +kernel)) dX2_reads_217 ?_
        have hr9 : ((-1 : Int64), at_, fr, no) = r := Option.some.inj hj
        subst hr9
        exact W.lret (v := (-1 : Int64)) hx hb hr (fun t ht hW => ⟨⟨(-1 : Int64), (), rfl, rfl, by rw [ht]; exact hP, va_K.moved hW.alike hK, hD⟩, hS.F ht⟩) hS.2.2 dX2_reads_220
def j_X2_reads (rw : Nat → Int32) (mn : Int32) (at_ : Int32) (sm : Nat → Int64) (fr : Int32) (no : Int32) (a1 : Int32) (a2 : Int32) : Option (Int64 × Int32 × Int32 × Int32) :=
  if a1 = (0 : Int32) then ((j_X2_run rw mn at_ (0 : Int32) (1 : Int32)).bind fun (v4, v5, v6) => (jS_X2_reads_196 rw mn sm (v4.toInt64 + (1 : Int64)) at_ (v5 + (1 : Int32)) v6)) else (if a1 = (1 : Int32) then ((j_X2_readDoubled rw mn at_ (0 : Int32)).bind fun (v7, v8, v9) => (jS_X2_reads_196 rw mn sm v7 at_ v8 v9)) else (if a1 = (2 : Int32) then ((j_X2_readDoubled rw mn at_ (0 : Int32)).bind fun (v10, v11, v12) => (if v10 ≤ (63 : Int64) then (if v12 = (0 : Int32) then ((j_X2_some rw mn v11 v12 (v10.toInt32 - (1 : Int32))).bind fun (v15, v16, v17) => (if v17 = (0 : Int32) then (jS_X2_reads_196 rw mn sm (((1 : Int64) <<< ((v10.toInt32 - (1 : Int32)).toInt64 &&& 63)) + v15) at_ v16 v17) else (jS_X2_reads_196 rw mn sm (0 : Int64) at_ v16 v17))) else (jS_X2_reads_196 rw mn sm (0 : Int64) at_ v11 v12)) else (jS_X2_reads_196 rw mn sm (0 : Int64) at_ v11 (1 : Int32)))) else (if a1 = (3 : Int32) then ((j_X2_readChain rw mn at_ (0 : Int32)).bind fun (v19, v20, v21) => (jS_X2_reads_196 rw mn sm v19 at_ v20 v21)) else (if a1 = (4 : Int32) then ((j_X2_readSums rw mn sm at_ (0 : Int32)).bind fun (v22, v23, v24) => (jS_X2_reads_196 rw mn sm v22 at_ v23 v24)) else (if a1 = (5 : Int32) then ((j_X2_readQuotient rw mn at_ (0 : Int32) a2).bind fun (v25, v26, v27) => (jS_X2_reads_196 rw mn sm v25 at_ v26 v27)) else (if a1 = (6 : Int32) then ((j_X2_readShort rw mn at_ (0 : Int32) a2).bind fun (v28, v29, v30) => (jS_X2_reads_196 rw mn sm v28 at_ v29 v30)) else ((j_X2_readGroups rw mn at_ (0 : Int32) a2).bind fun (v1, v2, v3) => (jS_X2_reads_196 rw mn sm v1 at_ v2 v3))))))))
set_option maxHeartbeats 4000000 in
set_option maxRecDepth 100000 in
theorem c_X2_reads (l : Launch) (dC : Nat → ClassId) (dI : Nat → Nat → Nat) (cI cJ : ClassId) (g0 : Nat) (gr : Nat) (gl : Nat) (gw : Nat) (gs : Nat) (sz : Nat) (th : Int32) (rw : Nat → Int32) (mn : Int32) (at_ : Int32) (ml : Nat → Int64) (md_l : Int32) (wd : Nat → Int32) (md : Int32) (sm : Nat → Int64) (fr : Int32) (no : Int32) (a1 : Int32) (a2 : Int32) (r : Int64 × Int32 × Int32 × Int32) (hj : j_X2_reads rw mn at_ sm fr no a1 a2 = some r) : Met l yX2_reads wsX2_reads ({ frames := 4, cells := 0, slots := 0, locals := 90 } : Room) (va_Pc [.ref g0, .int a1, .int a2] (fun U => jPr dC dI cI cJ (wM cI cJ g0 gr gl gw gs th rw mn at_ ml md_l wd md sm fr no) sz U)) (va_Ql (fun (v : Int64) (_ : Unit) => v = r.1) (fun (_ : Unit) t => jPo dC dI cI cJ (wM cI cJ g0 gr gl gw gs th rw mn r.2.1 ml md_l wd md sm r.2.2.1 r.2.2.2) (va_A (wM cI cJ g0 gr gl gw gs th rw mn at_ ml md_l wd md sm fr no) sz) t) (va_A (wM cI cJ g0 gr gl gw gs th rw mn at_ ml md_l wd md sm fr no) sz)) 0 0 (va_A (wM cI cJ g0 gr gl gw gs th rw mn at_ ml md_l wd md sm fr no) sz) := by
  refine Met.ofW (cc := cX2_reads) (maxL := 9) (ret := (some .long)) (by decide) rfl ?_
  intro p e s m args below meth c s₁ B hml hv
  obtain ⟨rfl, ⟨hsz, hP, hK, hD0⟩⟩ := hv
  have hx := B.exec
  have hb := B.bytes
  have hr := B.returns
  have hts := atoms_spec (ws := wsX2_reads) B.pre
  have hown : s.vm.findClass RX2 = some m.cls := findClass_of_methodNamed B.named
  have hlocks := B.notSynchronized
  have C0 := jCx.of hx hb hr hml hown hts hlocks
  subst hsz
  have hD := hD0.self (sz := s.heap.size)
  generalize hAe : va_A (wM cI cJ g0 gr gl gw gs th rw mn at_ ml md_l wd md sm fr no) s.heap.size = A at hD ⊢
  have hA : ∀ q : Nat, s.heap.size ≤ q → A q := fun q h => by rw [← hAe]; exact Or.inr h
  have hS : va_S A s.heap s.heap [] := va_S.rf
  have hP : va_P (dC, dI) vwCl (wM cI cJ g0 gr gl gw gs th rw mn at_ ml md_l wd md sm fr no) s.heap := hP
  have hl := lv_entry ([.ref g0, .int a1, .int a2]) (n := 9) (Nat.le_of_ble_eq_true rfl)
  rw [lg_entry_eq]
  generalize (lg_sl ([.ref g0, .int a1, .int a2]) ++ List.replicate (9 - (lg_sl ([.ref g0, .int a1, .int a2])).length) Slot.unset).toArray = ls at hl ⊢
  have hl : lv_has ls 9 [(0, .ref g0), (1, .int a1), (2, .int a2)] := hl
  clear hD0 hAe
  unfold j_X2_reads at hj
  refine lv_aload_n hx hb dX2_reads_0 rfl (lv_at hl 0 rfl) ?_
  refine lv_aload_n hx hb dX2_reads_1 rfl (lv_at hl 0 rfl) ?_
  refine va_get (D := (dC, dI)) (ci := 2) (v := .int at_) (C := RX2) (T := TX2) (N := 11) hx hb hts inn_X2_reads_X2 hown hK hP 0 rfl rfl 3 (by decide) (hts (.fieldLink RX2 115 "SelfEndingCodesModel" "at" "I") (by decide +kernel)) (fun _ h9 => h9) rfl dX2_reads_2 ?_
  refine va_put (D := (dC, dI)) (ci := 2) (v := .int at_) (ty := .int) (C := RX2) (T := TX2) (N := 11) hx hb hts inn_X2_reads_X2 tyX2 tyX2_ok nmX2 hown hK hP hD hS 0 rfl rfl 9 (by decide) (hts (.fieldLink RX2 89 "SelfEndingCodesModel" "from" "I") (by decide +kernel)) (fun _ h9 => h9) rfl (by decide +kernel) rfl rfl (Nat.le_of_ble_eq_true rfl) dX2_reads_5 (fun H locs hP hD hS => ?_)
  have hP : va_P (dC, dI) vwCl (wM cI cJ g0 gr gl gw gs th rw mn at_ ml md_l wd md sm at_ no) H := hP
  have hD : va_D A (wM cI cJ g0 gr gl gw gs th rw mn at_ ml md_l wd md sm at_ no) := hD
  refine lv_aload_n hx hb dX2_reads_8 rfl (lv_at hl 0 rfl) ?_
  refine lv_iconst (v := (0 : Int32)) hx hb dX2_reads_9 (by decide) ?_
  refine va_put (D := (dC, dI)) (ci := 2) (v := .int (0 : Int32)) (ty := .boolean) (C := RX2) (T := TX2) (N := 11) hx hb hts inn_X2_reads_X2 tyX2 tyX2_ok nmX2 hown hK hP hD hS 0 rfl rfl 10 (by decide) (hts (.fieldLink RX2 92 "SelfEndingCodesModel" "none" "Z") (by decide +kernel)) (fun _ h9 => h9) rfl (by decide +kernel) (by decide) (by decide) (Nat.le_of_ble_eq_true rfl) dX2_reads_10 (fun H locs hP hD hS => ?_)
  have hP : va_P (dC, dI) vwCl (wM cI cJ g0 gr gl gw gs th rw mn at_ ml md_l wd md sm at_ (0 : Int32)) H := hP
  have hD : va_D A (wM cI cJ g0 gr gl gw gs th rw mn at_ ml md_l wd md sm at_ (0 : Int32)) := hD
  refine lv_lconst (v := (0 : Int64)) hx hb dX2_reads_13 (by decide) ?_
  refine lv_lstore_n (lv' := [(3, .long (0 : Int64)), (0, .ref g0), (1, .int a1), (2, .int a2)]) hx hb dX2_reads_14 rfl hl (by decide) rfl (fun ls hl => ?_)
  refine lv_iload_n hx hb dX2_reads_15 rfl (lv_at hl 2 rfl) ?_
  by_cases q0 : a1 = (0 : Int32)
  · replace hj := ja_pos q0 hj
    refine lv_tableIn (tgt := 60) hx hb dX2_reads_16 (by rw [q0]; decide) (by rw [q0]; decide) (by rw [q0]; rfl) (by decide) ?_
    refine lv_aload_n hx hb dX2_reads_60 rfl (lv_at hl 1 rfl) ?_
    refine lv_iconst (v := (1 : Int32)) hx hb dX2_reads_61 (by decide) ?_
    obtain ⟨⟨v4, v5, v6⟩, hc, hj⟩ := ja_bd hj
    try dsimp only at hj
    have hPc := hP.sub (ws' := (wM cI cJ g0 gr gl gw gs th rw mn at_ ml md_l wd md sm at_ (0 : Int32))) [0, 1, 2, 3, 4] rfl
    have hDc := hD.sub (ws' := (wM cI cJ g0 gr gl gw gs th rw mn at_ ml md_l wd md sm at_ (0 : Int32))) [0, 1, 2, 3, 4] (by decide) rfl
    have hFc := va_free (wc := (wM cI cJ g0 gr gl gw gs th rw mn at_ ml md_l wd md sm at_ (0 : Int32))) hD hS hA [0, 1, 2, 3, 4] rfl
    refine va_calli (va_runV (As := [.int (1 : Int32)]) (rest := []) ⟨hx, hb, hml, hown, hts⟩ (c_X2_run l dC dI cI cJ g0 gr gl gw gs H.size th rw mn at_ ml md_l wd md sm at_ (0 : Int32) (1 : Int32) _ hc) (cwV 1 hts gX2_reads_X2_run rfl rfl rfl (by decide +kernel) ⟨Nat.le_of_ble_eq_true rfl, Nat.le_of_ble_eq_true rfl⟩) ⟨fun a U g mk q => ⟨q.1, jPr.blind q.2⟩, va_recv hK hPc (ci := 2) (q0 := 0) rfl rfl, fun U hU hW => ⟨rfl, jPr.mk hU hW hPc hK hDc⟩⟩ rfl rfl hl.1 rfl (lv_room (Nat.le_of_ble_eq_true rfl)) dX2_reads_62 ⟨Nat.le_of_ble_eq_true rfl, Nat.le_of_ble_eq_true rfl⟩) hS (fun q _ h => hFc q h) hFc (fun rr u t H1 locs ht hvm hw9 hB hz1 hk1 hS => ?_)
    have hw8 : v4 = rr := hw9.symm
    subst hw8
    obtain ⟨hP1, hK1, hD1⟩ := hB
    rw [ht] at hP1
    obtain ⟨hP, hD⟩ := va_join (wr := ([] : va_W)) (w1 := (wM cI cJ g0 gr gl gw gs th rw mn at_ ml md_l wd md sm v5 v6)) hP hD [0, 1, 2, 3, 4] [] rfl rfl (by decide) (by decide) hk1 hFc hP1 hD1
    clear hk1 hP1 hK1 hD1 hvm hz1 hPc hDc hFc
    generalize H1 = H at hP hS ⊢
    have hP : va_P (dC, dI) vwCl (wM cI cJ g0 gr gl gw gs th rw mn at_ ml md_l wd md sm v5 v6) H := hP
    have hD : va_D A (wM cI cJ g0 gr gl gw gs th rw mn at_ ml md_l wd md sm v5 v6) := hD
    refine lv_i2l hx hb dX2_reads_65 rfl ?_
    refine lv_lconst (v := (1 : Int64)) hx hb dX2_reads_66 (by decide) ?_
    refine lv_ladd hx hb dX2_reads_67 ?_
    refine lv_lstore_n (lv' := [(3, .long (v4.toInt64 + (1 : Int64))), (0, .ref g0), (1, .int a1), (2, .int a2)]) hx hb dX2_reads_68 rfl hl (by decide) rfl (fun ls hl => ?_)
    refine lv_aload_n hx hb dX2_reads_69 rfl (lv_at hl 1 rfl) ?_
    refine lv_dup hx hb dX2_reads_70 rfl ?_
    refine va_get (D := (dC, dI)) (ci := 2) (v := .int v5) (C := RX2) (T := TX2) (N := 11) hx hb hts inn_X2_reads_X2 hown hK hP 0 rfl rfl 9 (by decide) (hts (.fieldLink RX2 89 "SelfEndingCodesModel" "from" "I") (by decide +kernel)) (fun _ h9 => h9) rfl dX2_reads_71 ?_
    refine lv_iconst (v := (1 : Int32)) hx hb dX2_reads_74 (by decide) ?_
    refine lv_iadd hx hb dX2_reads_75 ?_
    refine va_put (D := (dC, dI)) (ci := 2) (v := .int (v5 + (1 : Int32))) (ty := .int) (C := RX2) (T := TX2) (N := 11) hx hb hts inn_X2_reads_X2 tyX2 tyX2_ok nmX2 hown hK hP hD hS 0 rfl rfl 9 (by decide) (hts (.fieldLink RX2 89 "SelfEndingCodesModel" "from" "I") (by decide +kernel)) (fun _ h9 => h9) rfl (by decide +kernel) rfl rfl (Nat.le_of_ble_eq_true rfl) dX2_reads_76 (fun H locs hP hD hS => ?_)
    have hP : va_P (dC, dI) vwCl (wM cI cJ g0 gr gl gw gs th rw mn at_ ml md_l wd md sm (v5 + (1 : Int32)) v6) H := hP
    have hD : va_D A (wM cI cJ g0 gr gl gw gs th rw mn at_ ml md_l wd md sm (v5 + (1 : Int32)) v6) := hD
    refine lv_goto (tgt := 196) hx hb dX2_reads_79 (by decide) ?_
    exact s_X2_reads_196 C0 hK hA g0 gr gl gw gs th rw mn ml md_l wd md sm (v4.toInt64 + (1 : Int64)) at_ (v5 + (1 : Int32)) v6 _ hj _ _ _ (hP) (hD) hS (lv_sub hl [1, 0] rfl)
  · replace hj := ja_neg q0 hj
    by_cases q1 : a1 = (1 : Int32)
    · replace hj := ja_pos q1 hj
      refine lv_tableIn (tgt := 82) hx hb dX2_reads_16 (by rw [q1]; decide) (by rw [q1]; decide) (by rw [q1]; rfl) (by decide) ?_
      refine lv_aload_n hx hb dX2_reads_82 rfl (lv_at hl 1 rfl) ?_
      obtain ⟨⟨v7, v8, v9⟩, hc, hj⟩ := ja_bd hj
      try dsimp only at hj
      have hPc := hP.sub (ws' := (wM cI cJ g0 gr gl gw gs th rw mn at_ ml md_l wd md sm at_ (0 : Int32))) [0, 1, 2, 3, 4] rfl
      have hDc := hD.sub (ws' := (wM cI cJ g0 gr gl gw gs th rw mn at_ ml md_l wd md sm at_ (0 : Int32))) [0, 1, 2, 3, 4] (by decide) rfl
      have hFc := va_free (wc := (wM cI cJ g0 gr gl gw gs th rw mn at_ ml md_l wd md sm at_ (0 : Int32))) hD hS hA [0, 1, 2, 3, 4] rfl
      refine va_calll (va_runV (As := []) (rest := []) ⟨hx, hb, hml, hown, hts⟩ (c_X2_readDoubled l dC dI cI cJ g0 gr gl gw gs H.size th rw mn at_ ml md_l wd md sm at_ (0 : Int32) _ hc) (cwV 0 hts gX2_reads_X2_readDoubled rfl rfl rfl (by decide +kernel) ⟨Nat.le_of_ble_eq_true rfl, Nat.le_of_ble_eq_true rfl⟩) ⟨fun a U g mk q => ⟨q.1, jPr.blind q.2⟩, va_recv hK hPc (ci := 2) (q0 := 0) rfl rfl, fun U hU hW => ⟨rfl, jPr.mk hU hW hPc hK hDc⟩⟩ rfl rfl hl.1 rfl (lv_room (Nat.le_of_ble_eq_true rfl)) dX2_reads_83 ⟨Nat.le_of_ble_eq_true rfl, Nat.le_of_ble_eq_true rfl⟩) hS (fun q _ h => hFc q h) hFc (fun rr u t H1 locs ht hvm hw9 hB hz1 hk1 hS => ?_)
      have hw8 : v7 = rr := hw9.symm
      subst hw8
      obtain ⟨hP1, hK1, hD1⟩ := hB
      rw [ht] at hP1
      obtain ⟨hP, hD⟩ := va_join (wr := ([] : va_W)) (w1 := (wM cI cJ g0 gr gl gw gs th rw mn at_ ml md_l wd md sm v8 v9)) hP hD [0, 1, 2, 3, 4] [] rfl rfl (by decide) (by decide) hk1 hFc hP1 hD1
      clear hk1 hP1 hK1 hD1 hvm hz1 hPc hDc hFc
      generalize H1 = H at hP hS ⊢
      have hP : va_P (dC, dI) vwCl (wM cI cJ g0 gr gl gw gs th rw mn at_ ml md_l wd md sm v8 v9) H := hP
      have hD : va_D A (wM cI cJ g0 gr gl gw gs th rw mn at_ ml md_l wd md sm v8 v9) := hD
      refine lv_lstore_n (lv' := [(3, .long v7), (0, .ref g0), (1, .int a1), (2, .int a2)]) hx hb dX2_reads_86 rfl hl (by decide) rfl (fun ls hl => ?_)
      refine lv_goto (tgt := 196) hx hb dX2_reads_87 (by decide) ?_
      exact s_X2_reads_196 C0 hK hA g0 gr gl gw gs th rw mn ml md_l wd md sm v7 at_ v8 v9 _ hj _ _ _ (hP) (hD) hS (lv_sub hl [1, 0] rfl)
    · replace hj := ja_neg q1 hj
      by_cases q2 : a1 = (2 : Int32)
      · replace hj := ja_pos q2 hj
        refine lv_tableIn (tgt := 90) hx hb dX2_reads_16 (by rw [q2]; decide) (by rw [q2]; decide) (by rw [q2]; rfl) (by decide) ?_
        refine lv_aload_n hx hb dX2_reads_90 rfl (lv_at hl 1 rfl) ?_
        obtain ⟨⟨v10, v11, v12⟩, hc, hj⟩ := ja_bd hj
        try dsimp only at hj
        have hPc := hP.sub (ws' := (wM cI cJ g0 gr gl gw gs th rw mn at_ ml md_l wd md sm at_ (0 : Int32))) [0, 1, 2, 3, 4] rfl
        have hDc := hD.sub (ws' := (wM cI cJ g0 gr gl gw gs th rw mn at_ ml md_l wd md sm at_ (0 : Int32))) [0, 1, 2, 3, 4] (by decide) rfl
        have hFc := va_free (wc := (wM cI cJ g0 gr gl gw gs th rw mn at_ ml md_l wd md sm at_ (0 : Int32))) hD hS hA [0, 1, 2, 3, 4] rfl
        refine va_calll (va_runV (As := []) (rest := []) ⟨hx, hb, hml, hown, hts⟩ (c_X2_readDoubled l dC dI cI cJ g0 gr gl gw gs H.size th rw mn at_ ml md_l wd md sm at_ (0 : Int32) _ hc) (cwV 0 hts gX2_reads_X2_readDoubled rfl rfl rfl (by decide +kernel) ⟨Nat.le_of_ble_eq_true rfl, Nat.le_of_ble_eq_true rfl⟩) ⟨fun a U g mk q => ⟨q.1, jPr.blind q.2⟩, va_recv hK hPc (ci := 2) (q0 := 0) rfl rfl, fun U hU hW => ⟨rfl, jPr.mk hU hW hPc hK hDc⟩⟩ rfl rfl hl.1 rfl (lv_room (Nat.le_of_ble_eq_true rfl)) dX2_reads_91 ⟨Nat.le_of_ble_eq_true rfl, Nat.le_of_ble_eq_true rfl⟩) hS (fun q _ h => hFc q h) hFc (fun rr u t H1 locs ht hvm hw9 hB hz1 hk1 hS => ?_)
        have hw8 : v10 = rr := hw9.symm
        subst hw8
        obtain ⟨hP1, hK1, hD1⟩ := hB
        rw [ht] at hP1
        obtain ⟨hP, hD⟩ := va_join (wr := ([] : va_W)) (w1 := (wM cI cJ g0 gr gl gw gs th rw mn at_ ml md_l wd md sm v11 v12)) hP hD [0, 1, 2, 3, 4] [] rfl rfl (by decide) (by decide) hk1 hFc hP1 hD1
        clear hk1 hP1 hK1 hD1 hvm hz1 hPc hDc hFc
        generalize H1 = H at hP hS ⊢
        have hP : va_P (dC, dI) vwCl (wM cI cJ g0 gr gl gw gs th rw mn at_ ml md_l wd md sm v11 v12) H := hP
        have hD : va_D A (wM cI cJ g0 gr gl gw gs th rw mn at_ ml md_l wd md sm v11 v12) := hD
        refine lv_lstore (lv' := [(5, .long v10), (3, .long (0 : Int64)), (0, .ref g0), (1, .int a1), (2, .int a2)]) hx hb dX2_reads_94 hl (by decide) rfl (fun ls hl => ?_)
        refine lv_lload hx hb dX2_reads_96 (lv_at hl 0 rfl) ?_
        refine lv_ldc2 (v := (63 : Int64)) hx hb hown (hts (.constantLong RX2 118 (63)) (by decide +kernel)) dX2_reads_98 ?_
        refine W.lcmp hx hb dX2_reads_101 ?_
        refine lv_if_le (tgt := 113) hx hb dX2_reads_102 (by decide) (fun c13 => ?_) (fun c13 => ?_)
        · replace hj := ja_pos ((lg_cmp_le v10 (63 : Int64)).mp c13) hj
          refine lv_aload_n hx hb dX2_reads_113 rfl (lv_at hl 2 rfl) ?_
          refine va_get (D := (dC, dI)) (ci := 2) (v := .int v12) (C := RX2) (T := TX2) (N := 11) hx hb hts inn_X2_reads_X2 hown hK hP 0 rfl rfl 10 (by decide) (hts (.fieldLink RX2 92 "SelfEndingCodesModel" "none" "Z") (by decide +kernel)) (fun _ h9 => h9) rfl dX2_reads_114 ?_
          refine lv_if_ne (tgt := 196) hx hb dX2_reads_117 (by decide) (fun c14 => ?_) (fun c14 => ?_)
          · replace hj := ja_neg c14 hj
            exact s_X2_reads_196 C0 hK hA g0 gr gl gw gs th rw mn ml md_l wd md sm (0 : Int64) at_ v11 v12 _ hj _ _ _ (hP) (hD) hS (lv_sub hl [2, 1] rfl)
          · replace hj := ja_pos c14 hj
            refine lv_aload_n hx hb dX2_reads_120 rfl (lv_at hl 2 rfl) ?_
            refine lv_lload hx hb dX2_reads_121 (lv_at hl 0 rfl) ?_
            refine lv_l2i hx hb dX2_reads_123 rfl ?_
            refine lv_iconst (v := (1 : Int32)) hx hb dX2_reads_124 (by decide) ?_
            refine lv_isub hx hb dX2_reads_125 ?_
            obtain ⟨⟨v15, v16, v17⟩, hc, hj⟩ := ja_bd hj
            try dsimp only at hj
            have hPc := hP.sub (ws' := (wM cI cJ g0 gr gl gw gs th rw mn at_ ml md_l wd md sm v11 v12)) [0, 1, 2, 3, 4] rfl
            have hDc := hD.sub (ws' := (wM cI cJ g0 gr gl gw gs th rw mn at_ ml md_l wd md sm v11 v12)) [0, 1, 2, 3, 4] (by decide) rfl
            have hFc := va_free (wc := (wM cI cJ g0 gr gl gw gs th rw mn at_ ml md_l wd md sm v11 v12)) hD hS hA [0, 1, 2, 3, 4] rfl
            refine va_calll (va_runV (As := [.int (v10.toInt32 - (1 : Int32))]) (rest := []) ⟨hx, hb, hml, hown, hts⟩ (c_X2_some l dC dI cI cJ g0 gr gl gw gs H.size th rw mn at_ ml md_l wd md sm v11 v12 (v10.toInt32 - (1 : Int32)) _ hc) (cwV 1 hts gX2_reads_X2_some rfl rfl rfl (by decide +kernel) ⟨Nat.le_of_ble_eq_true rfl, Nat.le_of_ble_eq_true rfl⟩) ⟨fun a U g mk q => ⟨q.1, jPr.blind q.2⟩, va_recv hK hPc (ci := 2) (q0 := 0) rfl rfl, fun U hU hW => ⟨rfl, jPr.mk hU hW hPc hK hDc⟩⟩ rfl rfl hl.1 rfl (lv_room (Nat.le_of_ble_eq_true rfl)) dX2_reads_126 ⟨Nat.le_of_ble_eq_true rfl, Nat.le_of_ble_eq_true rfl⟩) hS (fun q _ h => hFc q h) hFc (fun rr u t H1 locs ht hvm hw9 hB hz1 hk1 hS => ?_)
            have hw8 : v15 = rr := hw9.symm
            subst hw8
            obtain ⟨hP1, hK1, hD1⟩ := hB
            rw [ht] at hP1
            obtain ⟨hP, hD⟩ := va_join (wr := ([] : va_W)) (w1 := (wM cI cJ g0 gr gl gw gs th rw mn at_ ml md_l wd md sm v16 v17)) hP hD [0, 1, 2, 3, 4] [] rfl rfl (by decide) (by decide) hk1 hFc hP1 hD1
            clear hk1 hP1 hK1 hD1 hvm hz1 hPc hDc hFc
            generalize H1 = H at hP hS ⊢
            have hP : va_P (dC, dI) vwCl (wM cI cJ g0 gr gl gw gs th rw mn at_ ml md_l wd md sm v16 v17) H := hP
            have hD : va_D A (wM cI cJ g0 gr gl gw gs th rw mn at_ ml md_l wd md sm v16 v17) := hD
            refine lv_lstore (lv' := [(7, .long v15), (5, .long v10), (3, .long (0 : Int64)), (0, .ref g0), (1, .int a1), (2, .int a2)]) hx hb dX2_reads_129 hl (by decide) rfl (fun ls hl => ?_)
            refine lv_aload_n hx hb dX2_reads_131 rfl (lv_at hl 3 rfl) ?_
            refine va_get (D := (dC, dI)) (ci := 2) (v := .int v17) (C := RX2) (T := TX2) (N := 11) hx hb hts inn_X2_reads_X2 hown hK hP 0 rfl rfl 10 (by decide) (hts (.fieldLink RX2 92 "SelfEndingCodesModel" "none" "Z") (by decide +kernel)) (fun _ h9 => h9) rfl dX2_reads_132 ?_
            refine lv_if_eq (tgt := 142) hx hb dX2_reads_135 (by decide) (fun c18 => ?_) (fun c18 => ?_)
            · replace hj := ja_pos c18 hj
              refine lv_lconst (v := (1 : Int64)) hx hb dX2_reads_142 (by decide) ?_
              refine lv_lload hx hb dX2_reads_143 (lv_at hl 1 rfl) ?_
              refine lv_l2i hx hb dX2_reads_145 rfl ?_
              refine lv_iconst (v := (1 : Int32)) hx hb dX2_reads_146 (by decide) ?_
              refine lv_isub hx hb dX2_reads_147 ?_
              refine lv_lshl hx hb dX2_reads_148 rfl ?_
              refine lv_lload hx hb dX2_reads_149 (lv_at hl 0 rfl) ?_
              refine lv_ladd hx hb dX2_reads_151 ?_
              refine lv_lstore_n (lv' := [(3, .long (((1 : Int64) <<< ((v10.toInt32 - (1 : Int32)).toInt64 &&& 63)) + v15)), (7, .long v15), (5, .long v10), (0, .ref g0), (1, .int a1), (2, .int a2)]) hx hb dX2_reads_152 rfl hl (by decide) rfl (fun ls hl => ?_)
              refine lv_goto (tgt := 196) hx hb dX2_reads_153 (by decide) ?_
              exact s_X2_reads_196 C0 hK hA g0 gr gl gw gs th rw mn ml md_l wd md sm (((1 : Int64) <<< ((v10.toInt32 - (1 : Int32)).toInt64 &&& 63)) + v15) at_ v16 v17 _ hj _ _ _ (hP) (hD) hS (lv_sub hl [3, 0] rfl)
            · replace hj := ja_neg c18 hj
              refine lv_lconst (v := (0 : Int64)) hx hb dX2_reads_138 (by decide) ?_
              refine lv_goto (tgt := 152) hx hb dX2_reads_139 (by decide) ?_
              refine lv_lstore_n (lv' := [(3, .long (0 : Int64)), (7, .long v15), (5, .long v10), (0, .ref g0), (1, .int a1), (2, .int a2)]) hx hb dX2_reads_152 rfl hl (by decide) rfl (fun ls hl => ?_)
              refine lv_goto (tgt := 196) hx hb dX2_reads_153 (by decide) ?_
              exact s_X2_reads_196 C0 hK hA g0 gr gl gw gs th rw mn ml md_l wd md sm (0 : Int64) at_ v16 v17 _ hj _ _ _ (hP) (hD) hS (lv_sub hl [3, 0] rfl)
        · replace hj := ja_neg (fun h9 => c13 ((lg_cmp_le v10 (63 : Int64)).mpr h9)) hj
          refine lv_aload_n hx hb dX2_reads_105 rfl (lv_at hl 2 rfl) ?_
          refine lv_iconst (v := (1 : Int32)) hx hb dX2_reads_106 (by decide) ?_
          refine va_put (D := (dC, dI)) (ci := 2) (v := .int (1 : Int32)) (ty := .boolean) (C := RX2) (T := TX2) (N := 11) hx hb hts inn_X2_reads_X2 tyX2 tyX2_ok nmX2 hown hK hP hD hS 0 rfl rfl 10 (by decide) (hts (.fieldLink RX2 92 "SelfEndingCodesModel" "none" "Z") (by decide +kernel)) (fun _ h9 => h9) rfl (by decide +kernel) (by decide) (by decide) (Nat.le_of_ble_eq_true rfl) dX2_reads_107 (fun H locs hP hD hS => ?_)
          have hP : va_P (dC, dI) vwCl (wM cI cJ g0 gr gl gw gs th rw mn at_ ml md_l wd md sm v11 (1 : Int32)) H := hP
          have hD : va_D A (wM cI cJ g0 gr gl gw gs th rw mn at_ ml md_l wd md sm v11 (1 : Int32)) := hD
          refine lv_goto (tgt := 196) hx hb dX2_reads_110 (by decide) ?_
          exact s_X2_reads_196 C0 hK hA g0 gr gl gw gs th rw mn ml md_l wd md sm (0 : Int64) at_ v11 (1 : Int32) _ hj _ _ _ (hP) (hD) hS (lv_sub hl [2, 1] rfl)
      · replace hj := ja_neg q2 hj
        by_cases q3 : a1 = (3 : Int32)
        · replace hj := ja_pos q3 hj
          refine lv_tableIn (tgt := 156) hx hb dX2_reads_16 (by rw [q3]; decide) (by rw [q3]; decide) (by rw [q3]; rfl) (by decide) ?_
          refine lv_aload_n hx hb dX2_reads_156 rfl (lv_at hl 1 rfl) ?_
          obtain ⟨⟨v19, v20, v21⟩, hc, hj⟩ := ja_bd hj
          try dsimp only at hj
          have hPc := hP.sub (ws' := (wM cI cJ g0 gr gl gw gs th rw mn at_ ml md_l wd md sm at_ (0 : Int32))) [0, 1, 2, 3, 4] rfl
          have hDc := hD.sub (ws' := (wM cI cJ g0 gr gl gw gs th rw mn at_ ml md_l wd md sm at_ (0 : Int32))) [0, 1, 2, 3, 4] (by decide) rfl
          have hFc := va_free (wc := (wM cI cJ g0 gr gl gw gs th rw mn at_ ml md_l wd md sm at_ (0 : Int32))) hD hS hA [0, 1, 2, 3, 4] rfl
          refine va_calll (va_runV (As := []) (rest := []) ⟨hx, hb, hml, hown, hts⟩ (c_X2_readChain l dC dI cI cJ g0 gr gl gw gs H.size th rw mn at_ ml md_l wd md sm at_ (0 : Int32) _ hc) (cwV 0 hts gX2_reads_X2_readChain rfl rfl rfl (by decide +kernel) ⟨Nat.le_of_ble_eq_true rfl, Nat.le_of_ble_eq_true rfl⟩) ⟨fun a U g mk q => ⟨q.1, jPr.blind q.2⟩, va_recv hK hPc (ci := 2) (q0 := 0) rfl rfl, fun U hU hW => ⟨rfl, jPr.mk hU hW hPc hK hDc⟩⟩ rfl rfl hl.1 rfl (lv_room (Nat.le_of_ble_eq_true rfl)) dX2_reads_157 ⟨Nat.le_of_ble_eq_true rfl, Nat.le_of_ble_eq_true rfl⟩) hS (fun q _ h => hFc q h) hFc (fun rr u t H1 locs ht hvm hw9 hB hz1 hk1 hS => ?_)
          have hw8 : v19 = rr := hw9.symm
          subst hw8
          obtain ⟨hP1, hK1, hD1⟩ := hB
          rw [ht] at hP1
          obtain ⟨hP, hD⟩ := va_join (wr := ([] : va_W)) (w1 := (wM cI cJ g0 gr gl gw gs th rw mn at_ ml md_l wd md sm v20 v21)) hP hD [0, 1, 2, 3, 4] [] rfl rfl (by decide) (by decide) hk1 hFc hP1 hD1
          clear hk1 hP1 hK1 hD1 hvm hz1 hPc hDc hFc
          generalize H1 = H at hP hS ⊢
          have hP : va_P (dC, dI) vwCl (wM cI cJ g0 gr gl gw gs th rw mn at_ ml md_l wd md sm v20 v21) H := hP
          have hD : va_D A (wM cI cJ g0 gr gl gw gs th rw mn at_ ml md_l wd md sm v20 v21) := hD
          refine lv_lstore_n (lv' := [(3, .long v19), (0, .ref g0), (1, .int a1), (2, .int a2)]) hx hb dX2_reads_160 rfl hl (by decide) rfl (fun ls hl => ?_)
          refine lv_goto (tgt := 196) hx hb dX2_reads_161 (by decide) ?_
          exact s_X2_reads_196 C0 hK hA g0 gr gl gw gs th rw mn ml md_l wd md sm v19 at_ v20 v21 _ hj _ _ _ (hP) (hD) hS (lv_sub hl [1, 0] rfl)
        · replace hj := ja_neg q3 hj
          by_cases q4 : a1 = (4 : Int32)
          · replace hj := ja_pos q4 hj
            refine lv_tableIn (tgt := 164) hx hb dX2_reads_16 (by rw [q4]; decide) (by rw [q4]; decide) (by rw [q4]; rfl) (by decide) ?_
            refine lv_aload_n hx hb dX2_reads_164 rfl (lv_at hl 1 rfl) ?_
            obtain ⟨⟨v22, v23, v24⟩, hc, hj⟩ := ja_bd hj
            try dsimp only at hj
            have hPc := hP.sub (ws' := (wM cI cJ g0 gr gl gw gs th rw mn at_ ml md_l wd md sm at_ (0 : Int32))) [0, 1, 2, 3, 4] rfl
            have hDc := hD.sub (ws' := (wM cI cJ g0 gr gl gw gs th rw mn at_ ml md_l wd md sm at_ (0 : Int32))) [0, 1, 2, 3, 4] (by decide) rfl
            have hFc := va_free (wc := (wM cI cJ g0 gr gl gw gs th rw mn at_ ml md_l wd md sm at_ (0 : Int32))) hD hS hA [0, 1, 2, 3, 4] rfl
            refine va_calll (va_runV (As := []) (rest := []) ⟨hx, hb, hml, hown, hts⟩ (c_X2_readSums l dC dI cI cJ g0 gr gl gw gs H.size th rw mn at_ ml md_l wd md sm at_ (0 : Int32) _ hc) (cwV 0 hts gX2_reads_X2_readSums rfl rfl rfl (by decide +kernel) ⟨Nat.le_of_ble_eq_true rfl, Nat.le_of_ble_eq_true rfl⟩) ⟨fun a U g mk q => ⟨q.1, jPr.blind q.2⟩, va_recv hK hPc (ci := 2) (q0 := 0) rfl rfl, fun U hU hW => ⟨rfl, jPr.mk hU hW hPc hK hDc⟩⟩ rfl rfl hl.1 rfl (lv_room (Nat.le_of_ble_eq_true rfl)) dX2_reads_165 ⟨Nat.le_of_ble_eq_true rfl, Nat.le_of_ble_eq_true rfl⟩) hS (fun q _ h => hFc q h) hFc (fun rr u t H1 locs ht hvm hw9 hB hz1 hk1 hS => ?_)
            have hw8 : v22 = rr := hw9.symm
            subst hw8
            obtain ⟨hP1, hK1, hD1⟩ := hB
            rw [ht] at hP1
            obtain ⟨hP, hD⟩ := va_join (wr := ([] : va_W)) (w1 := (wM cI cJ g0 gr gl gw gs th rw mn at_ ml md_l wd md sm v23 v24)) hP hD [0, 1, 2, 3, 4] [] rfl rfl (by decide) (by decide) hk1 hFc hP1 hD1
            clear hk1 hP1 hK1 hD1 hvm hz1 hPc hDc hFc
            generalize H1 = H at hP hS ⊢
            have hP : va_P (dC, dI) vwCl (wM cI cJ g0 gr gl gw gs th rw mn at_ ml md_l wd md sm v23 v24) H := hP
            have hD : va_D A (wM cI cJ g0 gr gl gw gs th rw mn at_ ml md_l wd md sm v23 v24) := hD
            refine lv_lstore_n (lv' := [(3, .long v22), (0, .ref g0), (1, .int a1), (2, .int a2)]) hx hb dX2_reads_168 rfl hl (by decide) rfl (fun ls hl => ?_)
            refine lv_goto (tgt := 196) hx hb dX2_reads_169 (by decide) ?_
            exact s_X2_reads_196 C0 hK hA g0 gr gl gw gs th rw mn ml md_l wd md sm v22 at_ v23 v24 _ hj _ _ _ (hP) (hD) hS (lv_sub hl [1, 0] rfl)
          · replace hj := ja_neg q4 hj
            by_cases q5 : a1 = (5 : Int32)
            · replace hj := ja_pos q5 hj
              refine lv_tableIn (tgt := 172) hx hb dX2_reads_16 (by rw [q5]; decide) (by rw [q5]; decide) (by rw [q5]; rfl) (by decide) ?_
              refine lv_aload_n hx hb dX2_reads_172 rfl (lv_at hl 1 rfl) ?_
              refine lv_iload_n hx hb dX2_reads_173 rfl (lv_at hl 3 rfl) ?_
              obtain ⟨⟨v25, v26, v27⟩, hc, hj⟩ := ja_bd hj
              try dsimp only at hj
              have hPc := hP.sub (ws' := (wM cI cJ g0 gr gl gw gs th rw mn at_ ml md_l wd md sm at_ (0 : Int32))) [0, 1, 2, 3, 4] rfl
              have hDc := hD.sub (ws' := (wM cI cJ g0 gr gl gw gs th rw mn at_ ml md_l wd md sm at_ (0 : Int32))) [0, 1, 2, 3, 4] (by decide) rfl
              have hFc := va_free (wc := (wM cI cJ g0 gr gl gw gs th rw mn at_ ml md_l wd md sm at_ (0 : Int32))) hD hS hA [0, 1, 2, 3, 4] rfl
              refine va_calll (va_runV (As := [.int a2]) (rest := []) ⟨hx, hb, hml, hown, hts⟩ (c_X2_readQuotient l dC dI cI cJ g0 gr gl gw gs H.size th rw mn at_ ml md_l wd md sm at_ (0 : Int32) a2 _ hc) (cwV 1 hts gX2_reads_X2_readQuotient rfl rfl rfl (by decide +kernel) ⟨Nat.le_of_ble_eq_true rfl, Nat.le_of_ble_eq_true rfl⟩) ⟨fun a U g mk q => ⟨q.1, jPr.blind q.2⟩, va_recv hK hPc (ci := 2) (q0 := 0) rfl rfl, fun U hU hW => ⟨rfl, jPr.mk hU hW hPc hK hDc⟩⟩ rfl rfl hl.1 rfl (lv_room (Nat.le_of_ble_eq_true rfl)) dX2_reads_174 ⟨Nat.le_of_ble_eq_true rfl, Nat.le_of_ble_eq_true rfl⟩) hS (fun q _ h => hFc q h) hFc (fun rr u t H1 locs ht hvm hw9 hB hz1 hk1 hS => ?_)
              have hw8 : v25 = rr := hw9.symm
              subst hw8
              obtain ⟨hP1, hK1, hD1⟩ := hB
              rw [ht] at hP1
              obtain ⟨hP, hD⟩ := va_join (wr := ([] : va_W)) (w1 := (wM cI cJ g0 gr gl gw gs th rw mn at_ ml md_l wd md sm v26 v27)) hP hD [0, 1, 2, 3, 4] [] rfl rfl (by decide) (by decide) hk1 hFc hP1 hD1
              clear hk1 hP1 hK1 hD1 hvm hz1 hPc hDc hFc
              generalize H1 = H at hP hS ⊢
              have hP : va_P (dC, dI) vwCl (wM cI cJ g0 gr gl gw gs th rw mn at_ ml md_l wd md sm v26 v27) H := hP
              have hD : va_D A (wM cI cJ g0 gr gl gw gs th rw mn at_ ml md_l wd md sm v26 v27) := hD
              refine lv_lstore_n (lv' := [(3, .long v25), (0, .ref g0), (1, .int a1), (2, .int a2)]) hx hb dX2_reads_177 rfl hl (by decide) rfl (fun ls hl => ?_)
              refine lv_goto (tgt := 196) hx hb dX2_reads_178 (by decide) ?_
              exact s_X2_reads_196 C0 hK hA g0 gr gl gw gs th rw mn ml md_l wd md sm v25 at_ v26 v27 _ hj _ _ _ (hP) (hD) hS (lv_sub hl [1, 0] rfl)
            · replace hj := ja_neg q5 hj
              by_cases q6 : a1 = (6 : Int32)
              · replace hj := ja_pos q6 hj
                refine lv_tableIn (tgt := 181) hx hb dX2_reads_16 (by rw [q6]; decide) (by rw [q6]; decide) (by rw [q6]; rfl) (by decide) ?_
                refine lv_aload_n hx hb dX2_reads_181 rfl (lv_at hl 1 rfl) ?_
                refine lv_iload_n hx hb dX2_reads_182 rfl (lv_at hl 3 rfl) ?_
                obtain ⟨⟨v28, v29, v30⟩, hc, hj⟩ := ja_bd hj
                try dsimp only at hj
                have hPc := hP.sub (ws' := (wM cI cJ g0 gr gl gw gs th rw mn at_ ml md_l wd md sm at_ (0 : Int32))) [0, 1, 2, 3, 4] rfl
                have hDc := hD.sub (ws' := (wM cI cJ g0 gr gl gw gs th rw mn at_ ml md_l wd md sm at_ (0 : Int32))) [0, 1, 2, 3, 4] (by decide) rfl
                have hFc := va_free (wc := (wM cI cJ g0 gr gl gw gs th rw mn at_ ml md_l wd md sm at_ (0 : Int32))) hD hS hA [0, 1, 2, 3, 4] rfl
                refine va_calll (va_runV (As := [.int a2]) (rest := []) ⟨hx, hb, hml, hown, hts⟩ (c_X2_readShort l dC dI cI cJ g0 gr gl gw gs H.size th rw mn at_ ml md_l wd md sm at_ (0 : Int32) a2 _ hc) (cwV 1 hts gX2_reads_X2_readShort rfl rfl rfl (by decide +kernel) ⟨Nat.le_of_ble_eq_true rfl, Nat.le_of_ble_eq_true rfl⟩) ⟨fun a U g mk q => ⟨q.1, jPr.blind q.2⟩, va_recv hK hPc (ci := 2) (q0 := 0) rfl rfl, fun U hU hW => ⟨rfl, jPr.mk hU hW hPc hK hDc⟩⟩ rfl rfl hl.1 rfl (lv_room (Nat.le_of_ble_eq_true rfl)) dX2_reads_183 ⟨Nat.le_of_ble_eq_true rfl, Nat.le_of_ble_eq_true rfl⟩) hS (fun q _ h => hFc q h) hFc (fun rr u t H1 locs ht hvm hw9 hB hz1 hk1 hS => ?_)
                have hw8 : v28 = rr := hw9.symm
                subst hw8
                obtain ⟨hP1, hK1, hD1⟩ := hB
                rw [ht] at hP1
                obtain ⟨hP, hD⟩ := va_join (wr := ([] : va_W)) (w1 := (wM cI cJ g0 gr gl gw gs th rw mn at_ ml md_l wd md sm v29 v30)) hP hD [0, 1, 2, 3, 4] [] rfl rfl (by decide) (by decide) hk1 hFc hP1 hD1
                clear hk1 hP1 hK1 hD1 hvm hz1 hPc hDc hFc
                generalize H1 = H at hP hS ⊢
                have hP : va_P (dC, dI) vwCl (wM cI cJ g0 gr gl gw gs th rw mn at_ ml md_l wd md sm v29 v30) H := hP
                have hD : va_D A (wM cI cJ g0 gr gl gw gs th rw mn at_ ml md_l wd md sm v29 v30) := hD
                refine lv_lstore_n (lv' := [(3, .long v28), (0, .ref g0), (1, .int a1), (2, .int a2)]) hx hb dX2_reads_186 rfl hl (by decide) rfl (fun ls hl => ?_)
                refine lv_goto (tgt := 196) hx hb dX2_reads_187 (by decide) ?_
                exact s_X2_reads_196 C0 hK hA g0 gr gl gw gs th rw mn ml md_l wd md sm v28 at_ v29 v30 _ hj _ _ _ (hP) (hD) hS (lv_sub hl [1, 0] rfl)
              · replace hj := ja_neg q6 hj
                have n0 := ja_sw (z := 0) (by decide) q0
                have n1 := ja_sw (z := 1) (by decide) q1
                have n2 := ja_sw (z := 2) (by decide) q2
                have n3 := ja_sw (z := 3) (by decide) q3
                have n4 := ja_sw (z := 4) (by decide) q4
                have n5 := ja_sw (z := 5) (by decide) q5
                have n6 := ja_sw (z := 6) (by decide) q6
                refine lv_tableOut (tgt := 190) hx hb dX2_reads_16 (by omega) (by decide) ?_
                refine lv_aload_n hx hb dX2_reads_190 rfl (lv_at hl 1 rfl) ?_
                refine lv_iload_n hx hb dX2_reads_191 rfl (lv_at hl 3 rfl) ?_
                obtain ⟨⟨v1, v2, v3⟩, hc, hj⟩ := ja_bd hj
                try dsimp only at hj
                have hPc := hP.sub (ws' := (wM cI cJ g0 gr gl gw gs th rw mn at_ ml md_l wd md sm at_ (0 : Int32))) [0, 1, 2, 3, 4] rfl
                have hDc := hD.sub (ws' := (wM cI cJ g0 gr gl gw gs th rw mn at_ ml md_l wd md sm at_ (0 : Int32))) [0, 1, 2, 3, 4] (by decide) rfl
                have hFc := va_free (wc := (wM cI cJ g0 gr gl gw gs th rw mn at_ ml md_l wd md sm at_ (0 : Int32))) hD hS hA [0, 1, 2, 3, 4] rfl
                refine va_calll (va_runV (As := [.int a2]) (rest := []) ⟨hx, hb, hml, hown, hts⟩ (c_X2_readGroups l dC dI cI cJ g0 gr gl gw gs H.size th rw mn at_ ml md_l wd md sm at_ (0 : Int32) a2 _ hc) (cwV 1 hts gX2_reads_X2_readGroups rfl rfl rfl (by decide +kernel) ⟨Nat.le_of_ble_eq_true rfl, Nat.le_of_ble_eq_true rfl⟩) ⟨fun a U g mk q => ⟨q.1, jPr.blind q.2⟩, va_recv hK hPc (ci := 2) (q0 := 0) rfl rfl, fun U hU hW => ⟨rfl, jPr.mk hU hW hPc hK hDc⟩⟩ rfl rfl hl.1 rfl (lv_room (Nat.le_of_ble_eq_true rfl)) dX2_reads_192 ⟨Nat.le_of_ble_eq_true rfl, Nat.le_of_ble_eq_true rfl⟩) hS (fun q _ h => hFc q h) hFc (fun rr u t H1 locs ht hvm hw9 hB hz1 hk1 hS => ?_)
                have hw8 : v1 = rr := hw9.symm
                subst hw8
                obtain ⟨hP1, hK1, hD1⟩ := hB
                rw [ht] at hP1
                obtain ⟨hP, hD⟩ := va_join (wr := ([] : va_W)) (w1 := (wM cI cJ g0 gr gl gw gs th rw mn at_ ml md_l wd md sm v2 v3)) hP hD [0, 1, 2, 3, 4] [] rfl rfl (by decide) (by decide) hk1 hFc hP1 hD1
                clear hk1 hP1 hK1 hD1 hvm hz1 hPc hDc hFc
                generalize H1 = H at hP hS ⊢
                have hP : va_P (dC, dI) vwCl (wM cI cJ g0 gr gl gw gs th rw mn at_ ml md_l wd md sm v2 v3) H := hP
                have hD : va_D A (wM cI cJ g0 gr gl gw gs th rw mn at_ ml md_l wd md sm v2 v3) := hD
                refine lv_lstore_n (lv' := [(3, .long v1), (0, .ref g0), (1, .int a1), (2, .int a2)]) hx hb dX2_reads_195 rfl hl (by decide) rfl (fun ls hl => ?_)
                exact s_X2_reads_196 C0 hK hA g0 gr gl gw gs th rw mn ml md_l wd md sm v1 at_ v2 v3 _ hj _ _ _ (hP) (hD) hS (lv_sub hl [1, 0] rfl)

