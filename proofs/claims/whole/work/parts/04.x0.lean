set_option maxRecDepth 100000 in
theorem inn_X0_setOne_X0 : ∀ w ∈ u_ws RX0 TX0 4, w ∈ wsX0_setOne := by decide +kernel
def j_X0_setOne (w : Nat → Int64) (a1 : Int32) : Option ((Nat → Int64)) :=
  if a1 < (0 : Int32) then (some w) else (if (4096 : Int32) ≤ a1 then (some w) else (jix (a1 / (64 : Int32)) 64 (jix (a1 / (64 : Int32)) 64 (some (vp_updL w (a1 / (64 : Int32)).toNatClampNeg ((w (a1 / (64 : Int32)).toNatClampNeg) ||| ((1 : Int64) <<< (((63 : Int32) - (a1 - a1 / (64 : Int32) * (64 : Int32))).toInt64 &&& 63))))))))
set_option maxHeartbeats 4000000 in
set_option maxRecDepth 100000 in
theorem c_X0_setOne (l : Launch) (dC : Nat → ClassId) (dI : Nat → Nat → Nat) (cI cJ : ClassId) (b0 : Nat) (bw : Nat) (sz : Nat) (w : Nat → Int64) (en : Int32) (pl : Int32) (cu : Int32) (a1 : Int32) (r : (Nat → Int64)) (hj : j_X0_setOne w a1 = some r) : Met l yX0_setOne wsX0_setOne ({ frames := 0, cells := 0, slots := 0, locals := 0 } : Room) (va_Pc [.ref b0, .int a1] (fun U => jPr dC dI cI cJ (wB cJ b0 bw w en pl cu) sz U)) (va_Qv (fun _ : Unit => True) (fun (_ : Unit) t => jPo dC dI cI cJ (wB cJ b0 bw r en pl cu) (va_A (wB cJ b0 bw w en pl cu) sz) t) (va_A (wB cJ b0 bw w en pl cu) sz)) 0 0 (va_A (wB cJ b0 bw w en pl cu) sz) := by
  refine Met.ofW (cc := cX0_setOne) (maxL := 2) (ret := none) (by decide) rfl ?_
  intro p e s m args below meth c s₁ B hml hv
  obtain ⟨rfl, ⟨hsz, hP, hK, hD0⟩⟩ := hv
  have hx := B.exec
  have hb := B.bytes
  have hr := B.returns
  have hts := atoms_spec (ws := wsX0_setOne) B.pre
  have hown : s.vm.findClass RX0 = some m.cls := findClass_of_methodNamed B.named
  have hlocks := B.notSynchronized
  have C0 := jCx.of hx hb hr hml hown hts hlocks
  subst hsz
  have hD := hD0.self (sz := s.heap.size)
  generalize hAe : va_A (wB cJ b0 bw w en pl cu) s.heap.size = A at hD ⊢
  have hA : ∀ q : Nat, s.heap.size ≤ q → A q := fun q h => by rw [← hAe]; exact Or.inr h
  have hS : va_S A s.heap s.heap [] := va_S.rf
  have hP : va_P (dC, dI) vwCl (wB cJ b0 bw w en pl cu) s.heap := hP
  have hl := lv_entry ([.ref b0, .int a1]) (n := 2) (Nat.le_of_ble_eq_true rfl)
  rw [lg_entry_eq]
  generalize (lg_sl ([.ref b0, .int a1]) ++ List.replicate (2 - (lg_sl ([.ref b0, .int a1])).length) Slot.unset).toArray = ls at hl ⊢
  have hl : lv_has ls 2 [(0, .ref b0), (1, .int a1)] := hl
  clear hD0 hAe
  unfold j_X0_setOne at hj
  refine lv_iload_n hx hb dX0_setOne_0 rfl (lv_at hl 1 rfl) ?_
  refine lv_if_lt (tgt := 32) hx hb dX0_setOne_1 (by decide) (fun c1 => ?_) (fun c1 => ?_)
  · replace hj := ja_pos c1 hj
    have hr9 : w = r := Option.some.inj hj
    subst hr9
    exact W.vret hx hb hr (fun t ht hW => ⟨⟨(), rfl, trivial, by rw [ht]; exact hP, va_K.moved hW.alike hK, hD⟩, hS.F ht⟩) hS.2.2 dX0_setOne_32
  · replace hj := ja_neg c1 hj
    refine lv_iload_n hx hb dX0_setOne_4 rfl (lv_at hl 1 rfl) ?_
    refine lv_sipush (v := (4096 : Int32)) hx hb dX0_setOne_5 (by decide) ?_
    refine lv_icmp_ge (tgt := 32) hx hb dX0_setOne_8 (by decide) (fun c2 => ?_) (fun c2 => ?_)
    · replace hj := ja_pos c2 hj
      have hr9 : w = r := Option.some.inj hj
      subst hr9
      exact W.vret hx hb hr (fun t ht hW => ⟨⟨(), rfl, trivial, by rw [ht]; exact hP, va_K.moved hW.alike hK, hD⟩, hS.F ht⟩) hS.2.2 dX0_setOne_32
    · replace hj := ja_neg c2 hj
      refine lv_aload_n hx hb dX0_setOne_11 rfl (lv_at hl 0 rfl) ?_
      refine va_get (D := (dC, dI)) (ci := 0) (v := .ref bw) (C := RX0) (T := TX0) (N := 4) hx hb hts inn_X0_setOne_X0 hown hK hP 0 rfl rfl 0 (by decide) (hts (.fieldLink RX0 9 "SelfEndingCodes$BitRow" "words" "[J") (by decide +kernel)) (fun _ h9 => h9) rfl dX0_setOne_12 ?_
      refine lv_iload_n hx hb dX0_setOne_15 rfl (lv_at hl 1 rfl) ?_
      refine lv_bipush (v := (64 : Int32)) hx hb dX0_setOne_16 (by decide) ?_
      refine lv_idiv hx hb dX0_setOne_18 (by decide) ?_
      refine lv_dup2_11 hx hb dX0_setOne_19 rfl rfl ?_
      obtain ⟨hin, hj⟩ := ja_ix hj
      refine va_lald hx hb hK hP 1 1 rfl rfl hin dX0_setOne_20 ?_
      refine lv_lconst (v := (1 : Int64)) hx hb dX0_setOne_21 (by decide) ?_
      refine lv_bipush (v := (63 : Int32)) hx hb dX0_setOne_22 (by decide) ?_
      refine lv_iload_n hx hb dX0_setOne_24 rfl (lv_at hl 1 rfl) ?_
      refine lv_bipush (v := (64 : Int32)) hx hb dX0_setOne_25 (by decide) ?_
      refine lv_irem hx hb dX0_setOne_27 (by decide) ?_
      refine lv_isub hx hb dX0_setOne_28 ?_
      refine lv_lshl hx hb dX0_setOne_29 rfl ?_
      refine lv_lor hx hb dX0_setOne_30 ?_
      obtain ⟨hin, hj⟩ := ja_ix hj
      refine va_last hx hb hK hP hD hS 1 1 rfl rfl hin dX0_setOne_31 (fun H locs hP hD hS => ?_)
      have hP : va_P (dC, dI) vwCl (wB cJ b0 bw (vp_updL w (a1 / (64 : Int32)).toNatClampNeg ((w (a1 / (64 : Int32)).toNatClampNeg) ||| ((1 : Int64) <<< (((63 : Int32) - (a1 - a1 / (64 : Int32) * (64 : Int32))).toInt64 &&& 63)))) en pl cu) H := hP
      have hD : va_D A (wB cJ b0 bw (vp_updL w (a1 / (64 : Int32)).toNatClampNeg ((w (a1 / (64 : Int32)).toNatClampNeg) ||| ((1 : Int64) <<< (((63 : Int32) - (a1 - a1 / (64 : Int32) * (64 : Int32))).toInt64 &&& 63)))) en pl cu) := hD
      have hr9 : (vp_updL w (a1 / (64 : Int32)).toNatClampNeg ((w (a1 / (64 : Int32)).toNatClampNeg) ||| ((1 : Int64) <<< (((63 : Int32) - (a1 - a1 / (64 : Int32) * (64 : Int32))).toInt64 &&& 63)))) = r := Option.some.inj hj
      subst hr9
      exact W.vret hx hb hr (fun t ht hW => ⟨⟨(), rfl, trivial, by rw [ht]; exact hP, va_K.moved hW.alike hK, hD⟩, hS.F ht⟩) hS.2.2 dX0_setOne_32

def jL_X0_writeBits_3 (x1 : Int32) (x2 : Int64) (x4 : Int32) : Nat → Int32 → (Nat → Int64) → Option ((Nat → Int64))
  | 0, _, _ => none
  | n + 1, x5, w => if x4 ≤ x5 then (some w) else (if (((x2.toUInt64 >>> (((x4 - (1 : Int32)) - x5).toInt64.toUInt64 &&& Int64.toUInt64 63)).toInt64) &&& (1 : Int64)) = (1 : Int64) then ((j_X0_setOne w (x1 + x5)).bind fun v303 => (jL_X0_writeBits_3 x1 x2 x4 n (x5 + (1 : Int32)) v303)) else (jL_X0_writeBits_3 x1 x2 x4 n (x5 + (1 : Int32)) w))
set_option maxHeartbeats 4000000 in
set_option maxRecDepth 100000 in
theorem s_X0_writeBits_3 {p : Program} {l : Launch} {e : Env} {s : State} {m : MethodId} {args : Array Value} {below : List Frame} {meth : Method} {c : Code} {dC : Nat → ClassId} {dI : Nat → Nat → Nat} {cI cJ : ClassId} {A : Nat → Prop} (C0 : jCx p s m args meth c RX0 cX0_writeBits 6 none wsX0_writeBits) (hK : va_K (dC, dI) vwCl (jTy cI cJ) s) (hA : ∀ q : Nat, s.heap.size ≤ q → A q) (b0 : Nat) (bw : Nat) (en : Int32) (pl : Int32) (cu : Int32) (x1 : Int32) (x2 : Int64) (x4 : Int32) :
    ∀ (n : Nat) (x5 : Int32) (w : Nat → Int64) (r : (Nat → Int64)), jL_X0_writeBits_3 x1 x2 x4 n x5 w = some r → ∀ (H : Heap) (locs : List Loc) (ls : Array Slot), va_P (dC, dI) vwCl (wB cJ b0 bw w en pl cu) H → va_D A (wB cJ b0 bw w en pl cu) → va_S A s.heap H locs → lv_has ls 6 [(0, .ref b0), (1, .int x1), (2, .long x2), (4, .int x4), (5, .int x5)] → W p l e ({ frames := 1, cells := 0, slots := 0, locals := 21 } : Room) s m args below meth c H locs 0 0 (MQ below (va_Qv (fun _ : Unit => True) (fun (_ : Unit) t => jPo dC dI cI cJ (wB cJ b0 bw r en pl cu) A t) A) args s 0 0 A) (F0 m 3 ls []) := by
  obtain ⟨hx, hb, hr, hml, hown, hts, hlocks⟩ := id C0
  intro n
  induction n with
  | zero =>
    intro x5 w r hj
    exact nomatch (show (none : Option ((Nat → Int64))) = some r from hj)
  | succ n ih =>
    intro x5 w r hj H locs ls hP hD hS hl
    replace hj : (if x4 ≤ x5 then (some w) else (if (((x2.toUInt64 >>> (((x4 - (1 : Int32)) - x5).toInt64.toUInt64 &&& Int64.toUInt64 63)).toInt64) &&& (1 : Int64)) = (1 : Int64) then ((j_X0_setOne w (x1 + x5)).bind fun v303 => (jL_X0_writeBits_3 x1 x2 x4 n (x5 + (1 : Int32)) v303)) else (jL_X0_writeBits_3 x1 x2 x4 n (x5 + (1 : Int32)) w))) = some r := hj
    refine lv_iload hx hb dX0_writeBits_3 (lv_at hl 4 rfl) ?_
    refine lv_iload hx hb dX0_writeBits_5 (lv_at hl 3 rfl) ?_
    refine lv_icmp_ge (tgt := 40) hx hb dX0_writeBits_7 (by decide) (fun c301 => ?_) (fun c301 => ?_)
    · replace hj := ja_pos c301 hj
      have hr9 : w = r := Option.some.inj hj
      subst hr9
      exact W.vret hx hb hr (fun t ht hW => ⟨⟨(), rfl, trivial, by rw [ht]; exact hP, va_K.moved hW.alike hK, hD⟩, hS.F ht⟩) hS.2.2 dX0_writeBits_40
    · replace hj := ja_neg c301 hj
      refine lv_lload_n hx hb dX0_writeBits_10 rfl (lv_at hl 2 rfl) ?_
      refine lv_iload hx hb dX0_writeBits_11 (lv_at hl 3 rfl) ?_
      refine lv_iconst (v := (1 : Int32)) hx hb dX0_writeBits_13 (by decide) ?_
      refine lv_isub hx hb dX0_writeBits_14 ?_
      refine lv_iload hx hb dX0_writeBits_15 (lv_at hl 4 rfl) ?_
      refine lv_isub hx hb dX0_writeBits_17 ?_
      refine lv_lushr hx hb dX0_writeBits_18 rfl ?_
      refine lv_lconst (v := (1 : Int64)) hx hb dX0_writeBits_19 (by decide) ?_
      refine lv_land hx hb dX0_writeBits_20 ?_
      refine lv_lconst (v := (1 : Int64)) hx hb dX0_writeBits_21 (by decide) ?_
      refine W.lcmp hx hb dX0_writeBits_22 ?_
      refine lv_if_ne (tgt := 34) hx hb dX0_writeBits_23 (by decide) (fun c302 => ?_) (fun c302 => ?_)
      · replace hj := ja_neg (fun h9 => c302 ((lg_cmp_eq (((x2.toUInt64 >>> (((x4 - (1 : Int32)) - x5).toInt64.toUInt64 &&& Int64.toUInt64 63)).toInt64) &&& (1 : Int64)) (1 : Int64)).mpr h9)) hj
        refine lv_iinc (v := x5 + (1 : Int32)) (lv' := [(5, .int (x5 + (1 : Int32))), (0, .ref b0), (1, .int x1), (2, .long x2), (4, .int x4)]) hx hb dX0_writeBits_34 hl (k := 4) rfl (congrArg (fun z => x5 + z) (by decide)) (by decide) rfl (fun ls hl => ?_)
        refine lv_goto (tgt := 3) hx hb dX0_writeBits_37 (by decide) ?_
        exact ih (x5 + (1 : Int32)) w _ hj _ _ _ (hP) (hD) hS (lv_sub hl [1, 2, 3, 4, 0] rfl)
      · replace hj := ja_pos ((lg_cmp_eq (((x2.toUInt64 >>> (((x4 - (1 : Int32)) - x5).toInt64.toUInt64 &&& Int64.toUInt64 63)).toInt64) &&& (1 : Int64)) (1 : Int64)).mp c302) hj
        refine lv_aload_n hx hb dX0_writeBits_26 rfl (lv_at hl 0 rfl) ?_
        refine lv_iload_n hx hb dX0_writeBits_27 rfl (lv_at hl 1 rfl) ?_
        refine lv_iload hx hb dX0_writeBits_28 (lv_at hl 4 rfl) ?_
        refine lv_iadd hx hb dX0_writeBits_30 ?_
        obtain ⟨v303, hc, hj⟩ := ja_bd hj
        try dsimp only at hj
        have hPc := hP.sub (ws' := (wB cJ b0 bw w en pl cu)) [0, 1] rfl
        have hDc := hD.sub (ws' := (wB cJ b0 bw w en pl cu)) [0, 1] (by decide) rfl
        have hFc := va_free (wc := (wB cJ b0 bw w en pl cu)) hD hS hA [0, 1] rfl
        refine va_callv (va_runV (As := [.int (x1 + x5)]) (rest := []) ⟨hx, hb, hml, hown, hts⟩ (c_X0_setOne l dC dI cI cJ b0 bw H.size w en pl cu (x1 + x5) _ hc) (cwV 1 hts gX0_writeBits_X0_setOne rfl rfl rfl (by decide +kernel) ⟨Nat.le_of_ble_eq_true rfl, Nat.le_of_ble_eq_true rfl⟩) ⟨fun a U g mk q => ⟨q.1, jPr.blind q.2⟩, va_recv hK hPc (ci := 0) (q0 := 0) rfl rfl, fun U hU hW => ⟨rfl, jPr.mk hU hW hPc hK hDc⟩⟩ rfl rfl hl.1 rfl (lv_room (Nat.le_of_ble_eq_true rfl)) dX0_writeBits_31 ⟨Nat.le_of_ble_eq_true rfl, Nat.le_of_ble_eq_true rfl⟩) hS (fun q _ h => hFc q h) hFc (fun u t H1 locs ht hvm hw9 hB hz1 hk1 hS => ?_)
        obtain ⟨hP1, hK1, hD1⟩ := hB
        rw [ht] at hP1
        obtain ⟨hP, hD⟩ := va_join (wr := ([] : va_W)) (w1 := (wB cJ b0 bw v303 en pl cu)) hP hD [0, 1] [] rfl rfl (by decide) (by decide) hk1 hFc hP1 hD1
        clear hk1 hP1 hK1 hD1 hvm hz1 hPc hDc hFc
        generalize H1 = H at hP hS ⊢
        have hP : va_P (dC, dI) vwCl (wB cJ b0 bw v303 en pl cu) H := hP
        have hD : va_D A (wB cJ b0 bw v303 en pl cu) := hD
        refine lv_iinc (v := x5 + (1 : Int32)) (lv' := [(5, .int (x5 + (1 : Int32))), (0, .ref b0), (1, .int x1), (2, .long x2), (4, .int x4)]) hx hb dX0_writeBits_34 hl (k := 4) rfl (congrArg (fun z => x5 + z) (by decide)) (by decide) rfl (fun ls hl => ?_)
        refine lv_goto (tgt := 3) hx hb dX0_writeBits_37 (by decide) ?_
        exact ih (x5 + (1 : Int32)) v303 _ hj _ _ _ (hP) (hD) hS (lv_sub hl [1, 2, 3, 4, 0] rfl)
def j_X0_writeBits (w : Nat → Int64) (a1 : Int32) (a2 : Int64) (a3 : Int32) : Option ((Nat → Int64)) :=
  jL_X0_writeBits_3 a1 a2 a3 jF (0 : Int32) w
set_option maxHeartbeats 4000000 in
set_option maxRecDepth 100000 in
theorem c_X0_writeBits (l : Launch) (dC : Nat → ClassId) (dI : Nat → Nat → Nat) (cI cJ : ClassId) (b0 : Nat) (bw : Nat) (sz : Nat) (w : Nat → Int64) (en : Int32) (pl : Int32) (cu : Int32) (a1 : Int32) (a2 : Int64) (a3 : Int32) (r : (Nat → Int64)) (hj : j_X0_writeBits w a1 a2 a3 = some r) : Met l yX0_writeBits wsX0_writeBits ({ frames := 1, cells := 0, slots := 0, locals := 21 } : Room) (va_Pc [.ref b0, .int a1, .long a2, .int a3] (fun U => jPr dC dI cI cJ (wB cJ b0 bw w en pl cu) sz U)) (va_Qv (fun _ : Unit => True) (fun (_ : Unit) t => jPo dC dI cI cJ (wB cJ b0 bw r en pl cu) (va_A (wB cJ b0 bw w en pl cu) sz) t) (va_A (wB cJ b0 bw w en pl cu) sz)) 0 0 (va_A (wB cJ b0 bw w en pl cu) sz) := by
  refine Met.ofW (cc := cX0_writeBits) (maxL := 6) (ret := none) (by decide) rfl ?_
  intro p e s m args below meth c s₁ B hml hv
  obtain ⟨rfl, ⟨hsz, hP, hK, hD0⟩⟩ := hv
  have hx := B.exec
  have hb := B.bytes
  have hr := B.returns
  have hts := atoms_spec (ws := wsX0_writeBits) B.pre
  have hown : s.vm.findClass RX0 = some m.cls := findClass_of_methodNamed B.named
  have hlocks := B.notSynchronized
  have C0 := jCx.of hx hb hr hml hown hts hlocks
  subst hsz
  have hD := hD0.self (sz := s.heap.size)
  generalize hAe : va_A (wB cJ b0 bw w en pl cu) s.heap.size = A at hD ⊢
  have hA : ∀ q : Nat, s.heap.size ≤ q → A q := fun q h => by rw [← hAe]; exact Or.inr h
  have hS : va_S A s.heap s.heap [] := va_S.rf
  have hP : va_P (dC, dI) vwCl (wB cJ b0 bw w en pl cu) s.heap := hP
  have hl := lv_entry ([.ref b0, .int a1, .long a2, .int a3]) (n := 6) (Nat.le_of_ble_eq_true rfl)
  rw [lg_entry_eq]
  generalize (lg_sl ([.ref b0, .int a1, .long a2, .int a3]) ++ List.replicate (6 - (lg_sl ([.ref b0, .int a1, .long a2, .int a3])).length) Slot.unset).toArray = ls at hl ⊢
  have hl : lv_has ls 6 [(0, .ref b0), (1, .int a1), (2, .long a2), (4, .int a3)] := hl
  clear hD0 hAe
  unfold j_X0_writeBits at hj
  refine lv_iconst (v := (0 : Int32)) hx hb dX0_writeBits_0 (by decide) ?_
  refine lv_istore (lv' := [(5, .int (0 : Int32)), (0, .ref b0), (1, .int a1), (2, .long a2), (4, .int a3)]) hx hb dX0_writeBits_1 hl (by decide) rfl (fun ls hl => ?_)
  exact s_X0_writeBits_3 C0 hK hA b0 bw en pl cu a1 a2 a3 jF (0 : Int32) w _ hj _ _ _ (hP) (hD) hS (lv_sub hl [1, 2, 3, 4, 0] rfl)

set_option maxRecDepth 100000 in
theorem inn_X0_appendBits_X0 : ∀ w ∈ u_ws RX0 TX0 4, w ∈ wsX0_appendBits := by decide +kernel
def j_X0_appendBits (w : Nat → Int64) (en : Int32) (a1 : Int64) (a2 : Int32) : Option ((Nat → Int64) × Int32) :=
  (j_X0_writeBits w en a1 a2).bind fun v1 => (some (v1, en + a2))
set_option maxHeartbeats 4000000 in
set_option maxRecDepth 100000 in
theorem c_X0_appendBits (l : Launch) (dC : Nat → ClassId) (dI : Nat → Nat → Nat) (cI cJ : ClassId) (b0 : Nat) (bw : Nat) (sz : Nat) (w : Nat → Int64) (en : Int32) (pl : Int32) (cu : Int32) (a1 : Int64) (a2 : Int32) (r : (Nat → Int64) × Int32) (hj : j_X0_appendBits w en a1 a2 = some r) : Met l yX0_appendBits wsX0_appendBits ({ frames := 2, cells := 0, slots := 0, locals := 46 } : Room) (va_Pc [.ref b0, .long a1, .int a2] (fun U => jPr dC dI cI cJ (wB cJ b0 bw w en pl cu) sz U)) (va_Qv (fun _ : Unit => True) (fun (_ : Unit) t => jPo dC dI cI cJ (wB cJ b0 bw r.1 r.2 pl cu) (va_A (wB cJ b0 bw w en pl cu) sz) t) (va_A (wB cJ b0 bw w en pl cu) sz)) 0 0 (va_A (wB cJ b0 bw w en pl cu) sz) := by
  refine Met.ofW (cc := cX0_appendBits) (maxL := 4) (ret := none) (by decide) rfl ?_
  intro p e s m args below meth c s₁ B hml hv
  obtain ⟨rfl, ⟨hsz, hP, hK, hD0⟩⟩ := hv
  have hx := B.exec
  have hb := B.bytes
  have hr := B.returns
  have hts := atoms_spec (ws := wsX0_appendBits) B.pre
  have hown : s.vm.findClass RX0 = some m.cls := findClass_of_methodNamed B.named
  have hlocks := B.notSynchronized
  have C0 := jCx.of hx hb hr hml hown hts hlocks
  subst hsz
  have hD := hD0.self (sz := s.heap.size)
  generalize hAe : va_A (wB cJ b0 bw w en pl cu) s.heap.size = A at hD ⊢
  have hA : ∀ q : Nat, s.heap.size ≤ q → A q := fun q h => by rw [← hAe]; exact Or.inr h
  have hS : va_S A s.heap s.heap [] := va_S.rf
  have hP : va_P (dC, dI) vwCl (wB cJ b0 bw w en pl cu) s.heap := hP
  have hl := lv_entry ([.ref b0, .long a1, .int a2]) (n := 4) (Nat.le_of_ble_eq_true rfl)
  rw [lg_entry_eq]
  generalize (lg_sl ([.ref b0, .long a1, .int a2]) ++ List.replicate (4 - (lg_sl ([.ref b0, .long a1, .int a2])).length) Slot.unset).toArray = ls at hl ⊢
  have hl : lv_has ls 4 [(0, .ref b0), (1, .long a1), (3, .int a2)] := hl
  clear hD0 hAe
  unfold j_X0_appendBits at hj
  refine lv_aload_n hx hb dX0_appendBits_0 rfl (lv_at hl 0 rfl) ?_
  refine lv_aload_n hx hb dX0_appendBits_1 rfl (lv_at hl 0 rfl) ?_
  refine va_get (D := (dC, dI)) (ci := 0) (v := .int en) (C := RX0) (T := TX0) (N := 4) hx hb hts inn_X0_appendBits_X0 hown hK hP 0 rfl rfl 1 (by decide) (hts (.fieldLink RX0 15 "SelfEndingCodes$BitRow" "end" "I") (by decide +kernel)) (fun _ h9 => h9) rfl dX0_appendBits_2 ?_
  refine lv_lload_n hx hb dX0_appendBits_5 rfl (lv_at hl 1 rfl) ?_
  refine lv_iload_n hx hb dX0_appendBits_6 rfl (lv_at hl 2 rfl) ?_
  obtain ⟨v1, hc, hj⟩ := ja_bd hj
  try dsimp only at hj
  have hPc := hP.sub (ws' := (wB cJ b0 bw w en pl cu)) [0, 1] rfl
  have hDc := hD.sub (ws' := (wB cJ b0 bw w en pl cu)) [0, 1] (by decide) rfl
  have hFc := va_free (wc := (wB cJ b0 bw w en pl cu)) hD hS hA [0, 1] rfl
  refine va_callv (va_runV (As := [.int en, .long a1, .int a2]) (rest := []) ⟨hx, hb, hml, hown, hts⟩ (c_X0_writeBits l dC dI cI cJ b0 bw s.heap.size w en pl cu en a1 a2 _ hc) (cwV 3 hts gX0_appendBits_X0_writeBits rfl rfl rfl (by decide +kernel) ⟨Nat.le_of_ble_eq_true rfl, Nat.le_of_ble_eq_true rfl⟩) ⟨fun a U g mk q => ⟨q.1, jPr.blind q.2⟩, va_recv hK hPc (ci := 0) (q0 := 0) rfl rfl, fun U hU hW => ⟨rfl, jPr.mk hU hW hPc hK hDc⟩⟩ rfl rfl hl.1 rfl (lv_room (Nat.le_of_ble_eq_true rfl)) dX0_appendBits_7 ⟨Nat.le_of_ble_eq_true rfl, Nat.le_of_ble_eq_true rfl⟩) hS (fun q _ h => hFc q h) hFc (fun u t H1 locs ht hvm hw9 hB hz1 hk1 hS => ?_)
  obtain ⟨hP1, hK1, hD1⟩ := hB
  rw [ht] at hP1
  obtain ⟨hP, hD⟩ := va_join (wr := ([] : va_W)) (w1 := (wB cJ b0 bw v1 en pl cu)) hP hD [0, 1] [] rfl rfl (by decide) (by decide) hk1 hFc hP1 hD1
  clear hk1 hP1 hK1 hD1 hvm hz1 hPc hDc hFc
  generalize H1 = H at hP hS ⊢
  have hP : va_P (dC, dI) vwCl (wB cJ b0 bw v1 en pl cu) H := hP
  have hD : va_D A (wB cJ b0 bw v1 en pl cu) := hD
  refine lv_aload_n hx hb dX0_appendBits_10 rfl (lv_at hl 0 rfl) ?_
  refine lv_dup hx hb dX0_appendBits_11 rfl ?_
  refine va_get (D := (dC, dI)) (ci := 0) (v := .int en) (C := RX0) (T := TX0) (N := 4) hx hb hts inn_X0_appendBits_X0 hown hK hP 0 rfl rfl 1 (by decide) (hts (.fieldLink RX0 15 "SelfEndingCodes$BitRow" "end" "I") (by decide +kernel)) (fun _ h9 => h9) rfl dX0_appendBits_12 ?_
  refine lv_iload_n hx hb dX0_appendBits_15 rfl (lv_at hl 2 rfl) ?_
  refine lv_iadd hx hb dX0_appendBits_16 ?_
  refine va_put (D := (dC, dI)) (ci := 0) (v := .int (en + a2)) (ty := .int) (C := RX0) (T := TX0) (N := 4) hx hb hts inn_X0_appendBits_X0 tyX0 tyX0_ok nmX0 hown hK hP hD hS 0 rfl rfl 1 (by decide) (hts (.fieldLink RX0 15 "SelfEndingCodes$BitRow" "end" "I") (by decide +kernel)) (fun _ h9 => h9) rfl (by decide +kernel) rfl rfl (Nat.le_of_ble_eq_true rfl) dX0_appendBits_17 (fun H locs hP hD hS => ?_)
  have hP : va_P (dC, dI) vwCl (wB cJ b0 bw v1 (en + a2) pl cu) H := hP
  have hD : va_D A (wB cJ b0 bw v1 (en + a2) pl cu) := hD
  have hr9 : (v1, en + a2) = r := Option.some.inj hj
  subst hr9
  exact W.vret hx hb hr (fun t ht hW => ⟨⟨(), rfl, trivial, by rw [ht]; exact hP, va_K.moved hW.alike hK, hD⟩, hS.F ht⟩) hS.2.2 dX0_appendBits_20

set_option maxRecDepth 100000 in
theorem inn_X0_appendOnesAndZero_X0 : ∀ w ∈ u_ws RX0 TX0 4, w ∈ wsX0_appendOnesAndZero := by decide +kernel
def jL_X0_appendOnesAndZero_2 (en : Int32) (x1 : Int64) : Nat → Int32 → (Nat → Int64) → Option ((Nat → Int64) × Int32)
  | 0, _, _ => none
  | n + 1, x3, w => if x1 ≤ x3.toInt64 then (some (w, en + (x1.toInt32 + (1 : Int32)))) else (if (4096 : Int32) ≤ x3 then (some (w, en + (x1.toInt32 + (1 : Int32)))) else ((j_X0_setOne w (en + x3)).bind fun v203 => (jL_X0_appendOnesAndZero_2 en x1 n (x3 + (1 : Int32)) v203)))
set_option maxHeartbeats 4000000 in
set_option maxRecDepth 100000 in
theorem s_X0_appendOnesAndZero_2 {p : Program} {l : Launch} {e : Env} {s : State} {m : MethodId} {args : Array Value} {below : List Frame} {meth : Method} {c : Code} {dC : Nat → ClassId} {dI : Nat → Nat → Nat} {cI cJ : ClassId} {A : Nat → Prop} (C0 : jCx p s m args meth c RX0 cX0_appendOnesAndZero 4 none wsX0_appendOnesAndZero) (hK : va_K (dC, dI) vwCl (jTy cI cJ) s) (hA : ∀ q : Nat, s.heap.size ≤ q → A q) (b0 : Nat) (bw : Nat) (en : Int32) (pl : Int32) (cu : Int32) (x1 : Int64) :
    ∀ (n : Nat) (x3 : Int32) (w : Nat → Int64) (r : (Nat → Int64) × Int32), jL_X0_appendOnesAndZero_2 en x1 n x3 w = some r → ∀ (H : Heap) (locs : List Loc) (ls : Array Slot), va_P (dC, dI) vwCl (wB cJ b0 bw w en pl cu) H → va_D A (wB cJ b0 bw w en pl cu) → va_S A s.heap H locs → lv_has ls 4 [(0, .ref b0), (1, .long x1), (3, .int x3)] → W p l e ({ frames := 1, cells := 0, slots := 0, locals := 21 } : Room) s m args below meth c H locs 0 0 (MQ below (va_Qv (fun _ : Unit => True) (fun (_ : Unit) t => jPo dC dI cI cJ (wB cJ b0 bw r.1 r.2 pl cu) A t) A) args s 0 0 A) (F0 m 2 ls []) := by
  obtain ⟨hx, hb, hr, hml, hown, hts, hlocks⟩ := id C0
  intro n
  induction n with
  | zero =>
    intro x3 w r hj
    exact nomatch (show (none : Option ((Nat → Int64) × Int32)) = some r from hj)
  | succ n ih =>
    intro x3 w r hj H locs ls hP hD hS hl
    replace hj : (if x1 ≤ x3.toInt64 then (some (w, en + (x1.toInt32 + (1 : Int32)))) else (if (4096 : Int32) ≤ x3 then (some (w, en + (x1.toInt32 + (1 : Int32)))) else ((j_X0_setOne w (en + x3)).bind fun v203 => (jL_X0_appendOnesAndZero_2 en x1 n (x3 + (1 : Int32)) v203)))) = some r := hj
    refine lv_iload_n hx hb dX0_appendOnesAndZero_2 rfl (lv_at hl 2 rfl) ?_
    refine lv_i2l hx hb dX0_appendOnesAndZero_3 rfl ?_
    refine lv_lload_n hx hb dX0_appendOnesAndZero_4 rfl (lv_at hl 1 rfl) ?_
    refine W.lcmp hx hb dX0_appendOnesAndZero_5 ?_
    refine lv_if_ge (tgt := 32) hx hb dX0_appendOnesAndZero_6 (by decide) (fun c201 => ?_) (fun c201 => ?_)
    · replace hj := ja_pos ((lg_cmp_ge x3.toInt64 x1).mp c201) hj
      refine lv_aload_n hx hb dX0_appendOnesAndZero_32 rfl (lv_at hl 0 rfl) ?_
      refine lv_dup hx hb dX0_appendOnesAndZero_33 rfl ?_
      refine va_get (D := (dC, dI)) (ci := 0) (v := .int en) (C := RX0) (T := TX0) (N := 4) hx hb hts inn_X0_appendOnesAndZero_X0 hown hK hP 0 rfl rfl 1 (by decide) (hts (.fieldLink RX0 15 "SelfEndingCodes$BitRow" "end" "I") (by decide +kernel)) (fun _ h9 => h9) rfl dX0_appendOnesAndZero_34 ?_
      refine lv_lload_n hx hb dX0_appendOnesAndZero_37 rfl (lv_at hl 1 rfl) ?_
      refine lv_l2i hx hb dX0_appendOnesAndZero_38 rfl ?_
      refine lv_iconst (v := (1 : Int32)) hx hb dX0_appendOnesAndZero_39 (by decide) ?_
      refine lv_iadd hx hb dX0_appendOnesAndZero_40 ?_
      refine lv_iadd hx hb dX0_appendOnesAndZero_41 ?_
      refine va_put (D := (dC, dI)) (ci := 0) (v := .int (en + (x1.toInt32 + (1 : Int32)))) (ty := .int) (C := RX0) (T := TX0) (N := 4) hx hb hts inn_X0_appendOnesAndZero_X0 tyX0 tyX0_ok nmX0 hown hK hP hD hS 0 rfl rfl 1 (by decide) (hts (.fieldLink RX0 15 "SelfEndingCodes$BitRow" "end" "I") (by decide +kernel)) (fun _ h9 => h9) rfl (by decide +kernel) rfl rfl (Nat.le_of_ble_eq_true rfl) dX0_appendOnesAndZero_42 (fun H locs hP hD hS => ?_)
      have hP : va_P (dC, dI) vwCl (wB cJ b0 bw w (en + (x1.toInt32 + (1 : Int32))) pl cu) H := hP
      have hD : va_D A (wB cJ b0 bw w (en + (x1.toInt32 + (1 : Int32))) pl cu) := hD
      have hr9 : (w, en + (x1.toInt32 + (1 : Int32))) = r := Option.some.inj hj
      subst hr9
      exact W.vret hx hb hr (fun t ht hW => ⟨⟨(), rfl, trivial, by rw [ht]; exact hP, va_K.moved hW.alike hK, hD⟩, hS.F ht⟩) hS.2.2 dX0_appendOnesAndZero_45
    · replace hj := ja_neg (fun h9 => c201 ((lg_cmp_ge x3.toInt64 x1).mpr h9)) hj
      refine lv_iload_n hx hb dX0_appendOnesAndZero_9 rfl (lv_at hl 2 rfl) ?_
      refine lv_sipush (v := (4096 : Int32)) hx hb dX0_appendOnesAndZero_10 (by decide) ?_
      refine lv_icmp_ge (tgt := 32) hx hb dX0_appendOnesAndZero_13 (by decide) (fun c202 => ?_) (fun c202 => ?_)
      · replace hj := ja_pos c202 hj
        refine lv_aload_n hx hb dX0_appendOnesAndZero_32 rfl (lv_at hl 0 rfl) ?_
        refine lv_dup hx hb dX0_appendOnesAndZero_33 rfl ?_
        refine va_get (D := (dC, dI)) (ci := 0) (v := .int en) (C := RX0) (T := TX0) (N := 4) hx hb hts inn_X0_appendOnesAndZero_X0 hown hK hP 0 rfl rfl 1 (by decide) (hts (.fieldLink RX0 15 "SelfEndingCodes$BitRow" "end" "I") (by decide +kernel)) (fun _ h9 => h9) rfl dX0_appendOnesAndZero_34 ?_
        refine lv_lload_n hx hb dX0_appendOnesAndZero_37 rfl (lv_at hl 1 rfl) ?_
        refine lv_l2i hx hb dX0_appendOnesAndZero_38 rfl ?_
        refine lv_iconst (v := (1 : Int32)) hx hb dX0_appendOnesAndZero_39 (by decide) ?_
        refine lv_iadd hx hb dX0_appendOnesAndZero_40 ?_
        refine lv_iadd hx hb dX0_appendOnesAndZero_41 ?_
        refine va_put (D := (dC, dI)) (ci := 0) (v := .int (en + (x1.toInt32 + (1 : Int32)))) (ty := .int) (C := RX0) (T := TX0) (N := 4) hx hb hts inn_X0_appendOnesAndZero_X0 tyX0 tyX0_ok nmX0 hown hK hP hD hS 0 rfl rfl 1 (by decide) (hts (.fieldLink RX0 15 "SelfEndingCodes$BitRow" "end" "I") (by decide +kernel)) (fun _ h9 => h9) rfl (by decide +kernel) rfl rfl (Nat.le_of_ble_eq_true rfl) dX0_appendOnesAndZero_42 (fun H locs hP hD hS => ?_)
        have hP : va_P (dC, dI) vwCl (wB cJ b0 bw w (en + (x1.toInt32 + (1 : Int32))) pl cu) H := hP
        have hD : va_D A (wB cJ b0 bw w (en + (x1.toInt32 + (1 : Int32))) pl cu) := hD
        have hr9 : (w, en + (x1.toInt32 + (1 : Int32))) = r := Option.some.inj hj
        subst hr9
        exact W.vret hx hb hr (fun t ht hW => ⟨⟨(), rfl, trivial, by rw [ht]; exact hP, va_K.moved hW.alike hK, hD⟩, hS.F ht⟩) hS.2.2 dX0_appendOnesAndZero_45
      · replace hj := ja_neg c202 hj
        refine lv_aload_n hx hb dX0_appendOnesAndZero_16 rfl (lv_at hl 0 rfl) ?_
        refine lv_aload_n hx hb dX0_appendOnesAndZero_17 rfl (lv_at hl 0 rfl) ?_
        refine va_get (D := (dC, dI)) (ci := 0) (v := .int en) (C := RX0) (T := TX0) (N := 4) hx hb hts inn_X0_appendOnesAndZero_X0 hown hK hP 0 rfl rfl 1 (by decide) (hts (.fieldLink RX0 15 "SelfEndingCodes$BitRow" "end" "I") (by decide +kernel)) (fun _ h9 => h9) rfl dX0_appendOnesAndZero_18 ?_
        refine lv_iload_n hx hb dX0_appendOnesAndZero_21 rfl (lv_at hl 2 rfl) ?_
        refine lv_iadd hx hb dX0_appendOnesAndZero_22 ?_
        obtain ⟨v203, hc, hj⟩ := ja_bd hj
        try dsimp only at hj
        have hPc := hP.sub (ws' := (wB cJ b0 bw w en pl cu)) [0, 1] rfl
        have hDc := hD.sub (ws' := (wB cJ b0 bw w en pl cu)) [0, 1] (by decide) rfl
        have hFc := va_free (wc := (wB cJ b0 bw w en pl cu)) hD hS hA [0, 1] rfl
        refine va_callv (va_runV (As := [.int (en + x3)]) (rest := []) ⟨hx, hb, hml, hown, hts⟩ (c_X0_setOne l dC dI cI cJ b0 bw H.size w en pl cu (en + x3) _ hc) (cwV 1 hts gX0_appendOnesAndZero_X0_setOne rfl rfl rfl (by decide +kernel) ⟨Nat.le_of_ble_eq_true rfl, Nat.le_of_ble_eq_true rfl⟩) ⟨fun a U g mk q => ⟨q.1, jPr.blind q.2⟩, va_recv hK hPc (ci := 0) (q0 := 0) rfl rfl, fun U hU hW => ⟨rfl, jPr.mk hU hW hPc hK hDc⟩⟩ rfl rfl hl.1 rfl (lv_room (Nat.le_of_ble_eq_true rfl)) dX0_appendOnesAndZero_23 ⟨Nat.le_of_ble_eq_true rfl, Nat.le_of_ble_eq_true rfl⟩) hS (fun q _ h => hFc q h) hFc (fun u t H1 locs ht hvm hw9 hB hz1 hk1 hS => ?_)
        obtain ⟨hP1, hK1, hD1⟩ := hB
        rw [ht] at hP1
        obtain ⟨hP, hD⟩ := va_join (wr := ([] : va_W)) (w1 := (wB cJ b0 bw v203 en pl cu)) hP hD [0, 1] [] rfl rfl (by decide) (by decide) hk1 hFc hP1 hD1
        clear hk1 hP1 hK1 hD1 hvm hz1 hPc hDc hFc
        generalize H1 = H at hP hS ⊢
        have hP : va_P (dC, dI) vwCl (wB cJ b0 bw v203 en pl cu) H := hP
        have hD : va_D A (wB cJ b0 bw v203 en pl cu) := hD
        refine lv_iinc (v := x3 + (1 : Int32)) (lv' := [(3, .int (x3 + (1 : Int32))), (0, .ref b0), (1, .long x1)]) hx hb dX0_appendOnesAndZero_26 hl (k := 2) rfl (congrArg (fun z => x3 + z) (by decide)) (by decide) rfl (fun ls hl => ?_)
        refine lv_goto (tgt := 2) hx hb dX0_appendOnesAndZero_29 (by decide) ?_
        exact ih (x3 + (1 : Int32)) v203 _ hj _ _ _ (hP) (hD) hS (lv_sub hl [1, 2, 0] rfl)
def j_X0_appendOnesAndZero (w : Nat → Int64) (en : Int32) (a1 : Int64) : Option ((Nat → Int64) × Int32) :=
  jL_X0_appendOnesAndZero_2 en a1 jF (0 : Int32) w
set_option maxHeartbeats 4000000 in
set_option maxRecDepth 100000 in
theorem c_X0_appendOnesAndZero (l : Launch) (dC : Nat → ClassId) (dI : Nat → Nat → Nat) (cI cJ : ClassId) (b0 : Nat) (bw : Nat) (sz : Nat) (w : Nat → Int64) (en : Int32) (pl : Int32) (cu : Int32) (a1 : Int64) (r : (Nat → Int64) × Int32) (hj : j_X0_appendOnesAndZero w en a1 = some r) : Met l yX0_appendOnesAndZero wsX0_appendOnesAndZero ({ frames := 1, cells := 0, slots := 0, locals := 21 } : Room) (va_Pc [.ref b0, .long a1] (fun U => jPr dC dI cI cJ (wB cJ b0 bw w en pl cu) sz U)) (va_Qv (fun _ : Unit => True) (fun (_ : Unit) t => jPo dC dI cI cJ (wB cJ b0 bw r.1 r.2 pl cu) (va_A (wB cJ b0 bw w en pl cu) sz) t) (va_A (wB cJ b0 bw w en pl cu) sz)) 0 0 (va_A (wB cJ b0 bw w en pl cu) sz) := by
  refine Met.ofW (cc := cX0_appendOnesAndZero) (maxL := 4) (ret := none) (by decide) rfl ?_
  intro p e s m args below meth c s₁ B hml hv
  obtain ⟨rfl, ⟨hsz, hP, hK, hD0⟩⟩ := hv
  have hx := B.exec
  have hb := B.bytes
  have hr := B.returns
  have hts := atoms_spec (ws := wsX0_appendOnesAndZero) B.pre
  have hown : s.vm.findClass RX0 = some m.cls := findClass_of_methodNamed B.named
  have hlocks := B.notSynchronized
  have C0 := jCx.of hx hb hr hml hown hts hlocks
  subst hsz
  have hD := hD0.self (sz := s.heap.size)
  generalize hAe : va_A (wB cJ b0 bw w en pl cu) s.heap.size = A at hD ⊢
  have hA : ∀ q : Nat, s.heap.size ≤ q → A q := fun q h => by rw [← hAe]; exact Or.inr h
  have hS : va_S A s.heap s.heap [] := va_S.rf
  have hP : va_P (dC, dI) vwCl (wB cJ b0 bw w en pl cu) s.heap := hP
  have hl := lv_entry ([.ref b0, .long a1]) (n := 4) (Nat.le_of_ble_eq_true rfl)
  rw [lg_entry_eq]
  generalize (lg_sl ([.ref b0, .long a1]) ++ List.replicate (4 - (lg_sl ([.ref b0, .long a1])).length) Slot.unset).toArray = ls at hl ⊢
  have hl : lv_has ls 4 [(0, .ref b0), (1, .long a1)] := hl
  clear hD0 hAe
  unfold j_X0_appendOnesAndZero at hj
  refine lv_iconst (v := (0 : Int32)) hx hb dX0_appendOnesAndZero_0 (by decide) ?_
  refine lv_istore_n (lv' := [(3, .int (0 : Int32)), (0, .ref b0), (1, .long a1)]) hx hb dX0_appendOnesAndZero_1 rfl hl (by decide) rfl (fun ls hl => ?_)
  exact s_X0_appendOnesAndZero_2 C0 hK hA b0 bw en pl cu a1 jF (0 : Int32) w _ hj _ _ _ (hP) (hD) hS (lv_sub hl [1, 2, 0] rfl)

set_option maxRecDepth 100000 in
theorem inn_X0_bitAt_X0 : ∀ w ∈ u_ws RX0 TX0 4, w ∈ wsX0_bitAt := by decide +kernel
def j_X0_bitAt (w : Nat → Int64) (en : Int32) (a1 : Int64) : Option (Int32) :=
  if a1 < (0 : Int64) then (some (0 : Int32)) else (if a1 < en.toInt64 then (jix ((a1 / (64 : Int64)).toInt32) 64 (some (((((w ((a1 / (64 : Int64)).toInt32).toNatClampNeg).toUInt64 >>> ((((63 : Int64) - (a1 - a1 / (64 : Int64) * (64 : Int64))).toInt32).toInt64.toUInt64 &&& Int64.toUInt64 63)).toInt64).toInt32) &&& (1 : Int32)))) else (some (0 : Int32)))
set_option maxHeartbeats 4000000 in
set_option maxRecDepth 100000 in
theorem c_X0_bitAt (l : Launch) (dC : Nat → ClassId) (dI : Nat → Nat → Nat) (cI cJ : ClassId) (b0 : Nat) (bw : Nat) (sz : Nat) (w : Nat → Int64) (en : Int32) (pl : Int32) (cu : Int32) (a1 : Int64) (r : Int32) (hj : j_X0_bitAt w en a1 = some r) : Met l yX0_bitAt wsX0_bitAt ({ frames := 0, cells := 0, slots := 0, locals := 0 } : Room) (va_Pc [.ref b0, .long a1] (fun U => jPr dC dI cI cJ (wB cJ b0 bw w en pl cu) sz U)) (va_Qi (fun (v : Int32) (_ : Unit) => v = r) (fun (_ : Unit) t => jPo dC dI cI cJ (wB cJ b0 bw w en pl cu) (va_A (wB cJ b0 bw w en pl cu) sz) t) (va_A (wB cJ b0 bw w en pl cu) sz)) 0 0 (va_A (wB cJ b0 bw w en pl cu) sz) := by
  refine Met.ofW (cc := cX0_bitAt) (maxL := 3) (ret := (some .int)) (by decide) rfl ?_
  intro p e s m args below meth c s₁ B hml hv
  obtain ⟨rfl, ⟨hsz, hP, hK, hD0⟩⟩ := hv
  have hx := B.exec
  have hb := B.bytes
  have hr := B.returns
  have hts := atoms_spec (ws := wsX0_bitAt) B.pre
  have hown : s.vm.findClass RX0 = some m.cls := findClass_of_methodNamed B.named
  have hlocks := B.notSynchronized
  have C0 := jCx.of hx hb hr hml hown hts hlocks
  subst hsz
  have hD := hD0.self (sz := s.heap.size)
  generalize hAe : va_A (wB cJ b0 bw w en pl cu) s.heap.size = A at hD ⊢
  have hA : ∀ q : Nat, s.heap.size ≤ q → A q := fun q h => by rw [← hAe]; exact Or.inr h
  have hS : va_S A s.heap s.heap [] := va_S.rf
  have hP : va_P (dC, dI) vwCl (wB cJ b0 bw w en pl cu) s.heap := hP
  have hl := lv_entry ([.ref b0, .long a1]) (n := 3) (Nat.le_of_ble_eq_true rfl)
  rw [lg_entry_eq]
  generalize (lg_sl ([.ref b0, .long a1]) ++ List.replicate (3 - (lg_sl ([.ref b0, .long a1])).length) Slot.unset).toArray = ls at hl ⊢
  have hl : lv_has ls 3 [(0, .ref b0), (1, .long a1)] := hl
  clear hD0 hAe
  unfold j_X0_bitAt at hj
  refine lv_lload_n hx hb dX0_bitAt_0 rfl (lv_at hl 1 rfl) ?_
  refine lv_lconst (v := (0 : Int64)) hx hb dX0_bitAt_1 (by decide) ?_
  refine W.lcmp hx hb dX0_bitAt_2 ?_
  refine lv_if_lt (tgt := 16) hx hb dX0_bitAt_3 (by decide) (fun c1 => ?_) (fun c1 => ?_)
  · replace hj := ja_pos ((lg_cmp_lt a1 (0 : Int64)).mp c1) hj
    refine lv_iconst (v := (0 : Int32)) hx hb dX0_bitAt_16 (by decide) ?_
    have hr9 : (0 : Int32) = r := Option.some.inj hj
    subst hr9
    exact W.iret (v := (0 : Int32)) hx hb hr (fun t ht hW => ⟨⟨(0 : Int32), (), rfl, rfl, by rw [ht]; exact hP, va_K.moved hW.alike hK, hD⟩, hS.F ht⟩) hS.2.2 dX0_bitAt_17
  · replace hj := ja_neg (fun h9 => c1 ((lg_cmp_lt a1 (0 : Int64)).mpr h9)) hj
    refine lv_lload_n hx hb dX0_bitAt_6 rfl (lv_at hl 1 rfl) ?_
    refine lv_aload_n hx hb dX0_bitAt_7 rfl (lv_at hl 0 rfl) ?_
    refine va_get (D := (dC, dI)) (ci := 0) (v := .int en) (C := RX0) (T := TX0) (N := 4) hx hb hts inn_X0_bitAt_X0 hown hK hP 0 rfl rfl 1 (by decide) (hts (.fieldLink RX0 15 "SelfEndingCodes$BitRow" "end" "I") (by decide +kernel)) (fun _ h9 => h9) rfl dX0_bitAt_8 ?_
    refine lv_i2l hx hb dX0_bitAt_11 rfl ?_
    refine W.lcmp hx hb dX0_bitAt_12 ?_
    refine lv_if_lt (tgt := 18) hx hb dX0_bitAt_13 (by decide) (fun c2 => ?_) (fun c2 => ?_)
    · replace hj := ja_pos ((lg_cmp_lt a1 en.toInt64).mp c2) hj
      refine lv_aload_n hx hb dX0_bitAt_18 rfl (lv_at hl 0 rfl) ?_
      refine va_get (D := (dC, dI)) (ci := 0) (v := .ref bw) (C := RX0) (T := TX0) (N := 4) hx hb hts inn_X0_bitAt_X0 hown hK hP 0 rfl rfl 0 (by decide) (hts (.fieldLink RX0 9 "SelfEndingCodes$BitRow" "words" "[J") (by decide +kernel)) (fun _ h9 => h9) rfl dX0_bitAt_19 ?_
      refine lv_lload_n hx hb dX0_bitAt_22 rfl (lv_at hl 1 rfl) ?_
      refine lv_ldc2 (v := (64 : Int64)) hx hb hown (hts (.constantLong RX0 31 (64)) (by decide +kernel)) dX0_bitAt_23 ?_
      refine lv_ldiv hx hb dX0_bitAt_26 (by decide) ?_
      refine lv_l2i hx hb dX0_bitAt_27 rfl ?_
      obtain ⟨hin, hj⟩ := ja_ix hj
      refine va_lald hx hb hK hP 1 1 rfl rfl hin dX0_bitAt_28 ?_
      refine lv_ldc2 (v := (63 : Int64)) hx hb hown (hts (.constantLong RX0 33 (63)) (by decide +kernel)) dX0_bitAt_29 ?_
      refine lv_lload_n hx hb dX0_bitAt_32 rfl (lv_at hl 1 rfl) ?_
      refine lv_ldc2 (v := (64 : Int64)) hx hb hown (hts (.constantLong RX0 31 (64)) (by decide +kernel)) dX0_bitAt_33 ?_
      refine lv_lrem hx hb dX0_bitAt_36 (by decide) ?_
      refine lv_lsub hx hb dX0_bitAt_37 ?_
      refine lv_l2i hx hb dX0_bitAt_38 rfl ?_
      refine lv_lushr hx hb dX0_bitAt_39 rfl ?_
      refine lv_l2i hx hb dX0_bitAt_40 rfl ?_
      refine lv_iconst (v := (1 : Int32)) hx hb dX0_bitAt_41 (by decide) ?_
      refine lv_iand hx hb dX0_bitAt_42 ?_
      have hr9 : (((((w ((a1 / (64 : Int64)).toInt32).toNatClampNeg).toUInt64 >>> ((((63 : Int64) - (a1 - a1 / (64 : Int64) * (64 : Int64))).toInt32).toInt64.toUInt64 &&& Int64.toUInt64 63)).toInt64).toInt32) &&& (1 : Int32)) = r := Option.some.inj hj
      subst hr9
      exact W.iret (v := ((((w ((a1 / (64 : Int64)).toInt32).toNatClampNeg).toUInt64 >>> ((((63 : Int64) - (a1 - a1 / (64 : Int64) * (64 : Int64))).toInt32).toInt64.toUInt64 &&& Int64.toUInt64 63)).toInt64).toInt32) &&& (1 : Int32)) hx hb hr (fun t ht hW => ⟨⟨((((w ((a1 / (64 : Int64)).toInt32).toNatClampNeg).toUInt64 >>> ((((63 : Int64) - (a1 - a1 / (64 : Int64) * (64 : Int64))).toInt32).toInt64.toUInt64 &&& Int64.toUInt64 63)).toInt64).toInt32) &&& (1 : Int32), (), rfl, rfl, by rw [ht]; exact hP, va_K.moved hW.alike hK, hD⟩, hS.F ht⟩) hS.2.2 dX0_bitAt_43
    · replace hj := ja_neg (fun h9 => c2 ((lg_cmp_lt a1 en.toInt64).mpr h9)) hj
      refine lv_iconst (v := (0 : Int32)) hx hb dX0_bitAt_16 (by decide) ?_
      have hr9 : (0 : Int32) = r := Option.some.inj hj
      subst hr9
      exact W.iret (v := (0 : Int32)) hx hb hr (fun t ht hW => ⟨⟨(0 : Int32), (), rfl, rfl, by rw [ht]; exact hP, va_K.moved hW.alike hK, hD⟩, hS.F ht⟩) hS.2.2 dX0_bitAt_17

def jL_J7_fill_d0a16_6 (x1 : Int64) (x4 : Int32) : Nat → Int32 → (Nat → Int64) → Option ((Nat → Int64))
  | 0, _, _ => none
  | n + 1, x3, w => if x4 ≤ x3 then (some w) else (jix x3 64 (jL_J7_fill_d0a16_6 x1 x4 n (x3 + (1 : Int32)) (vp_updL w x3.toNatClampNeg x1)))
set_option maxHeartbeats 4000000 in
set_option maxRecDepth 100000 in
theorem s_J7_fill_d0a16_6 {p : Program} {l : Launch} {e : Env} {s : State} {m : MethodId} {args : Array Value} {below : List Frame} {meth : Method} {c : Code} {dC : Nat → ClassId} {dI : Nat → Nat → Nat} {cI cJ : ClassId} {A : Nat → Prop} (C0 : jCx p s m args meth c RJ7 cJ7_fill_d0a16 5 none wsJ7_fill_d0a16) (hK : va_K (dC, dI) vwCl (jTy cI cJ) s) (hA : ∀ q : Nat, s.heap.size ≤ q → A q) (ba : Nat) (x1 : Int64) (x4 : Int32) :
    ∀ (n : Nat) (x3 : Int32) (w : Nat → Int64) (r : (Nat → Int64)), jL_J7_fill_d0a16_6 x1 x4 n x3 w = some r → ∀ (H : Heap) (locs : List Loc) (ls : Array Slot), va_P (dC, dI) vwCl (wF cJ ba w) H → va_D A (wF cJ ba w) → va_S A s.heap H locs → lv_has ls 5 [(0, .ref ba), (1, .long x1), (3, .int x3), (4, .int x4)] → W p l e ({ frames := 0, cells := 0, slots := 0, locals := 0 } : Room) s m args below meth c H locs 0 0 (MQ below (va_Qv (fun _ : Unit => True) (fun (_ : Unit) t => jPo dC dI cI cJ (wF cJ ba r) A t) A) args s 0 0 A) (F0 m 6 ls []) := by
  obtain ⟨hx, hb, hr, hml, hown, hts, hlocks⟩ := id C0
  intro n
  induction n with
  | zero =>
    intro x3 w r hj
    exact nomatch (show (none : Option ((Nat → Int64))) = some r from hj)
  | succ n ih =>
    intro x3 w r hj H locs ls hP hD hS hl
    replace hj : (if x4 ≤ x3 then (some w) else (jix x3 64 (jL_J7_fill_d0a16_6 x1 x4 n (x3 + (1 : Int32)) (vp_updL w x3.toNatClampNeg x1)))) = some r := hj
    refine lv_iload_n hx hb dJ7_fill_d0a16_6 rfl (lv_at hl 2 rfl) ?_
    refine lv_iload hx hb dJ7_fill_d0a16_7 (lv_at hl 3 rfl) ?_
    refine lv_icmp_ge (tgt := 22) hx hb dJ7_fill_d0a16_9 (by decide) (fun c601 => ?_) (fun c601 => ?_)
    · replace hj := ja_pos c601 hj
      have hr9 : w = r := Option.some.inj hj
      subst hr9
      exact W.vret hx hb hr (fun t ht hW => ⟨⟨(), rfl, trivial, by rw [ht]; exact hP, va_K.moved hW.alike hK, hD⟩, hS.F ht⟩) hS.2.2 dJ7_fill_d0a16_22
    · replace hj := ja_neg c601 hj
      refine lv_aload_n hx hb dJ7_fill_d0a16_12 rfl (lv_at hl 0 rfl) ?_
      refine lv_iload_n hx hb dJ7_fill_d0a16_13 rfl (lv_at hl 2 rfl) ?_
      refine lv_lload_n hx hb dJ7_fill_d0a16_14 rfl (lv_at hl 1 rfl) ?_
      obtain ⟨hin, hj⟩ := ja_ix hj
      refine va_last hx hb hK hP hD hS 0 1 rfl rfl hin dJ7_fill_d0a16_15 (fun H locs hP hD hS => ?_)
      have hP : va_P (dC, dI) vwCl (wF cJ ba (vp_updL w x3.toNatClampNeg x1)) H := hP
      have hD : va_D A (wF cJ ba (vp_updL w x3.toNatClampNeg x1)) := hD
      refine lv_iinc (v := x3 + (1 : Int32)) (lv' := [(3, .int (x3 + (1 : Int32))), (0, .ref ba), (1, .long x1), (4, .int x4)]) hx hb dJ7_fill_d0a16_16 hl (k := 2) rfl (congrArg (fun z => x3 + z) (by decide)) (by decide) rfl (fun ls hl => ?_)
      refine lv_goto (tgt := 6) hx hb dJ7_fill_d0a16_19 (by decide) ?_
      exact ih (x3 + (1 : Int32)) (vp_updL w x3.toNatClampNeg x1) _ hj _ _ _ (hP) (hD) hS (lv_sub hl [1, 2, 0, 3] rfl)
def j_J7_fill_d0a16 (w : Nat → Int64) (a2 : Int64) : Option ((Nat → Int64)) :=
  jL_J7_fill_d0a16_6 a2 (64 : Int32) jF (0 : Int32) w
set_option maxHeartbeats 4000000 in
set_option maxRecDepth 100000 in
theorem c_J7_fill_d0a16 (l : Launch) (dC : Nat → ClassId) (dI : Nat → Nat → Nat) (cI cJ : ClassId) (ba : Nat) (sz : Nat) (w : Nat → Int64) (a2 : Int64) (r : (Nat → Int64)) (hj : j_J7_fill_d0a16 w a2 = some r) : Met l yJ7_fill_d0a16 wsJ7_fill_d0a16 ({ frames := 0, cells := 0, slots := 0, locals := 0 } : Room) (va_Pc [.ref ba, .long a2] (fun U => jPr dC dI cI cJ (wF cJ ba w) sz U)) (va_Qv (fun _ : Unit => True) (fun (_ : Unit) t => jPo dC dI cI cJ (wF cJ ba r) (va_A (wF cJ ba w) sz) t) (va_A (wF cJ ba w) sz)) 0 0 (va_A (wF cJ ba w) sz) := by
  refine Met.ofW (cc := cJ7_fill_d0a16) (maxL := 5) (ret := none) (by decide) rfl ?_
  intro p e s m args below meth c s₁ B hml hv
  obtain ⟨rfl, ⟨hsz, hP, hK, hD0⟩⟩ := hv
  have hx := B.exec
  have hb := B.bytes
  have hr := B.returns
  have hts := atoms_spec (ws := wsJ7_fill_d0a16) B.pre
  have hown : s.vm.findClass RJ7 = some m.cls := findClass_of_methodNamed B.named
  have hlocks := B.notSynchronized
  have C0 := jCx.of hx hb hr hml hown hts hlocks
  subst hsz
  have hD := hD0.self (sz := s.heap.size)
  generalize hAe : va_A (wF cJ ba w) s.heap.size = A at hD ⊢
  have hA : ∀ q : Nat, s.heap.size ≤ q → A q := fun q h => by rw [← hAe]; exact Or.inr h
  have hS : va_S A s.heap s.heap [] := va_S.rf
  have hP : va_P (dC, dI) vwCl (wF cJ ba w) s.heap := hP
  have hl := lv_entry ([.ref ba, .long a2]) (n := 5) (Nat.le_of_ble_eq_true rfl)
  rw [lg_entry_eq]
  generalize (lg_sl ([.ref ba, .long a2]) ++ List.replicate (5 - (lg_sl ([.ref ba, .long a2])).length) Slot.unset).toArray = ls at hl ⊢
  have hl : lv_has ls 5 [(0, .ref ba), (1, .long a2)] := hl
  clear hD0 hAe
  unfold j_J7_fill_d0a16 at hj
  refine lv_iconst (v := (0 : Int32)) hx hb dJ7_fill_d0a16_0 (by decide) ?_
  refine lv_istore_n (lv' := [(3, .int (0 : Int32)), (0, .ref ba), (1, .long a2)]) hx hb dJ7_fill_d0a16_1 rfl hl (by decide) rfl (fun ls hl => ?_)
  refine lv_aload_n hx hb dJ7_fill_d0a16_2 rfl (lv_at hl 1 rfl) ?_
  refine va_alen hx hb hK hP 0 1 rfl rfl (v := (64 : Int32)) (show Int32.ofNat 64 = (64 : Int32) from by decide) dJ7_fill_d0a16_3 ?_
  refine lv_istore (lv' := [(4, .int (64 : Int32)), (3, .int (0 : Int32)), (0, .ref ba), (1, .long a2)]) hx hb dJ7_fill_d0a16_4 hl (by decide) rfl (fun ls hl => ?_)
  exact s_J7_fill_d0a16_6 C0 hK hA ba a2 (64 : Int32) jF (0 : Int32) w _ hj _ _ _ (hP) (hD) hS (lv_sub hl [2, 3, 1, 0] rfl)

set_option maxRecDepth 100000 in
theorem inn_X0_makeEmpty_X0 : ∀ w ∈ u_ws RX0 TX0 4, w ∈ wsX0_makeEmpty := by decide +kernel
def j_X0_makeEmpty (w : Nat → Int64) (en : Int32) (pl : Int32) : Option ((Nat → Int64) × Int32 × Int32) :=
  (j_J7_fill_d0a16 w (0 : Int64)).bind fun v1 => (some (v1, (0 : Int32), (0 : Int32)))
set_option maxHeartbeats 4000000 in
set_option maxRecDepth 100000 in
theorem c_X0_makeEmpty (l : Launch) (dC : Nat → ClassId) (dI : Nat → Nat → Nat) (cI cJ : ClassId) (b0 : Nat) (bw : Nat) (sz : Nat) (w : Nat → Int64) (en : Int32) (pl : Int32) (cu : Int32) (r : (Nat → Int64) × Int32 × Int32) (hj : j_X0_makeEmpty w en pl = some r) : Met l yX0_makeEmpty wsX0_makeEmpty ({ frames := 1, cells := 0, slots := 0, locals := 24 } : Room) (va_Pc [.ref b0] (fun U => jPr dC dI cI cJ (wB cJ b0 bw w en pl cu) sz U)) (va_Qv (fun _ : Unit => True) (fun (_ : Unit) t => jPo dC dI cI cJ (wB cJ b0 bw r.1 r.2.1 r.2.2 cu) (va_A (wB cJ b0 bw w en pl cu) sz) t) (va_A (wB cJ b0 bw w en pl cu) sz)) 0 0 (va_A (wB cJ b0 bw w en pl cu) sz) := by
  refine Met.ofW (cc := cX0_makeEmpty) (maxL := 1) (ret := none) (by decide) rfl ?_
  intro p e s m args below meth c s₁ B hml hv
  obtain ⟨rfl, ⟨hsz, hP, hK, hD0⟩⟩ := hv
  have hx := B.exec
  have hb := B.bytes
  have hr := B.returns
  have hts := atoms_spec (ws := wsX0_makeEmpty) B.pre
  have hown : s.vm.findClass RX0 = some m.cls := findClass_of_methodNamed B.named
  have hlocks := B.notSynchronized
  have C0 := jCx.of hx hb hr hml hown hts hlocks
  subst hsz
  have hD := hD0.self (sz := s.heap.size)
  generalize hAe : va_A (wB cJ b0 bw w en pl cu) s.heap.size = A at hD ⊢
  have hA : ∀ q : Nat, s.heap.size ≤ q → A q := fun q h => by rw [← hAe]; exact Or.inr h
  have hS : va_S A s.heap s.heap [] := va_S.rf
  have hP : va_P (dC, dI) vwCl (wB cJ b0 bw w en pl cu) s.heap := hP
  have hl := lv_entry ([.ref b0]) (n := 1) (Nat.le_of_ble_eq_true rfl)
  rw [lg_entry_eq]
  generalize (lg_sl ([.ref b0]) ++ List.replicate (1 - (lg_sl ([.ref b0])).length) Slot.unset).toArray = ls at hl ⊢
  have hl : lv_has ls 1 [(0, .ref b0)] := hl
  clear hD0 hAe
  unfold j_X0_makeEmpty at hj
  refine lv_aload_n hx hb dX0_makeEmpty_0 rfl (lv_at hl 0 rfl) ?_
  refine va_get (D := (dC, dI)) (ci := 0) (v := .ref bw) (C := RX0) (T := TX0) (N := 4) hx hb hts inn_X0_makeEmpty_X0 hown hK hP 0 rfl rfl 0 (by decide) (hts (.fieldLink RX0 9 "SelfEndingCodes$BitRow" "words" "[J") (by decide +kernel)) (fun _ h9 => h9) rfl dX0_makeEmpty_1 ?_
  refine lv_lconst (v := (0 : Int64)) hx hb dX0_makeEmpty_4 (by decide) ?_
  obtain ⟨v1, hc, hj⟩ := ja_bd hj
  try dsimp only at hj
  have hPc := hP.sub (ws' := (wF cJ bw w)) [1] rfl
  have hDc := hD.sub (ws' := (wF cJ bw w)) [1] (by decide) rfl
  have hFc := va_free (wc := (wF cJ bw w)) hD hS hA [1] rfl
  refine va_callv (va_runS (As := [.ref bw, .long (0 : Int64)]) (rest := []) ⟨hx, hb, hml, hown, hts⟩ (c_J7_fill_d0a16 l dC dI cI cJ bw s.heap.size w (0 : Int64) _ hc) (va_cwS 2 hts gX0_makeEmpty_J7_fill_d0a16 rfl rfl rfl (by decide +kernel) ⟨Nat.le_of_ble_eq_true rfl, Nat.le_of_ble_eq_true rfl⟩) ⟨fun a U g mk q => ⟨q.1, jPr.blind q.2⟩, fun U hU hW => ⟨rfl, jPr.mk hU hW hPc hK hDc⟩⟩ rfl rfl hl.1 rfl (lv_room (Nat.le_of_ble_eq_true rfl)) dX0_makeEmpty_5 ⟨Nat.le_of_ble_eq_true rfl, Nat.le_of_ble_eq_true rfl⟩) hS (fun q _ h => hFc q h) hFc (fun u t H1 locs ht hvm hw9 hB hz1 hk1 hS => ?_)
  obtain ⟨hP1, hK1, hD1⟩ := hB
  rw [ht] at hP1
  obtain ⟨hP, hD⟩ := va_join (wr := ([(b0, .inr (0, [.ref bw, .int en, .int pl, .int cu]))] : va_W)) (w1 := (wF cJ bw v1)) hP hD [1] [0] rfl rfl (by decide) (by decide) hk1 hFc hP1 hD1
  clear hk1 hP1 hK1 hD1 hvm hz1 hPc hDc hFc
  generalize H1 = H at hP hS ⊢
  have hP : va_P (dC, dI) vwCl (wB cJ b0 bw v1 en pl cu) H := hP
  have hD : va_D A (wB cJ b0 bw v1 en pl cu) := hD
  refine lv_aload_n hx hb dX0_makeEmpty_8 rfl (lv_at hl 0 rfl) ?_
  refine lv_iconst (v := (0 : Int32)) hx hb dX0_makeEmpty_9 (by decide) ?_
  refine va_put (D := (dC, dI)) (ci := 0) (v := .int (0 : Int32)) (ty := .int) (C := RX0) (T := TX0) (N := 4) hx hb hts inn_X0_makeEmpty_X0 tyX0 tyX0_ok nmX0 hown hK hP hD hS 0 rfl rfl 1 (by decide) (hts (.fieldLink RX0 15 "SelfEndingCodes$BitRow" "end" "I") (by decide +kernel)) (fun _ h9 => h9) rfl (by decide +kernel) rfl rfl (Nat.le_of_ble_eq_true rfl) dX0_makeEmpty_10 (fun H locs hP hD hS => ?_)
  have hP : va_P (dC, dI) vwCl (wB cJ b0 bw v1 (0 : Int32) pl cu) H := hP
  have hD : va_D A (wB cJ b0 bw v1 (0 : Int32) pl cu) := hD
  refine lv_aload_n hx hb dX0_makeEmpty_13 rfl (lv_at hl 0 rfl) ?_
  refine lv_iconst (v := (0 : Int32)) hx hb dX0_makeEmpty_14 (by decide) ?_
  refine va_put (D := (dC, dI)) (ci := 0) (v := .int (0 : Int32)) (ty := .int) (C := RX0) (T := TX0) (N := 4) hx hb hts inn_X0_makeEmpty_X0 tyX0 tyX0_ok nmX0 hown hK hP hD hS 0 rfl rfl 2 (by decide) (hts (.fieldLink RX0 19 "SelfEndingCodes$BitRow" "place" "I") (by decide +kernel)) (fun _ h9 => h9) rfl (by decide +kernel) rfl rfl (Nat.le_of_ble_eq_true rfl) dX0_makeEmpty_15 (fun H locs hP hD hS => ?_)
  have hP : va_P (dC, dI) vwCl (wB cJ b0 bw v1 (0 : Int32) (0 : Int32) cu) H := hP
  have hD : va_D A (wB cJ b0 bw v1 (0 : Int32) (0 : Int32) cu) := hD
  have hr9 : (v1, (0 : Int32), (0 : Int32)) = r := Option.some.inj hj
  subst hr9
  exact W.vret hx hb hr (fun t ht hW => ⟨⟨(), rfl, trivial, by rw [ht]; exact hP, va_K.moved hW.alike hK, hD⟩, hS.F ht⟩) hS.2.2 dX0_makeEmpty_18

set_option maxRecDepth 100000 in
theorem inn_X0_readBit_X0 : ∀ w ∈ u_ws RX0 TX0 4, w ∈ wsX0_readBit := by decide +kernel
def j_X0_readBit (w : Nat → Int64) (en : Int32) (cu : Int32) : Option (Int32 × Int32) :=
  (j_X0_bitAt w en cu.toInt64).bind fun v1 => (some (v1, cu + (1 : Int32)))
set_option maxHeartbeats 4000000 in
set_option maxRecDepth 100000 in
theorem c_X0_readBit (l : Launch) (dC : Nat → ClassId) (dI : Nat → Nat → Nat) (cI cJ : ClassId) (b0 : Nat) (bw : Nat) (sz : Nat) (w : Nat → Int64) (en : Int32) (pl : Int32) (cu : Int32) (r : Int32 × Int32) (hj : j_X0_readBit w en cu = some r) : Met l yX0_readBit wsX0_readBit ({ frames := 1, cells := 0, slots := 0, locals := 22 } : Room) (va_Pc [.ref b0] (fun U => jPr dC dI cI cJ (wB cJ b0 bw w en pl cu) sz U)) (va_Qi (fun (v : Int32) (_ : Unit) => v = r.1) (fun (_ : Unit) t => jPo dC dI cI cJ (wB cJ b0 bw w en pl r.2) (va_A (wB cJ b0 bw w en pl cu) sz) t) (va_A (wB cJ b0 bw w en pl cu) sz)) 0 0 (va_A (wB cJ b0 bw w en pl cu) sz) := by
  refine Met.ofW (cc := cX0_readBit) (maxL := 2) (ret := (some .int)) (by decide) rfl ?_
  intro p e s m args below meth c s₁ B hml hv
  obtain ⟨rfl, ⟨hsz, hP, hK, hD0⟩⟩ := hv
  have hx := B.exec
  have hb := B.bytes
  have hr := B.returns
  have hts := atoms_spec (ws := wsX0_readBit) B.pre
  have hown : s.vm.findClass RX0 = some m.cls := findClass_of_methodNamed B.named
  have hlocks := B.notSynchronized
  have C0 := jCx.of hx hb hr hml hown hts hlocks
  subst hsz
  have hD := hD0.self (sz := s.heap.size)
  generalize hAe : va_A (wB cJ b0 bw w en pl cu) s.heap.size = A at hD ⊢
  have hA : ∀ q : Nat, s.heap.size ≤ q → A q := fun q h => by rw [← hAe]; exact Or.inr h
  have hS : va_S A s.heap s.heap [] := va_S.rf
  have hP : va_P (dC, dI) vwCl (wB cJ b0 bw w en pl cu) s.heap := hP
  have hl := lv_entry ([.ref b0]) (n := 2) (Nat.le_of_ble_eq_true rfl)
  rw [lg_entry_eq]
  generalize (lg_sl ([.ref b0]) ++ List.replicate (2 - (lg_sl ([.ref b0])).length) Slot.unset).toArray = ls at hl ⊢
  have hl : lv_has ls 2 [(0, .ref b0)] := hl
  clear hD0 hAe
  unfold j_X0_readBit at hj
  refine lv_aload_n hx hb dX0_readBit_0 rfl (lv_at hl 0 rfl) ?_
  refine lv_aload_n hx hb dX0_readBit_1 rfl (lv_at hl 0 rfl) ?_
  refine va_get (D := (dC, dI)) (ci := 0) (v := .int cu) (C := RX0) (T := TX0) (N := 4) hx hb hts inn_X0_readBit_X0 hown hK hP 0 rfl rfl 3 (by decide) (hts (.fieldLink RX0 22 "SelfEndingCodes$BitRow" "cursor" "I") (by decide +kernel)) (fun _ h9 => h9) rfl dX0_readBit_2 ?_
  refine lv_i2l hx hb dX0_readBit_5 rfl ?_
  obtain ⟨v1, hc, hj⟩ := ja_bd hj
  try dsimp only at hj
  have hPc := hP.sub (ws' := (wB cJ b0 bw w en pl cu)) [0, 1] rfl
  have hDc := hD.sub (ws' := (wB cJ b0 bw w en pl cu)) [0, 1] (by decide) rfl
  have hFc := va_free (wc := (wB cJ b0 bw w en pl cu)) hD hS hA [0, 1] rfl
  refine va_calli (va_runV (As := [.long cu.toInt64]) (rest := []) ⟨hx, hb, hml, hown, hts⟩ (c_X0_bitAt l dC dI cI cJ b0 bw s.heap.size w en pl cu cu.toInt64 _ hc) (cwV 1 hts gX0_readBit_X0_bitAt rfl rfl rfl (by decide +kernel) ⟨Nat.le_of_ble_eq_true rfl, Nat.le_of_ble_eq_true rfl⟩) ⟨fun a U g mk q => ⟨q.1, jPr.blind q.2⟩, va_recv hK hPc (ci := 0) (q0 := 0) rfl rfl, fun U hU hW => ⟨rfl, jPr.mk hU hW hPc hK hDc⟩⟩ rfl rfl hl.1 rfl (lv_room (Nat.le_of_ble_eq_true rfl)) dX0_readBit_6 ⟨Nat.le_of_ble_eq_true rfl, Nat.le_of_ble_eq_true rfl⟩) hS (fun q _ h => hFc q h) hFc (fun rr u t H1 locs ht hvm hw9 hB hz1 hk1 hS => ?_)
  have hw8 : v1 = rr := hw9.symm
  subst hw8
  obtain ⟨hP1, hK1, hD1⟩ := hB
  rw [ht] at hP1
  obtain ⟨hP, hD⟩ := va_join (wr := ([] : va_W)) (w1 := (wB cJ b0 bw w en pl cu)) hP hD [0, 1] [] rfl rfl (by decide) (by decide) hk1 hFc hP1 hD1
  clear hk1 hP1 hK1 hD1 hvm hz1 hPc hDc hFc
  generalize H1 = H at hP hS ⊢
  have hP : va_P (dC, dI) vwCl (wB cJ b0 bw w en pl cu) H := hP
  have hD : va_D A (wB cJ b0 bw w en pl cu) := hD
  refine lv_istore_n (lv' := [(1, .int v1), (0, .ref b0)]) hx hb dX0_readBit_9 rfl hl (by decide) rfl (fun ls hl => ?_)
  refine lv_aload_n hx hb dX0_readBit_10 rfl (lv_at hl 1 rfl) ?_
  refine lv_dup hx hb dX0_readBit_11 rfl ?_
  refine va_get (D := (dC, dI)) (ci := 0) (v := .int cu) (C := RX0) (T := TX0) (N := 4) hx hb hts inn_X0_readBit_X0 hown hK hP 0 rfl rfl 3 (by decide) (hts (.fieldLink RX0 22 "SelfEndingCodes$BitRow" "cursor" "I") (by decide +kernel)) (fun _ h9 => h9) rfl dX0_readBit_12 ?_
  refine lv_iconst (v := (1 : Int32)) hx hb dX0_readBit_15 (by decide) ?_
  refine lv_iadd hx hb dX0_readBit_16 ?_
  refine va_put (D := (dC, dI)) (ci := 0) (v := .int (cu + (1 : Int32))) (ty := .int) (C := RX0) (T := TX0) (N := 4) hx hb hts inn_X0_readBit_X0 tyX0 tyX0_ok nmX0 hown hK hP hD hS 0 rfl rfl 3 (by decide) (hts (.fieldLink RX0 22 "SelfEndingCodes$BitRow" "cursor" "I") (by decide +kernel)) (fun _ h9 => h9) rfl (by decide +kernel) rfl rfl (Nat.le_of_ble_eq_true rfl) dX0_readBit_17 (fun H locs hP hD hS => ?_)
  have hP : va_P (dC, dI) vwCl (wB cJ b0 bw w en pl (cu + (1 : Int32))) H := hP
  have hD : va_D A (wB cJ b0 bw w en pl (cu + (1 : Int32))) := hD
  refine lv_iload_n hx hb dX0_readBit_20 rfl (lv_at hl 0 rfl) ?_
  have hr9 : (v1, cu + (1 : Int32)) = r := Option.some.inj hj
  subst hr9
  exact W.iret (v := v1) hx hb hr (fun t ht hW => ⟨⟨v1, (), rfl, rfl, by rw [ht]; exact hP, va_K.moved hW.alike hK, hD⟩, hS.F ht⟩) hS.2.2 dX0_readBit_21

set_option maxRecDepth 100000 in
theorem inn_X0_readBits_X0 : ∀ w ∈ u_ws RX0 TX0 4, w ∈ wsX0_readBits := by decide +kernel
def jL_X0_readBits_6 (w : Nat → Int64) (en : Int32) (cu : Int32) (x3 : Int32) : Nat → Int64 → Int32 → Option (Int64 × Int32)
  | 0, _, _ => none
  | n + 1, x4, x6 => if x3 ≤ x6 then (some (x4, cu + x3)) else ((j_X0_bitAt w en ((cu + x6).toInt64)).bind fun v602 => (jL_X0_readBits_6 w en cu x3 n (((2 : Int64) * x4) + v602.toInt64) (x6 + (1 : Int32))))
set_option maxHeartbeats 4000000 in
set_option maxRecDepth 100000 in
theorem s_X0_readBits_6 {p : Program} {l : Launch} {e : Env} {s : State} {m : MethodId} {args : Array Value} {below : List Frame} {meth : Method} {c : Code} {dC : Nat → ClassId} {dI : Nat → Nat → Nat} {cI cJ : ClassId} {A : Nat → Prop} (C0 : jCx p s m args meth c RX0 cX0_readBits 7 (some .long) wsX0_readBits) (hK : va_K (dC, dI) vwCl (jTy cI cJ) s) (hA : ∀ q : Nat, s.heap.size ≤ q → A q) (b0 : Nat) (bw : Nat) (w : Nat → Int64) (en : Int32) (pl : Int32) (cu : Int32) (x3 : Int32) :
    ∀ (n : Nat) (x4 : Int64) (x6 : Int32) (r : Int64 × Int32), jL_X0_readBits_6 w en cu x3 n x4 x6 = some r → ∀ (H : Heap) (locs : List Loc) (ls : Array Slot), va_P (dC, dI) vwCl (wB cJ b0 bw w en pl cu) H → va_D A (wB cJ b0 bw w en pl cu) → va_S A s.heap H locs → lv_has ls 7 [(0, .ref b0), (3, .int x3), (4, .long x4), (6, .int x6)] → W p l e ({ frames := 1, cells := 0, slots := 0, locals := 22 } : Room) s m args below meth c H locs 0 0 (MQ below (va_Ql (fun (v : Int64) (_ : Unit) => v = r.1) (fun (_ : Unit) t => jPo dC dI cI cJ (wB cJ b0 bw w en pl r.2) A t) A) args s 0 0 A) (F0 m 6 ls []) := by
  obtain ⟨hx, hb, hr, hml, hown, hts, hlocks⟩ := id C0
  intro n
  induction n with
  | zero =>
    intro x4 x6 r hj
    exact nomatch (show (none : Option (Int64 × Int32)) = some r from hj)
  | succ n ih =>
    intro x4 x6 r hj H locs ls hP hD hS hl
    replace hj : (if x3 ≤ x6 then (some (x4, cu + x3)) else ((j_X0_bitAt w en ((cu + x6).toInt64)).bind fun v602 => (jL_X0_readBits_6 w en cu x3 n (((2 : Int64) * x4) + v602.toInt64) (x6 + (1 : Int32))))) = some r := hj
    refine lv_iload hx hb dX0_readBits_6 (lv_at hl 3 rfl) ?_
    refine lv_iload_n hx hb dX0_readBits_8 rfl (lv_at hl 1 rfl) ?_
    refine lv_icmp_ge (tgt := 40) hx hb dX0_readBits_9 (by decide) (fun c601 => ?_) (fun c601 => ?_)
    · replace hj := ja_pos c601 hj
      refine lv_aload_n hx hb dX0_readBits_40 rfl (lv_at hl 0 rfl) ?_
      refine lv_dup hx hb dX0_readBits_41 rfl ?_
      refine va_get (D := (dC, dI)) (ci := 0) (v := .int cu) (C := RX0) (T := TX0) (N := 4) hx hb hts inn_X0_readBits_X0 hown hK hP 0 rfl rfl 3 (by decide) (hts (.fieldLink RX0 22 "SelfEndingCodes$BitRow" "cursor" "I") (by decide +kernel)) (fun _ h9 => h9) rfl dX0_readBits_42 ?_
      refine lv_iload_n hx hb dX0_readBits_45 rfl (lv_at hl 1 rfl) ?_
      refine lv_iadd hx hb dX0_readBits_46 ?_
      refine va_put (D := (dC, dI)) (ci := 0) (v := .int (cu + x3)) (ty := .int) (C := RX0) (T := TX0) (N := 4) hx hb hts inn_X0_readBits_X0 tyX0 tyX0_ok nmX0 hown hK hP hD hS 0 rfl rfl 3 (by decide) (hts (.fieldLink RX0 22 "SelfEndingCodes$BitRow" "cursor" "I") (by decide +kernel)) (fun _ h9 => h9) rfl (by decide +kernel) rfl rfl (Nat.le_of_ble_eq_true rfl) dX0_readBits_47 (fun H locs hP hD hS => ?_)
      have hP : va_P (dC, dI) vwCl (wB cJ b0 bw w en pl (cu + x3)) H := hP
      have hD : va_D A (wB cJ b0 bw w en pl (cu + x3)) := hD
      refine lv_lload hx hb dX0_readBits_50 (lv_at hl 2 rfl) ?_
      have hr9 : (x4, cu + x3) = r := Option.some.inj hj
      subst hr9
      exact W.lret (v := x4) hx hb hr (fun t ht hW => ⟨⟨x4, (), rfl, rfl, by rw [ht]; exact hP, va_K.moved hW.alike hK, hD⟩, hS.F ht⟩) hS.2.2 dX0_readBits_52
    · replace hj := ja_neg c601 hj
      refine lv_ldc2 (v := (2 : Int64)) hx hb hown (hts (.constantLong RX0 47 (2)) (by decide +kernel)) dX0_readBits_12 ?_
      refine lv_lload hx hb dX0_readBits_15 (lv_at hl 2 rfl) ?_
      refine lv_lmul hx hb dX0_readBits_17 ?_
      refine lv_aload_n hx hb dX0_readBits_18 rfl (lv_at hl 0 rfl) ?_
      refine lv_aload_n hx hb dX0_readBits_19 rfl (lv_at hl 0 rfl) ?_
      refine va_get (D := (dC, dI)) (ci := 0) (v := .int cu) (C := RX0) (T := TX0) (N := 4) hx hb hts inn_X0_readBits_X0 hown hK hP 0 rfl rfl 3 (by decide) (hts (.fieldLink RX0 22 "SelfEndingCodes$BitRow" "cursor" "I") (by decide +kernel)) (fun _ h9 => h9) rfl dX0_readBits_20 ?_
      refine lv_iload hx hb dX0_readBits_23 (lv_at hl 3 rfl) ?_
      refine lv_iadd hx hb dX0_readBits_25 ?_
      refine lv_i2l hx hb dX0_readBits_26 rfl ?_
      obtain ⟨v602, hc, hj⟩ := ja_bd hj
      try dsimp only at hj
      have hPc := hP.sub (ws' := (wB cJ b0 bw w en pl cu)) [0, 1] rfl
      have hDc := hD.sub (ws' := (wB cJ b0 bw w en pl cu)) [0, 1] (by decide) rfl
      have hFc := va_free (wc := (wB cJ b0 bw w en pl cu)) hD hS hA [0, 1] rfl
      refine va_calli (va_runV (As := [.long ((cu + x6).toInt64)]) (rest := [.long ((2 : Int64) * x4)]) ⟨hx, hb, hml, hown, hts⟩ (c_X0_bitAt l dC dI cI cJ b0 bw H.size w en pl cu ((cu + x6).toInt64) _ hc) (cwV 1 hts gX0_readBits_X0_bitAt rfl rfl rfl (by decide +kernel) ⟨Nat.le_of_ble_eq_true rfl, Nat.le_of_ble_eq_true rfl⟩) ⟨fun a U g mk q => ⟨q.1, jPr.blind q.2⟩, va_recv hK hPc (ci := 0) (q0 := 0) rfl rfl, fun U hU hW => ⟨rfl, jPr.mk hU hW hPc hK hDc⟩⟩ rfl rfl hl.1 rfl (lv_room (Nat.le_of_ble_eq_true rfl)) dX0_readBits_27 ⟨Nat.le_of_ble_eq_true rfl, Nat.le_of_ble_eq_true rfl⟩) hS (fun q _ h => hFc q h) hFc (fun rr u t H1 locs ht hvm hw9 hB hz1 hk1 hS => ?_)
      have hw8 : v602 = rr := hw9.symm
      subst hw8
      obtain ⟨hP1, hK1, hD1⟩ := hB
      rw [ht] at hP1
      obtain ⟨hP, hD⟩ := va_join (wr := ([] : va_W)) (w1 := (wB cJ b0 bw w en pl cu)) hP hD [0, 1] [] rfl rfl (by decide) (by decide) hk1 hFc hP1 hD1
      clear hk1 hP1 hK1 hD1 hvm hz1 hPc hDc hFc
      generalize H1 = H at hP hS ⊢
      have hP : va_P (dC, dI) vwCl (wB cJ b0 bw w en pl cu) H := hP
      have hD : va_D A (wB cJ b0 bw w en pl cu) := hD
      refine lv_i2l hx hb dX0_readBits_30 rfl ?_
      refine lv_ladd hx hb dX0_readBits_31 ?_
      refine lv_lstore (lv' := [(4, .long (((2 : Int64) * x4) + v602.toInt64)), (0, .ref b0), (3, .int x3), (6, .int x6)]) hx hb dX0_readBits_32 hl (by decide) rfl (fun ls hl => ?_)
      refine lv_iinc (v := x6 + (1 : Int32)) (lv' := [(6, .int (x6 + (1 : Int32))), (4, .long (((2 : Int64) * x4) + v602.toInt64)), (0, .ref b0), (3, .int x3)]) hx hb dX0_readBits_34 hl (k := 3) rfl (congrArg (fun z => x6 + z) (by decide)) (by decide) rfl (fun ls hl => ?_)
      refine lv_goto (tgt := 6) hx hb dX0_readBits_37 (by decide) ?_
      exact ih (((2 : Int64) * x4) + v602.toInt64) (x6 + (1 : Int32)) _ hj _ _ _ (hP) (hD) hS (lv_sub hl [2, 3, 1, 0] rfl)
def j_X0_readBits (w : Nat → Int64) (en : Int32) (cu : Int32) (a1 : Int64) (a2 : Int32) : Option (Int64 × Int32) :=
  jL_X0_readBits_6 w en cu a2 jF a1 (0 : Int32)
set_option maxHeartbeats 4000000 in
set_option maxRecDepth 100000 in
theorem c_X0_readBits (l : Launch) (dC : Nat → ClassId) (dI : Nat → Nat → Nat) (cI cJ : ClassId) (b0 : Nat) (bw : Nat) (sz : Nat) (w : Nat → Int64) (en : Int32) (pl : Int32) (cu : Int32) (a1 : Int64) (a2 : Int32) (r : Int64 × Int32) (hj : j_X0_readBits w en cu a1 a2 = some r) : Met l yX0_readBits wsX0_readBits ({ frames := 1, cells := 0, slots := 0, locals := 22 } : Room) (va_Pc [.ref b0, .long a1, .int a2] (fun U => jPr dC dI cI cJ (wB cJ b0 bw w en pl cu) sz U)) (va_Ql (fun (v : Int64) (_ : Unit) => v = r.1) (fun (_ : Unit) t => jPo dC dI cI cJ (wB cJ b0 bw w en pl r.2) (va_A (wB cJ b0 bw w en pl cu) sz) t) (va_A (wB cJ b0 bw w en pl cu) sz)) 0 0 (va_A (wB cJ b0 bw w en pl cu) sz) := by
  refine Met.ofW (cc := cX0_readBits) (maxL := 7) (ret := (some .long)) (by decide) rfl ?_
  intro p e s m args below meth c s₁ B hml hv
  obtain ⟨rfl, ⟨hsz, hP, hK, hD0⟩⟩ := hv
  have hx := B.exec
  have hb := B.bytes
  have hr := B.returns
  have hts := atoms_spec (ws := wsX0_readBits) B.pre
  have hown : s.vm.findClass RX0 = some m.cls := findClass_of_methodNamed B.named
  have hlocks := B.notSynchronized
  have C0 := jCx.of hx hb hr hml hown hts hlocks
  subst hsz
  have hD := hD0.self (sz := s.heap.size)
  generalize hAe : va_A (wB cJ b0 bw w en pl cu) s.heap.size = A at hD ⊢
  have hA : ∀ q : Nat, s.heap.size ≤ q → A q := fun q h => by rw [← hAe]; exact Or.inr h
  have hS : va_S A s.heap s.heap [] := va_S.rf
  have hP : va_P (dC, dI) vwCl (wB cJ b0 bw w en pl cu) s.heap := hP
  have hl := lv_entry ([.ref b0, .long a1, .int a2]) (n := 7) (Nat.le_of_ble_eq_true rfl)
  rw [lg_entry_eq]
  generalize (lg_sl ([.ref b0, .long a1, .int a2]) ++ List.replicate (7 - (lg_sl ([.ref b0, .long a1, .int a2])).length) Slot.unset).toArray = ls at hl ⊢
  have hl : lv_has ls 7 [(0, .ref b0), (1, .long a1), (3, .int a2)] := hl
  clear hD0 hAe
  unfold j_X0_readBits at hj
  refine lv_lload_n hx hb dX0_readBits_0 rfl (lv_at hl 1 rfl) ?_
  refine lv_lstore (lv' := [(4, .long a1), (0, .ref b0), (1, .long a1), (3, .int a2)]) hx hb dX0_readBits_1 hl (by decide) rfl (fun ls hl => ?_)
  refine lv_iconst (v := (0 : Int32)) hx hb dX0_readBits_3 (by decide) ?_
  refine lv_istore (lv' := [(6, .int (0 : Int32)), (4, .long a1), (0, .ref b0), (1, .long a1), (3, .int a2)]) hx hb dX0_readBits_4 hl (by decide) rfl (fun ls hl => ?_)
  exact s_X0_readBits_6 C0 hK hA b0 bw w en pl cu a2 jF a1 (0 : Int32) _ hj _ _ _ (hP) (hD) hS (lv_sub hl [2, 4, 1, 0] rfl)

def jL_X0_readOnesAndZero_2 (w : Nat → Int64) (en : Int32) : Nat → Int32 → Int32 → Option (Int32 × Int32)
  | 0, _, _ => none
  | n + 1, x1, cu => if (4096 : Int32) < x1 then (some (x1, cu)) else ((j_X0_readBit w en cu).bind fun (v202, v203) => (if v202 = (1 : Int32) then (jL_X0_readOnesAndZero_2 w en n (x1 + (1 : Int32)) v203) else (some (x1, v203))))
set_option maxHeartbeats 4000000 in
set_option maxRecDepth 100000 in
theorem s_X0_readOnesAndZero_2 {p : Program} {l : Launch} {e : Env} {s : State} {m : MethodId} {args : Array Value} {below : List Frame} {meth : Method} {c : Code} {dC : Nat → ClassId} {dI : Nat → Nat → Nat} {cI cJ : ClassId} {A : Nat → Prop} (C0 : jCx p s m args meth c RX0 cX0_readOnesAndZero 2 (some .int) wsX0_readOnesAndZero) (hK : va_K (dC, dI) vwCl (jTy cI cJ) s) (hA : ∀ q : Nat, s.heap.size ≤ q → A q) (b0 : Nat) (bw : Nat) (w : Nat → Int64) (en : Int32) (pl : Int32) :
    ∀ (n : Nat) (x1 : Int32) (cu : Int32) (r : Int32 × Int32), jL_X0_readOnesAndZero_2 w en n x1 cu = some r → ∀ (H : Heap) (locs : List Loc) (ls : Array Slot), va_P (dC, dI) vwCl (wB cJ b0 bw w en pl cu) H → va_D A (wB cJ b0 bw w en pl cu) → va_S A s.heap H locs → lv_has ls 2 [(0, .ref b0), (1, .int x1)] → W p l e ({ frames := 2, cells := 0, slots := 0, locals := 43 } : Room) s m args below meth c H locs 0 0 (MQ below (va_Qi (fun (v : Int32) (_ : Unit) => v = r.1) (fun (_ : Unit) t => jPo dC dI cI cJ (wB cJ b0 bw w en pl r.2) A t) A) args s 0 0 A) (F0 m 2 ls []) := by
  obtain ⟨hx, hb, hr, hml, hown, hts, hlocks⟩ := id C0
  intro n
  induction n with
  | zero =>
    intro x1 cu r hj
    exact nomatch (show (none : Option (Int32 × Int32)) = some r from hj)
  | succ n ih =>
    intro x1 cu r hj H locs ls hP hD hS hl
    replace hj : (if (4096 : Int32) < x1 then (some (x1, cu)) else ((j_X0_readBit w en cu).bind fun (v202, v203) => (if v202 = (1 : Int32) then (jL_X0_readOnesAndZero_2 w en n (x1 + (1 : Int32)) v203) else (some (x1, v203))))) = some r := hj
    refine lv_iload_n hx hb dX0_readOnesAndZero_2 rfl (lv_at hl 1 rfl) ?_
    refine lv_sipush (v := (4096 : Int32)) hx hb dX0_readOnesAndZero_3 (by decide) ?_
    refine lv_icmp_gt (tgt := 23) hx hb dX0_readOnesAndZero_6 (by decide) (fun c201 => ?_) (fun c201 => ?_)
    · replace hj := ja_pos c201 hj
      refine lv_iload_n hx hb dX0_readOnesAndZero_23 rfl (lv_at hl 1 rfl) ?_
      have hr9 : (x1, cu) = r := Option.some.inj hj
      subst hr9
      exact W.iret (v := x1) hx hb hr (fun t ht hW => ⟨⟨x1, (), rfl, rfl, by rw [ht]; exact hP, va_K.moved hW.alike hK, hD⟩, hS.F ht⟩) hS.2.2 dX0_readOnesAndZero_24
    · replace hj := ja_neg c201 hj
      refine lv_aload_n hx hb dX0_readOnesAndZero_9 rfl (lv_at hl 0 rfl) ?_
      obtain ⟨⟨v202, v203⟩, hc, hj⟩ := ja_bd hj
      try dsimp only at hj
      have hPc := hP.sub (ws' := (wB cJ b0 bw w en pl cu)) [0, 1] rfl
      have hDc := hD.sub (ws' := (wB cJ b0 bw w en pl cu)) [0, 1] (by decide) rfl
      have hFc := va_free (wc := (wB cJ b0 bw w en pl cu)) hD hS hA [0, 1] rfl
      refine va_calli (va_runV (As := []) (rest := []) ⟨hx, hb, hml, hown, hts⟩ (c_X0_readBit l dC dI cI cJ b0 bw H.size w en pl cu _ hc) (cwV 0 hts gX0_readOnesAndZero_X0_readBit rfl rfl rfl (by decide +kernel) ⟨Nat.le_of_ble_eq_true rfl, Nat.le_of_ble_eq_true rfl⟩) ⟨fun a U g mk q => ⟨q.1, jPr.blind q.2⟩, va_recv hK hPc (ci := 0) (q0 := 0) rfl rfl, fun U hU hW => ⟨rfl, jPr.mk hU hW hPc hK hDc⟩⟩ rfl rfl hl.1 rfl (lv_room (Nat.le_of_ble_eq_true rfl)) dX0_readOnesAndZero_10 ⟨Nat.le_of_ble_eq_true rfl, Nat.le_of_ble_eq_true rfl⟩) hS (fun q _ h => hFc q h) hFc (fun rr u t H1 locs ht hvm hw9 hB hz1 hk1 hS => ?_)
      have hw8 : v202 = rr := hw9.symm
      subst hw8
      obtain ⟨hP1, hK1, hD1⟩ := hB
      rw [ht] at hP1
      obtain ⟨hP, hD⟩ := va_join (wr := ([] : va_W)) (w1 := (wB cJ b0 bw w en pl v203)) hP hD [0, 1] [] rfl rfl (by decide) (by decide) hk1 hFc hP1 hD1
      clear hk1 hP1 hK1 hD1 hvm hz1 hPc hDc hFc
      generalize H1 = H at hP hS ⊢
      have hP : va_P (dC, dI) vwCl (wB cJ b0 bw w en pl v203) H := hP
      have hD : va_D A (wB cJ b0 bw w en pl v203) := hD
      refine lv_iconst (v := (1 : Int32)) hx hb dX0_readOnesAndZero_13 (by decide) ?_
      refine lv_icmp_ne (tgt := 23) hx hb dX0_readOnesAndZero_14 (by decide) (fun c204 => ?_) (fun c204 => ?_)
      · replace hj := ja_neg c204 hj
        refine lv_iload_n hx hb dX0_readOnesAndZero_23 rfl (lv_at hl 1 rfl) ?_
        have hr9 : (x1, v203) = r := Option.some.inj hj
        subst hr9
        exact W.iret (v := x1) hx hb hr (fun t ht hW => ⟨⟨x1, (), rfl, rfl, by rw [ht]; exact hP, va_K.moved hW.alike hK, hD⟩, hS.F ht⟩) hS.2.2 dX0_readOnesAndZero_24
      · replace hj := ja_pos c204 hj
        refine lv_iinc (v := x1 + (1 : Int32)) (lv' := [(1, .int (x1 + (1 : Int32))), (0, .ref b0)]) hx hb dX0_readOnesAndZero_17 hl (k := 1) rfl (congrArg (fun z => x1 + z) (by decide)) (by decide) rfl (fun ls hl => ?_)
        refine lv_goto (tgt := 2) hx hb dX0_readOnesAndZero_20 (by decide) ?_
        exact ih (x1 + (1 : Int32)) v203 _ hj _ _ _ (hP) (hD) hS (lv_sub hl [1, 0] rfl)
def j_X0_readOnesAndZero (w : Nat → Int64) (en : Int32) (cu : Int32) : Option (Int32 × Int32) :=
  jL_X0_readOnesAndZero_2 w en jF (0 : Int32) cu
set_option maxHeartbeats 4000000 in
set_option maxRecDepth 100000 in
theorem c_X0_readOnesAndZero (l : Launch) (dC : Nat → ClassId) (dI : Nat → Nat → Nat) (cI cJ : ClassId) (b0 : Nat) (bw : Nat) (sz : Nat) (w : Nat → Int64) (en : Int32) (pl : Int32) (cu : Int32) (r : Int32 × Int32) (hj : j_X0_readOnesAndZero w en cu = some r) : Met l yX0_readOnesAndZero wsX0_readOnesAndZero ({ frames := 2, cells := 0, slots := 0, locals := 43 } : Room) (va_Pc [.ref b0] (fun U => jPr dC dI cI cJ (wB cJ b0 bw w en pl cu) sz U)) (va_Qi (fun (v : Int32) (_ : Unit) => v = r.1) (fun (_ : Unit) t => jPo dC dI cI cJ (wB cJ b0 bw w en pl r.2) (va_A (wB cJ b0 bw w en pl cu) sz) t) (va_A (wB cJ b0 bw w en pl cu) sz)) 0 0 (va_A (wB cJ b0 bw w en pl cu) sz) := by
  refine Met.ofW (cc := cX0_readOnesAndZero) (maxL := 2) (ret := (some .int)) (by decide) rfl ?_
  intro p e s m args below meth c s₁ B hml hv
  obtain ⟨rfl, ⟨hsz, hP, hK, hD0⟩⟩ := hv
  have hx := B.exec
  have hb := B.bytes
  have hr := B.returns
  have hts := atoms_spec (ws := wsX0_readOnesAndZero) B.pre
  have hown : s.vm.findClass RX0 = some m.cls := findClass_of_methodNamed B.named
  have hlocks := B.notSynchronized
  have C0 := jCx.of hx hb hr hml hown hts hlocks
  subst hsz
  have hD := hD0.self (sz := s.heap.size)
  generalize hAe : va_A (wB cJ b0 bw w en pl cu) s.heap.size = A at hD ⊢
  have hA : ∀ q : Nat, s.heap.size ≤ q → A q := fun q h => by rw [← hAe]; exact Or.inr h
  have hS : va_S A s.heap s.heap [] := va_S.rf
  have hP : va_P (dC, dI) vwCl (wB cJ b0 bw w en pl cu) s.heap := hP
  have hl := lv_entry ([.ref b0]) (n := 2) (Nat.le_of_ble_eq_true rfl)
  rw [lg_entry_eq]
  generalize (lg_sl ([.ref b0]) ++ List.replicate (2 - (lg_sl ([.ref b0])).length) Slot.unset).toArray = ls at hl ⊢
  have hl : lv_has ls 2 [(0, .ref b0)] := hl
  clear hD0 hAe
  unfold j_X0_readOnesAndZero at hj
  refine lv_iconst (v := (0 : Int32)) hx hb dX0_readOnesAndZero_0 (by decide) ?_
  refine lv_istore_n (lv' := [(1, .int (0 : Int32)), (0, .ref b0)]) hx hb dX0_readOnesAndZero_1 rfl hl (by decide) rfl (fun ls hl => ?_)
  exact s_X0_readOnesAndZero_2 C0 hK hA b0 bw w en pl jF (0 : Int32) cu _ hj _ _ _ (hP) (hD) hS (lv_sub hl [1, 0] rfl)

set_option maxRecDepth 100000 in
theorem inn_X0_room_X0 : ∀ w ∈ u_ws RX0 TX0 4, w ∈ wsX0_room := by decide +kernel
def j_X0_room (en : Int32) : Option (Int32) :=
  some ((4096 : Int32) - en)
set_option maxHeartbeats 4000000 in
set_option maxRecDepth 100000 in
theorem c_X0_room (l : Launch) (dC : Nat → ClassId) (dI : Nat → Nat → Nat) (cI cJ : ClassId) (b0 : Nat) (bw : Nat) (sz : Nat) (w : Nat → Int64) (en : Int32) (pl : Int32) (cu : Int32) (r : Int32) (hj : j_X0_room en = some r) : Met l yX0_room wsX0_room ({ frames := 0, cells := 0, slots := 0, locals := 0 } : Room) (va_Pc [.ref b0] (fun U => jPr dC dI cI cJ (wB cJ b0 bw w en pl cu) sz U)) (va_Qi (fun (v : Int32) (_ : Unit) => v = r) (fun (_ : Unit) t => jPo dC dI cI cJ (wB cJ b0 bw w en pl cu) (va_A (wB cJ b0 bw w en pl cu) sz) t) (va_A (wB cJ b0 bw w en pl cu) sz)) 0 0 (va_A (wB cJ b0 bw w en pl cu) sz) := by
  refine Met.ofW (cc := cX0_room) (maxL := 1) (ret := (some .int)) (by decide) rfl ?_
  intro p e s m args below meth c s₁ B hml hv
  obtain ⟨rfl, ⟨hsz, hP, hK, hD0⟩⟩ := hv
  have hx := B.exec
  have hb := B.bytes
  have hr := B.returns
  have hts := atoms_spec (ws := wsX0_room) B.pre
  have hown : s.vm.findClass RX0 = some m.cls := findClass_of_methodNamed B.named
  have hlocks := B.notSynchronized
  have C0 := jCx.of hx hb hr hml hown hts hlocks
  subst hsz
  have hD := hD0.self (sz := s.heap.size)
  generalize hAe : va_A (wB cJ b0 bw w en pl cu) s.heap.size = A at hD ⊢
  have hA : ∀ q : Nat, s.heap.size ≤ q → A q := fun q h => by rw [← hAe]; exact Or.inr h
  have hS : va_S A s.heap s.heap [] := va_S.rf
  have hP : va_P (dC, dI) vwCl (wB cJ b0 bw w en pl cu) s.heap := hP
  have hl := lv_entry ([.ref b0]) (n := 1) (Nat.le_of_ble_eq_true rfl)
  rw [lg_entry_eq]
  generalize (lg_sl ([.ref b0]) ++ List.replicate (1 - (lg_sl ([.ref b0])).length) Slot.unset).toArray = ls at hl ⊢
  have hl : lv_has ls 1 [(0, .ref b0)] := hl
  clear hD0 hAe
  unfold j_X0_room at hj
  refine lv_sipush (v := (4096 : Int32)) hx hb dX0_room_0 (by decide) ?_
  refine lv_aload_n hx hb dX0_room_3 rfl (lv_at hl 0 rfl) ?_
  refine va_get (D := (dC, dI)) (ci := 0) (v := .int en) (C := RX0) (T := TX0) (N := 4) hx hb hts inn_X0_room_X0 hown hK hP 0 rfl rfl 1 (by decide) (hts (.fieldLink RX0 15 "SelfEndingCodes$BitRow" "end" "I") (by decide +kernel)) (fun _ h9 => h9) rfl dX0_room_4 ?_
  refine lv_isub hx hb dX0_room_7 ?_
  have hr9 : ((4096 : Int32) - en) = r := Option.some.inj hj
  subst hr9
  exact W.iret (v := (4096 : Int32) - en) hx hb hr (fun t ht hW => ⟨⟨(4096 : Int32) - en, (), rfl, rfl, by rw [ht]; exact hP, va_K.moved hW.alike hK, hD⟩, hS.F ht⟩) hS.2.2 dX0_room_8

def jS_J6_numberOfLeadingZeros_0f7a4_73 (x0 : Int32) (x1 : Int32) : Option (Int32) :=
  some (x1 - ((x0.toUInt32 >>> ((1 : Int32).toUInt32 &&& Int32.toUInt32 31)).toInt32))
set_option maxHeartbeats 4000000 in
set_option maxRecDepth 100000 in
theorem s_J6_numberOfLeadingZeros_0f7a4_73 {p : Program} {l : Launch} {e : Env} {s : State} {m : MethodId} {args : Array Value} {below : List Frame} {meth : Method} {c : Code} {dC : Nat → ClassId} {dI : Nat → Nat → Nat} {cI cJ : ClassId} {A : Nat → Prop} (C0 : jCx p s m args meth c RJ6 cJ6_numberOfLeadingZeros_0f7a4 2 (some .int) wsJ6_numberOfLeadingZeros_0f7a4) (hK : va_K (dC, dI) vwCl (jTy cI cJ) s) (hA : ∀ q : Nat, s.heap.size ≤ q → A q) :
    ∀ (x0 : Int32) (x1 : Int32) (r : Int32), jS_J6_numberOfLeadingZeros_0f7a4_73 x0 x1 = some r → ∀ (H : Heap) (locs : List Loc) (ls : Array Slot), va_P (dC, dI) vwCl [] H → va_D A [] → va_S A s.heap H locs → lv_has ls 2 [(0, .int x0), (1, .int x1)] → W p l e ({ frames := 0, cells := 0, slots := 0, locals := 0 } : Room) s m args below meth c H locs 0 0 (MQ below (va_Qi (fun (v : Int32) (_ : Unit) => v = r) (fun (_ : Unit) t => jPo dC dI cI cJ [] A t) A) args s 0 0 A) (F0 m 73 ls []) := by
  obtain ⟨hx, hb, hr, hml, hown, hts, hlocks⟩ := id C0
  intro x0 x1 r hj H locs ls hP hD hS hl
  unfold jS_J6_numberOfLeadingZeros_0f7a4_73 at hj
  refine lv_iload_n hx hb dJ6_numberOfLeadingZeros_0f7a4_73 rfl (lv_at hl 1 rfl) ?_
  refine lv_iload_n hx hb dJ6_numberOfLeadingZeros_0f7a4_74 rfl (lv_at hl 0 rfl) ?_
  refine lv_iconst (v := (1 : Int32)) hx hb dJ6_numberOfLeadingZeros_0f7a4_75 (by decide) ?_
  refine lv_iushr hx hb dJ6_numberOfLeadingZeros_0f7a4_76 rfl ?_
  refine lv_isub hx hb dJ6_numberOfLeadingZeros_0f7a4_77 ?_
  have hr9 : (x1 - ((x0.toUInt32 >>> ((1 : Int32).toUInt32 &&& Int32.toUInt32 31)).toInt32)) = r := Option.some.inj hj
  subst hr9
  exact W.iret (v := x1 - ((x0.toUInt32 >>> ((1 : Int32).toUInt32 &&& Int32.toUInt32 31)).toInt32)) hx hb hr (fun t ht hW => ⟨⟨x1 - ((x0.toUInt32 >>> ((1 : Int32).toUInt32 &&& Int32.toUInt32 31)).toInt32), (), rfl, rfl, by rw [ht]; exact hP, va_K.moved hW.alike hK, hD⟩, hS.F ht⟩) hS.2.2 dJ6_numberOfLeadingZeros_0f7a4_78
def jS_J6_numberOfLeadingZeros_0f7a4_61 (x0 : Int32) (x1 : Int32) : Option (Int32) :=
  if x0 < (4 : Int32) then (jS_J6_numberOfLeadingZeros_0f7a4_73 x0 x1) else (jS_J6_numberOfLeadingZeros_0f7a4_73 ((x0.toUInt32 >>> ((2 : Int32).toUInt32 &&& Int32.toUInt32 31)).toInt32) (x1 + (-2 : Int32)))
set_option maxHeartbeats 4000000 in
set_option maxRecDepth 100000 in
theorem s_J6_numberOfLeadingZeros_0f7a4_61 {p : Program} {l : Launch} {e : Env} {s : State} {m : MethodId} {args : Array Value} {below : List Frame} {meth : Method} {c : Code} {dC : Nat → ClassId} {dI : Nat → Nat → Nat} {cI cJ : ClassId} {A : Nat → Prop} (C0 : jCx p s m args meth c RJ6 cJ6_numberOfLeadingZeros_0f7a4 2 (some .int) wsJ6_numberOfLeadingZeros_0f7a4) (hK : va_K (dC, dI) vwCl (jTy cI cJ) s) (hA : ∀ q : Nat, s.heap.size ≤ q → A q) :
    ∀ (x0 : Int32) (x1 : Int32) (r : Int32), jS_J6_numberOfLeadingZeros_0f7a4_61 x0 x1 = some r → ∀ (H : Heap) (locs : List Loc) (ls : Array Slot), va_P (dC, dI) vwCl [] H → va_D A [] → va_S A s.heap H locs → lv_has ls 2 [(0, .int x0), (1, .int x1)] → W p l e ({ frames := 0, cells := 0, slots := 0, locals := 0 } : Room) s m args below meth c H locs 0 0 (MQ below (va_Qi (fun (v : Int32) (_ : Unit) => v = r) (fun (_ : Unit) t => jPo dC dI cI cJ [] A t) A) args s 0 0 A) (F0 m 61 ls []) := by
  obtain ⟨hx, hb, hr, hml, hown, hts, hlocks⟩ := id C0
  intro x0 x1 r hj H locs ls hP hD hS hl
  unfold jS_J6_numberOfLeadingZeros_0f7a4_61 at hj
  refine lv_iload_n hx hb dJ6_numberOfLeadingZeros_0f7a4_61 rfl (lv_at hl 0 rfl) ?_
  refine lv_iconst (v := (4 : Int32)) hx hb dJ6_numberOfLeadingZeros_0f7a4_62 (by decide) ?_
  refine lv_icmp_lt (tgt := 73) hx hb dJ6_numberOfLeadingZeros_0f7a4_63 (by decide) (fun c6101 => ?_) (fun c6101 => ?_)
  · replace hj := ja_pos c6101 hj
    exact s_J6_numberOfLeadingZeros_0f7a4_73 C0 hK hA  x0 x1 _ hj _ _ _ (hP) (hD) hS (lv_sub hl [0, 1] rfl)
  · replace hj := ja_neg c6101 hj
    refine lv_iinc (v := x1 + (-2 : Int32)) (lv' := [(1, .int (x1 + (-2 : Int32))), (0, .int x0)]) hx hb dJ6_numberOfLeadingZeros_0f7a4_66 hl (k := 1) rfl (congrArg (fun z => x1 + z) (by decide)) (by decide) rfl (fun ls hl => ?_)
    refine lv_iload_n hx hb dJ6_numberOfLeadingZeros_0f7a4_69 rfl (lv_at hl 1 rfl) ?_
    refine lv_iconst (v := (2 : Int32)) hx hb dJ6_numberOfLeadingZeros_0f7a4_70 (by decide) ?_
    refine lv_iushr hx hb dJ6_numberOfLeadingZeros_0f7a4_71 rfl ?_
    refine lv_istore_n (lv' := [(0, .int ((x0.toUInt32 >>> ((2 : Int32).toUInt32 &&& Int32.toUInt32 31)).toInt32)), (1, .int (x1 + (-2 : Int32)))]) hx hb dJ6_numberOfLeadingZeros_0f7a4_72 rfl hl (by decide) rfl (fun ls hl => ?_)
    exact s_J6_numberOfLeadingZeros_0f7a4_73 C0 hK hA  ((x0.toUInt32 >>> ((2 : Int32).toUInt32 &&& Int32.toUInt32 31)).toInt32) (x1 + (-2 : Int32)) _ hj _ _ _ (hP) (hD) hS (lv_sub hl [0, 1] rfl)
def jS_J6_numberOfLeadingZeros_0f7a4_48 (x0 : Int32) (x1 : Int32) : Option (Int32) :=
  if x0 < (16 : Int32) then (jS_J6_numberOfLeadingZeros_0f7a4_61 x0 x1) else (jS_J6_numberOfLeadingZeros_0f7a4_61 ((x0.toUInt32 >>> ((4 : Int32).toUInt32 &&& Int32.toUInt32 31)).toInt32) (x1 + (-4 : Int32)))
set_option maxHeartbeats 4000000 in
set_option maxRecDepth 100000 in
theorem s_J6_numberOfLeadingZeros_0f7a4_48 {p : Program} {l : Launch} {e : Env} {s : State} {m : MethodId} {args : Array Value} {below : List Frame} {meth : Method} {c : Code} {dC : Nat → ClassId} {dI : Nat → Nat → Nat} {cI cJ : ClassId} {A : Nat → Prop} (C0 : jCx p s m args meth c RJ6 cJ6_numberOfLeadingZeros_0f7a4 2 (some .int) wsJ6_numberOfLeadingZeros_0f7a4) (hK : va_K (dC, dI) vwCl (jTy cI cJ) s) (hA : ∀ q : Nat, s.heap.size ≤ q → A q) :
    ∀ (x0 : Int32) (x1 : Int32) (r : Int32), jS_J6_numberOfLeadingZeros_0f7a4_48 x0 x1 = some r → ∀ (H : Heap) (locs : List Loc) (ls : Array Slot), va_P (dC, dI) vwCl [] H → va_D A [] → va_S A s.heap H locs → lv_has ls 2 [(0, .int x0), (1, .int x1)] → W p l e ({ frames := 0, cells := 0, slots := 0, locals := 0 } : Room) s m args below meth c H locs 0 0 (MQ below (va_Qi (fun (v : Int32) (_ : Unit) => v = r) (fun (_ : Unit) t => jPo dC dI cI cJ [] A t) A) args s 0 0 A) (F0 m 48 ls []) := by
  obtain ⟨hx, hb, hr, hml, hown, hts, hlocks⟩ := id C0
  intro x0 x1 r hj H locs ls hP hD hS hl
  unfold jS_J6_numberOfLeadingZeros_0f7a4_48 at hj
  refine lv_iload_n hx hb dJ6_numberOfLeadingZeros_0f7a4_48 rfl (lv_at hl 0 rfl) ?_
  refine lv_bipush (v := (16 : Int32)) hx hb dJ6_numberOfLeadingZeros_0f7a4_49 (by decide) ?_
  refine lv_icmp_lt (tgt := 61) hx hb dJ6_numberOfLeadingZeros_0f7a4_51 (by decide) (fun c4801 => ?_) (fun c4801 => ?_)
  · replace hj := ja_pos c4801 hj
    exact s_J6_numberOfLeadingZeros_0f7a4_61 C0 hK hA  x0 x1 _ hj _ _ _ (hP) (hD) hS (lv_sub hl [0, 1] rfl)
  · replace hj := ja_neg c4801 hj
    refine lv_iinc (v := x1 + (-4 : Int32)) (lv' := [(1, .int (x1 + (-4 : Int32))), (0, .int x0)]) hx hb dJ6_numberOfLeadingZeros_0f7a4_54 hl (k := 1) rfl (congrArg (fun z => x1 + z) (by decide)) (by decide) rfl (fun ls hl => ?_)
    refine lv_iload_n hx hb dJ6_numberOfLeadingZeros_0f7a4_57 rfl (lv_at hl 1 rfl) ?_
    refine lv_iconst (v := (4 : Int32)) hx hb dJ6_numberOfLeadingZeros_0f7a4_58 (by decide) ?_
    refine lv_iushr hx hb dJ6_numberOfLeadingZeros_0f7a4_59 rfl ?_
    refine lv_istore_n (lv' := [(0, .int ((x0.toUInt32 >>> ((4 : Int32).toUInt32 &&& Int32.toUInt32 31)).toInt32)), (1, .int (x1 + (-4 : Int32)))]) hx hb dJ6_numberOfLeadingZeros_0f7a4_60 rfl hl (by decide) rfl (fun ls hl => ?_)
    exact s_J6_numberOfLeadingZeros_0f7a4_61 C0 hK hA  ((x0.toUInt32 >>> ((4 : Int32).toUInt32 &&& Int32.toUInt32 31)).toInt32) (x1 + (-4 : Int32)) _ hj _ _ _ (hP) (hD) hS (lv_sub hl [0, 1] rfl)
def jS_J6_numberOfLeadingZeros_0f7a4_33 (x0 : Int32) (x1 : Int32) : Option (Int32) :=
  if x0 < (256 : Int32) then (jS_J6_numberOfLeadingZeros_0f7a4_48 x0 x1) else (jS_J6_numberOfLeadingZeros_0f7a4_48 ((x0.toUInt32 >>> ((8 : Int32).toUInt32 &&& Int32.toUInt32 31)).toInt32) (x1 + (-8 : Int32)))
set_option maxHeartbeats 4000000 in
set_option maxRecDepth 100000 in
theorem s_J6_numberOfLeadingZeros_0f7a4_33 {p : Program} {l : Launch} {e : Env} {s : State} {m : MethodId} {args : Array Value} {below : List Frame} {meth : Method} {c : Code} {dC : Nat → ClassId} {dI : Nat → Nat → Nat} {cI cJ : ClassId} {A : Nat → Prop} (C0 : jCx p s m args meth c RJ6 cJ6_numberOfLeadingZeros_0f7a4 2 (some .int) wsJ6_numberOfLeadingZeros_0f7a4) (hK : va_K (dC, dI) vwCl (jTy cI cJ) s) (hA : ∀ q : Nat, s.heap.size ≤ q → A q) :
    ∀ (x0 : Int32) (x1 : Int32) (r : Int32), jS_J6_numberOfLeadingZeros_0f7a4_33 x0 x1 = some r → ∀ (H : Heap) (locs : List Loc) (ls : Array Slot), va_P (dC, dI) vwCl [] H → va_D A [] → va_S A s.heap H locs → lv_has ls 2 [(0, .int x0), (1, .int x1)] → W p l e ({ frames := 0, cells := 0, slots := 0, locals := 0 } : Room) s m args below meth c H locs 0 0 (MQ below (va_Qi (fun (v : Int32) (_ : Unit) => v = r) (fun (_ : Unit) t => jPo dC dI cI cJ [] A t) A) args s 0 0 A) (F0 m 33 ls []) := by
  obtain ⟨hx, hb, hr, hml, hown, hts, hlocks⟩ := id C0
  intro x0 x1 r hj H locs ls hP hD hS hl
  unfold jS_J6_numberOfLeadingZeros_0f7a4_33 at hj
  refine lv_iload_n hx hb dJ6_numberOfLeadingZeros_0f7a4_33 rfl (lv_at hl 0 rfl) ?_
  refine lv_sipush (v := (256 : Int32)) hx hb dJ6_numberOfLeadingZeros_0f7a4_34 (by decide) ?_
  refine lv_icmp_lt (tgt := 48) hx hb dJ6_numberOfLeadingZeros_0f7a4_37 (by decide) (fun c3301 => ?_) (fun c3301 => ?_)
  · replace hj := ja_pos c3301 hj
    exact s_J6_numberOfLeadingZeros_0f7a4_48 C0 hK hA  x0 x1 _ hj _ _ _ (hP) (hD) hS (lv_sub hl [0, 1] rfl)
  · replace hj := ja_neg c3301 hj
    refine lv_iinc (v := x1 + (-8 : Int32)) (lv' := [(1, .int (x1 + (-8 : Int32))), (0, .int x0)]) hx hb dJ6_numberOfLeadingZeros_0f7a4_40 hl (k := 1) rfl (congrArg (fun z => x1 + z) (by decide)) (by decide) rfl (fun ls hl => ?_)
    refine lv_iload_n hx hb dJ6_numberOfLeadingZeros_0f7a4_43 rfl (lv_at hl 1 rfl) ?_
    refine lv_bipush (v := (8 : Int32)) hx hb dJ6_numberOfLeadingZeros_0f7a4_44 (by decide) ?_
    refine lv_iushr hx hb dJ6_numberOfLeadingZeros_0f7a4_46 rfl ?_
    refine lv_istore_n (lv' := [(0, .int ((x0.toUInt32 >>> ((8 : Int32).toUInt32 &&& Int32.toUInt32 31)).toInt32)), (1, .int (x1 + (-8 : Int32)))]) hx hb dJ6_numberOfLeadingZeros_0f7a4_47 rfl hl (by decide) rfl (fun ls hl => ?_)
    exact s_J6_numberOfLeadingZeros_0f7a4_48 C0 hK hA  ((x0.toUInt32 >>> ((8 : Int32).toUInt32 &&& Int32.toUInt32 31)).toInt32) (x1 + (-8 : Int32)) _ hj _ _ _ (hP) (hD) hS (lv_sub hl [0, 1] rfl)
def j_J6_numberOfLeadingZeros_0f7a4 (a1 : Int32) : Option (Int32) :=
  if (0 : Int32) < a1 then (if a1 < (65536 : Int32) then (jS_J6_numberOfLeadingZeros_0f7a4_33 a1 (31 : Int32)) else (jS_J6_numberOfLeadingZeros_0f7a4_33 ((a1.toUInt32 >>> ((16 : Int32).toUInt32 &&& Int32.toUInt32 31)).toInt32) ((31 : Int32) + (-16 : Int32)))) else (if a1 = (0 : Int32) then (some (32 : Int32)) else (some (0 : Int32)))
set_option maxHeartbeats 4000000 in
set_option maxRecDepth 100000 in
theorem c_J6_numberOfLeadingZeros_0f7a4 (l : Launch) (dC : Nat → ClassId) (dI : Nat → Nat → Nat) (cI cJ : ClassId) (sz : Nat) (a1 : Int32) (r : Int32) (hj : j_J6_numberOfLeadingZeros_0f7a4 a1 = some r) : Met l yJ6_numberOfLeadingZeros_0f7a4 wsJ6_numberOfLeadingZeros_0f7a4 ({ frames := 0, cells := 0, slots := 0, locals := 0 } : Room) (va_Pc [.int a1] (fun U => jPr dC dI cI cJ ([] : va_W) sz U)) (va_Qi (fun (v : Int32) (_ : Unit) => v = r) (fun (_ : Unit) t => jPo dC dI cI cJ [] (va_A ([] : va_W) sz) t) (va_A ([] : va_W) sz)) 0 0 (va_A ([] : va_W) sz) := by
  refine Met.ofW (cc := cJ6_numberOfLeadingZeros_0f7a4) (maxL := 2) (ret := (some .int)) (by decide) rfl ?_
  intro p e s m args below meth c s₁ B hml hv
  obtain ⟨rfl, ⟨hsz, hP, hK, hD0⟩⟩ := hv
  have hx := B.exec
  have hb := B.bytes
  have hr := B.returns
  have hts := atoms_spec (ws := wsJ6_numberOfLeadingZeros_0f7a4) B.pre
  have hown : s.vm.findClass RJ6 = some m.cls := findClass_of_methodNamed B.named
  have hlocks := B.notSynchronized
  have C0 := jCx.of hx hb hr hml hown hts hlocks
  subst hsz
  have hD := hD0.self (sz := s.heap.size)
  generalize hAe : va_A ([] : va_W) s.heap.size = A at hD ⊢
  have hA : ∀ q : Nat, s.heap.size ≤ q → A q := fun q h => by rw [← hAe]; exact Or.inr h
  have hS : va_S A s.heap s.heap [] := va_S.rf
  have hP : va_P (dC, dI) vwCl ([] : va_W) s.heap := hP
  have hl := lv_entry ([.int a1]) (n := 2) (Nat.le_of_ble_eq_true rfl)
  rw [lg_entry_eq]
  generalize (lg_sl ([.int a1]) ++ List.replicate (2 - (lg_sl ([.int a1])).length) Slot.unset).toArray = ls at hl ⊢
  have hl : lv_has ls 2 [(0, .int a1)] := hl
  clear hD0 hAe
  unfold j_J6_numberOfLeadingZeros_0f7a4 at hj
  refine lv_iload_n hx hb dJ6_numberOfLeadingZeros_0f7a4_0 rfl (lv_at hl 0 rfl) ?_
  refine lv_if_gt (tgt := 15) hx hb dJ6_numberOfLeadingZeros_0f7a4_1 (by decide) (fun c1 => ?_) (fun c1 => ?_)
  · replace hj := ja_pos c1 hj
    refine lv_bipush (v := (31 : Int32)) hx hb dJ6_numberOfLeadingZeros_0f7a4_15 (by decide) ?_
    refine lv_istore_n (lv' := [(1, .int (31 : Int32)), (0, .int a1)]) hx hb dJ6_numberOfLeadingZeros_0f7a4_17 rfl hl (by decide) rfl (fun ls hl => ?_)
    refine lv_iload_n hx hb dJ6_numberOfLeadingZeros_0f7a4_18 rfl (lv_at hl 1 rfl) ?_
    refine lv_ldcw (v := (65536 : Int32)) hx hb hown (hts (.constant RJ6 264 (65536)) (by decide +kernel)) dJ6_numberOfLeadingZeros_0f7a4_19 ?_
    refine lv_icmp_lt (tgt := 33) hx hb dJ6_numberOfLeadingZeros_0f7a4_22 (by decide) (fun c2 => ?_) (fun c2 => ?_)
    · replace hj := ja_pos c2 hj
      exact s_J6_numberOfLeadingZeros_0f7a4_33 C0 hK hA  a1 (31 : Int32) _ hj _ _ _ (hP) (hD) hS (lv_sub hl [1, 0] rfl)
    · replace hj := ja_neg c2 hj
      refine lv_iinc (v := (31 : Int32) + (-16 : Int32)) (lv' := [(1, .int ((31 : Int32) + (-16 : Int32))), (0, .int a1)]) hx hb dJ6_numberOfLeadingZeros_0f7a4_25 hl (k := 0) rfl (congrArg (fun z => (31 : Int32) + z) (by decide)) (by decide) rfl (fun ls hl => ?_)
      refine lv_iload_n hx hb dJ6_numberOfLeadingZeros_0f7a4_28 rfl (lv_at hl 1 rfl) ?_
      refine lv_bipush (v := (16 : Int32)) hx hb dJ6_numberOfLeadingZeros_0f7a4_29 (by decide) ?_
      refine lv_iushr hx hb dJ6_numberOfLeadingZeros_0f7a4_31 rfl ?_
      refine lv_istore_n (lv' := [(0, .int ((a1.toUInt32 >>> ((16 : Int32).toUInt32 &&& Int32.toUInt32 31)).toInt32)), (1, .int ((31 : Int32) + (-16 : Int32)))]) hx hb dJ6_numberOfLeadingZeros_0f7a4_32 rfl hl (by decide) rfl (fun ls hl => ?_)
      exact s_J6_numberOfLeadingZeros_0f7a4_33 C0 hK hA  ((a1.toUInt32 >>> ((16 : Int32).toUInt32 &&& Int32.toUInt32 31)).toInt32) ((31 : Int32) + (-16 : Int32)) _ hj _ _ _ (hP) (hD) hS (lv_sub hl [0, 1] rfl)
  · replace hj := ja_neg c1 hj
    refine lv_iload_n hx hb dJ6_numberOfLeadingZeros_0f7a4_4 rfl (lv_at hl 0 rfl) ?_
    refine lv_if_ne (tgt := 13) hx hb dJ6_numberOfLeadingZeros_0f7a4_5 (by decide) (fun c3 => ?_) (fun c3 => ?_)
    · replace hj := ja_neg c3 hj
      refine lv_iconst (v := (0 : Int32)) hx hb dJ6_numberOfLeadingZeros_0f7a4_13 (by decide) ?_
      have hr9 : (0 : Int32) = r := Option.some.inj hj
      subst hr9
      exact W.iret (v := (0 : Int32)) hx hb hr (fun t ht hW => ⟨⟨(0 : Int32), (), rfl, rfl, by rw [ht]; exact hP, va_K.moved hW.alike hK, hD⟩, hS.F ht⟩) hS.2.2 dJ6_numberOfLeadingZeros_0f7a4_14
    · replace hj := ja_pos c3 hj
      refine lv_bipush (v := (32 : Int32)) hx hb dJ6_numberOfLeadingZeros_0f7a4_8 (by decide) ?_
      refine lv_goto (tgt := 14) hx hb dJ6_numberOfLeadingZeros_0f7a4_10 (by decide) ?_
      have hr9 : (32 : Int32) = r := Option.some.inj hj
      subst hr9
      exact W.iret (v := (32 : Int32)) hx hb hr (fun t ht hW => ⟨⟨(32 : Int32), (), rfl, rfl, by rw [ht]; exact hP, va_K.moved hW.alike hK, hD⟩, hS.F ht⟩) hS.2.2 dJ6_numberOfLeadingZeros_0f7a4_14

def j_J13_numberOfLeadingZeros_95d88 (a1 : Int64) : Option (Int32) :=
  if (((a1.toUInt64 >>> ((32 : Int32).toInt64.toUInt64 &&& Int64.toUInt64 63)).toInt64).toInt32) = (0 : Int32) then ((j_J6_numberOfLeadingZeros_0f7a4 a1.toInt32).bind fun v3 => (some ((32 : Int32) + v3))) else ((j_J6_numberOfLeadingZeros_0f7a4 (((a1.toUInt64 >>> ((32 : Int32).toInt64.toUInt64 &&& Int64.toUInt64 63)).toInt64).toInt32)).bind fun v2 => (some v2))
set_option maxHeartbeats 4000000 in
set_option maxRecDepth 100000 in
theorem c_J13_numberOfLeadingZeros_95d88 (l : Launch) (dC : Nat → ClassId) (dI : Nat → Nat → Nat) (cI cJ : ClassId) (sz : Nat) (a1 : Int64) (r : Int32) (hj : j_J13_numberOfLeadingZeros_95d88 a1 = some r) : Met l yJ13_numberOfLeadingZeros_95d88 wsJ13_numberOfLeadingZeros_95d88 ({ frames := 1, cells := 0, slots := 0, locals := 21 } : Room) (va_Pc [.long a1] (fun U => jPr dC dI cI cJ ([] : va_W) sz U)) (va_Qi (fun (v : Int32) (_ : Unit) => v = r) (fun (_ : Unit) t => jPo dC dI cI cJ [] (va_A ([] : va_W) sz) t) (va_A ([] : va_W) sz)) 0 0 (va_A ([] : va_W) sz) := by
  refine Met.ofW (cc := cJ13_numberOfLeadingZeros_95d88) (maxL := 3) (ret := (some .int)) (by decide) rfl ?_
  intro p e s m args below meth c s₁ B hml hv
  obtain ⟨rfl, ⟨hsz, hP, hK, hD0⟩⟩ := hv
  have hx := B.exec
  have hb := B.bytes
  have hr := B.returns
  have hts := atoms_spec (ws := wsJ13_numberOfLeadingZeros_95d88) B.pre
  have hown : s.vm.findClass RJ13 = some m.cls := findClass_of_methodNamed B.named
  have hlocks := B.notSynchronized
  have C0 := jCx.of hx hb hr hml hown hts hlocks
  subst hsz
  have hD := hD0.self (sz := s.heap.size)
  generalize hAe : va_A ([] : va_W) s.heap.size = A at hD ⊢
  have hA : ∀ q : Nat, s.heap.size ≤ q → A q := fun q h => by rw [← hAe]; exact Or.inr h
  have hS : va_S A s.heap s.heap [] := va_S.rf
  have hP : va_P (dC, dI) vwCl ([] : va_W) s.heap := hP
  have hl := lv_entry ([.long a1]) (n := 3) (Nat.le_of_ble_eq_true rfl)
  rw [lg_entry_eq]
  generalize (lg_sl ([.long a1]) ++ List.replicate (3 - (lg_sl ([.long a1])).length) Slot.unset).toArray = ls at hl ⊢
  have hl : lv_has ls 3 [(0, .long a1)] := hl
  clear hD0 hAe
  unfold j_J13_numberOfLeadingZeros_95d88 at hj
  refine lv_lload_n hx hb dJ13_numberOfLeadingZeros_95d88_0 rfl (lv_at hl 0 rfl) ?_
  refine lv_bipush (v := (32 : Int32)) hx hb dJ13_numberOfLeadingZeros_95d88_1 (by decide) ?_
  refine lv_lushr hx hb dJ13_numberOfLeadingZeros_95d88_3 rfl ?_
  refine lv_l2i hx hb dJ13_numberOfLeadingZeros_95d88_4 rfl ?_
  refine lv_istore_n (lv' := [(2, .int (((a1.toUInt64 >>> ((32 : Int32).toInt64.toUInt64 &&& Int64.toUInt64 63)).toInt64).toInt32)), (0, .long a1)]) hx hb dJ13_numberOfLeadingZeros_95d88_5 rfl hl (by decide) rfl (fun ls hl => ?_)
  refine lv_iload_n hx hb dJ13_numberOfLeadingZeros_95d88_6 rfl (lv_at hl 0 rfl) ?_
  refine lv_if_ne (tgt := 21) hx hb dJ13_numberOfLeadingZeros_95d88_7 (by decide) (fun c1 => ?_) (fun c1 => ?_)
  · replace hj := ja_neg c1 hj
    refine lv_iload_n hx hb dJ13_numberOfLeadingZeros_95d88_21 rfl (lv_at hl 0 rfl) ?_
    obtain ⟨v2, hc, hj⟩ := ja_bd hj
    try dsimp only at hj
    have hPc := hP.sub (ws' := ([] : va_W)) [] rfl
    have hDc := hD.sub (ws' := ([] : va_W)) [] (by decide) rfl
    have hFc := va_free (wc := ([] : va_W)) hD hS hA [] rfl
    refine va_calli (va_runS (As := [.int (((a1.toUInt64 >>> ((32 : Int32).toInt64.toUInt64 &&& Int64.toUInt64 63)).toInt64).toInt32)]) (rest := []) ⟨hx, hb, hml, hown, hts⟩ (c_J6_numberOfLeadingZeros_0f7a4 l dC dI cI cJ s.heap.size (((a1.toUInt64 >>> ((32 : Int32).toInt64.toUInt64 &&& Int64.toUInt64 63)).toInt64).toInt32) _ hc) (va_cwS 1 hts gJ13_numberOfLeadingZeros_95d88_J6_numberOfLeadingZeros_0f7a4 rfl rfl rfl (by decide +kernel) ⟨Nat.le_of_ble_eq_true rfl, Nat.le_of_ble_eq_true rfl⟩) ⟨fun a U g mk q => ⟨q.1, jPr.blind q.2⟩, fun U hU hW => ⟨rfl, jPr.mk hU hW hPc hK hDc⟩⟩ rfl rfl hl.1 rfl (lv_room (Nat.le_of_ble_eq_true rfl)) dJ13_numberOfLeadingZeros_95d88_22 ⟨Nat.le_of_ble_eq_true rfl, Nat.le_of_ble_eq_true rfl⟩) hS (fun q _ h => hFc q h) hFc (fun rr u t H1 locs ht hvm hw9 hB hz1 hk1 hS => ?_)
    have hw8 : v2 = rr := hw9.symm
    subst hw8
    obtain ⟨hP1, hK1, hD1⟩ := hB
    rw [ht] at hP1
    obtain ⟨hP, hD⟩ := va_join (wr := ([] : va_W)) (w1 := ([] : va_W)) hP hD [] [] rfl rfl (by decide) (by decide) hk1 hFc hP1 hD1
    clear hk1 hP1 hK1 hD1 hvm hz1 hPc hDc hFc
    generalize H1 = H at hP hS ⊢
    have hP : va_P (dC, dI) vwCl [] H := hP
    have hD : va_D A [] := hD
    have hr9 : v2 = r := Option.some.inj hj
    subst hr9
    exact W.iret (v := v2) hx hb hr (fun t ht hW => ⟨⟨v2, (), rfl, rfl, by rw [ht]; exact hP, va_K.moved hW.alike hK, hD⟩, hS.F ht⟩) hS.2.2 dJ13_numberOfLeadingZeros_95d88_25
  · replace hj := ja_pos c1 hj
    refine lv_bipush (v := (32 : Int32)) hx hb dJ13_numberOfLeadingZeros_95d88_10 (by decide) ?_
    refine lv_lload_n hx hb dJ13_numberOfLeadingZeros_95d88_12 rfl (lv_at hl 1 rfl) ?_
    refine lv_l2i hx hb dJ13_numberOfLeadingZeros_95d88_13 rfl ?_
    obtain ⟨v3, hc, hj⟩ := ja_bd hj
    try dsimp only at hj
    have hPc := hP.sub (ws' := ([] : va_W)) [] rfl
    have hDc := hD.sub (ws' := ([] : va_W)) [] (by decide) rfl
    have hFc := va_free (wc := ([] : va_W)) hD hS hA [] rfl
    refine va_calli (va_runS (As := [.int a1.toInt32]) (rest := [.int (32 : Int32)]) ⟨hx, hb, hml, hown, hts⟩ (c_J6_numberOfLeadingZeros_0f7a4 l dC dI cI cJ s.heap.size a1.toInt32 _ hc) (va_cwS 1 hts gJ13_numberOfLeadingZeros_95d88_J6_numberOfLeadingZeros_0f7a4 rfl rfl rfl (by decide +kernel) ⟨Nat.le_of_ble_eq_true rfl, Nat.le_of_ble_eq_true rfl⟩) ⟨fun a U g mk q => ⟨q.1, jPr.blind q.2⟩, fun U hU hW => ⟨rfl, jPr.mk hU hW hPc hK hDc⟩⟩ rfl rfl hl.1 rfl (lv_room (Nat.le_of_ble_eq_true rfl)) dJ13_numberOfLeadingZeros_95d88_14 ⟨Nat.le_of_ble_eq_true rfl, Nat.le_of_ble_eq_true rfl⟩) hS (fun q _ h => hFc q h) hFc (fun rr u t H1 locs ht hvm hw9 hB hz1 hk1 hS => ?_)
    have hw8 : v3 = rr := hw9.symm
    subst hw8
    obtain ⟨hP1, hK1, hD1⟩ := hB
    rw [ht] at hP1
    obtain ⟨hP, hD⟩ := va_join (wr := ([] : va_W)) (w1 := ([] : va_W)) hP hD [] [] rfl rfl (by decide) (by decide) hk1 hFc hP1 hD1
    clear hk1 hP1 hK1 hD1 hvm hz1 hPc hDc hFc
    generalize H1 = H at hP hS ⊢
    have hP : va_P (dC, dI) vwCl [] H := hP
    have hD : va_D A [] := hD
    refine lv_iadd hx hb dJ13_numberOfLeadingZeros_95d88_17 ?_
    refine lv_goto (tgt := 25) hx hb dJ13_numberOfLeadingZeros_95d88_18 (by decide) ?_
    have hr9 : ((32 : Int32) + v3) = r := Option.some.inj hj
    subst hr9
    exact W.iret (v := (32 : Int32) + v3) hx hb hr (fun t ht hW => ⟨⟨(32 : Int32) + v3, (), rfl, rfl, by rw [ht]; exact hP, va_K.moved hW.alike hK, hD⟩, hS.F ht⟩) hS.2.2 dJ13_numberOfLeadingZeros_95d88_25

