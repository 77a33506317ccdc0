def j_X1_bitLength (a1 : Int64) : Option (Int32) :=
  (j_J13_numberOfLeadingZeros_95d88 a1).bind fun v1 => (some ((64 : Int32) - v1))
set_option maxHeartbeats 4000000 in
set_option maxRecDepth 100000 in
theorem c_X1_bitLength (l : Launch) (dC : Nat → ClassId) (dI : Nat → Nat → Nat) (cI cJ : ClassId) (sz : Nat) (a1 : Int64) (r : Int32) (hj : j_X1_bitLength a1 = some r) : Met l yX1_bitLength wsX1_bitLength ({ frames := 2, cells := 0, slots := 0, locals := 43 } : Room) (va_Pc [.long a1] (fun U => jPr dC dI cI cJ ([] : va_W) sz U)) (va_Qi (fun (v : Int32) (_ : Unit) => v = r) (fun (_ : Unit) t => jPo dC dI cI cJ [] (va_A ([] : va_W) sz) t) (va_A ([] : va_W) sz)) 0 0 (va_A ([] : va_W) sz) := by
  refine Met.ofW (cc := cX1_bitLength) (maxL := 2) (ret := (some .int)) (by decide) rfl ?_
  intro p e s m args below meth c s₁ B hml hv
  obtain ⟨rfl, ⟨hsz, hP, hK, hD0⟩⟩ := hv
  have hx := B.exec
  have hb := B.bytes
  have hr := B.returns
  have hts := atoms_spec (ws := wsX1_bitLength) B.pre
  have hown : s.vm.findClass RX1 = some m.cls := findClass_of_methodNamed B.named
  have hlocks := B.notSynchronized
  have C0 := jCx.of hx hb hr hml hown hts hlocks
  subst hsz
  have hD := hD0.self (sz := s.heap.size)
  generalize hAe : va_A ([] : va_W) s.heap.size = A at hD ⊢
  have hA : ∀ q : Nat, s.heap.size ≤ q → A q := fun q h => by rw [← hAe]; exact Or.inr h
  have hS : va_S A s.heap s.heap [] := va_S.rf
  have hP : va_P (dC, dI) vwCl ([] : va_W) s.heap := hP
  have hl := lv_entry ([.long a1]) (n := 2) (Nat.le_of_ble_eq_true rfl)
  rw [lg_entry_eq]
  generalize (lg_sl ([.long a1]) ++ List.replicate (2 - (lg_sl ([.long a1])).length) Slot.unset).toArray = ls at hl ⊢
  have hl : lv_has ls 2 [(0, .long a1)] := hl
  clear hD0 hAe
  unfold j_X1_bitLength at hj
  refine lv_bipush (v := (64 : Int32)) hx hb dX1_bitLength_0 (by decide) ?_
  refine lv_lload_n hx hb dX1_bitLength_2 rfl (lv_at hl 0 rfl) ?_
  obtain ⟨v1, hc, hj⟩ := ja_bd hj
  try dsimp only at hj
  have hPc := hP.sub (ws' := ([] : va_W)) [] rfl
  have hDc := hD.sub (ws' := ([] : va_W)) [] (by decide) rfl
  have hFc := va_free (wc := ([] : va_W)) hD hS hA [] rfl
  refine va_calli (va_runS (As := [.long a1]) (rest := [.int (64 : Int32)]) ⟨hx, hb, hml, hown, hts⟩ (c_J13_numberOfLeadingZeros_95d88 l dC dI cI cJ s.heap.size a1 _ hc) (va_cwS 1 hts gX1_bitLength_J13_numberOfLeadingZeros_95d88 rfl rfl rfl (by decide +kernel) ⟨Nat.le_of_ble_eq_true rfl, Nat.le_of_ble_eq_true rfl⟩) ⟨fun a U g mk q => ⟨q.1, jPr.blind q.2⟩, fun U hU hW => ⟨rfl, jPr.mk hU hW hPc hK hDc⟩⟩ rfl rfl hl.1 rfl (lv_room (Nat.le_of_ble_eq_true rfl)) dX1_bitLength_3 ⟨Nat.le_of_ble_eq_true rfl, Nat.le_of_ble_eq_true rfl⟩) hS (fun q _ h => hFc q h) hFc (fun rr u t H1 locs ht hvm hw9 hB hz1 hk1 hS => ?_)
  have hw8 : v1 = rr := hw9.symm
  subst hw8
  obtain ⟨hP1, hK1, hD1⟩ := hB
  rw [ht] at hP1
  obtain ⟨hP, hD⟩ := va_join (wr := ([] : va_W)) (w1 := ([] : va_W)) hP hD [] [] rfl rfl (by decide) (by decide) hk1 hFc hP1 hD1
  clear hk1 hP1 hK1 hD1 hvm hz1 hPc hDc hFc
  generalize H1 = H at hP hS ⊢
  have hP : va_P (dC, dI) vwCl [] H := hP
  have hD : va_D A [] := hD
  refine lv_isub hx hb dX1_bitLength_6 ?_
  have hr9 : ((64 : Int32) - v1) = r := Option.some.inj hj
  subst hr9
  exact W.iret (v := (64 : Int32) - v1) hx hb hr (fun t ht hW => ⟨⟨(64 : Int32) - v1, (), rfl, rfl, by rw [ht]; exact hP, va_K.moved hW.alike hK, hD⟩, hS.F ht⟩) hS.2.2 dX1_bitLength_7

def jL_X1_omegaLength_7 : Nat → Int32 → Int64 → Int32 → Option (Int32)
  | 0, _, _, _ => none
  | n + 1, x2, x3, x5 => if (8 : Int32) ≤ x5 then (some x2) else (if x3 ≤ (1 : Int64) then (some x2) else ((j_X1_bitLength x3).bind fun v703 => (jL_X1_omegaLength_7 n (x2 + v703) ((v703 - (1 : Int32)).toInt64) (x5 + (1 : Int32)))))
set_option maxHeartbeats 4000000 in
set_option maxRecDepth 100000 in
theorem s_X1_omegaLength_7 {p : Program} {l : Launch} {e : Env} {s : State} {m : MethodId} {args : Array Value} {below : List Frame} {meth : Method} {c : Code} {dC : Nat → ClassId} {dI : Nat → Nat → Nat} {cI cJ : ClassId} {A : Nat → Prop} (C0 : jCx p s m args meth c RX1 cX1_omegaLength 7 (some .int) wsX1_omegaLength) (hK : va_K (dC, dI) vwCl (jTy cI cJ) s) (hA : ∀ q : Nat, s.heap.size ≤ q → A q) :
    ∀ (n : Nat) (x2 : Int32) (x3 : Int64) (x5 : Int32) (r : Int32), jL_X1_omegaLength_7 n x2 x3 x5 = some r → ∀ (H : Heap) (locs : List Loc) (ls : Array Slot), va_P (dC, dI) vwCl [] H → va_D A [] → va_S A s.heap H locs → lv_has ls 7 [(2, .int x2), (3, .long x3), (5, .int x5)] → W p l e ({ frames := 3, cells := 0, slots := 0, locals := 64 } : Room) s m args below meth c H locs 0 0 (MQ below (va_Qi (fun (v : Int32) (_ : Unit) => v = r) (fun (_ : Unit) t => jPo dC dI cI cJ [] A t) A) args s 0 0 A) (F0 m 7 ls []) := by
  obtain ⟨hx, hb, hr, hml, hown, hts, hlocks⟩ := id C0
  intro n
  induction n with
  | zero =>
    intro x2 x3 x5 r hj
    exact nomatch (show (none : Option (Int32)) = some r from hj)
  | succ n ih =>
    intro x2 x3 x5 r hj H locs ls hP hD hS hl
    replace hj : (if (8 : Int32) ≤ x5 then (some x2) else (if x3 ≤ (1 : Int64) then (some x2) else ((j_X1_bitLength x3).bind fun v703 => (jL_X1_omegaLength_7 n (x2 + v703) ((v703 - (1 : Int32)).toInt64) (x5 + (1 : Int32)))))) = some r := hj
    refine lv_iload hx hb dX1_omegaLength_7 (lv_at hl 2 rfl) ?_
    refine lv_bipush (v := (8 : Int32)) hx hb dX1_omegaLength_9 (by decide) ?_
    refine lv_icmp_ge (tgt := 43) hx hb dX1_omegaLength_11 (by decide) (fun c701 => ?_) (fun c701 => ?_)
    · replace hj := ja_pos c701 hj
      refine lv_iload_n hx hb dX1_omegaLength_43 rfl (lv_at hl 0 rfl) ?_
      have hr9 : x2 = r := Option.some.inj hj
      subst hr9
      exact W.iret (v := x2) hx hb hr (fun t ht hW => ⟨⟨x2, (), rfl, rfl, by rw [ht]; exact hP, va_K.moved hW.alike hK, hD⟩, hS.F ht⟩) hS.2.2 dX1_omegaLength_44
    · replace hj := ja_neg c701 hj
      refine lv_lload_n hx hb dX1_omegaLength_14 rfl (lv_at hl 1 rfl) ?_
      refine lv_lconst (v := (1 : Int64)) hx hb dX1_omegaLength_15 (by decide) ?_
      refine W.lcmp hx hb dX1_omegaLength_16 ?_
      refine lv_if_le (tgt := 43) hx hb dX1_omegaLength_17 (by decide) (fun c702 => ?_) (fun c702 => ?_)
      · replace hj := ja_pos ((lg_cmp_le x3 (1 : Int64)).mp c702) hj
        refine lv_iload_n hx hb dX1_omegaLength_43 rfl (lv_at hl 0 rfl) ?_
        have hr9 : x2 = r := Option.some.inj hj
        subst hr9
        exact W.iret (v := x2) hx hb hr (fun t ht hW => ⟨⟨x2, (), rfl, rfl, by rw [ht]; exact hP, va_K.moved hW.alike hK, hD⟩, hS.F ht⟩) hS.2.2 dX1_omegaLength_44
      · replace hj := ja_neg (fun h9 => c702 ((lg_cmp_le x3 (1 : Int64)).mpr h9)) hj
        refine lv_lload_n hx hb dX1_omegaLength_20 rfl (lv_at hl 1 rfl) ?_
        obtain ⟨v703, hc, hj⟩ := ja_bd hj
        try dsimp only at hj
        have hPc := hP.sub (ws' := ([] : va_W)) [] rfl
        have hDc := hD.sub (ws' := ([] : va_W)) [] (by decide) rfl
        have hFc := va_free (wc := ([] : va_W)) hD hS hA [] rfl
        refine va_calli (va_runS (As := [.long x3]) (rest := []) ⟨hx, hb, hml, hown, hts⟩ (c_X1_bitLength l dC dI cI cJ H.size x3 _ hc) (va_cwS 1 hts gX1_omegaLength_X1_bitLength rfl rfl rfl (by decide +kernel) ⟨Nat.le_of_ble_eq_true rfl, Nat.le_of_ble_eq_true rfl⟩) ⟨fun a U g mk q => ⟨q.1, jPr.blind q.2⟩, fun U hU hW => ⟨rfl, jPr.mk hU hW hPc hK hDc⟩⟩ rfl rfl hl.1 rfl (lv_room (Nat.le_of_ble_eq_true rfl)) dX1_omegaLength_21 ⟨Nat.le_of_ble_eq_true rfl, Nat.le_of_ble_eq_true rfl⟩) hS (fun q _ h => hFc q h) hFc (fun rr u t H1 locs ht hvm hw9 hB hz1 hk1 hS => ?_)
        have hw8 : v703 = rr := hw9.symm
        subst hw8
        obtain ⟨hP1, hK1, hD1⟩ := hB
        rw [ht] at hP1
        obtain ⟨hP, hD⟩ := va_join (wr := ([] : va_W)) (w1 := ([] : va_W)) hP hD [] [] rfl rfl (by decide) (by decide) hk1 hFc hP1 hD1
        clear hk1 hP1 hK1 hD1 hvm hz1 hPc hDc hFc
        generalize H1 = H at hP hS ⊢
        have hP : va_P (dC, dI) vwCl [] H := hP
        have hD : va_D A [] := hD
        refine lv_istore (lv' := [(6, .int v703), (2, .int x2), (3, .long x3), (5, .int x5)]) hx hb dX1_omegaLength_24 hl (by decide) rfl (fun ls hl => ?_)
        refine lv_iload_n hx hb dX1_omegaLength_26 rfl (lv_at hl 1 rfl) ?_
        refine lv_iload hx hb dX1_omegaLength_27 (lv_at hl 0 rfl) ?_
        refine lv_iadd hx hb dX1_omegaLength_29 ?_
        refine lv_istore_n (lv' := [(2, .int (x2 + v703)), (6, .int v703), (3, .long x3), (5, .int x5)]) hx hb dX1_omegaLength_30 rfl hl (by decide) rfl (fun ls hl => ?_)
        refine lv_iload hx hb dX1_omegaLength_31 (lv_at hl 1 rfl) ?_
        refine lv_iconst (v := (1 : Int32)) hx hb dX1_omegaLength_33 (by decide) ?_
        refine lv_isub hx hb dX1_omegaLength_34 ?_
        refine lv_i2l hx hb dX1_omegaLength_35 rfl ?_
        refine lv_lstore_n (lv' := [(3, .long ((v703 - (1 : Int32)).toInt64)), (2, .int (x2 + v703)), (6, .int v703), (5, .int x5)]) hx hb dX1_omegaLength_36 rfl hl (by decide) rfl (fun ls hl => ?_)
        refine lv_iinc (v := x5 + (1 : Int32)) (lv' := [(5, .int (x5 + (1 : Int32))), (3, .long ((v703 - (1 : Int32)).toInt64)), (2, .int (x2 + v703)), (6, .int v703)]) hx hb dX1_omegaLength_37 hl (k := 3) rfl (congrArg (fun z => x5 + z) (by decide)) (by decide) rfl (fun ls hl => ?_)
        refine lv_goto (tgt := 7) hx hb dX1_omegaLength_40 (by decide) ?_
        exact ih (x2 + v703) ((v703 - (1 : Int32)).toInt64) (x5 + (1 : Int32)) _ hj _ _ _ (hP) (hD) hS (lv_sub hl [2, 1, 0] rfl)
def j_X1_omegaLength (a1 : Int64) : Option (Int32) :=
  jL_X1_omegaLength_7 jF (1 : Int32) a1 (0 : Int32)
set_option maxHeartbeats 4000000 in
set_option maxRecDepth 100000 in
theorem c_X1_omegaLength (l : Launch) (dC : Nat → ClassId) (dI : Nat → Nat → Nat) (cI cJ : ClassId) (sz : Nat) (a1 : Int64) (r : Int32) (hj : j_X1_omegaLength a1 = some r) : Met l yX1_omegaLength wsX1_omegaLength ({ frames := 3, cells := 0, slots := 0, locals := 64 } : Room) (va_Pc [.long a1] (fun U => jPr dC dI cI cJ ([] : va_W) sz U)) (va_Qi (fun (v : Int32) (_ : Unit) => v = r) (fun (_ : Unit) t => jPo dC dI cI cJ [] (va_A ([] : va_W) sz) t) (va_A ([] : va_W) sz)) 0 0 (va_A ([] : va_W) sz) := by
  refine Met.ofW (cc := cX1_omegaLength) (maxL := 7) (ret := (some .int)) (by decide) rfl ?_
  intro p e s m args below meth c s₁ B hml hv
  obtain ⟨rfl, ⟨hsz, hP, hK, hD0⟩⟩ := hv
  have hx := B.exec
  have hb := B.bytes
  have hr := B.returns
  have hts := atoms_spec (ws := wsX1_omegaLength) B.pre
  have hown : s.vm.findClass RX1 = some m.cls := findClass_of_methodNamed B.named
  have hlocks := B.notSynchronized
  have C0 := jCx.of hx hb hr hml hown hts hlocks
  subst hsz
  have hD := hD0.self (sz := s.heap.size)
  generalize hAe : va_A ([] : va_W) s.heap.size = A at hD ⊢
  have hA : ∀ q : Nat, s.heap.size ≤ q → A q := fun q h => by rw [← hAe]; exact Or.inr h
  have hS : va_S A s.heap s.heap [] := va_S.rf
  have hP : va_P (dC, dI) vwCl ([] : va_W) s.heap := hP
  have hl := lv_entry ([.long a1]) (n := 7) (Nat.le_of_ble_eq_true rfl)
  rw [lg_entry_eq]
  generalize (lg_sl ([.long a1]) ++ List.replicate (7 - (lg_sl ([.long a1])).length) Slot.unset).toArray = ls at hl ⊢
  have hl : lv_has ls 7 [(0, .long a1)] := hl
  clear hD0 hAe
  unfold j_X1_omegaLength at hj
  refine lv_iconst (v := (1 : Int32)) hx hb dX1_omegaLength_0 (by decide) ?_
  refine lv_istore_n (lv' := [(2, .int (1 : Int32)), (0, .long a1)]) hx hb dX1_omegaLength_1 rfl hl (by decide) rfl (fun ls hl => ?_)
  refine lv_lload_n hx hb dX1_omegaLength_2 rfl (lv_at hl 1 rfl) ?_
  refine lv_lstore_n (lv' := [(3, .long a1), (2, .int (1 : Int32)), (0, .long a1)]) hx hb dX1_omegaLength_3 rfl hl (by decide) rfl (fun ls hl => ?_)
  refine lv_iconst (v := (0 : Int32)) hx hb dX1_omegaLength_4 (by decide) ?_
  refine lv_istore (lv' := [(5, .int (0 : Int32)), (3, .long a1), (2, .int (1 : Int32)), (0, .long a1)]) hx hb dX1_omegaLength_5 hl (by decide) rfl (fun ls hl => ?_)
  exact s_X1_omegaLength_7 C0 hK hA  jF (1 : Int32) a1 (0 : Int32) _ hj _ _ _ (hP) (hD) hS (lv_sub hl [2, 1, 0] rfl)

set_option maxRecDepth 100000 in
theorem inn_X1_fibonacciLength_X1 : ∀ w ∈ u_ws RX1 TX1 4, w ∈ wsX1_fibonacciLength := by decide +kernel
def jL_X1_fibonacciLength_9 (fb : Nat → Int64) (x1 : Int64) : Nat → Int32 → Int32 → Int32 → Option (Int32)
  | 0, _, _, _ => none
  | n + 1, x3, x4, x5 => if (64 : Int32) ≤ x5 then (some (x3 + (2 : Int32))) else (if x4 ≤ x3 then (some (x3 + (2 : Int32))) else (jix (((x3 + x4) + (1 : Int32)) / (2 : Int32)) 89 (if x1 < (fb (((x3 + x4) + (1 : Int32)) / (2 : Int32)).toNatClampNeg) then (jL_X1_fibonacciLength_9 fb x1 n x3 ((((x3 + x4) + (1 : Int32)) / (2 : Int32)) - (1 : Int32)) (x5 + (1 : Int32))) else (jL_X1_fibonacciLength_9 fb x1 n (((x3 + x4) + (1 : Int32)) / (2 : Int32)) x4 (x5 + (1 : Int32))))))
set_option maxHeartbeats 4000000 in
set_option maxRecDepth 100000 in
theorem s_X1_fibonacciLength_9 {p : Program} {l : Launch} {e : Env} {s : State} {m : MethodId} {args : Array Value} {below : List Frame} {meth : Method} {c : Code} {dC : Nat → ClassId} {dI : Nat → Nat → Nat} {cI cJ : ClassId} {A : Nat → Prop} (C0 : jCx p s m args meth c RX1 cX1_fibonacciLength 7 (some .int) wsX1_fibonacciLength) (hK : va_K (dC, dI) vwCl (jTy cI cJ) s) (hA : ∀ q : Nat, s.heap.size ≤ q → A q) (hN : jNs s) (b1 : Nat) (b0 : Nat) (bw : Nat) (bq : Nat) (bf : Nat) (w : Nat → Int64) (en : Int32) (pl : Int32) (cu : Int32) (li : Nat → Int64) (ld : Int32) (fb : Nat → Int64) (x1 : Int64) :
    ∀ (n : Nat) (x3 : Int32) (x4 : Int32) (x5 : Int32) (r : Int32), jL_X1_fibonacciLength_9 fb x1 n x3 x4 x5 = some r → ∀ (H : Heap) (locs : List Loc) (ls : Array Slot), va_P (dC, dI) vwCl (wC cJ b1 b0 bw bq bf w en pl cu li ld fb) H → va_D A (wC cJ b1 b0 bw bq bf w en pl cu li ld fb) → va_S A s.heap H locs → lv_has ls 7 [(0, .ref b1), (1, .long x1), (3, .int x3), (4, .int x4), (5, .int x5)] → W p l e ({ frames := 0, cells := 0, slots := 0, locals := 0 } : Room) s m args below meth c H locs 0 0 (MQ below (va_Qi (fun (v : Int32) (_ : Unit) => v = r) (fun (_ : Unit) t => jPo dC dI cI cJ (wC cJ b1 b0 bw bq bf w en pl cu li ld fb) A t) A) args s 0 0 A) (F0 m 9 ls []) := by
  obtain ⟨hx, hb, hr, hml, hown, hts, hlocks⟩ := id C0
  intro n
  induction n with
  | zero =>
    intro x3 x4 x5 r hj
    exact nomatch (show (none : Option (Int32)) = some r from hj)
  | succ n ih =>
    intro x3 x4 x5 r hj H locs ls hP hD hS hl
    replace hj : (if (64 : Int32) ≤ x5 then (some (x3 + (2 : Int32))) else (if x4 ≤ x3 then (some (x3 + (2 : Int32))) else (jix (((x3 + x4) + (1 : Int32)) / (2 : Int32)) 89 (if x1 < (fb (((x3 + x4) + (1 : Int32)) / (2 : Int32)).toNatClampNeg) then (jL_X1_fibonacciLength_9 fb x1 n x3 ((((x3 + x4) + (1 : Int32)) / (2 : Int32)) - (1 : Int32)) (x5 + (1 : Int32))) else (jL_X1_fibonacciLength_9 fb x1 n (((x3 + x4) + (1 : Int32)) / (2 : Int32)) x4 (x5 + (1 : Int32))))))) = some r := hj
    refine lv_iload hx hb dX1_fibonacciLength_9 (lv_at hl 4 rfl) ?_
    refine lv_bipush (v := (64 : Int32)) hx hb dX1_fibonacciLength_11 (by decide) ?_
    refine lv_icmp_ge (tgt := 62) hx hb dX1_fibonacciLength_13 (by decide) (fun c901 => ?_) (fun c901 => ?_)
    · replace hj := ja_pos c901 hj
      refine lv_iload_n hx hb dX1_fibonacciLength_62 rfl (lv_at hl 2 rfl) ?_
      refine lv_iconst (v := (2 : Int32)) hx hb dX1_fibonacciLength_63 (by decide) ?_
      refine lv_iadd hx hb dX1_fibonacciLength_64 ?_
      have hr9 : (x3 + (2 : Int32)) = r := Option.some.inj hj
      subst hr9
      exact W.iret (v := x3 + (2 : Int32)) hx hb hr (fun t ht hW => ⟨⟨x3 + (2 : Int32), (), rfl, rfl, by rw [ht]; exact hP, va_K.moved hW.alike hK, hD⟩, hS.F ht⟩) hS.2.2 dX1_fibonacciLength_65
    · replace hj := ja_neg c901 hj
      refine lv_iload_n hx hb dX1_fibonacciLength_16 rfl (lv_at hl 2 rfl) ?_
      refine lv_iload hx hb dX1_fibonacciLength_17 (lv_at hl 3 rfl) ?_
      refine lv_icmp_ge (tgt := 62) hx hb dX1_fibonacciLength_19 (by decide) (fun c902 => ?_) (fun c902 => ?_)
      · replace hj := ja_pos c902 hj
        refine lv_iload_n hx hb dX1_fibonacciLength_62 rfl (lv_at hl 2 rfl) ?_
        refine lv_iconst (v := (2 : Int32)) hx hb dX1_fibonacciLength_63 (by decide) ?_
        refine lv_iadd hx hb dX1_fibonacciLength_64 ?_
        have hr9 : (x3 + (2 : Int32)) = r := Option.some.inj hj
        subst hr9
        exact W.iret (v := x3 + (2 : Int32)) hx hb hr (fun t ht hW => ⟨⟨x3 + (2 : Int32), (), rfl, rfl, by rw [ht]; exact hP, va_K.moved hW.alike hK, hD⟩, hS.F ht⟩) hS.2.2 dX1_fibonacciLength_65
      · replace hj := ja_neg c902 hj
        refine lv_iload_n hx hb dX1_fibonacciLength_22 rfl (lv_at hl 2 rfl) ?_
        refine lv_iload hx hb dX1_fibonacciLength_23 (lv_at hl 3 rfl) ?_
        refine lv_iadd hx hb dX1_fibonacciLength_25 ?_
        refine lv_iconst (v := (1 : Int32)) hx hb dX1_fibonacciLength_26 (by decide) ?_
        refine lv_iadd hx hb dX1_fibonacciLength_27 ?_
        refine lv_iconst (v := (2 : Int32)) hx hb dX1_fibonacciLength_28 (by decide) ?_
        refine lv_idiv hx hb dX1_fibonacciLength_29 (by decide) ?_
        refine lv_istore (lv' := [(6, .int (((x3 + x4) + (1 : Int32)) / (2 : Int32))), (0, .ref b1), (1, .long x1), (3, .int x3), (4, .int x4), (5, .int x5)]) hx hb dX1_fibonacciLength_30 hl (by decide) rfl (fun ls hl => ?_)
        refine lv_aload_n hx hb dX1_fibonacciLength_32 rfl (lv_at hl 1 rfl) ?_
        refine va_get (D := (dC, dI)) (ci := 1) (v := .ref bf) (C := RX1) (T := TX1) (N := 4) hx hb hts inn_X1_fibonacciLength_X1 hown hK hP 0 rfl rfl 2 (by decide) (hts (.fieldLink RX1 24 "SelfEndingCodes" "fibonacci" "[J") (by decide +kernel)) (fun _ h9 => h9) rfl dX1_fibonacciLength_33 ?_
        refine lv_iload hx hb dX1_fibonacciLength_36 (lv_at hl 0 rfl) ?_
        obtain ⟨hin, hj⟩ := ja_ix hj
        refine va_lald hx hb hK hP 4 1 rfl rfl hin dX1_fibonacciLength_38 ?_
        refine lv_lload_n hx hb dX1_fibonacciLength_39 rfl (lv_at hl 2 rfl) ?_
        refine W.lcmp hx hb dX1_fibonacciLength_40 ?_
        refine lv_if_gt (tgt := 50) hx hb dX1_fibonacciLength_41 (by decide) (fun c903 => ?_) (fun c903 => ?_)
        · replace hj := ja_pos ((lg_cmp_gt (fb (((x3 + x4) + (1 : Int32)) / (2 : Int32)).toNatClampNeg) x1).mp c903) hj
          refine lv_iload hx hb dX1_fibonacciLength_50 (lv_at hl 0 rfl) ?_
          refine lv_iconst (v := (1 : Int32)) hx hb dX1_fibonacciLength_52 (by decide) ?_
          refine lv_isub hx hb dX1_fibonacciLength_53 ?_
          refine lv_istore (lv' := [(4, .int ((((x3 + x4) + (1 : Int32)) / (2 : Int32)) - (1 : Int32))), (6, .int (((x3 + x4) + (1 : Int32)) / (2 : Int32))), (0, .ref b1), (1, .long x1), (3, .int x3), (5, .int x5)]) hx hb dX1_fibonacciLength_54 hl (by decide) rfl (fun ls hl => ?_)
          refine lv_iinc (v := x5 + (1 : Int32)) (lv' := [(5, .int (x5 + (1 : Int32))), (4, .int ((((x3 + x4) + (1 : Int32)) / (2 : Int32)) - (1 : Int32))), (6, .int (((x3 + x4) + (1 : Int32)) / (2 : Int32))), (0, .ref b1), (1, .long x1), (3, .int x3)]) hx hb dX1_fibonacciLength_56 hl (k := 5) rfl (congrArg (fun z => x5 + z) (by decide)) (by decide) rfl (fun ls hl => ?_)
          refine lv_goto (tgt := 9) hx hb dX1_fibonacciLength_59 (by decide) ?_
          exact ih x3 ((((x3 + x4) + (1 : Int32)) / (2 : Int32)) - (1 : Int32)) (x5 + (1 : Int32)) _ hj _ _ _ (hP) (hD) hS (lv_sub hl [3, 4, 5, 1, 0] rfl)
        · replace hj := ja_neg (fun h9 => c903 ((lg_cmp_gt (fb (((x3 + x4) + (1 : Int32)) / (2 : Int32)).toNatClampNeg) x1).mpr h9)) hj
          refine lv_iload hx hb dX1_fibonacciLength_44 (lv_at hl 0 rfl) ?_
          refine lv_istore_n (lv' := [(3, .int (((x3 + x4) + (1 : Int32)) / (2 : Int32))), (6, .int (((x3 + x4) + (1 : Int32)) / (2 : Int32))), (0, .ref b1), (1, .long x1), (4, .int x4), (5, .int x5)]) hx hb dX1_fibonacciLength_46 rfl hl (by decide) rfl (fun ls hl => ?_)
          refine lv_goto (tgt := 56) hx hb dX1_fibonacciLength_47 (by decide) ?_
          refine lv_iinc (v := x5 + (1 : Int32)) (lv' := [(5, .int (x5 + (1 : Int32))), (3, .int (((x3 + x4) + (1 : Int32)) / (2 : Int32))), (6, .int (((x3 + x4) + (1 : Int32)) / (2 : Int32))), (0, .ref b1), (1, .long x1), (4, .int x4)]) hx hb dX1_fibonacciLength_56 hl (k := 5) rfl (congrArg (fun z => x5 + z) (by decide)) (by decide) rfl (fun ls hl => ?_)
          refine lv_goto (tgt := 9) hx hb dX1_fibonacciLength_59 (by decide) ?_
          exact ih (((x3 + x4) + (1 : Int32)) / (2 : Int32)) x4 (x5 + (1 : Int32)) _ hj _ _ _ (hP) (hD) hS (lv_sub hl [3, 4, 1, 5, 0] rfl)
def j_X1_fibonacciLength (fb : Nat → Int64) (a1 : Int64) : Option (Int32) :=
  jL_X1_fibonacciLength_9 fb a1 jF (0 : Int32) (88 : Int32) (0 : Int32)
set_option maxHeartbeats 4000000 in
set_option maxRecDepth 100000 in
theorem c_X1_fibonacciLength (l : Launch) (dC : Nat → ClassId) (dI : Nat → Nat → Nat) (cI cJ : ClassId) (b1 : Nat) (b0 : Nat) (bw : Nat) (bq : Nat) (bf : Nat) (sz : Nat) (w : Nat → Int64) (en : Int32) (pl : Int32) (cu : Int32) (li : Nat → Int64) (ld : Int32) (fb : Nat → Int64) (a1 : Int64) (r : Int32) (hj : j_X1_fibonacciLength fb a1 = some r) : Met l yX1_fibonacciLength wsX1_fibonacciLength ({ frames := 0, cells := 0, slots := 0, locals := 0 } : Room) (va_Pc [.ref b1, .long a1] (fun U => jPr dC dI cI cJ (wC cJ b1 b0 bw bq bf w en pl cu li ld fb) sz U ∧ jNs U)) (va_Qi (fun (v : Int32) (_ : Unit) => v = r) (fun (_ : Unit) t => jPo dC dI cI cJ (wC cJ b1 b0 bw bq bf w en pl cu li ld fb) (va_A (wC cJ b1 b0 bw bq bf w en pl cu li ld fb) sz) t) (va_A (wC cJ b1 b0 bw bq bf w en pl cu li ld fb) sz)) 0 0 (va_A (wC cJ b1 b0 bw bq bf w en pl cu li ld fb) sz) := by
  refine Met.ofW (cc := cX1_fibonacciLength) (maxL := 7) (ret := (some .int)) (by decide) rfl ?_
  intro p e s m args below meth c s₁ B hml hv
  obtain ⟨rfl, ⟨hsz, hP, hK, hD0⟩, hN⟩ := hv
  have hx := B.exec
  have hb := B.bytes
  have hr := B.returns
  have hts := atoms_spec (ws := wsX1_fibonacciLength) B.pre
  have hown : s.vm.findClass RX1 = some m.cls := findClass_of_methodNamed B.named
  have hlocks := B.notSynchronized
  have C0 := jCx.of hx hb hr hml hown hts hlocks
  subst hsz
  have hD := hD0.self (sz := s.heap.size)
  generalize hAe : va_A (wC cJ b1 b0 bw bq bf w en pl cu li ld fb) s.heap.size = A at hD ⊢
  have hA : ∀ q : Nat, s.heap.size ≤ q → A q := fun q h => by rw [← hAe]; exact Or.inr h
  have hS : va_S A s.heap s.heap [] := va_S.rf
  have hP : va_P (dC, dI) vwCl (wC cJ b1 b0 bw bq bf w en pl cu li ld fb) s.heap := hP
  have hl := lv_entry ([.ref b1, .long a1]) (n := 7) (Nat.le_of_ble_eq_true rfl)
  rw [lg_entry_eq]
  generalize (lg_sl ([.ref b1, .long a1]) ++ List.replicate (7 - (lg_sl ([.ref b1, .long a1])).length) Slot.unset).toArray = ls at hl ⊢
  have hl : lv_has ls 7 [(0, .ref b1), (1, .long a1)] := hl
  clear hD0 hAe
  unfold j_X1_fibonacciLength at hj
  refine lv_iconst (v := (0 : Int32)) hx hb dX1_fibonacciLength_0 (by decide) ?_
  refine lv_istore_n (lv' := [(3, .int (0 : Int32)), (0, .ref b1), (1, .long a1)]) hx hb dX1_fibonacciLength_1 rfl hl (by decide) rfl (fun ls hl => ?_)
  refine lv_bipush (v := (88 : Int32)) hx hb dX1_fibonacciLength_2 (by decide) ?_
  refine lv_istore (lv' := [(4, .int (88 : Int32)), (3, .int (0 : Int32)), (0, .ref b1), (1, .long a1)]) hx hb dX1_fibonacciLength_4 hl (by decide) rfl (fun ls hl => ?_)
  refine lv_iconst (v := (0 : Int32)) hx hb dX1_fibonacciLength_6 (by decide) ?_
  refine lv_istore (lv' := [(5, .int (0 : Int32)), (4, .int (88 : Int32)), (3, .int (0 : Int32)), (0, .ref b1), (1, .long a1)]) hx hb dX1_fibonacciLength_7 hl (by decide) rfl (fun ls hl => ?_)
  exact s_X1_fibonacciLength_9 C0 hK hA hN b1 b0 bw bq bf w en pl cu li ld fb a1 jF (0 : Int32) (88 : Int32) (0 : Int32) _ hj _ _ _ (hP) (hD) hS (lv_sub hl [3, 4, 2, 1, 0] rfl)

def j_X1_golombWidth (a1 : Int32) : Option (Int32) :=
  (j_X1_bitLength ((a1 - (1 : Int32)).toInt64)).bind fun v1 => (some v1)
set_option maxHeartbeats 4000000 in
set_option maxRecDepth 100000 in
theorem c_X1_golombWidth (l : Launch) (dC : Nat → ClassId) (dI : Nat → Nat → Nat) (cI cJ : ClassId) (sz : Nat) (a1 : Int32) (r : Int32) (hj : j_X1_golombWidth a1 = some r) : Met l yX1_golombWidth wsX1_golombWidth ({ frames := 3, cells := 0, slots := 0, locals := 64 } : Room) (va_Pc [.int a1] (fun U => jPr dC dI cI cJ ([] : va_W) sz U)) (va_Qi (fun (v : Int32) (_ : Unit) => v = r) (fun (_ : Unit) t => jPo dC dI cI cJ [] (va_A ([] : va_W) sz) t) (va_A ([] : va_W) sz)) 0 0 (va_A ([] : va_W) sz) := by
  refine Met.ofW (cc := cX1_golombWidth) (maxL := 1) (ret := (some .int)) (by decide) rfl ?_
  intro p e s m args below meth c s₁ B hml hv
  obtain ⟨rfl, ⟨hsz, hP, hK, hD0⟩⟩ := hv
  have hx := B.exec
  have hb := B.bytes
  have hr := B.returns
  have hts := atoms_spec (ws := wsX1_golombWidth) B.pre
  have hown : s.vm.findClass RX1 = some m.cls := findClass_of_methodNamed B.named
  have hlocks := B.notSynchronized
  have C0 := jCx.of hx hb hr hml hown hts hlocks
  subst hsz
  have hD := hD0.self (sz := s.heap.size)
  generalize hAe : va_A ([] : va_W) s.heap.size = A at hD ⊢
  have hA : ∀ q : Nat, s.heap.size ≤ q → A q := fun q h => by rw [← hAe]; exact Or.inr h
  have hS : va_S A s.heap s.heap [] := va_S.rf
  have hP : va_P (dC, dI) vwCl ([] : va_W) s.heap := hP
  have hl := lv_entry ([.int a1]) (n := 1) (Nat.le_of_ble_eq_true rfl)
  rw [lg_entry_eq]
  generalize (lg_sl ([.int a1]) ++ List.replicate (1 - (lg_sl ([.int a1])).length) Slot.unset).toArray = ls at hl ⊢
  have hl : lv_has ls 1 [(0, .int a1)] := hl
  clear hD0 hAe
  unfold j_X1_golombWidth at hj
  refine lv_iload_n hx hb dX1_golombWidth_0 rfl (lv_at hl 0 rfl) ?_
  refine lv_iconst (v := (1 : Int32)) hx hb dX1_golombWidth_1 (by decide) ?_
  refine lv_isub hx hb dX1_golombWidth_2 ?_
  refine lv_i2l hx hb dX1_golombWidth_3 rfl ?_
  obtain ⟨v1, hc, hj⟩ := ja_bd hj
  try dsimp only at hj
  have hPc := hP.sub (ws' := ([] : va_W)) [] rfl
  have hDc := hD.sub (ws' := ([] : va_W)) [] (by decide) rfl
  have hFc := va_free (wc := ([] : va_W)) hD hS hA [] rfl
  refine va_calli (va_runS (As := [.long ((a1 - (1 : Int32)).toInt64)]) (rest := []) ⟨hx, hb, hml, hown, hts⟩ (c_X1_bitLength l dC dI cI cJ s.heap.size ((a1 - (1 : Int32)).toInt64) _ hc) (va_cwS 1 hts gX1_golombWidth_X1_bitLength rfl rfl rfl (by decide +kernel) ⟨Nat.le_of_ble_eq_true rfl, Nat.le_of_ble_eq_true rfl⟩) ⟨fun a U g mk q => ⟨q.1, jPr.blind q.2⟩, fun U hU hW => ⟨rfl, jPr.mk hU hW hPc hK hDc⟩⟩ rfl rfl hl.1 rfl (lv_room (Nat.le_of_ble_eq_true rfl)) dX1_golombWidth_4 ⟨Nat.le_of_ble_eq_true rfl, Nat.le_of_ble_eq_true rfl⟩) hS (fun q _ h => hFc q h) hFc (fun rr u t H1 locs ht hvm hw9 hB hz1 hk1 hS => ?_)
  have hw8 : v1 = rr := hw9.symm
  subst hw8
  obtain ⟨hP1, hK1, hD1⟩ := hB
  rw [ht] at hP1
  obtain ⟨hP, hD⟩ := va_join (wr := ([] : va_W)) (w1 := ([] : va_W)) hP hD [] [] rfl rfl (by decide) (by decide) hk1 hFc hP1 hD1
  clear hk1 hP1 hK1 hD1 hvm hz1 hPc hDc hFc
  generalize H1 = H at hP hS ⊢
  have hP : va_P (dC, dI) vwCl [] H := hP
  have hD : va_D A [] := hD
  have hr9 : v1 = r := Option.some.inj hj
  subst hr9
  exact W.iret (v := v1) hx hb hr (fun t ht hW => ⟨⟨v1, (), rfl, rfl, by rw [ht]; exact hP, va_K.moved hW.alike hK, hD⟩, hS.F ht⟩) hS.2.2 dX1_golombWidth_7

def j_X1_golombShortRests (a1 : Int32) (a2 : Int32) : Option (Int64) :=
  some (((1 : Int64) <<< (a2.toInt64 &&& 63)) - a1.toInt64)
set_option maxHeartbeats 4000000 in
set_option maxRecDepth 100000 in
theorem c_X1_golombShortRests (l : Launch) (dC : Nat → ClassId) (dI : Nat → Nat → Nat) (cI cJ : ClassId) (sz : Nat) (a1 : Int32) (a2 : Int32) (r : Int64) (hj : j_X1_golombShortRests a1 a2 = some r) : Met l yX1_golombShortRests wsX1_golombShortRests ({ frames := 0, cells := 0, slots := 0, locals := 0 } : Room) (va_Pc [.int a1, .int a2] (fun U => jPr dC dI cI cJ ([] : va_W) sz U)) (va_Ql (fun (v : Int64) (_ : Unit) => v = r) (fun (_ : Unit) t => jPo dC dI cI cJ [] (va_A ([] : va_W) sz) t) (va_A ([] : va_W) sz)) 0 0 (va_A ([] : va_W) sz) := by
  refine Met.ofW (cc := cX1_golombShortRests) (maxL := 2) (ret := (some .long)) (by decide) rfl ?_
  intro p e s m args below meth c s₁ B hml hv
  obtain ⟨rfl, ⟨hsz, hP, hK, hD0⟩⟩ := hv
  have hx := B.exec
  have hb := B.bytes
  have hr := B.returns
  have hts := atoms_spec (ws := wsX1_golombShortRests) B.pre
  have hown : s.vm.findClass RX1 = some m.cls := findClass_of_methodNamed B.named
  have hlocks := B.notSynchronized
  have C0 := jCx.of hx hb hr hml hown hts hlocks
  subst hsz
  have hD := hD0.self (sz := s.heap.size)
  generalize hAe : va_A ([] : va_W) s.heap.size = A at hD ⊢
  have hA : ∀ q : Nat, s.heap.size ≤ q → A q := fun q h => by rw [← hAe]; exact Or.inr h
  have hS : va_S A s.heap s.heap [] := va_S.rf
  have hP : va_P (dC, dI) vwCl ([] : va_W) s.heap := hP
  have hl := lv_entry ([.int a1, .int a2]) (n := 2) (Nat.le_of_ble_eq_true rfl)
  rw [lg_entry_eq]
  generalize (lg_sl ([.int a1, .int a2]) ++ List.replicate (2 - (lg_sl ([.int a1, .int a2])).length) Slot.unset).toArray = ls at hl ⊢
  have hl : lv_has ls 2 [(0, .int a1), (1, .int a2)] := hl
  clear hD0 hAe
  unfold j_X1_golombShortRests at hj
  refine lv_lconst (v := (1 : Int64)) hx hb dX1_golombShortRests_0 (by decide) ?_
  refine lv_iload_n hx hb dX1_golombShortRests_1 rfl (lv_at hl 1 rfl) ?_
  refine lv_lshl hx hb dX1_golombShortRests_2 rfl ?_
  refine lv_iload_n hx hb dX1_golombShortRests_3 rfl (lv_at hl 0 rfl) ?_
  refine lv_i2l hx hb dX1_golombShortRests_4 rfl ?_
  refine lv_lsub hx hb dX1_golombShortRests_5 ?_
  have hr9 : (((1 : Int64) <<< (a2.toInt64 &&& 63)) - a1.toInt64) = r := Option.some.inj hj
  subst hr9
  exact W.lret (v := ((1 : Int64) <<< (a2.toInt64 &&& 63)) - a1.toInt64) hx hb hr (fun t ht hW => ⟨⟨((1 : Int64) <<< (a2.toInt64 &&& 63)) - a1.toInt64, (), rfl, rfl, by rw [ht]; exact hP, va_K.moved hW.alike hK, hD⟩, hS.F ht⟩) hS.2.2 dX1_golombShortRests_6

def j_X1_groupsOf (a1 : Int32) (a2 : Int64) : Option (Int32) :=
  (j_X1_bitLength (a2 - (1 : Int64))).bind fun v1 => (jdvI a1 (some (if (1 : Int32) < (((v1 + a1) - (1 : Int32)) / a1) then (((v1 + a1) - (1 : Int32)) / a1) else (1 : Int32))))
set_option maxHeartbeats 4000000 in
set_option maxRecDepth 100000 in
theorem c_X1_groupsOf (l : Launch) (dC : Nat → ClassId) (dI : Nat → Nat → Nat) (cI cJ : ClassId) (sz : Nat) (a1 : Int32) (a2 : Int64) (r : Int32) (hj : j_X1_groupsOf a1 a2 = some r) : Met l yX1_groupsOf wsX1_groupsOf ({ frames := 3, cells := 0, slots := 0, locals := 64 } : Room) (va_Pc [.int a1, .long a2] (fun U => jPr dC dI cI cJ ([] : va_W) sz U)) (va_Qi (fun (v : Int32) (_ : Unit) => v = r) (fun (_ : Unit) t => jPo dC dI cI cJ [] (va_A ([] : va_W) sz) t) (va_A ([] : va_W) sz)) 0 0 (va_A ([] : va_W) sz) := by
  refine Met.ofW (cc := cX1_groupsOf) (maxL := 3) (ret := (some .int)) (by decide) rfl ?_
  intro p e s m args below meth c s₁ B hml hv
  obtain ⟨rfl, ⟨hsz, hP, hK, hD0⟩⟩ := hv
  have hx := B.exec
  have hb := B.bytes
  have hr := B.returns
  have hts := atoms_spec (ws := wsX1_groupsOf) B.pre
  have hown : s.vm.findClass RX1 = some m.cls := findClass_of_methodNamed B.named
  have hlocks := B.notSynchronized
  have C0 := jCx.of hx hb hr hml hown hts hlocks
  subst hsz
  have hD := hD0.self (sz := s.heap.size)
  generalize hAe : va_A ([] : va_W) s.heap.size = A at hD ⊢
  have hA : ∀ q : Nat, s.heap.size ≤ q → A q := fun q h => by rw [← hAe]; exact Or.inr h
  have hS : va_S A s.heap s.heap [] := va_S.rf
  have hP : va_P (dC, dI) vwCl ([] : va_W) s.heap := hP
  have hl := lv_entry ([.int a1, .long a2]) (n := 3) (Nat.le_of_ble_eq_true rfl)
  rw [lg_entry_eq]
  generalize (lg_sl ([.int a1, .long a2]) ++ List.replicate (3 - (lg_sl ([.int a1, .long a2])).length) Slot.unset).toArray = ls at hl ⊢
  have hl : lv_has ls 3 [(0, .int a1), (1, .long a2)] := hl
  clear hD0 hAe
  unfold j_X1_groupsOf at hj
  refine lv_iconst (v := (1 : Int32)) hx hb dX1_groupsOf_0 (by decide) ?_
  refine lv_lload_n hx hb dX1_groupsOf_1 rfl (lv_at hl 1 rfl) ?_
  refine lv_lconst (v := (1 : Int64)) hx hb dX1_groupsOf_2 (by decide) ?_
  refine lv_lsub hx hb dX1_groupsOf_3 ?_
  obtain ⟨v1, hc, hj⟩ := ja_bd hj
  try dsimp only at hj
  have hPc := hP.sub (ws' := ([] : va_W)) [] rfl
  have hDc := hD.sub (ws' := ([] : va_W)) [] (by decide) rfl
  have hFc := va_free (wc := ([] : va_W)) hD hS hA [] rfl
  refine va_calli (va_runS (As := [.long (a2 - (1 : Int64))]) (rest := [.int (1 : Int32)]) ⟨hx, hb, hml, hown, hts⟩ (c_X1_bitLength l dC dI cI cJ s.heap.size (a2 - (1 : Int64)) _ hc) (va_cwS 1 hts gX1_groupsOf_X1_bitLength rfl rfl rfl (by decide +kernel) ⟨Nat.le_of_ble_eq_true rfl, Nat.le_of_ble_eq_true rfl⟩) ⟨fun a U g mk q => ⟨q.1, jPr.blind q.2⟩, fun U hU hW => ⟨rfl, jPr.mk hU hW hPc hK hDc⟩⟩ rfl rfl hl.1 rfl (lv_room (Nat.le_of_ble_eq_true rfl)) dX1_groupsOf_4 ⟨Nat.le_of_ble_eq_true rfl, Nat.le_of_ble_eq_true rfl⟩) hS (fun q _ h => hFc q h) hFc (fun rr u t H1 locs ht hvm hw9 hB hz1 hk1 hS => ?_)
  have hw8 : v1 = rr := hw9.symm
  subst hw8
  obtain ⟨hP1, hK1, hD1⟩ := hB
  rw [ht] at hP1
  obtain ⟨hP, hD⟩ := va_join (wr := ([] : va_W)) (w1 := ([] : va_W)) hP hD [] [] rfl rfl (by decide) (by decide) hk1 hFc hP1 hD1
  clear hk1 hP1 hK1 hD1 hvm hz1 hPc hDc hFc
  generalize H1 = H at hP hS ⊢
  have hP : va_P (dC, dI) vwCl [] H := hP
  have hD : va_D A [] := hD
  refine lv_iload_n hx hb dX1_groupsOf_7 rfl (lv_at hl 0 rfl) ?_
  refine lv_iadd hx hb dX1_groupsOf_8 ?_
  refine lv_iconst (v := (1 : Int32)) hx hb dX1_groupsOf_9 (by decide) ?_
  refine lv_isub hx hb dX1_groupsOf_10 ?_
  refine lv_iload_n hx hb dX1_groupsOf_11 rfl (lv_at hl 0 rfl) ?_
  obtain ⟨hne, hj⟩ := ja_dvI hj
  refine lv_idiv hx hb dX1_groupsOf_12 hne ?_
  refine va_mmax hx hb (hml.trans hl.1.symm) hown (hts (.methodLink RX1 155 Lib.Math.max.name) (by decide +kernel)) (hts (.static Lib.Math.max.name) (by decide +kernel)) (hts (.initialized "java/lang/Math") (by decide +kernel)) (hts (.code Lib.Math.max.name Lib.Math.max.code 2 (some .int)) (by decide +kernel)) (Nat.le_of_ble_eq_true rfl) (Nat.le_of_ble_eq_true rfl) (Nat.le_of_ble_eq_true rfl) (Nat.le_of_ble_eq_true rfl) dX1_groupsOf_13 ?_
  have hr9 : (if (1 : Int32) < (((v1 + a1) - (1 : Int32)) / a1) then (((v1 + a1) - (1 : Int32)) / a1) else (1 : Int32)) = r := Option.some.inj hj
  subst hr9
  exact W.iret (v := if (1 : Int32) < (((v1 + a1) - (1 : Int32)) / a1) then (((v1 + a1) - (1 : Int32)) / a1) else (1 : Int32)) hx hb hr (fun t ht hW => ⟨⟨if (1 : Int32) < (((v1 + a1) - (1 : Int32)) / a1) then (((v1 + a1) - (1 : Int32)) / a1) else (1 : Int32), (), rfl, rfl, by rw [ht]; exact hP, va_K.moved hW.alike hK, hD⟩, hS.F ht⟩) hS.2.2 dX1_groupsOf_16

def j_X1_gammaLength (a1 : Int64) : Option (Int32) :=
  (j_X1_bitLength a1).bind fun v1 => (some (((2 : Int32) * v1) - (1 : Int32)))
set_option maxHeartbeats 4000000 in
set_option maxRecDepth 100000 in
theorem c_X1_gammaLength (l : Launch) (dC : Nat → ClassId) (dI : Nat → Nat → Nat) (cI cJ : ClassId) (sz : Nat) (a1 : Int64) (r : Int32) (hj : j_X1_gammaLength a1 = some r) : Met l yX1_gammaLength wsX1_gammaLength ({ frames := 3, cells := 0, slots := 0, locals := 64 } : Room) (va_Pc [.long a1] (fun U => jPr dC dI cI cJ ([] : va_W) sz U)) (va_Qi (fun (v : Int32) (_ : Unit) => v = r) (fun (_ : Unit) t => jPo dC dI cI cJ [] (va_A ([] : va_W) sz) t) (va_A ([] : va_W) sz)) 0 0 (va_A ([] : va_W) sz) := by
  refine Met.ofW (cc := cX1_gammaLength) (maxL := 2) (ret := (some .int)) (by decide) rfl ?_
  intro p e s m args below meth c s₁ B hml hv
  obtain ⟨rfl, ⟨hsz, hP, hK, hD0⟩⟩ := hv
  have hx := B.exec
  have hb := B.bytes
  have hr := B.returns
  have hts := atoms_spec (ws := wsX1_gammaLength) B.pre
  have hown : s.vm.findClass RX1 = some m.cls := findClass_of_methodNamed B.named
  have hlocks := B.notSynchronized
  have C0 := jCx.of hx hb hr hml hown hts hlocks
  subst hsz
  have hD := hD0.self (sz := s.heap.size)
  generalize hAe : va_A ([] : va_W) s.heap.size = A at hD ⊢
  have hA : ∀ q : Nat, s.heap.size ≤ q → A q := fun q h => by rw [← hAe]; exact Or.inr h
  have hS : va_S A s.heap s.heap [] := va_S.rf
  have hP : va_P (dC, dI) vwCl ([] : va_W) s.heap := hP
  have hl := lv_entry ([.long a1]) (n := 2) (Nat.le_of_ble_eq_true rfl)
  rw [lg_entry_eq]
  generalize (lg_sl ([.long a1]) ++ List.replicate (2 - (lg_sl ([.long a1])).length) Slot.unset).toArray = ls at hl ⊢
  have hl : lv_has ls 2 [(0, .long a1)] := hl
  clear hD0 hAe
  unfold j_X1_gammaLength at hj
  refine lv_iconst (v := (2 : Int32)) hx hb dX1_gammaLength_0 (by decide) ?_
  refine lv_lload_n hx hb dX1_gammaLength_1 rfl (lv_at hl 0 rfl) ?_
  obtain ⟨v1, hc, hj⟩ := ja_bd hj
  try dsimp only at hj
  have hPc := hP.sub (ws' := ([] : va_W)) [] rfl
  have hDc := hD.sub (ws' := ([] : va_W)) [] (by decide) rfl
  have hFc := va_free (wc := ([] : va_W)) hD hS hA [] rfl
  refine va_calli (va_runS (As := [.long a1]) (rest := [.int (2 : Int32)]) ⟨hx, hb, hml, hown, hts⟩ (c_X1_bitLength l dC dI cI cJ s.heap.size a1 _ hc) (va_cwS 1 hts gX1_gammaLength_X1_bitLength rfl rfl rfl (by decide +kernel) ⟨Nat.le_of_ble_eq_true rfl, Nat.le_of_ble_eq_true rfl⟩) ⟨fun a U g mk q => ⟨q.1, jPr.blind q.2⟩, fun U hU hW => ⟨rfl, jPr.mk hU hW hPc hK hDc⟩⟩ rfl rfl hl.1 rfl (lv_room (Nat.le_of_ble_eq_true rfl)) dX1_gammaLength_2 ⟨Nat.le_of_ble_eq_true rfl, Nat.le_of_ble_eq_true rfl⟩) hS (fun q _ h => hFc q h) hFc (fun rr u t H1 locs ht hvm hw9 hB hz1 hk1 hS => ?_)
  have hw8 : v1 = rr := hw9.symm
  subst hw8
  obtain ⟨hP1, hK1, hD1⟩ := hB
  rw [ht] at hP1
  obtain ⟨hP, hD⟩ := va_join (wr := ([] : va_W)) (w1 := ([] : va_W)) hP hD [] [] rfl rfl (by decide) (by decide) hk1 hFc hP1 hD1
  clear hk1 hP1 hK1 hD1 hvm hz1 hPc hDc hFc
  generalize H1 = H at hP hS ⊢
  have hP : va_P (dC, dI) vwCl [] H := hP
  have hD : va_D A [] := hD
  refine lv_imul hx hb dX1_gammaLength_5 ?_
  refine lv_iconst (v := (1 : Int32)) hx hb dX1_gammaLength_6 (by decide) ?_
  refine lv_isub hx hb dX1_gammaLength_7 ?_
  have hr9 : (((2 : Int32) * v1) - (1 : Int32)) = r := Option.some.inj hj
  subst hr9
  exact W.iret (v := ((2 : Int32) * v1) - (1 : Int32)) hx hb hr (fun t ht hW => ⟨⟨((2 : Int32) * v1) - (1 : Int32), (), rfl, rfl, by rw [ht]; exact hP, va_K.moved hW.alike hK, hD⟩, hS.F ht⟩) hS.2.2 dX1_gammaLength_8

def j_X1_golombLength (a1 : Int32) (a2 : Int64) : Option (Int64) :=
  jdvJ a1.toInt64 (jdvJ a1.toInt64 ((j_X1_golombWidth a1).bind fun v1 => ((j_X1_golombShortRests a1 v1).bind fun v2 => (if v2 ≤ ((a2 - (1 : Int64)) - (a2 - (1 : Int64)) / a1.toInt64 * a1.toInt64) then (some (((a2 - (1 : Int64)) / a1.toInt64) + ((v1 + (1 : Int32)).toInt64))) else (some (((a2 - (1 : Int64)) / a1.toInt64) + v1.toInt64))))))
set_option maxHeartbeats 4000000 in
set_option maxRecDepth 100000 in
theorem c_X1_golombLength (l : Launch) (dC : Nat → ClassId) (dI : Nat → Nat → Nat) (cI cJ : ClassId) (sz : Nat) (a1 : Int32) (a2 : Int64) (r : Int64) (hj : j_X1_golombLength a1 a2 = some r) : Met l yX1_golombLength wsX1_golombLength ({ frames := 4, cells := 0, slots := 0, locals := 84 } : Room) (va_Pc [.int a1, .long a2] (fun U => jPr dC dI cI cJ ([] : va_W) sz U)) (va_Ql (fun (v : Int64) (_ : Unit) => v = r) (fun (_ : Unit) t => jPo dC dI cI cJ [] (va_A ([] : va_W) sz) t) (va_A ([] : va_W) sz)) 0 0 (va_A ([] : va_W) sz) := by
  refine Met.ofW (cc := cX1_golombLength) (maxL := 8) (ret := (some .long)) (by decide) rfl ?_
  intro p e s m args below meth c s₁ B hml hv
  obtain ⟨rfl, ⟨hsz, hP, hK, hD0⟩⟩ := hv
  have hx := B.exec
  have hb := B.bytes
  have hr := B.returns
  have hts := atoms_spec (ws := wsX1_golombLength) B.pre
  have hown : s.vm.findClass RX1 = some m.cls := findClass_of_methodNamed B.named
  have hlocks := B.notSynchronized
  have C0 := jCx.of hx hb hr hml hown hts hlocks
  subst hsz
  have hD := hD0.self (sz := s.heap.size)
  generalize hAe : va_A ([] : va_W) s.heap.size = A at hD ⊢
  have hA : ∀ q : Nat, s.heap.size ≤ q → A q := fun q h => by rw [← hAe]; exact Or.inr h
  have hS : va_S A s.heap s.heap [] := va_S.rf
  have hP : va_P (dC, dI) vwCl ([] : va_W) s.heap := hP
  have hl := lv_entry ([.int a1, .long a2]) (n := 8) (Nat.le_of_ble_eq_true rfl)
  rw [lg_entry_eq]
  generalize (lg_sl ([.int a1, .long a2]) ++ List.replicate (8 - (lg_sl ([.int a1, .long a2])).length) Slot.unset).toArray = ls at hl ⊢
  have hl : lv_has ls 8 [(0, .int a1), (1, .long a2)] := hl
  clear hD0 hAe
  unfold j_X1_golombLength at hj
  refine lv_lload_n hx hb dX1_golombLength_0 rfl (lv_at hl 1 rfl) ?_
  refine lv_lconst (v := (1 : Int64)) hx hb dX1_golombLength_1 (by decide) ?_
  refine lv_lsub hx hb dX1_golombLength_2 ?_
  refine lv_iload_n hx hb dX1_golombLength_3 rfl (lv_at hl 0 rfl) ?_
  refine lv_i2l hx hb dX1_golombLength_4 rfl ?_
  obtain ⟨hne, hj⟩ := ja_dvJ hj
  refine lv_ldiv hx hb dX1_golombLength_5 hne ?_
  refine lv_lstore_n (lv' := [(3, .long ((a2 - (1 : Int64)) / a1.toInt64)), (0, .int a1), (1, .long a2)]) hx hb dX1_golombLength_6 rfl hl (by decide) rfl (fun ls hl => ?_)
  refine lv_lload_n hx hb dX1_golombLength_7 rfl (lv_at hl 2 rfl) ?_
  refine lv_lconst (v := (1 : Int64)) hx hb dX1_golombLength_8 (by decide) ?_
  refine lv_lsub hx hb dX1_golombLength_9 ?_
  refine lv_iload_n hx hb dX1_golombLength_10 rfl (lv_at hl 1 rfl) ?_
  refine lv_i2l hx hb dX1_golombLength_11 rfl ?_
  obtain ⟨hne, hj⟩ := ja_dvJ hj
  refine lv_lrem hx hb dX1_golombLength_12 hne ?_
  refine lv_lstore (lv' := [(5, .long ((a2 - (1 : Int64)) - (a2 - (1 : Int64)) / a1.toInt64 * a1.toInt64)), (3, .long ((a2 - (1 : Int64)) / a1.toInt64)), (0, .int a1), (1, .long a2)]) hx hb dX1_golombLength_13 hl (by decide) rfl (fun ls hl => ?_)
  refine lv_iload_n hx hb dX1_golombLength_15 rfl (lv_at hl 2 rfl) ?_
  obtain ⟨v1, hc, hj⟩ := ja_bd hj
  try dsimp only at hj
  have hPc := hP.sub (ws' := ([] : va_W)) [] rfl
  have hDc := hD.sub (ws' := ([] : va_W)) [] (by decide) rfl
  have hFc := va_free (wc := ([] : va_W)) hD hS hA [] rfl
  refine va_calli (va_runS (As := [.int a1]) (rest := []) ⟨hx, hb, hml, hown, hts⟩ (c_X1_golombWidth l dC dI cI cJ s.heap.size a1 _ hc) (va_cwS 1 hts gX1_golombLength_X1_golombWidth rfl rfl rfl (by decide +kernel) ⟨Nat.le_of_ble_eq_true rfl, Nat.le_of_ble_eq_true rfl⟩) ⟨fun a U g mk q => ⟨q.1, jPr.blind q.2⟩, fun U hU hW => ⟨rfl, jPr.mk hU hW hPc hK hDc⟩⟩ rfl rfl hl.1 rfl (lv_room (Nat.le_of_ble_eq_true rfl)) dX1_golombLength_16 ⟨Nat.le_of_ble_eq_true rfl, Nat.le_of_ble_eq_true rfl⟩) hS (fun q _ h => hFc q h) hFc (fun rr u t H1 locs ht hvm hw9 hB hz1 hk1 hS => ?_)
  have hw8 : v1 = rr := hw9.symm
  subst hw8
  obtain ⟨hP1, hK1, hD1⟩ := hB
  rw [ht] at hP1
  obtain ⟨hP, hD⟩ := va_join (wr := ([] : va_W)) (w1 := ([] : va_W)) hP hD [] [] rfl rfl (by decide) (by decide) hk1 hFc hP1 hD1
  clear hk1 hP1 hK1 hD1 hvm hz1 hPc hDc hFc
  generalize H1 = H at hP hS ⊢
  have hP : va_P (dC, dI) vwCl [] H := hP
  have hD : va_D A [] := hD
  refine lv_istore (lv' := [(7, .int v1), (5, .long ((a2 - (1 : Int64)) - (a2 - (1 : Int64)) / a1.toInt64 * a1.toInt64)), (3, .long ((a2 - (1 : Int64)) / a1.toInt64)), (0, .int a1), (1, .long a2)]) hx hb dX1_golombLength_19 hl (by decide) rfl (fun ls hl => ?_)
  refine lv_lload_n hx hb dX1_golombLength_21 rfl (lv_at hl 2 rfl) ?_
  refine lv_lload hx hb dX1_golombLength_22 (lv_at hl 1 rfl) ?_
  refine lv_iload_n hx hb dX1_golombLength_24 rfl (lv_at hl 3 rfl) ?_
  refine lv_iload hx hb dX1_golombLength_25 (lv_at hl 0 rfl) ?_
  obtain ⟨v2, hc, hj⟩ := ja_bd hj
  try dsimp only at hj
  have hPc := hP.sub (ws' := ([] : va_W)) [] rfl
  have hDc := hD.sub (ws' := ([] : va_W)) [] (by decide) rfl
  have hFc := va_free (wc := ([] : va_W)) hD hS hA [] rfl
  refine va_calll (va_runS (As := [.int a1, .int v1]) (rest := [.long ((a2 - (1 : Int64)) - (a2 - (1 : Int64)) / a1.toInt64 * a1.toInt64), .long ((a2 - (1 : Int64)) / a1.toInt64)]) ⟨hx, hb, hml, hown, hts⟩ (c_X1_golombShortRests l dC dI cI cJ H.size a1 v1 _ hc) (va_cwS 2 hts gX1_golombLength_X1_golombShortRests rfl rfl rfl (by decide +kernel) ⟨Nat.le_of_ble_eq_true rfl, Nat.le_of_ble_eq_true rfl⟩) ⟨fun a U g mk q => ⟨q.1, jPr.blind q.2⟩, fun U hU hW => ⟨rfl, jPr.mk hU hW hPc hK hDc⟩⟩ rfl rfl hl.1 rfl (lv_room (Nat.le_of_ble_eq_true rfl)) dX1_golombLength_27 ⟨Nat.le_of_ble_eq_true rfl, Nat.le_of_ble_eq_true rfl⟩) hS (fun q _ h => hFc q h) hFc (fun rr u t H1 locs ht hvm hw9 hB hz1 hk1 hS => ?_)
  have hw8 : v2 = rr := hw9.symm
  subst hw8
  obtain ⟨hP1, hK1, hD1⟩ := hB
  rw [ht] at hP1
  obtain ⟨hP, hD⟩ := va_join (wr := ([] : va_W)) (w1 := ([] : va_W)) hP hD [] [] rfl rfl (by decide) (by decide) hk1 hFc hP1 hD1
  clear hk1 hP1 hK1 hD1 hvm hz1 hPc hDc hFc
  generalize H1 = H at hP hS ⊢
  have hP : va_P (dC, dI) vwCl [] H := hP
  have hD : va_D A [] := hD
  refine W.lcmp hx hb dX1_golombLength_30 ?_
  refine lv_if_ge (tgt := 39) hx hb dX1_golombLength_31 (by decide) (fun c3 => ?_) (fun c3 => ?_)
  · replace hj := ja_pos ((lg_cmp_ge ((a2 - (1 : Int64)) - (a2 - (1 : Int64)) / a1.toInt64 * a1.toInt64) v2).mp c3) hj
    refine lv_iload hx hb dX1_golombLength_39 (lv_at hl 0 rfl) ?_
    refine lv_iconst (v := (1 : Int32)) hx hb dX1_golombLength_41 (by decide) ?_
    refine lv_iadd hx hb dX1_golombLength_42 ?_
    refine lv_i2l hx hb dX1_golombLength_43 rfl ?_
    refine lv_ladd hx hb dX1_golombLength_44 ?_
    have hr9 : (((a2 - (1 : Int64)) / a1.toInt64) + ((v1 + (1 : Int32)).toInt64)) = r := Option.some.inj hj
    subst hr9
    exact W.lret (v := ((a2 - (1 : Int64)) / a1.toInt64) + ((v1 + (1 : Int32)).toInt64)) hx hb hr (fun t ht hW => ⟨⟨((a2 - (1 : Int64)) / a1.toInt64) + ((v1 + (1 : Int32)).toInt64), (), rfl, rfl, by rw [ht]; exact hP, va_K.moved hW.alike hK, hD⟩, hS.F ht⟩) hS.2.2 dX1_golombLength_45
  · replace hj := ja_neg (fun h9 => c3 ((lg_cmp_ge ((a2 - (1 : Int64)) - (a2 - (1 : Int64)) / a1.toInt64 * a1.toInt64) v2).mpr h9)) hj
    refine lv_iload hx hb dX1_golombLength_34 (lv_at hl 0 rfl) ?_
    refine lv_goto (tgt := 43) hx hb dX1_golombLength_36 (by decide) ?_
    refine lv_i2l hx hb dX1_golombLength_43 rfl ?_
    refine lv_ladd hx hb dX1_golombLength_44 ?_
    have hr9 : (((a2 - (1 : Int64)) / a1.toInt64) + v1.toInt64) = r := Option.some.inj hj
    subst hr9
    exact W.lret (v := ((a2 - (1 : Int64)) / a1.toInt64) + v1.toInt64) hx hb hr (fun t ht hW => ⟨⟨((a2 - (1 : Int64)) / a1.toInt64) + v1.toInt64, (), rfl, rfl, by rw [ht]; exact hP, va_K.moved hW.alike hK, hD⟩, hS.F ht⟩) hS.2.2 dX1_golombLength_45

def j_X1_codewordLength (fb : Nat → Int64) (a1 : Int32) (a2 : Int32) (a3 : Int64) : Option (Int64) :=
  if a1 = (0 : Int32) then (some a3) else (if a1 = (1 : Int32) then ((j_X1_gammaLength a3).bind fun v2 => (some v2.toInt64)) else (if a1 = (2 : Int32) then ((j_X1_bitLength a3).bind fun v3 => ((j_X1_gammaLength v3.toInt64).bind fun v4 => ((j_X1_bitLength a3).bind fun v5 => (some (((v4 + v5) - (1 : Int32)).toInt64))))) else (if a1 = (3 : Int32) then ((j_X1_omegaLength a3).bind fun v6 => (some v6.toInt64)) else (if a1 = (4 : Int32) then ((j_X1_fibonacciLength fb a3).bind fun v7 => (some v7.toInt64)) else (if a1 = (5 : Int32) then ((j_X1_golombLength a2 a3).bind fun v8 => (some v8)) else (if a1 = (6 : Int32) then ((j_X1_gammaLength (((a3 - (1 : Int64)) >>> (a2.toInt64 &&& 63)) + (1 : Int64))).bind fun v9 => (some ((v9 + a2).toInt64))) else ((j_X1_groupsOf a2 a3).bind fun v1 => (some (v1.toInt64 * ((a2 + (1 : Int32)).toInt64))))))))))
set_option maxHeartbeats 4000000 in
set_option maxRecDepth 100000 in
theorem c_X1_codewordLength (l : Launch) (dC : Nat → ClassId) (dI : Nat → Nat → Nat) (cI cJ : ClassId) (b1 : Nat) (b0 : Nat) (bw : Nat) (bq : Nat) (bf : Nat) (sz : Nat) (w : Nat → Int64) (en : Int32) (pl : Int32) (cu : Int32) (li : Nat → Int64) (ld : Int32) (fb : Nat → Int64) (a1 : Int32) (a2 : Int32) (a3 : Int64) (r : Int64) (hj : j_X1_codewordLength fb a1 a2 a3 = some r) : Met l yX1_codewordLength wsX1_codewordLength ({ frames := 5, cells := 0, slots := 0, locals := 111 } : Room) (va_Pc [.ref b1, .int a1, .int a2, .long a3] (fun U => jPr dC dI cI cJ (wC cJ b1 b0 bw bq bf w en pl cu li ld fb) sz U ∧ jNs U)) (va_Ql (fun (v : Int64) (_ : Unit) => v = r) (fun (_ : Unit) t => jPo dC dI cI cJ (wC cJ b1 b0 bw bq bf w en pl cu li ld fb) (va_A (wC cJ b1 b0 bw bq bf w en pl cu li ld fb) sz) t) (va_A (wC cJ b1 b0 bw bq bf w en pl cu li ld fb) sz)) 0 0 (va_A (wC cJ b1 b0 bw bq bf w en pl cu li ld fb) sz) := by
  refine Met.ofW (cc := cX1_codewordLength) (maxL := 5) (ret := (some .long)) (by decide) rfl ?_
  intro p e s m args below meth c s₁ B hml hv
  obtain ⟨rfl, ⟨hsz, hP, hK, hD0⟩, hN⟩ := hv
  have hx := B.exec
  have hb := B.bytes
  have hr := B.returns
  have hts := atoms_spec (ws := wsX1_codewordLength) B.pre
  have hown : s.vm.findClass RX1 = some m.cls := findClass_of_methodNamed B.named
  have hlocks := B.notSynchronized
  have C0 := jCx.of hx hb hr hml hown hts hlocks
  subst hsz
  have hD := hD0.self (sz := s.heap.size)
  generalize hAe : va_A (wC cJ b1 b0 bw bq bf w en pl cu li ld fb) s.heap.size = A at hD ⊢
  have hA : ∀ q : Nat, s.heap.size ≤ q → A q := fun q h => by rw [← hAe]; exact Or.inr h
  have hS : va_S A s.heap s.heap [] := va_S.rf
  have hP : va_P (dC, dI) vwCl (wC cJ b1 b0 bw bq bf w en pl cu li ld fb) s.heap := hP
  have hl := lv_entry ([.ref b1, .int a1, .int a2, .long a3]) (n := 5) (Nat.le_of_ble_eq_true rfl)
  rw [lg_entry_eq]
  generalize (lg_sl ([.ref b1, .int a1, .int a2, .long a3]) ++ List.replicate (5 - (lg_sl ([.ref b1, .int a1, .int a2, .long a3])).length) Slot.unset).toArray = ls at hl ⊢
  have hl : lv_has ls 5 [(0, .ref b1), (1, .int a1), (2, .int a2), (3, .long a3)] := hl
  clear hD0 hAe
  unfold j_X1_codewordLength at hj
  refine lv_iload_n hx hb dX1_codewordLength_0 rfl (lv_at hl 1 rfl) ?_
  by_cases q0 : a1 = (0 : Int32)
  · replace hj := ja_pos q0 hj
    refine lv_tableIn (tgt := 44) hx hb dX1_codewordLength_1 (by rw [q0]; decide) (by rw [q0]; decide) (by rw [q0]; rfl) (by decide) ?_
    refine lv_lload_n hx hb dX1_codewordLength_44 rfl (lv_at hl 3 rfl) ?_
    have hr9 : a3 = r := Option.some.inj hj
    subst hr9
    exact W.lret (v := a3) hx hb hr (fun t ht hW => ⟨⟨a3, (), rfl, rfl, by rw [ht]; exact hP, va_K.moved hW.alike hK, hD⟩, hS.F ht⟩) hS.2.2 dX1_codewordLength_45
  · replace hj := ja_neg q0 hj
    by_cases q1 : a1 = (1 : Int32)
    · replace hj := ja_pos q1 hj
      refine lv_tableIn (tgt := 46) hx hb dX1_codewordLength_1 (by rw [q1]; decide) (by rw [q1]; decide) (by rw [q1]; rfl) (by decide) ?_
      refine lv_lload_n hx hb dX1_codewordLength_46 rfl (lv_at hl 3 rfl) ?_
      obtain ⟨v2, hc, hj⟩ := ja_bd hj
      try dsimp only at hj
      have hPc := hP.sub (ws' := ([] : va_W)) [] rfl
      have hDc := hD.sub (ws' := ([] : va_W)) [] (by decide) rfl
      have hFc := va_free (wc := ([] : va_W)) hD hS hA [] rfl
      refine va_calli (va_runS (As := [.long a3]) (rest := []) ⟨hx, hb, hml, hown, hts⟩ (c_X1_gammaLength l dC dI cI cJ s.heap.size a3 _ hc) (va_cwS 1 hts gX1_codewordLength_X1_gammaLength rfl rfl rfl (by decide +kernel) ⟨Nat.le_of_ble_eq_true rfl, Nat.le_of_ble_eq_true rfl⟩) ⟨fun a U g mk q => ⟨q.1, jPr.blind q.2⟩, fun U hU hW => ⟨rfl, jPr.mk hU hW hPc hK hDc⟩⟩ rfl rfl hl.1 rfl (lv_room (Nat.le_of_ble_eq_true rfl)) dX1_codewordLength_47 ⟨Nat.le_of_ble_eq_true rfl, Nat.le_of_ble_eq_true rfl⟩) hS (fun q _ h => hFc q h) hFc (fun rr u t H1 locs ht hvm hw9 hB hz1 hk1 hS => ?_)
      have hw8 : v2 = rr := hw9.symm
      subst hw8
      obtain ⟨hP1, hK1, hD1⟩ := hB
      rw [ht] at hP1
      obtain ⟨hP, hD⟩ := va_join (wr := ([(b1, .inr (1, [.ref b0, .ref bq, .ref bf, .int ld])), (b0, .inr (0, [.ref bw, .int en, .int pl, .int cu])), (bw, .inl (cJ, 64, .inr (.inl w))), (bq, .inl (cJ, 100, .inr (.inl li))), (bf, .inl (cJ, 89, .inr (.inl fb)))] : va_W)) (w1 := ([] : va_W)) hP hD [] [0, 1, 2, 3, 4] rfl rfl (by decide) (by decide) hk1 hFc hP1 hD1
      clear hk1 hP1 hK1 hD1 hvm hz1 hPc hDc hFc
      generalize H1 = H at hP hS ⊢
      have hP : va_P (dC, dI) vwCl (wC cJ b1 b0 bw bq bf w en pl cu li ld fb) H := hP
      have hD : va_D A (wC cJ b1 b0 bw bq bf w en pl cu li ld fb) := hD
      refine lv_i2l hx hb dX1_codewordLength_50 rfl ?_
      have hr9 : v2.toInt64 = r := Option.some.inj hj
      subst hr9
      exact W.lret (v := v2.toInt64) hx hb hr (fun t ht hW => ⟨⟨v2.toInt64, (), rfl, rfl, by rw [ht]; exact hP, va_K.moved hW.alike hK, hD⟩, hS.F ht⟩) hS.2.2 dX1_codewordLength_51
    · replace hj := ja_neg q1 hj
      by_cases q2 : a1 = (2 : Int32)
      · replace hj := ja_pos q2 hj
        refine lv_tableIn (tgt := 52) hx hb dX1_codewordLength_1 (by rw [q2]; decide) (by rw [q2]; decide) (by rw [q2]; rfl) (by decide) ?_
        refine lv_lload_n hx hb dX1_codewordLength_52 rfl (lv_at hl 3 rfl) ?_
        obtain ⟨v3, hc, hj⟩ := ja_bd hj
        try dsimp only at hj
        have hPc := hP.sub (ws' := ([] : va_W)) [] rfl
        have hDc := hD.sub (ws' := ([] : va_W)) [] (by decide) rfl
        have hFc := va_free (wc := ([] : va_W)) hD hS hA [] rfl
        refine va_calli (va_runS (As := [.long a3]) (rest := []) ⟨hx, hb, hml, hown, hts⟩ (c_X1_bitLength l dC dI cI cJ s.heap.size a3 _ hc) (va_cwS 1 hts gX1_codewordLength_X1_bitLength rfl rfl rfl (by decide +kernel) ⟨Nat.le_of_ble_eq_true rfl, Nat.le_of_ble_eq_true rfl⟩) ⟨fun a U g mk q => ⟨q.1, jPr.blind q.2⟩, fun U hU hW => ⟨rfl, jPr.mk hU hW hPc hK hDc⟩⟩ rfl rfl hl.1 rfl (lv_room (Nat.le_of_ble_eq_true rfl)) dX1_codewordLength_53 ⟨Nat.le_of_ble_eq_true rfl, Nat.le_of_ble_eq_true rfl⟩) hS (fun q _ h => hFc q h) hFc (fun rr u t H1 locs ht hvm hw9 hB hz1 hk1 hS => ?_)
        have hw8 : v3 = rr := hw9.symm
        subst hw8
        obtain ⟨hP1, hK1, hD1⟩ := hB
        rw [ht] at hP1
        obtain ⟨hP, hD⟩ := va_join (wr := ([(b1, .inr (1, [.ref b0, .ref bq, .ref bf, .int ld])), (b0, .inr (0, [.ref bw, .int en, .int pl, .int cu])), (bw, .inl (cJ, 64, .inr (.inl w))), (bq, .inl (cJ, 100, .inr (.inl li))), (bf, .inl (cJ, 89, .inr (.inl fb)))] : va_W)) (w1 := ([] : va_W)) hP hD [] [0, 1, 2, 3, 4] rfl rfl (by decide) (by decide) hk1 hFc hP1 hD1
        clear hk1 hP1 hK1 hD1 hvm hz1 hPc hDc hFc
        generalize H1 = H at hP hS ⊢
        have hP : va_P (dC, dI) vwCl (wC cJ b1 b0 bw bq bf w en pl cu li ld fb) H := hP
        have hD : va_D A (wC cJ b1 b0 bw bq bf w en pl cu li ld fb) := hD
        refine lv_i2l hx hb dX1_codewordLength_56 rfl ?_
        obtain ⟨v4, hc, hj⟩ := ja_bd hj
        try dsimp only at hj
        have hPc := hP.sub (ws' := ([] : va_W)) [] rfl
        have hDc := hD.sub (ws' := ([] : va_W)) [] (by decide) rfl
        have hFc := va_free (wc := ([] : va_W)) hD hS hA [] rfl
        refine va_calli (va_runS (As := [.long v3.toInt64]) (rest := []) ⟨hx, hb, hml, hown, hts⟩ (c_X1_gammaLength l dC dI cI cJ H.size v3.toInt64 _ hc) (va_cwS 1 hts gX1_codewordLength_X1_gammaLength rfl rfl rfl (by decide +kernel) ⟨Nat.le_of_ble_eq_true rfl, Nat.le_of_ble_eq_true rfl⟩) ⟨fun a U g mk q => ⟨q.1, jPr.blind q.2⟩, fun U hU hW => ⟨rfl, jPr.mk hU hW hPc hK hDc⟩⟩ rfl rfl hl.1 rfl (lv_room (Nat.le_of_ble_eq_true rfl)) dX1_codewordLength_57 ⟨Nat.le_of_ble_eq_true rfl, Nat.le_of_ble_eq_true rfl⟩) hS (fun q _ h => hFc q h) hFc (fun rr u t H1 locs ht hvm hw9 hB hz1 hk1 hS => ?_)
        have hw8 : v4 = rr := hw9.symm
        subst hw8
        obtain ⟨hP1, hK1, hD1⟩ := hB
        rw [ht] at hP1
        obtain ⟨hP, hD⟩ := va_join (wr := ([(b1, .inr (1, [.ref b0, .ref bq, .ref bf, .int ld])), (b0, .inr (0, [.ref bw, .int en, .int pl, .int cu])), (bw, .inl (cJ, 64, .inr (.inl w))), (bq, .inl (cJ, 100, .inr (.inl li))), (bf, .inl (cJ, 89, .inr (.inl fb)))] : va_W)) (w1 := ([] : va_W)) hP hD [] [0, 1, 2, 3, 4] rfl rfl (by decide) (by decide) hk1 hFc hP1 hD1
        clear hk1 hP1 hK1 hD1 hvm hz1 hPc hDc hFc
        generalize H1 = H at hP hS ⊢
        have hP : va_P (dC, dI) vwCl (wC cJ b1 b0 bw bq bf w en pl cu li ld fb) H := hP
        have hD : va_D A (wC cJ b1 b0 bw bq bf w en pl cu li ld fb) := hD
        refine lv_lload_n hx hb dX1_codewordLength_60 rfl (lv_at hl 3 rfl) ?_
        obtain ⟨v5, hc, hj⟩ := ja_bd hj
        try dsimp only at hj
        have hPc := hP.sub (ws' := ([] : va_W)) [] rfl
        have hDc := hD.sub (ws' := ([] : va_W)) [] (by decide) rfl
        have hFc := va_free (wc := ([] : va_W)) hD hS hA [] rfl
        refine va_calli (va_runS (As := [.long a3]) (rest := [.int v4]) ⟨hx, hb, hml, hown, hts⟩ (c_X1_bitLength l dC dI cI cJ H.size a3 _ hc) (va_cwS 1 hts gX1_codewordLength_X1_bitLength rfl rfl rfl (by decide +kernel) ⟨Nat.le_of_ble_eq_true rfl, Nat.le_of_ble_eq_true rfl⟩) ⟨fun a U g mk q => ⟨q.1, jPr.blind q.2⟩, fun U hU hW => ⟨rfl, jPr.mk hU hW hPc hK hDc⟩⟩ rfl rfl hl.1 rfl (lv_room (Nat.le_of_ble_eq_true rfl)) dX1_codewordLength_61 ⟨Nat.le_of_ble_eq_true rfl, Nat.le_of_ble_eq_true rfl⟩) hS (fun q _ h => hFc q h) hFc (fun rr u t H1 locs ht hvm hw9 hB hz1 hk1 hS => ?_)
        have hw8 : v5 = rr := hw9.symm
        subst hw8
        obtain ⟨hP1, hK1, hD1⟩ := hB
        rw [ht] at hP1
        obtain ⟨hP, hD⟩ := va_join (wr := ([(b1, .inr (1, [.ref b0, .ref bq, .ref bf, .int ld])), (b0, .inr (0, [.ref bw, .int en, .int pl, .int cu])), (bw, .inl (cJ, 64, .inr (.inl w))), (bq, .inl (cJ, 100, .inr (.inl li))), (bf, .inl (cJ, 89, .inr (.inl fb)))] : va_W)) (w1 := ([] : va_W)) hP hD [] [0, 1, 2, 3, 4] rfl rfl (by decide) (by decide) hk1 hFc hP1 hD1
        clear hk1 hP1 hK1 hD1 hvm hz1 hPc hDc hFc
        generalize H1 = H at hP hS ⊢
        have hP : va_P (dC, dI) vwCl (wC cJ b1 b0 bw bq bf w en pl cu li ld fb) H := hP
        have hD : va_D A (wC cJ b1 b0 bw bq bf w en pl cu li ld fb) := hD
        refine lv_iadd hx hb dX1_codewordLength_64 ?_
        refine lv_iconst (v := (1 : Int32)) hx hb dX1_codewordLength_65 (by decide) ?_
        refine lv_isub hx hb dX1_codewordLength_66 ?_
        refine lv_i2l hx hb dX1_codewordLength_67 rfl ?_
        have hr9 : (((v4 + v5) - (1 : Int32)).toInt64) = r := Option.some.inj hj
        subst hr9
        exact W.lret (v := ((v4 + v5) - (1 : Int32)).toInt64) hx hb hr (fun t ht hW => ⟨⟨((v4 + v5) - (1 : Int32)).toInt64, (), rfl, rfl, by rw [ht]; exact hP, va_K.moved hW.alike hK, hD⟩, hS.F ht⟩) hS.2.2 dX1_codewordLength_68
      · replace hj := ja_neg q2 hj
        by_cases q3 : a1 = (3 : Int32)
        · replace hj := ja_pos q3 hj
          refine lv_tableIn (tgt := 69) hx hb dX1_codewordLength_1 (by rw [q3]; decide) (by rw [q3]; decide) (by rw [q3]; rfl) (by decide) ?_
          refine lv_lload_n hx hb dX1_codewordLength_69 rfl (lv_at hl 3 rfl) ?_
          obtain ⟨v6, hc, hj⟩ := ja_bd hj
          try dsimp only at hj
          have hPc := hP.sub (ws' := ([] : va_W)) [] rfl
          have hDc := hD.sub (ws' := ([] : va_W)) [] (by decide) rfl
          have hFc := va_free (wc := ([] : va_W)) hD hS hA [] rfl
          refine va_calli (va_runS (As := [.long a3]) (rest := []) ⟨hx, hb, hml, hown, hts⟩ (c_X1_omegaLength l dC dI cI cJ s.heap.size a3 _ hc) (va_cwS 1 hts gX1_codewordLength_X1_omegaLength rfl rfl rfl (by decide +kernel) ⟨Nat.le_of_ble_eq_true rfl, Nat.le_of_ble_eq_true rfl⟩) ⟨fun a U g mk q => ⟨q.1, jPr.blind q.2⟩, fun U hU hW => ⟨rfl, jPr.mk hU hW hPc hK hDc⟩⟩ rfl rfl hl.1 rfl (lv_room (Nat.le_of_ble_eq_true rfl)) dX1_codewordLength_70 ⟨Nat.le_of_ble_eq_true rfl, Nat.le_of_ble_eq_true rfl⟩) hS (fun q _ h => hFc q h) hFc (fun rr u t H1 locs ht hvm hw9 hB hz1 hk1 hS => ?_)
          have hw8 : v6 = rr := hw9.symm
          subst hw8
          obtain ⟨hP1, hK1, hD1⟩ := hB
          rw [ht] at hP1
          obtain ⟨hP, hD⟩ := va_join (wr := ([(b1, .inr (1, [.ref b0, .ref bq, .ref bf, .int ld])), (b0, .inr (0, [.ref bw, .int en, .int pl, .int cu])), (bw, .inl (cJ, 64, .inr (.inl w))), (bq, .inl (cJ, 100, .inr (.inl li))), (bf, .inl (cJ, 89, .inr (.inl fb)))] : va_W)) (w1 := ([] : va_W)) hP hD [] [0, 1, 2, 3, 4] rfl rfl (by decide) (by decide) hk1 hFc hP1 hD1
          clear hk1 hP1 hK1 hD1 hvm hz1 hPc hDc hFc
          generalize H1 = H at hP hS ⊢
          have hP : va_P (dC, dI) vwCl (wC cJ b1 b0 bw bq bf w en pl cu li ld fb) H := hP
          have hD : va_D A (wC cJ b1 b0 bw bq bf w en pl cu li ld fb) := hD
          refine lv_i2l hx hb dX1_codewordLength_73 rfl ?_
          have hr9 : v6.toInt64 = r := Option.some.inj hj
          subst hr9
          exact W.lret (v := v6.toInt64) hx hb hr (fun t ht hW => ⟨⟨v6.toInt64, (), rfl, rfl, by rw [ht]; exact hP, va_K.moved hW.alike hK, hD⟩, hS.F ht⟩) hS.2.2 dX1_codewordLength_74
        · replace hj := ja_neg q3 hj
          by_cases q4 : a1 = (4 : Int32)
          · replace hj := ja_pos q4 hj
            refine lv_tableIn (tgt := 75) hx hb dX1_codewordLength_1 (by rw [q4]; decide) (by rw [q4]; decide) (by rw [q4]; rfl) (by decide) ?_
            refine lv_aload_n hx hb dX1_codewordLength_75 rfl (lv_at hl 0 rfl) ?_
            refine lv_lload_n hx hb dX1_codewordLength_76 rfl (lv_at hl 3 rfl) ?_
            obtain ⟨v7, hc, hj⟩ := ja_bd hj
            try dsimp only at hj
            have hPc := hP.sub (ws' := (wC cJ b1 b0 bw bq bf w en pl cu li ld fb)) [0, 1, 2, 3, 4] rfl
            have hDc := hD.sub (ws' := (wC cJ b1 b0 bw bq bf w en pl cu li ld fb)) [0, 1, 2, 3, 4] (by decide) rfl
            have hFc := va_free (wc := (wC cJ b1 b0 bw bq bf w en pl cu li ld fb)) hD hS hA [0, 1, 2, 3, 4] rfl
            refine va_calli (va_runV (As := [.long a3]) (rest := []) ⟨hx, hb, hml, hown, hts⟩ (c_X1_fibonacciLength l dC dI cI cJ b1 b0 bw bq bf s.heap.size w en pl cu li ld fb a3 _ hc) (cwV 1 hts gX1_codewordLength_X1_fibonacciLength rfl rfl rfl (by decide +kernel) ⟨Nat.le_of_ble_eq_true rfl, Nat.le_of_ble_eq_true rfl⟩) ⟨fun a U g mk q => ⟨q.1, jPr.blind q.2.1, jNs.blind q.2.2⟩, va_recv hK hPc (ci := 1) (q0 := 0) rfl rfl, fun U hU hW => ⟨rfl, jPr.mk hU hW hPc hK hDc, jNs.warm hW hN⟩⟩ rfl rfl hl.1 rfl (lv_room (Nat.le_of_ble_eq_true rfl)) dX1_codewordLength_77 ⟨Nat.le_of_ble_eq_true rfl, Nat.le_of_ble_eq_true rfl⟩) hS (fun q _ h => hFc q h) hFc (fun rr u t H1 locs ht hvm hw9 hB hz1 hk1 hS => ?_)
            have hw8 : v7 = rr := hw9.symm
            subst hw8
            obtain ⟨hP1, hK1, hD1⟩ := hB
            rw [ht] at hP1
            obtain ⟨hP, hD⟩ := va_join (wr := ([] : va_W)) (w1 := (wC cJ b1 b0 bw bq bf w en pl cu li ld fb)) hP hD [0, 1, 2, 3, 4] [] rfl rfl (by decide) (by decide) hk1 hFc hP1 hD1
            clear hk1 hP1 hK1 hD1 hvm hz1 hPc hDc hFc
            generalize H1 = H at hP hS ⊢
            have hP : va_P (dC, dI) vwCl (wC cJ b1 b0 bw bq bf w en pl cu li ld fb) H := hP
            have hD : va_D A (wC cJ b1 b0 bw bq bf w en pl cu li ld fb) := hD
            refine lv_i2l hx hb dX1_codewordLength_80 rfl ?_
            have hr9 : v7.toInt64 = r := Option.some.inj hj
            subst hr9
            exact W.lret (v := v7.toInt64) hx hb hr (fun t ht hW => ⟨⟨v7.toInt64, (), rfl, rfl, by rw [ht]; exact hP, va_K.moved hW.alike hK, hD⟩, hS.F ht⟩) hS.2.2 dX1_codewordLength_81
          · replace hj := ja_neg q4 hj
            by_cases q5 : a1 = (5 : Int32)
            · replace hj := ja_pos q5 hj
              refine lv_tableIn (tgt := 82) hx hb dX1_codewordLength_1 (by rw [q5]; decide) (by rw [q5]; decide) (by rw [q5]; rfl) (by decide) ?_
              refine lv_iload_n hx hb dX1_codewordLength_82 rfl (lv_at hl 2 rfl) ?_
              refine lv_lload_n hx hb dX1_codewordLength_83 rfl (lv_at hl 3 rfl) ?_
              obtain ⟨v8, hc, hj⟩ := ja_bd hj
              try dsimp only at hj
              have hPc := hP.sub (ws' := ([] : va_W)) [] rfl
              have hDc := hD.sub (ws' := ([] : va_W)) [] (by decide) rfl
              have hFc := va_free (wc := ([] : va_W)) hD hS hA [] rfl
              refine va_calll (va_runS (As := [.int a2, .long a3]) (rest := []) ⟨hx, hb, hml, hown, hts⟩ (c_X1_golombLength l dC dI cI cJ s.heap.size a2 a3 _ hc) (va_cwS 2 hts gX1_codewordLength_X1_golombLength rfl rfl rfl (by decide +kernel) ⟨Nat.le_of_ble_eq_true rfl, Nat.le_of_ble_eq_true rfl⟩) ⟨fun a U g mk q => ⟨q.1, jPr.blind q.2⟩, fun U hU hW => ⟨rfl, jPr.mk hU hW hPc hK hDc⟩⟩ rfl rfl hl.1 rfl (lv_room (Nat.le_of_ble_eq_true rfl)) dX1_codewordLength_84 ⟨Nat.le_of_ble_eq_true rfl, Nat.le_of_ble_eq_true rfl⟩) hS (fun q _ h => hFc q h) hFc (fun rr u t H1 locs ht hvm hw9 hB hz1 hk1 hS => ?_)
              have hw8 : v8 = rr := hw9.symm
              subst hw8
              obtain ⟨hP1, hK1, hD1⟩ := hB
              rw [ht] at hP1
              obtain ⟨hP, hD⟩ := va_join (wr := ([(b1, .inr (1, [.ref b0, .ref bq, .ref bf, .int ld])), (b0, .inr (0, [.ref bw, .int en, .int pl, .int cu])), (bw, .inl (cJ, 64, .inr (.inl w))), (bq, .inl (cJ, 100, .inr (.inl li))), (bf, .inl (cJ, 89, .inr (.inl fb)))] : va_W)) (w1 := ([] : va_W)) hP hD [] [0, 1, 2, 3, 4] rfl rfl (by decide) (by decide) hk1 hFc hP1 hD1
              clear hk1 hP1 hK1 hD1 hvm hz1 hPc hDc hFc
              generalize H1 = H at hP hS ⊢
              have hP : va_P (dC, dI) vwCl (wC cJ b1 b0 bw bq bf w en pl cu li ld fb) H := hP
              have hD : va_D A (wC cJ b1 b0 bw bq bf w en pl cu li ld fb) := hD
              have hr9 : v8 = r := Option.some.inj hj
              subst hr9
              exact W.lret (v := v8) hx hb hr (fun t ht hW => ⟨⟨v8, (), rfl, rfl, by rw [ht]; exact hP, va_K.moved hW.alike hK, hD⟩, hS.F ht⟩) hS.2.2 dX1_codewordLength_87
            · replace hj := ja_neg q5 hj
              by_cases q6 : a1 = (6 : Int32)
              · replace hj := ja_pos q6 hj
                refine lv_tableIn (tgt := 88) hx hb dX1_codewordLength_1 (by rw [q6]; decide) (by rw [q6]; decide) (by rw [q6]; rfl) (by decide) ?_
                refine lv_lload_n hx hb dX1_codewordLength_88 rfl (lv_at hl 3 rfl) ?_
                refine lv_lconst (v := (1 : Int64)) hx hb dX1_codewordLength_89 (by decide) ?_
                refine lv_lsub hx hb dX1_codewordLength_90 ?_
                refine lv_iload_n hx hb dX1_codewordLength_91 rfl (lv_at hl 2 rfl) ?_
                refine lv_lshr hx hb dX1_codewordLength_92 rfl ?_
                refine lv_lconst (v := (1 : Int64)) hx hb dX1_codewordLength_93 (by decide) ?_
                refine lv_ladd hx hb dX1_codewordLength_94 ?_
                obtain ⟨v9, hc, hj⟩ := ja_bd hj
                try dsimp only at hj
                have hPc := hP.sub (ws' := ([] : va_W)) [] rfl
                have hDc := hD.sub (ws' := ([] : va_W)) [] (by decide) rfl
                have hFc := va_free (wc := ([] : va_W)) hD hS hA [] rfl
                refine va_calli (va_runS (As := [.long (((a3 - (1 : Int64)) >>> (a2.toInt64 &&& 63)) + (1 : Int64))]) (rest := []) ⟨hx, hb, hml, hown, hts⟩ (c_X1_gammaLength l dC dI cI cJ s.heap.size (((a3 - (1 : Int64)) >>> (a2.toInt64 &&& 63)) + (1 : Int64)) _ hc) (va_cwS 1 hts gX1_codewordLength_X1_gammaLength rfl rfl rfl (by decide +kernel) ⟨Nat.le_of_ble_eq_true rfl, Nat.le_of_ble_eq_true rfl⟩) ⟨fun a U g mk q => ⟨q.1, jPr.blind q.2⟩, fun U hU hW => ⟨rfl, jPr.mk hU hW hPc hK hDc⟩⟩ rfl rfl hl.1 rfl (lv_room (Nat.le_of_ble_eq_true rfl)) dX1_codewordLength_95 ⟨Nat.le_of_ble_eq_true rfl, Nat.le_of_ble_eq_true rfl⟩) hS (fun q _ h => hFc q h) hFc (fun rr u t H1 locs ht hvm hw9 hB hz1 hk1 hS => ?_)
                have hw8 : v9 = rr := hw9.symm
                subst hw8
                obtain ⟨hP1, hK1, hD1⟩ := hB
                rw [ht] at hP1
                obtain ⟨hP, hD⟩ := va_join (wr := ([(b1, .inr (1, [.ref b0, .ref bq, .ref bf, .int ld])), (b0, .inr (0, [.ref bw, .int en, .int pl, .int cu])), (bw, .inl (cJ, 64, .inr (.inl w))), (bq, .inl (cJ, 100, .inr (.inl li))), (bf, .inl (cJ, 89, .inr (.inl fb)))] : va_W)) (w1 := ([] : va_W)) hP hD [] [0, 1, 2, 3, 4] rfl rfl (by decide) (by decide) hk1 hFc hP1 hD1
                clear hk1 hP1 hK1 hD1 hvm hz1 hPc hDc hFc
                generalize H1 = H at hP hS ⊢
                have hP : va_P (dC, dI) vwCl (wC cJ b1 b0 bw bq bf w en pl cu li ld fb) H := hP
                have hD : va_D A (wC cJ b1 b0 bw bq bf w en pl cu li ld fb) := hD
                refine lv_iload_n hx hb dX1_codewordLength_98 rfl (lv_at hl 2 rfl) ?_
                refine lv_iadd hx hb dX1_codewordLength_99 ?_
                refine lv_i2l hx hb dX1_codewordLength_100 rfl ?_
                have hr9 : ((v9 + a2).toInt64) = r := Option.some.inj hj
                subst hr9
                exact W.lret (v := (v9 + a2).toInt64) hx hb hr (fun t ht hW => ⟨⟨(v9 + a2).toInt64, (), rfl, rfl, by rw [ht]; exact hP, va_K.moved hW.alike hK, hD⟩, hS.F ht⟩) hS.2.2 dX1_codewordLength_101
              · replace hj := ja_neg q6 hj
                have n0 := ja_sw (z := 0) (by decide) q0
                have n1 := ja_sw (z := 1) (by decide) q1
                have n2 := ja_sw (z := 2) (by decide) q2
                have n3 := ja_sw (z := 3) (by decide) q3
                have n4 := ja_sw (z := 4) (by decide) q4
                have n5 := ja_sw (z := 5) (by decide) q5
                have n6 := ja_sw (z := 6) (by decide) q6
                refine lv_tableOut (tgt := 102) hx hb dX1_codewordLength_1 (by omega) (by decide) ?_
                refine lv_iload_n hx hb dX1_codewordLength_102 rfl (lv_at hl 2 rfl) ?_
                refine lv_lload_n hx hb dX1_codewordLength_103 rfl (lv_at hl 3 rfl) ?_
                obtain ⟨v1, hc, hj⟩ := ja_bd hj
                try dsimp only at hj
                have hPc := hP.sub (ws' := ([] : va_W)) [] rfl
                have hDc := hD.sub (ws' := ([] : va_W)) [] (by decide) rfl
                have hFc := va_free (wc := ([] : va_W)) hD hS hA [] rfl
                refine va_calli (va_runS (As := [.int a2, .long a3]) (rest := []) ⟨hx, hb, hml, hown, hts⟩ (c_X1_groupsOf l dC dI cI cJ s.heap.size a2 a3 _ hc) (va_cwS 2 hts gX1_codewordLength_X1_groupsOf rfl rfl rfl (by decide +kernel) ⟨Nat.le_of_ble_eq_true rfl, Nat.le_of_ble_eq_true rfl⟩) ⟨fun a U g mk q => ⟨q.1, jPr.blind q.2⟩, fun U hU hW => ⟨rfl, jPr.mk hU hW hPc hK hDc⟩⟩ rfl rfl hl.1 rfl (lv_room (Nat.le_of_ble_eq_true rfl)) dX1_codewordLength_104 ⟨Nat.le_of_ble_eq_true rfl, Nat.le_of_ble_eq_true rfl⟩) hS (fun q _ h => hFc q h) hFc (fun rr u t H1 locs ht hvm hw9 hB hz1 hk1 hS => ?_)
                have hw8 : v1 = rr := hw9.symm
                subst hw8
                obtain ⟨hP1, hK1, hD1⟩ := hB
                rw [ht] at hP1
                obtain ⟨hP, hD⟩ := va_join (wr := ([(b1, .inr (1, [.ref b0, .ref bq, .ref bf, .int ld])), (b0, .inr (0, [.ref bw, .int en, .int pl, .int cu])), (bw, .inl (cJ, 64, .inr (.inl w))), (bq, .inl (cJ, 100, .inr (.inl li))), (bf, .inl (cJ, 89, .inr (.inl fb)))] : va_W)) (w1 := ([] : va_W)) hP hD [] [0, 1, 2, 3, 4] rfl rfl (by decide) (by decide) hk1 hFc hP1 hD1
                clear hk1 hP1 hK1 hD1 hvm hz1 hPc hDc hFc
                generalize H1 = H at hP hS ⊢
                have hP : va_P (dC, dI) vwCl (wC cJ b1 b0 bw bq bf w en pl cu li ld fb) H := hP
                have hD : va_D A (wC cJ b1 b0 bw bq bf w en pl cu li ld fb) := hD
                refine lv_i2l hx hb dX1_codewordLength_107 rfl ?_
                refine lv_iload_n hx hb dX1_codewordLength_108 rfl (lv_at hl 2 rfl) ?_
                refine lv_iconst (v := (1 : Int32)) hx hb dX1_codewordLength_109 (by decide) ?_
                refine lv_iadd hx hb dX1_codewordLength_110 ?_
                refine lv_i2l hx hb dX1_codewordLength_111 rfl ?_
                refine lv_lmul hx hb dX1_codewordLength_112 ?_
                have hr9 : (v1.toInt64 * ((a2 + (1 : Int32)).toInt64)) = r := Option.some.inj hj
                subst hr9
                exact W.lret (v := v1.toInt64 * ((a2 + (1 : Int32)).toInt64)) hx hb hr (fun t ht hW => ⟨⟨v1.toInt64 * ((a2 + (1 : Int32)).toInt64), (), rfl, rfl, by rw [ht]; exact hP, va_K.moved hW.alike hK, hD⟩, hS.F ht⟩) hS.2.2 dX1_codewordLength_113

def j_X1_leastParameter (a1 : Int32) : Option (Int32) :=
  if a1 = (5 : Int32) then (some (1 : Int32)) else (if a1 = (7 : Int32) then (some (1 : Int32)) else (some (0 : Int32)))
set_option maxHeartbeats 4000000 in
set_option maxRecDepth 100000 in
theorem c_X1_leastParameter (l : Launch) (dC : Nat → ClassId) (dI : Nat → Nat → Nat) (cI cJ : ClassId) (sz : Nat) (a1 : Int32) (r : Int32) (hj : j_X1_leastParameter a1 = some r) : Met l yX1_leastParameter wsX1_leastParameter ({ frames := 0, cells := 0, slots := 0, locals := 0 } : Room) (va_Pc [.int a1] (fun U => jPr dC dI cI cJ ([] : va_W) sz U)) (va_Qi (fun (v : Int32) (_ : Unit) => v = r) (fun (_ : Unit) t => jPo dC dI cI cJ [] (va_A ([] : va_W) sz) t) (va_A ([] : va_W) sz)) 0 0 (va_A ([] : va_W) sz) := by
  refine Met.ofW (cc := cX1_leastParameter) (maxL := 1) (ret := (some .int)) (by decide) rfl ?_
  intro p e s m args below meth c s₁ B hml hv
  obtain ⟨rfl, ⟨hsz, hP, hK, hD0⟩⟩ := hv
  have hx := B.exec
  have hb := B.bytes
  have hr := B.returns
  have hts := atoms_spec (ws := wsX1_leastParameter) B.pre
  have hown : s.vm.findClass RX1 = some m.cls := findClass_of_methodNamed B.named
  have hlocks := B.notSynchronized
  have C0 := jCx.of hx hb hr hml hown hts hlocks
  subst hsz
  have hD := hD0.self (sz := s.heap.size)
  generalize hAe : va_A ([] : va_W) s.heap.size = A at hD ⊢
  have hA : ∀ q : Nat, s.heap.size ≤ q → A q := fun q h => by rw [← hAe]; exact Or.inr h
  have hS : va_S A s.heap s.heap [] := va_S.rf
  have hP : va_P (dC, dI) vwCl ([] : va_W) s.heap := hP
  have hl := lv_entry ([.int a1]) (n := 1) (Nat.le_of_ble_eq_true rfl)
  rw [lg_entry_eq]
  generalize (lg_sl ([.int a1]) ++ List.replicate (1 - (lg_sl ([.int a1])).length) Slot.unset).toArray = ls at hl ⊢
  have hl : lv_has ls 1 [(0, .int a1)] := hl
  clear hD0 hAe
  unfold j_X1_leastParameter at hj
  refine lv_iload_n hx hb dX1_leastParameter_0 rfl (lv_at hl 0 rfl) ?_
  refine lv_iconst (v := (5 : Int32)) hx hb dX1_leastParameter_1 (by decide) ?_
  refine lv_icmp_eq (tgt := 11) hx hb dX1_leastParameter_2 (by decide) (fun c1 => ?_) (fun c1 => ?_)
  · replace hj := ja_pos c1 hj
    refine lv_iconst (v := (1 : Int32)) hx hb dX1_leastParameter_11 (by decide) ?_
    refine lv_goto (tgt := 16) hx hb dX1_leastParameter_12 (by decide) ?_
    have hr9 : (1 : Int32) = r := Option.some.inj hj
    subst hr9
    exact W.iret (v := (1 : Int32)) hx hb hr (fun t ht hW => ⟨⟨(1 : Int32), (), rfl, rfl, by rw [ht]; exact hP, va_K.moved hW.alike hK, hD⟩, hS.F ht⟩) hS.2.2 dX1_leastParameter_16
  · replace hj := ja_neg c1 hj
    refine lv_iload_n hx hb dX1_leastParameter_5 rfl (lv_at hl 0 rfl) ?_
    refine lv_bipush (v := (7 : Int32)) hx hb dX1_leastParameter_6 (by decide) ?_
    refine lv_icmp_ne (tgt := 15) hx hb dX1_leastParameter_8 (by decide) (fun c2 => ?_) (fun c2 => ?_)
    · replace hj := ja_neg c2 hj
      refine lv_iconst (v := (0 : Int32)) hx hb dX1_leastParameter_15 (by decide) ?_
      have hr9 : (0 : Int32) = r := Option.some.inj hj
      subst hr9
      exact W.iret (v := (0 : Int32)) hx hb hr (fun t ht hW => ⟨⟨(0 : Int32), (), rfl, rfl, by rw [ht]; exact hP, va_K.moved hW.alike hK, hD⟩, hS.F ht⟩) hS.2.2 dX1_leastParameter_16
    · replace hj := ja_pos c2 hj
      refine lv_iconst (v := (1 : Int32)) hx hb dX1_leastParameter_11 (by decide) ?_
      refine lv_goto (tgt := 16) hx hb dX1_leastParameter_12 (by decide) ?_
      have hr9 : (1 : Int32) = r := Option.some.inj hj
      subst hr9
      exact W.iret (v := (1 : Int32)) hx hb hr (fun t ht hW => ⟨⟨(1 : Int32), (), rfl, rfl, by rw [ht]; exact hP, va_K.moved hW.alike hK, hD⟩, hS.F ht⟩) hS.2.2 dX1_leastParameter_16

def j_X1_greatestParameter (a1 : Int32) : Option (Int32) :=
  if a1 = (5 : Int32) then (some (1000000 : Int32)) else (if a1 = (6 : Int32) then (some (40 : Int32)) else (if a1 = (7 : Int32) then (some (16 : Int32)) else (some (0 : Int32))))
set_option maxHeartbeats 4000000 in
set_option maxRecDepth 100000 in
theorem c_X1_greatestParameter (l : Launch) (dC : Nat → ClassId) (dI : Nat → Nat → Nat) (cI cJ : ClassId) (sz : Nat) (a1 : Int32) (r : Int32) (hj : j_X1_greatestParameter a1 = some r) : Met l yX1_greatestParameter wsX1_greatestParameter ({ frames := 0, cells := 0, slots := 0, locals := 0 } : Room) (va_Pc [.int a1] (fun U => jPr dC dI cI cJ ([] : va_W) sz U)) (va_Qi (fun (v : Int32) (_ : Unit) => v = r) (fun (_ : Unit) t => jPo dC dI cI cJ [] (va_A ([] : va_W) sz) t) (va_A ([] : va_W) sz)) 0 0 (va_A ([] : va_W) sz) := by
  refine Met.ofW (cc := cX1_greatestParameter) (maxL := 1) (ret := (some .int)) (by decide) rfl ?_
  intro p e s m args below meth c s₁ B hml hv
  obtain ⟨rfl, ⟨hsz, hP, hK, hD0⟩⟩ := hv
  have hx := B.exec
  have hb := B.bytes
  have hr := B.returns
  have hts := atoms_spec (ws := wsX1_greatestParameter) B.pre
  have hown : s.vm.findClass RX1 = some m.cls := findClass_of_methodNamed B.named
  have hlocks := B.notSynchronized
  have C0 := jCx.of hx hb hr hml hown hts hlocks
  subst hsz
  have hD := hD0.self (sz := s.heap.size)
  generalize hAe : va_A ([] : va_W) s.heap.size = A at hD ⊢
  have hA : ∀ q : Nat, s.heap.size ≤ q → A q := fun q h => by rw [← hAe]; exact Or.inr h
  have hS : va_S A s.heap s.heap [] := va_S.rf
  have hP : va_P (dC, dI) vwCl ([] : va_W) s.heap := hP
  have hl := lv_entry ([.int a1]) (n := 1) (Nat.le_of_ble_eq_true rfl)
  rw [lg_entry_eq]
  generalize (lg_sl ([.int a1]) ++ List.replicate (1 - (lg_sl ([.int a1])).length) Slot.unset).toArray = ls at hl ⊢
  have hl : lv_has ls 1 [(0, .int a1)] := hl
  clear hD0 hAe
  unfold j_X1_greatestParameter at hj
  refine lv_iload_n hx hb dX1_greatestParameter_0 rfl (lv_at hl 0 rfl) ?_
  by_cases q5 : a1 = (5 : Int32)
  · replace hj := ja_pos q5 hj
    refine lv_tableIn (tgt := 28) hx hb dX1_greatestParameter_1 (by rw [q5]; decide) (by rw [q5]; decide) (by rw [q5]; rfl) (by decide) ?_
    refine lv_ldc (v := (1000000 : Int32)) hx hb hown (hts (.constant RX1 114 (1000000)) (by decide +kernel)) dX1_greatestParameter_28 ?_
    have hr9 : (1000000 : Int32) = r := Option.some.inj hj
    subst hr9
    exact W.iret (v := (1000000 : Int32)) hx hb hr (fun t ht hW => ⟨⟨(1000000 : Int32), (), rfl, rfl, by rw [ht]; exact hP, va_K.moved hW.alike hK, hD⟩, hS.F ht⟩) hS.2.2 dX1_greatestParameter_30
  · replace hj := ja_neg q5 hj
    by_cases q6 : a1 = (6 : Int32)
    · replace hj := ja_pos q6 hj
      refine lv_tableIn (tgt := 31) hx hb dX1_greatestParameter_1 (by rw [q6]; decide) (by rw [q6]; decide) (by rw [q6]; rfl) (by decide) ?_
      refine lv_bipush (v := (40 : Int32)) hx hb dX1_greatestParameter_31 (by decide) ?_
      have hr9 : (40 : Int32) = r := Option.some.inj hj
      subst hr9
      exact W.iret (v := (40 : Int32)) hx hb hr (fun t ht hW => ⟨⟨(40 : Int32), (), rfl, rfl, by rw [ht]; exact hP, va_K.moved hW.alike hK, hD⟩, hS.F ht⟩) hS.2.2 dX1_greatestParameter_33
    · replace hj := ja_neg q6 hj
      by_cases q7 : a1 = (7 : Int32)
      · replace hj := ja_pos q7 hj
        refine lv_tableIn (tgt := 34) hx hb dX1_greatestParameter_1 (by rw [q7]; decide) (by rw [q7]; decide) (by rw [q7]; rfl) (by decide) ?_
        refine lv_bipush (v := (16 : Int32)) hx hb dX1_greatestParameter_34 (by decide) ?_
        have hr9 : (16 : Int32) = r := Option.some.inj hj
        subst hr9
        exact W.iret (v := (16 : Int32)) hx hb hr (fun t ht hW => ⟨⟨(16 : Int32), (), rfl, rfl, by rw [ht]; exact hP, va_K.moved hW.alike hK, hD⟩, hS.F ht⟩) hS.2.2 dX1_greatestParameter_36
      · replace hj := ja_neg q7 hj
        have n5 := ja_sw (z := 5) (by decide) q5
        have n6 := ja_sw (z := 6) (by decide) q6
        have n7 := ja_sw (z := 7) (by decide) q7
        refine lv_tableOut (tgt := 37) hx hb dX1_greatestParameter_1 (by omega) (by decide) ?_
        refine lv_iconst (v := (0 : Int32)) hx hb dX1_greatestParameter_37 (by decide) ?_
        have hr9 : (0 : Int32) = r := Option.some.inj hj
        subst hr9
        exact W.iret (v := (0 : Int32)) hx hb hr (fun t ht hW => ⟨⟨(0 : Int32), (), rfl, rfl, by rw [ht]; exact hP, va_K.moved hW.alike hK, hD⟩, hS.F ht⟩) hS.2.2 dX1_greatestParameter_38

def j_X1_isCode (a1 : Int32) (a2 : Int32) : Option (Int32) :=
  if a1 < (0 : Int32) then (some (0 : Int32)) else (if (7 : Int32) < a1 then (some (0 : Int32)) else ((j_X1_leastParameter a1).bind fun v3 => (if a2 < v3 then (some (0 : Int32)) else ((j_X1_greatestParameter a1).bind fun v5 => (if v5 < a2 then (some (0 : Int32)) else (some (1 : Int32)))))))
set_option maxHeartbeats 4000000 in
set_option maxRecDepth 100000 in
theorem c_X1_isCode (l : Launch) (dC : Nat → ClassId) (dI : Nat → Nat → Nat) (cI cJ : ClassId) (sz : Nat) (a1 : Int32) (a2 : Int32) (r : Int32) (hj : j_X1_isCode a1 a2 = some r) : Met l yX1_isCode wsX1_isCode ({ frames := 1, cells := 0, slots := 0, locals := 20 } : Room) (va_Pc [.int a1, .int a2] (fun U => jPr dC dI cI cJ ([] : va_W) sz U)) (va_Qi (fun (v : Int32) (_ : Unit) => v = r) (fun (_ : Unit) t => jPo dC dI cI cJ [] (va_A ([] : va_W) sz) t) (va_A ([] : va_W) sz)) 0 0 (va_A ([] : va_W) sz) := by
  refine Met.ofW (cc := cX1_isCode) (maxL := 2) (ret := (some .boolean)) (by decide) rfl ?_
  intro p e s m args below meth c s₁ B hml hv
  obtain ⟨rfl, ⟨hsz, hP, hK, hD0⟩⟩ := hv
  have hx := B.exec
  have hb := B.bytes
  have hr := B.returns
  have hts := atoms_spec (ws := wsX1_isCode) B.pre
  have hown : s.vm.findClass RX1 = some m.cls := findClass_of_methodNamed B.named
  have hlocks := B.notSynchronized
  have C0 := jCx.of hx hb hr hml hown hts hlocks
  subst hsz
  have hD := hD0.self (sz := s.heap.size)
  generalize hAe : va_A ([] : va_W) s.heap.size = A at hD ⊢
  have hA : ∀ q : Nat, s.heap.size ≤ q → A q := fun q h => by rw [← hAe]; exact Or.inr h
  have hS : va_S A s.heap s.heap [] := va_S.rf
  have hP : va_P (dC, dI) vwCl ([] : va_W) s.heap := hP
  have hl := lv_entry ([.int a1, .int a2]) (n := 2) (Nat.le_of_ble_eq_true rfl)
  rw [lg_entry_eq]
  generalize (lg_sl ([.int a1, .int a2]) ++ List.replicate (2 - (lg_sl ([.int a1, .int a2])).length) Slot.unset).toArray = ls at hl ⊢
  have hl : lv_has ls 2 [(0, .int a1), (1, .int a2)] := hl
  clear hD0 hAe
  unfold j_X1_isCode at hj
  refine lv_iload_n hx hb dX1_isCode_0 rfl (lv_at hl 0 rfl) ?_
  refine lv_if_lt (tgt := 30) hx hb dX1_isCode_1 (by decide) (fun c1 => ?_) (fun c1 => ?_)
  · replace hj := ja_pos c1 hj
    refine lv_iconst (v := (0 : Int32)) hx hb dX1_isCode_30 (by decide) ?_
    have hr9 : (0 : Int32) = r := Option.some.inj hj
    subst hr9
    exact W.zret (v := (0 : Int32)) hx hb hr (by decide) (fun t ht hW => ⟨⟨(0 : Int32), (), rfl, rfl, by rw [ht]; exact hP, va_K.moved hW.alike hK, hD⟩, hS.F ht⟩) hS.2.2 dX1_isCode_31
  · replace hj := ja_neg c1 hj
    refine lv_iload_n hx hb dX1_isCode_4 rfl (lv_at hl 0 rfl) ?_
    refine lv_bipush (v := (7 : Int32)) hx hb dX1_isCode_5 (by decide) ?_
    refine lv_icmp_gt (tgt := 30) hx hb dX1_isCode_7 (by decide) (fun c2 => ?_) (fun c2 => ?_)
    · replace hj := ja_pos c2 hj
      refine lv_iconst (v := (0 : Int32)) hx hb dX1_isCode_30 (by decide) ?_
      have hr9 : (0 : Int32) = r := Option.some.inj hj
      subst hr9
      exact W.zret (v := (0 : Int32)) hx hb hr (by decide) (fun t ht hW => ⟨⟨(0 : Int32), (), rfl, rfl, by rw [ht]; exact hP, va_K.moved hW.alike hK, hD⟩, hS.F ht⟩) hS.2.2 dX1_isCode_31
    · replace hj := ja_neg c2 hj
      refine lv_iload_n hx hb dX1_isCode_10 rfl (lv_at hl 1 rfl) ?_
      refine lv_iload_n hx hb dX1_isCode_11 rfl (lv_at hl 0 rfl) ?_
      obtain ⟨v3, hc, hj⟩ := ja_bd hj
      try dsimp only at hj
      have hPc := hP.sub (ws' := ([] : va_W)) [] rfl
      have hDc := hD.sub (ws' := ([] : va_W)) [] (by decide) rfl
      have hFc := va_free (wc := ([] : va_W)) hD hS hA [] rfl
      refine va_calli (va_runS (As := [.int a1]) (rest := [.int a2]) ⟨hx, hb, hml, hown, hts⟩ (c_X1_leastParameter l dC dI cI cJ s.heap.size a1 _ hc) (va_cwS 1 hts gX1_isCode_X1_leastParameter rfl rfl rfl (by decide +kernel) ⟨Nat.le_of_ble_eq_true rfl, Nat.le_of_ble_eq_true rfl⟩) ⟨fun a U g mk q => ⟨q.1, jPr.blind q.2⟩, fun U hU hW => ⟨rfl, jPr.mk hU hW hPc hK hDc⟩⟩ rfl rfl hl.1 rfl (lv_room (Nat.le_of_ble_eq_true rfl)) dX1_isCode_12 ⟨Nat.le_of_ble_eq_true rfl, Nat.le_of_ble_eq_true rfl⟩) hS (fun q _ h => hFc q h) hFc (fun rr u t H1 locs ht hvm hw9 hB hz1 hk1 hS => ?_)
      have hw8 : v3 = rr := hw9.symm
      subst hw8
      obtain ⟨hP1, hK1, hD1⟩ := hB
      rw [ht] at hP1
      obtain ⟨hP, hD⟩ := va_join (wr := ([] : va_W)) (w1 := ([] : va_W)) hP hD [] [] rfl rfl (by decide) (by decide) hk1 hFc hP1 hD1
      clear hk1 hP1 hK1 hD1 hvm hz1 hPc hDc hFc
      generalize H1 = H at hP hS ⊢
      have hP : va_P (dC, dI) vwCl [] H := hP
      have hD : va_D A [] := hD
      refine lv_icmp_lt (tgt := 30) hx hb dX1_isCode_15 (by decide) (fun c4 => ?_) (fun c4 => ?_)
      · replace hj := ja_pos c4 hj
        refine lv_iconst (v := (0 : Int32)) hx hb dX1_isCode_30 (by decide) ?_
        have hr9 : (0 : Int32) = r := Option.some.inj hj
        subst hr9
        exact W.zret (v := (0 : Int32)) hx hb hr (by decide) (fun t ht hW => ⟨⟨(0 : Int32), (), rfl, rfl, by rw [ht]; exact hP, va_K.moved hW.alike hK, hD⟩, hS.F ht⟩) hS.2.2 dX1_isCode_31
      · replace hj := ja_neg c4 hj
        refine lv_iload_n hx hb dX1_isCode_18 rfl (lv_at hl 1 rfl) ?_
        refine lv_iload_n hx hb dX1_isCode_19 rfl (lv_at hl 0 rfl) ?_
        obtain ⟨v5, hc, hj⟩ := ja_bd hj
        try dsimp only at hj
        have hPc := hP.sub (ws' := ([] : va_W)) [] rfl
        have hDc := hD.sub (ws' := ([] : va_W)) [] (by decide) rfl
        have hFc := va_free (wc := ([] : va_W)) hD hS hA [] rfl
        refine va_calli (va_runS (As := [.int a1]) (rest := [.int a2]) ⟨hx, hb, hml, hown, hts⟩ (c_X1_greatestParameter l dC dI cI cJ H.size a1 _ hc) (va_cwS 1 hts gX1_isCode_X1_greatestParameter rfl rfl rfl (by decide +kernel) ⟨Nat.le_of_ble_eq_true rfl, Nat.le_of_ble_eq_true rfl⟩) ⟨fun a U g mk q => ⟨q.1, jPr.blind q.2⟩, fun U hU hW => ⟨rfl, jPr.mk hU hW hPc hK hDc⟩⟩ rfl rfl hl.1 rfl (lv_room (Nat.le_of_ble_eq_true rfl)) dX1_isCode_20 ⟨Nat.le_of_ble_eq_true rfl, Nat.le_of_ble_eq_true rfl⟩) hS (fun q _ h => hFc q h) hFc (fun rr u t H1 locs ht hvm hw9 hB hz1 hk1 hS => ?_)
        have hw8 : v5 = rr := hw9.symm
        subst hw8
        obtain ⟨hP1, hK1, hD1⟩ := hB
        rw [ht] at hP1
        obtain ⟨hP, hD⟩ := va_join (wr := ([] : va_W)) (w1 := ([] : va_W)) hP hD [] [] rfl rfl (by decide) (by decide) hk1 hFc hP1 hD1
        clear hk1 hP1 hK1 hD1 hvm hz1 hPc hDc hFc
        generalize H1 = H at hP hS ⊢
        have hP : va_P (dC, dI) vwCl [] H := hP
        have hD : va_D A [] := hD
        refine lv_icmp_gt (tgt := 30) hx hb dX1_isCode_23 (by decide) (fun c6 => ?_) (fun c6 => ?_)
        · replace hj := ja_pos c6 hj
          refine lv_iconst (v := (0 : Int32)) hx hb dX1_isCode_30 (by decide) ?_
          have hr9 : (0 : Int32) = r := Option.some.inj hj
          subst hr9
          exact W.zret (v := (0 : Int32)) hx hb hr (by decide) (fun t ht hW => ⟨⟨(0 : Int32), (), rfl, rfl, by rw [ht]; exact hP, va_K.moved hW.alike hK, hD⟩, hS.F ht⟩) hS.2.2 dX1_isCode_31
        · replace hj := ja_neg c6 hj
          refine lv_iconst (v := (1 : Int32)) hx hb dX1_isCode_26 (by decide) ?_
          refine lv_goto (tgt := 31) hx hb dX1_isCode_27 (by decide) ?_
          have hr9 : (1 : Int32) = r := Option.some.inj hj
          subst hr9
          exact W.zret (v := (1 : Int32)) hx hb hr (by decide) (fun t ht hW => ⟨⟨(1 : Int32), (), rfl, rfl, by rw [ht]; exact hP, va_K.moved hW.alike hK, hD⟩, hS.F ht⟩) hS.2.2 dX1_isCode_31

def jL_X1_leastReaching_11 (fb : Nat → Int64) (x1 : Int32) (x2 : Int32) (x3 : Int32) : Nat → Int64 → Int64 → Int32 → Option (Int64)
  | 0, _, _, _ => none
  | n + 1, x4, x6, x8 => if (64 : Int32) ≤ x8 then (some x4) else (if x6 ≤ x4 then (some x4) else ((j_X1_codewordLength fb x1 x2 (x4 + ((x6 - x4) / (2 : Int64)))).bind fun v1103 => (if x3.toInt64 ≤ v1103 then (jL_X1_leastReaching_11 fb x1 x2 x3 n x4 (x4 + ((x6 - x4) / (2 : Int64))) (x8 + (1 : Int32))) else (jL_X1_leastReaching_11 fb x1 x2 x3 n ((x4 + ((x6 - x4) / (2 : Int64))) + (1 : Int64)) x6 (x8 + (1 : Int32))))))
set_option maxHeartbeats 4000000 in
set_option maxRecDepth 100000 in
theorem s_X1_leastReaching_11 {p : Program} {l : Launch} {e : Env} {s : State} {m : MethodId} {args : Array Value} {below : List Frame} {meth : Method} {c : Code} {dC : Nat → ClassId} {dI : Nat → Nat → Nat} {cI cJ : ClassId} {A : Nat → Prop} (C0 : jCx p s m args meth c RX1 cX1_leastReaching 11 (some .long) wsX1_leastReaching) (hK : va_K (dC, dI) vwCl (jTy cI cJ) s) (hA : ∀ q : Nat, s.heap.size ≤ q → A q) (hN : jNs s) (b1 : Nat) (b0 : Nat) (bw : Nat) (bq : Nat) (bf : Nat) (w : Nat → Int64) (en : Int32) (pl : Int32) (cu : Int32) (li : Nat → Int64) (ld : Int32) (fb : Nat → Int64) (x1 : Int32) (x2 : Int32) (x3 : Int32) :
    ∀ (n : Nat) (x4 : Int64) (x6 : Int64) (x8 : Int32) (r : Int64), jL_X1_leastReaching_11 fb x1 x2 x3 n x4 x6 x8 = some r → ∀ (H : Heap) (locs : List Loc) (ls : Array Slot), va_P (dC, dI) vwCl (wC cJ b1 b0 bw bq bf w en pl cu li ld fb) H → va_D A (wC cJ b1 b0 bw bq bf w en pl cu li ld fb) → va_S A s.heap H locs → lv_has ls 11 [(0, .ref b1), (1, .int x1), (2, .int x2), (3, .int x3), (4, .long x4), (6, .long x6), (8, .int x8)] → W p l e ({ frames := 6, cells := 0, slots := 0, locals := 135 } : Room) s m args below meth c H locs 0 0 (MQ below (va_Ql (fun (v : Int64) (_ : Unit) => v = r) (fun (_ : Unit) t => jPo dC dI cI cJ (wC cJ b1 b0 bw bq bf w en pl cu li ld fb) A t) A) args s 0 0 A) (F0 m 11 ls []) := by
  obtain ⟨hx, hb, hr, hml, hown, hts, hlocks⟩ := id C0
  intro n
  induction n with
  | zero =>
    intro x4 x6 x8 r hj
    exact nomatch (show (none : Option (Int64)) = some r from hj)
  | succ n ih =>
    intro x4 x6 x8 r hj H locs ls hP hD hS hl
    replace hj : (if (64 : Int32) ≤ x8 then (some x4) else (if x6 ≤ x4 then (some x4) else ((j_X1_codewordLength fb x1 x2 (x4 + ((x6 - x4) / (2 : Int64)))).bind fun v1103 => (if x3.toInt64 ≤ v1103 then (jL_X1_leastReaching_11 fb x1 x2 x3 n x4 (x4 + ((x6 - x4) / (2 : Int64))) (x8 + (1 : Int32))) else (jL_X1_leastReaching_11 fb x1 x2 x3 n ((x4 + ((x6 - x4) / (2 : Int64))) + (1 : Int64)) x6 (x8 + (1 : Int32))))))) = some r := hj
    refine lv_iload hx hb dX1_leastReaching_11 (lv_at hl 6 rfl) ?_
    refine lv_bipush (v := (64 : Int32)) hx hb dX1_leastReaching_13 (by decide) ?_
    refine lv_icmp_ge (tgt := 73) hx hb dX1_leastReaching_15 (by decide) (fun c1101 => ?_) (fun c1101 => ?_)
    · replace hj := ja_pos c1101 hj
      refine lv_lload hx hb dX1_leastReaching_73 (lv_at hl 4 rfl) ?_
      have hr9 : x4 = r := Option.some.inj hj
      subst hr9
      exact W.lret (v := x4) hx hb hr (fun t ht hW => ⟨⟨x4, (), rfl, rfl, by rw [ht]; exact hP, va_K.moved hW.alike hK, hD⟩, hS.F ht⟩) hS.2.2 dX1_leastReaching_75
    · replace hj := ja_neg c1101 hj
      refine lv_lload hx hb dX1_leastReaching_18 (lv_at hl 4 rfl) ?_
      refine lv_lload hx hb dX1_leastReaching_20 (lv_at hl 5 rfl) ?_
      refine W.lcmp hx hb dX1_leastReaching_22 ?_
      refine lv_if_ge (tgt := 73) hx hb dX1_leastReaching_23 (by decide) (fun c1102 => ?_) (fun c1102 => ?_)
      · replace hj := ja_pos ((lg_cmp_ge x4 x6).mp c1102) hj
        refine lv_lload hx hb dX1_leastReaching_73 (lv_at hl 4 rfl) ?_
        have hr9 : x4 = r := Option.some.inj hj
        subst hr9
        exact W.lret (v := x4) hx hb hr (fun t ht hW => ⟨⟨x4, (), rfl, rfl, by rw [ht]; exact hP, va_K.moved hW.alike hK, hD⟩, hS.F ht⟩) hS.2.2 dX1_leastReaching_75
      · replace hj := ja_neg (fun h9 => c1102 ((lg_cmp_ge x4 x6).mpr h9)) hj
        refine lv_lload hx hb dX1_leastReaching_26 (lv_at hl 4 rfl) ?_
        refine lv_lload hx hb dX1_leastReaching_28 (lv_at hl 5 rfl) ?_
        refine lv_lload hx hb dX1_leastReaching_30 (lv_at hl 4 rfl) ?_
        refine lv_lsub hx hb dX1_leastReaching_32 ?_
        refine lv_ldc2 (v := (2 : Int64)) hx hb hown (hts (.constantLong RX1 27 (2)) (by decide +kernel)) dX1_leastReaching_33 ?_
        refine lv_ldiv hx hb dX1_leastReaching_36 (by decide) ?_
        refine lv_ladd hx hb dX1_leastReaching_37 ?_
        refine lv_lstore (lv' := [(9, .long (x4 + ((x6 - x4) / (2 : Int64)))), (0, .ref b1), (1, .int x1), (2, .int x2), (3, .int x3), (4, .long x4), (6, .long x6), (8, .int x8)]) hx hb dX1_leastReaching_38 hl (by decide) rfl (fun ls hl => ?_)
        refine lv_aload_n hx hb dX1_leastReaching_40 rfl (lv_at hl 1 rfl) ?_
        refine lv_iload_n hx hb dX1_leastReaching_41 rfl (lv_at hl 2 rfl) ?_
        refine lv_iload_n hx hb dX1_leastReaching_42 rfl (lv_at hl 3 rfl) ?_
        refine lv_lload hx hb dX1_leastReaching_43 (lv_at hl 0 rfl) ?_
        obtain ⟨v1103, hc, hj⟩ := ja_bd hj
        try dsimp only at hj
        have hPc := hP.sub (ws' := (wC cJ b1 b0 bw bq bf w en pl cu li ld fb)) [0, 1, 2, 3, 4] rfl
        have hDc := hD.sub (ws' := (wC cJ b1 b0 bw bq bf w en pl cu li ld fb)) [0, 1, 2, 3, 4] (by decide) rfl
        have hFc := va_free (wc := (wC cJ b1 b0 bw bq bf w en pl cu li ld fb)) hD hS hA [0, 1, 2, 3, 4] rfl
        refine va_calll (va_runV (As := [.int x1, .int x2, .long (x4 + ((x6 - x4) / (2 : Int64)))]) (rest := []) ⟨hx, hb, hml, hown, hts⟩ (c_X1_codewordLength l dC dI cI cJ b1 b0 bw bq bf H.size w en pl cu li ld fb x1 x2 (x4 + ((x6 - x4) / (2 : Int64))) _ hc) (cwV 3 hts gX1_leastReaching_X1_codewordLength rfl rfl rfl (by decide +kernel) ⟨Nat.le_of_ble_eq_true rfl, Nat.le_of_ble_eq_true rfl⟩) ⟨fun a U g mk q => ⟨q.1, jPr.blind q.2.1, jNs.blind q.2.2⟩, va_recv hK hPc (ci := 1) (q0 := 0) rfl rfl, fun U hU hW => ⟨rfl, jPr.mk hU hW hPc hK hDc, jNs.warm hW hN⟩⟩ rfl rfl hl.1 rfl (lv_room (Nat.le_of_ble_eq_true rfl)) dX1_leastReaching_45 ⟨Nat.le_of_ble_eq_true rfl, Nat.le_of_ble_eq_true rfl⟩) hS (fun q _ h => hFc q h) hFc (fun rr u t H1 locs ht hvm hw9 hB hz1 hk1 hS => ?_)
        have hw8 : v1103 = rr := hw9.symm
        subst hw8
        obtain ⟨hP1, hK1, hD1⟩ := hB
        rw [ht] at hP1
        obtain ⟨hP, hD⟩ := va_join (wr := ([] : va_W)) (w1 := (wC cJ b1 b0 bw bq bf w en pl cu li ld fb)) hP hD [0, 1, 2, 3, 4] [] rfl rfl (by decide) (by decide) hk1 hFc hP1 hD1
        clear hk1 hP1 hK1 hD1 hvm hz1 hPc hDc hFc
        generalize H1 = H at hP hS ⊢
        have hP : va_P (dC, dI) vwCl (wC cJ b1 b0 bw bq bf w en pl cu li ld fb) H := hP
        have hD : va_D A (wC cJ b1 b0 bw bq bf w en pl cu li ld fb) := hD
        refine lv_iload_n hx hb dX1_leastReaching_48 rfl (lv_at hl 4 rfl) ?_
        refine lv_i2l hx hb dX1_leastReaching_49 rfl ?_
        refine W.lcmp hx hb dX1_leastReaching_50 ?_
        refine lv_if_ge (tgt := 63) hx hb dX1_leastReaching_51 (by decide) (fun c1104 => ?_) (fun c1104 => ?_)
        · replace hj := ja_pos ((lg_cmp_ge v1103 x3.toInt64).mp c1104) hj
          refine lv_lload hx hb dX1_leastReaching_63 (lv_at hl 0 rfl) ?_
          refine lv_lstore (lv' := [(6, .long (x4 + ((x6 - x4) / (2 : Int64)))), (9, .long (x4 + ((x6 - x4) / (2 : Int64)))), (0, .ref b1), (1, .int x1), (2, .int x2), (3, .int x3), (4, .long x4), (8, .int x8)]) hx hb dX1_leastReaching_65 hl (by decide) rfl (fun ls hl => ?_)
          refine lv_iinc (v := x8 + (1 : Int32)) (lv' := [(8, .int (x8 + (1 : Int32))), (6, .long (x4 + ((x6 - x4) / (2 : Int64)))), (9, .long (x4 + ((x6 - x4) / (2 : Int64)))), (0, .ref b1), (1, .int x1), (2, .int x2), (3, .int x3), (4, .long x4)]) hx hb dX1_leastReaching_67 hl (k := 7) rfl (congrArg (fun z => x8 + z) (by decide)) (by decide) rfl (fun ls hl => ?_)
          refine lv_goto (tgt := 11) hx hb dX1_leastReaching_70 (by decide) ?_
          exact ih x4 (x4 + ((x6 - x4) / (2 : Int64))) (x8 + (1 : Int32)) _ hj _ _ _ (hP) (hD) hS (lv_sub hl [3, 4, 5, 6, 7, 1, 0] rfl)
        · replace hj := ja_neg (fun h9 => c1104 ((lg_cmp_ge v1103 x3.toInt64).mpr h9)) hj
          refine lv_lload hx hb dX1_leastReaching_54 (lv_at hl 0 rfl) ?_
          refine lv_lconst (v := (1 : Int64)) hx hb dX1_leastReaching_56 (by decide) ?_
          refine lv_ladd hx hb dX1_leastReaching_57 ?_
          refine lv_lstore (lv' := [(4, .long ((x4 + ((x6 - x4) / (2 : Int64))) + (1 : Int64))), (9, .long (x4 + ((x6 - x4) / (2 : Int64)))), (0, .ref b1), (1, .int x1), (2, .int x2), (3, .int x3), (6, .long x6), (8, .int x8)]) hx hb dX1_leastReaching_58 hl (by decide) rfl (fun ls hl => ?_)
          refine lv_goto (tgt := 67) hx hb dX1_leastReaching_60 (by decide) ?_
          refine lv_iinc (v := x8 + (1 : Int32)) (lv' := [(8, .int (x8 + (1 : Int32))), (4, .long ((x4 + ((x6 - x4) / (2 : Int64))) + (1 : Int64))), (9, .long (x4 + ((x6 - x4) / (2 : Int64)))), (0, .ref b1), (1, .int x1), (2, .int x2), (3, .int x3), (6, .long x6)]) hx hb dX1_leastReaching_67 hl (k := 7) rfl (congrArg (fun z => x8 + z) (by decide)) (by decide) rfl (fun ls hl => ?_)
          refine lv_goto (tgt := 11) hx hb dX1_leastReaching_70 (by decide) ?_
          exact ih ((x4 + ((x6 - x4) / (2 : Int64))) + (1 : Int64)) x6 (x8 + (1 : Int32)) _ hj _ _ _ (hP) (hD) hS (lv_sub hl [3, 4, 5, 6, 1, 7, 0] rfl)
def j_X1_leastReaching (fb : Nat → Int64) (a1 : Int32) (a2 : Int32) (a3 : Int32) : Option (Int64) :=
  jL_X1_leastReaching_11 fb a1 a2 a3 jF (1 : Int64) (4611686018427387905 : Int64) (0 : Int32)
set_option maxHeartbeats 4000000 in
set_option maxRecDepth 100000 in
theorem c_X1_leastReaching (l : Launch) (dC : Nat → ClassId) (dI : Nat → Nat → Nat) (cI cJ : ClassId) (b1 : Nat) (b0 : Nat) (bw : Nat) (bq : Nat) (bf : Nat) (sz : Nat) (w : Nat → Int64) (en : Int32) (pl : Int32) (cu : Int32) (li : Nat → Int64) (ld : Int32) (fb : Nat → Int64) (a1 : Int32) (a2 : Int32) (a3 : Int32) (r : Int64) (hj : j_X1_leastReaching fb a1 a2 a3 = some r) : Met l yX1_leastReaching wsX1_leastReaching ({ frames := 6, cells := 0, slots := 0, locals := 135 } : Room) (va_Pc [.ref b1, .int a1, .int a2, .int a3] (fun U => jPr dC dI cI cJ (wC cJ b1 b0 bw bq bf w en pl cu li ld fb) sz U ∧ jNs U)) (va_Ql (fun (v : Int64) (_ : Unit) => v = r) (fun (_ : Unit) t => jPo dC dI cI cJ (wC cJ b1 b0 bw bq bf w en pl cu li ld fb) (va_A (wC cJ b1 b0 bw bq bf w en pl cu li ld fb) sz) t) (va_A (wC cJ b1 b0 bw bq bf w en pl cu li ld fb) sz)) 0 0 (va_A (wC cJ b1 b0 bw bq bf w en pl cu li ld fb) sz) := by
  refine Met.ofW (cc := cX1_leastReaching) (maxL := 11) (ret := (some .long)) (by decide) rfl ?_
  intro p e s m args below meth c s₁ B hml hv
  obtain ⟨rfl, ⟨hsz, hP, hK, hD0⟩, hN⟩ := hv
  have hx := B.exec
  have hb := B.bytes
  have hr := B.returns
  have hts := atoms_spec (ws := wsX1_leastReaching) B.pre
  have hown : s.vm.findClass RX1 = some m.cls := findClass_of_methodNamed B.named
  have hlocks := B.notSynchronized
  have C0 := jCx.of hx hb hr hml hown hts hlocks
  subst hsz
  have hD := hD0.self (sz := s.heap.size)
  generalize hAe : va_A (wC cJ b1 b0 bw bq bf w en pl cu li ld fb) s.heap.size = A at hD ⊢
  have hA : ∀ q : Nat, s.heap.size ≤ q → A q := fun q h => by rw [← hAe]; exact Or.inr h
  have hS : va_S A s.heap s.heap [] := va_S.rf
  have hP : va_P (dC, dI) vwCl (wC cJ b1 b0 bw bq bf w en pl cu li ld fb) s.heap := hP
  have hl := lv_entry ([.ref b1, .int a1, .int a2, .int a3]) (n := 11) (Nat.le_of_ble_eq_true rfl)
  rw [lg_entry_eq]
  generalize (lg_sl ([.ref b1, .int a1, .int a2, .int a3]) ++ List.replicate (11 - (lg_sl ([.ref b1, .int a1, .int a2, .int a3])).length) Slot.unset).toArray = ls at hl ⊢
  have hl : lv_has ls 11 [(0, .ref b1), (1, .int a1), (2, .int a2), (3, .int a3)] := hl
  clear hD0 hAe
  unfold j_X1_leastReaching at hj
  refine lv_lconst (v := (1 : Int64)) hx hb dX1_leastReaching_0 (by decide) ?_
  refine lv_lstore (lv' := [(4, .long (1 : Int64)), (0, .ref b1), (1, .int a1), (2, .int a2), (3, .int a3)]) hx hb dX1_leastReaching_1 hl (by decide) rfl (fun ls hl => ?_)
  refine lv_ldc2 (v := (4611686018427387905 : Int64)) hx hb hown (hts (.constantLong RX1 161 (4611686018427387905)) (by decide +kernel)) dX1_leastReaching_3 ?_
  refine lv_lstore (lv' := [(6, .long (4611686018427387905 : Int64)), (4, .long (1 : Int64)), (0, .ref b1), (1, .int a1), (2, .int a2), (3, .int a3)]) hx hb dX1_leastReaching_6 hl (by decide) rfl (fun ls hl => ?_)
  refine lv_iconst (v := (0 : Int32)) hx hb dX1_leastReaching_8 (by decide) ?_
  refine lv_istore (lv' := [(8, .int (0 : Int32)), (6, .long (4611686018427387905 : Int64)), (4, .long (1 : Int64)), (0, .ref b1), (1, .int a1), (2, .int a2), (3, .int a3)]) hx hb dX1_leastReaching_9 hl (by decide) rfl (fun ls hl => ?_)
  exact s_X1_leastReaching_11 C0 hK hA hN b1 b0 bw bq bf w en pl cu li ld fb a1 a2 a3 jF (1 : Int64) (4611686018427387905 : Int64) (0 : Int32) _ hj _ _ _ (hP) (hD) hS (lv_sub hl [3, 4, 5, 6, 2, 1, 0] rfl)

set_option maxRecDepth 100000 in
theorem inn_X1_listLength_X1 : ∀ w ∈ u_ws RX1 TX1 4, w ∈ wsX1_listLength := by decide +kernel
def jL_X1_listLength_5 (li : Nat → Int64) (ld : Int32) (fb : Nat → Int64) (x1 : Int32) (x2 : Int32) : Nat → Int64 → Int32 → Option (Int64)
  | 0, _, _ => none
  | n + 1, x3, x5 => if ld ≤ x5 then (some x3) else (jix x5 100 ((j_X1_codewordLength fb x1 x2 (li x5.toNatClampNeg)).bind fun v502 => (if v502 ≤ ((4611686018427387904 : Int64) - x3) then (jL_X1_listLength_5 li ld fb x1 x2 n (x3 + v502) (x5 + (1 : Int32))) else (some (4611686018427387904 : Int64)))))
set_option maxHeartbeats 4000000 in
set_option maxRecDepth 100000 in
theorem s_X1_listLength_5 {p : Program} {l : Launch} {e : Env} {s : State} {m : MethodId} {args : Array Value} {below : List Frame} {meth : Method} {c : Code} {dC : Nat → ClassId} {dI : Nat → Nat → Nat} {cI cJ : ClassId} {A : Nat → Prop} (C0 : jCx p s m args meth c RX1 cX1_listLength 8 (some .long) wsX1_listLength) (hK : va_K (dC, dI) vwCl (jTy cI cJ) s) (hA : ∀ q : Nat, s.heap.size ≤ q → A q) (hN : jNs s) (b1 : Nat) (b0 : Nat) (bw : Nat) (bq : Nat) (bf : Nat) (w : Nat → Int64) (en : Int32) (pl : Int32) (cu : Int32) (li : Nat → Int64) (ld : Int32) (fb : Nat → Int64) (x1 : Int32) (x2 : Int32) :
    ∀ (n : Nat) (x3 : Int64) (x5 : Int32) (r : Int64), jL_X1_listLength_5 li ld fb x1 x2 n x3 x5 = some r → ∀ (H : Heap) (locs : List Loc) (ls : Array Slot), va_P (dC, dI) vwCl (wC cJ b1 b0 bw bq bf w en pl cu li ld fb) H → va_D A (wC cJ b1 b0 bw bq bf w en pl cu li ld fb) → va_S A s.heap H locs → lv_has ls 8 [(0, .ref b1), (1, .int x1), (2, .int x2), (3, .long x3), (5, .int x5)] → W p l e ({ frames := 6, cells := 0, slots := 0, locals := 135 } : Room) s m args below meth c H locs 0 0 (MQ below (va_Ql (fun (v : Int64) (_ : Unit) => v = r) (fun (_ : Unit) t => jPo dC dI cI cJ (wC cJ b1 b0 bw bq bf w en pl cu li ld fb) A t) A) args s 0 0 A) (F0 m 5 ls []) := by
  obtain ⟨hx, hb, hr, hml, hown, hts, hlocks⟩ := id C0
  intro n
  induction n with
  | zero =>
    intro x3 x5 r hj
    exact nomatch (show (none : Option (Int64)) = some r from hj)
  | succ n ih =>
    intro x3 x5 r hj H locs ls hP hD hS hl
    replace hj : (if ld ≤ x5 then (some x3) else (jix x5 100 ((j_X1_codewordLength fb x1 x2 (li x5.toNatClampNeg)).bind fun v502 => (if v502 ≤ ((4611686018427387904 : Int64) - x3) then (jL_X1_listLength_5 li ld fb x1 x2 n (x3 + v502) (x5 + (1 : Int32))) else (some (4611686018427387904 : Int64)))))) = some r := hj
    refine lv_iload hx hb dX1_listLength_5 (lv_at hl 4 rfl) ?_
    refine lv_aload_n hx hb dX1_listLength_7 rfl (lv_at hl 0 rfl) ?_
    refine va_get (D := (dC, dI)) (ci := 1) (v := .int ld) (C := RX1) (T := TX1) (N := 4) hx hb hts inn_X1_listLength_X1 hown hK hP 0 rfl rfl 3 (by decide) (hts (.fieldLink RX1 20 "SelfEndingCodes" "listed" "I") (by decide +kernel)) (fun _ h9 => h9) rfl dX1_listLength_8 ?_
    refine lv_icmp_ge (tgt := 55) hx hb dX1_listLength_11 (by decide) (fun c501 => ?_) (fun c501 => ?_)
    · replace hj := ja_pos c501 hj
      refine lv_lload_n hx hb dX1_listLength_55 rfl (lv_at hl 3 rfl) ?_
      have hr9 : x3 = r := Option.some.inj hj
      subst hr9
      exact W.lret (v := x3) hx hb hr (fun t ht hW => ⟨⟨x3, (), rfl, rfl, by rw [ht]; exact hP, va_K.moved hW.alike hK, hD⟩, hS.F ht⟩) hS.2.2 dX1_listLength_56
    · replace hj := ja_neg c501 hj
      refine lv_aload_n hx hb dX1_listLength_14 rfl (lv_at hl 0 rfl) ?_
      refine lv_iload_n hx hb dX1_listLength_15 rfl (lv_at hl 1 rfl) ?_
      refine lv_iload_n hx hb dX1_listLength_16 rfl (lv_at hl 2 rfl) ?_
      refine lv_aload_n hx hb dX1_listLength_17 rfl (lv_at hl 0 rfl) ?_
      refine va_get (D := (dC, dI)) (ci := 1) (v := .ref bq) (C := RX1) (T := TX1) (N := 4) hx hb hts inn_X1_listLength_X1 hown hK hP 0 rfl rfl 1 (by decide) (hts (.fieldLink RX1 16 "SelfEndingCodes" "list" "[J") (by decide +kernel)) (fun _ h9 => h9) rfl dX1_listLength_18 ?_
      refine lv_iload hx hb dX1_listLength_21 (lv_at hl 4 rfl) ?_
      obtain ⟨hin, hj⟩ := ja_ix hj
      refine va_lald hx hb hK hP 3 1 rfl rfl hin dX1_listLength_23 ?_
      obtain ⟨v502, hc, hj⟩ := ja_bd hj
      try dsimp only at hj
      have hPc := hP.sub (ws' := (wC cJ b1 b0 bw bq bf w en pl cu li ld fb)) [0, 1, 2, 3, 4] rfl
      have hDc := hD.sub (ws' := (wC cJ b1 b0 bw bq bf w en pl cu li ld fb)) [0, 1, 2, 3, 4] (by decide) rfl
      have hFc := va_free (wc := (wC cJ b1 b0 bw bq bf w en pl cu li ld fb)) hD hS hA [0, 1, 2, 3, 4] rfl
      refine va_calll (va_runV (As := [.int x1, .int x2, .long (li x5.toNatClampNeg)]) (rest := []) ⟨hx, hb, hml, hown, hts⟩ (c_X1_codewordLength l dC dI cI cJ b1 b0 bw bq bf H.size w en pl cu li ld fb x1 x2 (li x5.toNatClampNeg) _ hc) (cwV 3 hts gX1_listLength_X1_codewordLength rfl rfl rfl (by decide +kernel) ⟨Nat.le_of_ble_eq_true rfl, Nat.le_of_ble_eq_true rfl⟩) ⟨fun a U g mk q => ⟨q.1, jPr.blind q.2.1, jNs.blind q.2.2⟩, va_recv hK hPc (ci := 1) (q0 := 0) rfl rfl, fun U hU hW => ⟨rfl, jPr.mk hU hW hPc hK hDc, jNs.warm hW hN⟩⟩ rfl rfl hl.1 rfl (lv_room (Nat.le_of_ble_eq_true rfl)) dX1_listLength_24 ⟨Nat.le_of_ble_eq_true rfl, Nat.le_of_ble_eq_true rfl⟩) hS (fun q _ h => hFc q h) hFc (fun rr u t H1 locs ht hvm hw9 hB hz1 hk1 hS => ?_)
      have hw8 : v502 = rr := hw9.symm
      subst hw8
      obtain ⟨hP1, hK1, hD1⟩ := hB
      rw [ht] at hP1
      obtain ⟨hP, hD⟩ := va_join (wr := ([] : va_W)) (w1 := (wC cJ b1 b0 bw bq bf w en pl cu li ld fb)) hP hD [0, 1, 2, 3, 4] [] rfl rfl (by decide) (by decide) hk1 hFc hP1 hD1
      clear hk1 hP1 hK1 hD1 hvm hz1 hPc hDc hFc
      generalize H1 = H at hP hS ⊢
      have hP : va_P (dC, dI) vwCl (wC cJ b1 b0 bw bq bf w en pl cu li ld fb) H := hP
      have hD : va_D A (wC cJ b1 b0 bw bq bf w en pl cu li ld fb) := hD
      refine lv_lstore (lv' := [(6, .long v502), (0, .ref b1), (1, .int x1), (2, .int x2), (3, .long x3), (5, .int x5)]) hx hb dX1_listLength_27 hl (by decide) rfl (fun ls hl => ?_)
      refine lv_lload hx hb dX1_listLength_29 (lv_at hl 0 rfl) ?_
      refine lv_ldc2 (v := (4611686018427387904 : Int64)) hx hb hown (hts (.constantLong RX1 106 (4611686018427387904)) (by decide +kernel)) dX1_listLength_31 ?_
      refine lv_lload_n hx hb dX1_listLength_34 rfl (lv_at hl 4 rfl) ?_
      refine lv_lsub hx hb dX1_listLength_35 ?_
      refine W.lcmp hx hb dX1_listLength_36 ?_
      refine lv_if_le (tgt := 44) hx hb dX1_listLength_37 (by decide) (fun c503 => ?_) (fun c503 => ?_)
      · replace hj := ja_pos ((lg_cmp_le v502 ((4611686018427387904 : Int64) - x3)).mp c503) hj
        refine lv_lload_n hx hb dX1_listLength_44 rfl (lv_at hl 4 rfl) ?_
        refine lv_lload hx hb dX1_listLength_45 (lv_at hl 0 rfl) ?_
        refine lv_ladd hx hb dX1_listLength_47 ?_
        refine lv_lstore_n (lv' := [(3, .long (x3 + v502)), (6, .long v502), (0, .ref b1), (1, .int x1), (2, .int x2), (5, .int x5)]) hx hb dX1_listLength_48 rfl hl (by decide) rfl (fun ls hl => ?_)
        refine lv_iinc (v := x5 + (1 : Int32)) (lv' := [(5, .int (x5 + (1 : Int32))), (3, .long (x3 + v502)), (6, .long v502), (0, .ref b1), (1, .int x1), (2, .int x2)]) hx hb dX1_listLength_49 hl (k := 5) rfl (congrArg (fun z => x5 + z) (by decide)) (by decide) rfl (fun ls hl => ?_)
        refine lv_goto (tgt := 5) hx hb dX1_listLength_52 (by decide) ?_
        exact ih (x3 + v502) (x5 + (1 : Int32)) _ hj _ _ _ (hP) (hD) hS (lv_sub hl [3, 4, 5, 1, 0] rfl)
      · replace hj := ja_neg (fun h9 => c503 ((lg_cmp_le v502 ((4611686018427387904 : Int64) - x3)).mpr h9)) hj
        refine lv_ldc2 (v := (4611686018427387904 : Int64)) hx hb hown (hts (.constantLong RX1 106 (4611686018427387904)) (by decide +kernel)) dX1_listLength_40 ?_
        have hr9 : (4611686018427387904 : Int64) = r := Option.some.inj hj
        subst hr9
        exact W.lret (v := (4611686018427387904 : Int64)) hx hb hr (fun t ht hW => ⟨⟨(4611686018427387904 : Int64), (), rfl, rfl, by rw [ht]; exact hP, va_K.moved hW.alike hK, hD⟩, hS.F ht⟩) hS.2.2 dX1_listLength_43
def j_X1_listLength (li : Nat → Int64) (ld : Int32) (fb : Nat → Int64) (a1 : Int32) (a2 : Int32) : Option (Int64) :=
  jL_X1_listLength_5 li ld fb a1 a2 jF (0 : Int64) (0 : Int32)
set_option maxHeartbeats 4000000 in
set_option maxRecDepth 100000 in
theorem c_X1_listLength (l : Launch) (dC : Nat → ClassId) (dI : Nat → Nat → Nat) (cI cJ : ClassId) (b1 : Nat) (b0 : Nat) (bw : Nat) (bq : Nat) (bf : Nat) (sz : Nat) (w : Nat → Int64) (en : Int32) (pl : Int32) (cu : Int32) (li : Nat → Int64) (ld : Int32) (fb : Nat → Int64) (a1 : Int32) (a2 : Int32) (r : Int64) (hj : j_X1_listLength li ld fb a1 a2 = some r) : Met l yX1_listLength wsX1_listLength ({ frames := 6, cells := 0, slots := 0, locals := 135 } : Room) (va_Pc [.ref b1, .int a1, .int a2] (fun U => jPr dC dI cI cJ (wC cJ b1 b0 bw bq bf w en pl cu li ld fb) sz U ∧ jNs U)) (va_Ql (fun (v : Int64) (_ : Unit) => v = r) (fun (_ : Unit) t => jPo dC dI cI cJ (wC cJ b1 b0 bw bq bf w en pl cu li ld fb) (va_A (wC cJ b1 b0 bw bq bf w en pl cu li ld fb) sz) t) (va_A (wC cJ b1 b0 bw bq bf w en pl cu li ld fb) sz)) 0 0 (va_A (wC cJ b1 b0 bw bq bf w en pl cu li ld fb) sz) := by
  refine Met.ofW (cc := cX1_listLength) (maxL := 8) (ret := (some .long)) (by decide) rfl ?_
  intro p e s m args below meth c s₁ B hml hv
  obtain ⟨rfl, ⟨hsz, hP, hK, hD0⟩, hN⟩ := hv
  have hx := B.exec
  have hb := B.bytes
  have hr := B.returns
  have hts := atoms_spec (ws := wsX1_listLength) B.pre
  have hown : s.vm.findClass RX1 = some m.cls := findClass_of_methodNamed B.named
  have hlocks := B.notSynchronized
  have C0 := jCx.of hx hb hr hml hown hts hlocks
  subst hsz
  have hD := hD0.self (sz := s.heap.size)
  generalize hAe : va_A (wC cJ b1 b0 bw bq bf w en pl cu li ld fb) s.heap.size = A at hD ⊢
  have hA : ∀ q : Nat, s.heap.size ≤ q → A q := fun q h => by rw [← hAe]; exact Or.inr h
  have hS : va_S A s.heap s.heap [] := va_S.rf
  have hP : va_P (dC, dI) vwCl (wC cJ b1 b0 bw bq bf w en pl cu li ld fb) s.heap := hP
  have hl := lv_entry ([.ref b1, .int a1, .int a2]) (n := 8) (Nat.le_of_ble_eq_true rfl)
  rw [lg_entry_eq]
  generalize (lg_sl ([.ref b1, .int a1, .int a2]) ++ List.replicate (8 - (lg_sl ([.ref b1, .int a1, .int a2])).length) Slot.unset).toArray = ls at hl ⊢
  have hl : lv_has ls 8 [(0, .ref b1), (1, .int a1), (2, .int a2)] := hl
  clear hD0 hAe
  unfold j_X1_listLength at hj
  refine lv_lconst (v := (0 : Int64)) hx hb dX1_listLength_0 (by decide) ?_
  refine lv_lstore_n (lv' := [(3, .long (0 : Int64)), (0, .ref b1), (1, .int a1), (2, .int a2)]) hx hb dX1_listLength_1 rfl hl (by decide) rfl (fun ls hl => ?_)
  refine lv_iconst (v := (0 : Int32)) hx hb dX1_listLength_2 (by decide) ?_
  refine lv_istore (lv' := [(5, .int (0 : Int32)), (3, .long (0 : Int64)), (0, .ref b1), (1, .int a1), (2, .int a2)]) hx hb dX1_listLength_3 hl (by decide) rfl (fun ls hl => ?_)
  exact s_X1_listLength_5 C0 hK hA hN b1 b0 bw bq bf w en pl cu li ld fb a1 a2 jF (0 : Int64) (0 : Int32) _ hj _ _ _ (hP) (hD) hS (lv_sub hl [2, 3, 4, 1, 0] rfl)

set_option maxRecDepth 100000 in
theorem inn_X1_bits_X1 : ∀ w ∈ u_ws RX1 TX1 4, w ∈ wsX1_bits := by decide +kernel
def jL_X1_bits_5 (w : Nat → Int64) (en : Int32) (x1 : Int32) : Nat → Int64 → Int32 → Option (Int64)
  | 0, _, _ => none
  | n + 1, x2, x4 => if (64 : Int32) ≤ x4 then (some x2) else ((j_X0_bitAt w en (x1.toInt64 + x4.toInt64)).bind fun v502 => (jL_X1_bits_5 w en x1 n ((x2 <<< ((1 : Int32).toInt64 &&& 63)) ||| v502.toInt64) (x4 + (1 : Int32))))
set_option maxHeartbeats 4000000 in
set_option maxRecDepth 100000 in
theorem s_X1_bits_5 {p : Program} {l : Launch} {e : Env} {s : State} {m : MethodId} {args : Array Value} {below : List Frame} {meth : Method} {c : Code} {dC : Nat → ClassId} {dI : Nat → Nat → Nat} {cI cJ : ClassId} {A : Nat → Prop} (C0 : jCx p s m args meth c RX1 cX1_bits 5 (some .long) wsX1_bits) (hK : va_K (dC, dI) vwCl (jTy cI cJ) s) (hA : ∀ q : Nat, s.heap.size ≤ q → A q) (hN : jNs s) (b1 : Nat) (b0 : Nat) (bw : Nat) (bq : Nat) (bf : Nat) (w : Nat → Int64) (en : Int32) (pl : Int32) (cu : Int32) (li : Nat → Int64) (ld : Int32) (fb : Nat → Int64) (x1 : Int32) :
    ∀ (n : Nat) (x2 : Int64) (x4 : Int32) (r : Int64), jL_X1_bits_5 w en x1 n x2 x4 = some r → ∀ (H : Heap) (locs : List Loc) (ls : Array Slot), va_P (dC, dI) vwCl (wC cJ b1 b0 bw bq bf w en pl cu li ld fb) H → va_D A (wC cJ b1 b0 bw bq bf w en pl cu li ld fb) → va_S A s.heap H locs → lv_has ls 5 [(0, .ref b1), (1, .int x1), (2, .long x2), (4, .int x4)] → W p l e ({ frames := 1, cells := 0, slots := 0, locals := 22 } : Room) s m args below meth c H locs 0 0 (MQ below (va_Ql (fun (v : Int64) (_ : Unit) => v = r) (fun (_ : Unit) t => jPo dC dI cI cJ (wC cJ b1 b0 bw bq bf w en pl cu li ld fb) A t) A) args s 0 0 A) (F0 m 5 ls []) := by
  obtain ⟨hx, hb, hr, hml, hown, hts, hlocks⟩ := id C0
  intro n
  induction n with
  | zero =>
    intro x2 x4 r hj
    exact nomatch (show (none : Option (Int64)) = some r from hj)
  | succ n ih =>
    intro x2 x4 r hj H locs ls hP hD hS hl
    replace hj : (if (64 : Int32) ≤ x4 then (some x2) else ((j_X0_bitAt w en (x1.toInt64 + x4.toInt64)).bind fun v502 => (jL_X1_bits_5 w en x1 n ((x2 <<< ((1 : Int32).toInt64 &&& 63)) ||| v502.toInt64) (x4 + (1 : Int32))))) = some r := hj
    refine lv_iload hx hb dX1_bits_5 (lv_at hl 3 rfl) ?_
    refine lv_bipush (v := (64 : Int32)) hx hb dX1_bits_7 (by decide) ?_
    refine lv_icmp_ge (tgt := 37) hx hb dX1_bits_9 (by decide) (fun c501 => ?_) (fun c501 => ?_)
    · replace hj := ja_pos c501 hj
      refine lv_lload_n hx hb dX1_bits_37 rfl (lv_at hl 2 rfl) ?_
      have hr9 : x2 = r := Option.some.inj hj
      subst hr9
      exact W.lret (v := x2) hx hb hr (fun t ht hW => ⟨⟨x2, (), rfl, rfl, by rw [ht]; exact hP, va_K.moved hW.alike hK, hD⟩, hS.F ht⟩) hS.2.2 dX1_bits_38
    · replace hj := ja_neg c501 hj
      refine lv_lload_n hx hb dX1_bits_12 rfl (lv_at hl 2 rfl) ?_
      refine lv_iconst (v := (1 : Int32)) hx hb dX1_bits_13 (by decide) ?_
      refine lv_lshl hx hb dX1_bits_14 rfl ?_
      refine lv_aload_n hx hb dX1_bits_15 rfl (lv_at hl 0 rfl) ?_
      refine va_get (D := (dC, dI)) (ci := 1) (v := .ref b0) (C := RX1) (T := TX1) (N := 4) hx hb hts inn_X1_bits_X1 hown hK hP 0 rfl rfl 0 (by decide) (hts (.fieldLink RX1 12 "SelfEndingCodes" "row" "LSelfEndingCodes$BitRow;") (by decide +kernel)) (fun _ h9 => h9) rfl dX1_bits_16 ?_
      refine lv_iload_n hx hb dX1_bits_19 rfl (lv_at hl 1 rfl) ?_
      refine lv_i2l hx hb dX1_bits_20 rfl ?_
      refine lv_iload hx hb dX1_bits_21 (lv_at hl 3 rfl) ?_
      refine lv_i2l hx hb dX1_bits_23 rfl ?_
      refine lv_ladd hx hb dX1_bits_24 ?_
      obtain ⟨v502, hc, hj⟩ := ja_bd hj
      try dsimp only at hj
      have hPc := hP.sub (ws' := (wB cJ b0 bw w en pl cu)) [1, 2] rfl
      have hDc := hD.sub (ws' := (wB cJ b0 bw w en pl cu)) [1, 2] (by decide) rfl
      have hFc := va_free (wc := (wB cJ b0 bw w en pl cu)) hD hS hA [1, 2] rfl
      refine va_calli (va_runV (As := [.long (x1.toInt64 + x4.toInt64)]) (rest := [.long (x2 <<< ((1 : Int32).toInt64 &&& 63))]) ⟨hx, hb, hml, hown, hts⟩ (c_X0_bitAt l dC dI cI cJ b0 bw H.size w en pl cu (x1.toInt64 + x4.toInt64) _ hc) (cwV 1 hts gX1_bits_X0_bitAt rfl rfl rfl (by decide +kernel) ⟨Nat.le_of_ble_eq_true rfl, Nat.le_of_ble_eq_true rfl⟩) ⟨fun a U g mk q => ⟨q.1, jPr.blind q.2⟩, va_recv hK hPc (ci := 0) (q0 := 0) rfl rfl, fun U hU hW => ⟨rfl, jPr.mk hU hW hPc hK hDc⟩⟩ rfl rfl hl.1 rfl (lv_room (Nat.le_of_ble_eq_true rfl)) dX1_bits_25 ⟨Nat.le_of_ble_eq_true rfl, Nat.le_of_ble_eq_true rfl⟩) hS (fun q _ h => hFc q h) hFc (fun rr u t H1 locs ht hvm hw9 hB hz1 hk1 hS => ?_)
      have hw8 : v502 = rr := hw9.symm
      subst hw8
      obtain ⟨hP1, hK1, hD1⟩ := hB
      rw [ht] at hP1
      obtain ⟨hP, hD⟩ := va_join (wr := ([(b1, .inr (1, [.ref b0, .ref bq, .ref bf, .int ld])), (bq, .inl (cJ, 100, .inr (.inl li))), (bf, .inl (cJ, 89, .inr (.inl fb)))] : va_W)) (w1 := (wB cJ b0 bw w en pl cu)) hP hD [1, 2] [0, 3, 4] rfl rfl (by decide) (by decide) hk1 hFc hP1 hD1
      replace hP := hP.sub (ws' := (wC cJ b1 b0 bw bq bf w en pl cu li ld fb)) [0, 3, 4, 1, 2] rfl
      replace hD := hD.sub (ws' := (wC cJ b1 b0 bw bq bf w en pl cu li ld fb)) [0, 3, 4, 1, 2] (by decide) rfl
      clear hk1 hP1 hK1 hD1 hvm hz1 hPc hDc hFc
      generalize H1 = H at hP hS ⊢
      have hP : va_P (dC, dI) vwCl (wC cJ b1 b0 bw bq bf w en pl cu li ld fb) H := hP
      have hD : va_D A (wC cJ b1 b0 bw bq bf w en pl cu li ld fb) := hD
      refine lv_i2l hx hb dX1_bits_28 rfl ?_
      refine lv_lor hx hb dX1_bits_29 ?_
      refine lv_lstore_n (lv' := [(2, .long ((x2 <<< ((1 : Int32).toInt64 &&& 63)) ||| v502.toInt64)), (0, .ref b1), (1, .int x1), (4, .int x4)]) hx hb dX1_bits_30 rfl hl (by decide) rfl (fun ls hl => ?_)
      refine lv_iinc (v := x4 + (1 : Int32)) (lv' := [(4, .int (x4 + (1 : Int32))), (2, .long ((x2 <<< ((1 : Int32).toInt64 &&& 63)) ||| v502.toInt64)), (0, .ref b1), (1, .int x1)]) hx hb dX1_bits_31 hl (k := 3) rfl (congrArg (fun z => x4 + z) (by decide)) (by decide) rfl (fun ls hl => ?_)
      refine lv_goto (tgt := 5) hx hb dX1_bits_34 (by decide) ?_
      exact ih ((x2 <<< ((1 : Int32).toInt64 &&& 63)) ||| v502.toInt64) (x4 + (1 : Int32)) _ hj _ _ _ (hP) (hD) hS (lv_sub hl [2, 3, 1, 0] rfl)
def j_X1_bits (w : Nat → Int64) (en : Int32) (a1 : Int32) : Option (Int64) :=
  jL_X1_bits_5 w en a1 jF (0 : Int64) (0 : Int32)
set_option maxHeartbeats 4000000 in
set_option maxRecDepth 100000 in
theorem c_X1_bits (l : Launch) (dC : Nat → ClassId) (dI : Nat → Nat → Nat) (cI cJ : ClassId) (b1 : Nat) (b0 : Nat) (bw : Nat) (bq : Nat) (bf : Nat) (sz : Nat) (w : Nat → Int64) (en : Int32) (pl : Int32) (cu : Int32) (li : Nat → Int64) (ld : Int32) (fb : Nat → Int64) (a1 : Int32) (r : Int64) (hj : j_X1_bits w en a1 = some r) : Met l yX1_bits wsX1_bits ({ frames := 1, cells := 0, slots := 0, locals := 22 } : Room) (va_Pc [.ref b1, .int a1] (fun U => jPr dC dI cI cJ (wC cJ b1 b0 bw bq bf w en pl cu li ld fb) sz U ∧ jNs U)) (va_Ql (fun (v : Int64) (_ : Unit) => v = r) (fun (_ : Unit) t => jPo dC dI cI cJ (wC cJ b1 b0 bw bq bf w en pl cu li ld fb) (va_A (wC cJ b1 b0 bw bq bf w en pl cu li ld fb) sz) t) (va_A (wC cJ b1 b0 bw bq bf w en pl cu li ld fb) sz)) 0 0 (va_A (wC cJ b1 b0 bw bq bf w en pl cu li ld fb) sz) := by
  refine Met.ofW (cc := cX1_bits) (maxL := 5) (ret := (some .long)) (by decide) rfl ?_
  intro p e s m args below meth c s₁ B hml hv
  obtain ⟨rfl, ⟨hsz, hP, hK, hD0⟩, hN⟩ := hv
  have hx := B.exec
  have hb := B.bytes
  have hr := B.returns
  have hts := atoms_spec (ws := wsX1_bits) B.pre
  have hown : s.vm.findClass RX1 = some m.cls := findClass_of_methodNamed B.named
  have hlocks := B.notSynchronized
  have C0 := jCx.of hx hb hr hml hown hts hlocks
  subst hsz
  have hD := hD0.self (sz := s.heap.size)
  generalize hAe : va_A (wC cJ b1 b0 bw bq bf w en pl cu li ld fb) s.heap.size = A at hD ⊢
  have hA : ∀ q : Nat, s.heap.size ≤ q → A q := fun q h => by rw [← hAe]; exact Or.inr h
  have hS : va_S A s.heap s.heap [] := va_S.rf
  have hP : va_P (dC, dI) vwCl (wC cJ b1 b0 bw bq bf w en pl cu li ld fb) s.heap := hP
  have hl := lv_entry ([.ref b1, .int a1]) (n := 5) (Nat.le_of_ble_eq_true rfl)
  rw [lg_entry_eq]
  generalize (lg_sl ([.ref b1, .int a1]) ++ List.replicate (5 - (lg_sl ([.ref b1, .int a1])).length) Slot.unset).toArray = ls at hl ⊢
  have hl : lv_has ls 5 [(0, .ref b1), (1, .int a1)] := hl
  clear hD0 hAe
  unfold j_X1_bits at hj
  refine lv_lconst (v := (0 : Int64)) hx hb dX1_bits_0 (by decide) ?_
  refine lv_lstore_n (lv' := [(2, .long (0 : Int64)), (0, .ref b1), (1, .int a1)]) hx hb dX1_bits_1 rfl hl (by decide) rfl (fun ls hl => ?_)
  refine lv_iconst (v := (0 : Int32)) hx hb dX1_bits_2 (by decide) ?_
  refine lv_istore (lv' := [(4, .int (0 : Int32)), (2, .long (0 : Int64)), (0, .ref b1), (1, .int a1)]) hx hb dX1_bits_3 hl (by decide) rfl (fun ls hl => ?_)
  exact s_X1_bits_5 C0 hK hA hN b1 b0 bw bq bf w en pl cu li ld fb a1 jF (0 : Int64) (0 : Int32) _ hj _ _ _ (hP) (hD) hS (lv_sub hl [2, 3, 1, 0] rfl)

set_option maxRecDepth 100000 in
theorem inn_X1_clear_X1 : ∀ w ∈ u_ws RX1 TX1 4, w ∈ wsX1_clear := by decide +kernel
def j_X1_clear (ld : Int32) : Option (Int32 × Int32) :=
  some (ld, (0 : Int32))
set_option maxHeartbeats 4000000 in
set_option maxRecDepth 100000 in
theorem c_X1_clear (l : Launch) (dC : Nat → ClassId) (dI : Nat → Nat → Nat) (cI cJ : ClassId) (b1 : Nat) (b0 : Nat) (bw : Nat) (bq : Nat) (bf : Nat) (sz : Nat) (w : Nat → Int64) (en : Int32) (pl : Int32) (cu : Int32) (li : Nat → Int64) (ld : Int32) (fb : Nat → Int64) (r : Int32 × Int32) (hj : j_X1_clear ld = some r) : Met l yX1_clear wsX1_clear ({ frames := 0, cells := 0, slots := 0, locals := 0 } : Room) (va_Pc [.ref b1] (fun U => jPr dC dI cI cJ (wC cJ b1 b0 bw bq bf w en pl cu li ld fb) sz U ∧ jNs U)) (va_Qi (fun (v : Int32) (_ : Unit) => v = r.1) (fun (_ : Unit) t => jPo dC dI cI cJ (wC cJ b1 b0 bw bq bf w en pl cu li r.2 fb) (va_A (wC cJ b1 b0 bw bq bf w en pl cu li ld fb) sz) t) (va_A (wC cJ b1 b0 bw bq bf w en pl cu li ld fb) sz)) 0 0 (va_A (wC cJ b1 b0 bw bq bf w en pl cu li ld fb) sz) := by
  refine Met.ofW (cc := cX1_clear) (maxL := 2) (ret := (some .int)) (by decide) rfl ?_
  intro p e s m args below meth c s₁ B hml hv
  obtain ⟨rfl, ⟨hsz, hP, hK, hD0⟩, hN⟩ := hv
  have hx := B.exec
  have hb := B.bytes
  have hr := B.returns
  have hts := atoms_spec (ws := wsX1_clear) B.pre
  have hown : s.vm.findClass RX1 = some m.cls := findClass_of_methodNamed B.named
  have hlocks := B.notSynchronized
  have C0 := jCx.of hx hb hr hml hown hts hlocks
  subst hsz
  have hD := hD0.self (sz := s.heap.size)
  generalize hAe : va_A (wC cJ b1 b0 bw bq bf w en pl cu li ld fb) s.heap.size = A at hD ⊢
  have hA : ∀ q : Nat, s.heap.size ≤ q → A q := fun q h => by rw [← hAe]; exact Or.inr h
  have hS : va_S A s.heap s.heap [] := va_S.rf
  have hP : va_P (dC, dI) vwCl (wC cJ b1 b0 bw bq bf w en pl cu li ld fb) s.heap := hP
  have hl := lv_entry ([.ref b1]) (n := 2) (Nat.le_of_ble_eq_true rfl)
  rw [lg_entry_eq]
  generalize (lg_sl ([.ref b1]) ++ List.replicate (2 - (lg_sl ([.ref b1])).length) Slot.unset).toArray = ls at hl ⊢
  have hl : lv_has ls 2 [(0, .ref b1)] := hl
  clear hD0 hAe
  unfold j_X1_clear at hj
  refine lv_aload_n hx hb dX1_clear_0 rfl (lv_at hl 0 rfl) ?_
  refine va_get (D := (dC, dI)) (ci := 1) (v := .int ld) (C := RX1) (T := TX1) (N := 4) hx hb hts inn_X1_clear_X1 hown hK hP 0 rfl rfl 3 (by decide) (hts (.fieldLink RX1 20 "SelfEndingCodes" "listed" "I") (by decide +kernel)) (fun _ h9 => h9) rfl dX1_clear_1 ?_
  refine lv_istore_n (lv' := [(1, .int ld), (0, .ref b1)]) hx hb dX1_clear_4 rfl hl (by decide) rfl (fun ls hl => ?_)
  refine lv_aload_n hx hb dX1_clear_5 rfl (lv_at hl 1 rfl) ?_
  refine lv_iconst (v := (0 : Int32)) hx hb dX1_clear_6 (by decide) ?_
  refine va_put (D := (dC, dI)) (ci := 1) (v := .int (0 : Int32)) (ty := .int) (C := RX1) (T := TX1) (N := 4) hx hb hts inn_X1_clear_X1 tyX1 tyX1_ok nmX1 hown hK hP hD hS 0 rfl rfl 3 (by decide) (hts (.fieldLink RX1 20 "SelfEndingCodes" "listed" "I") (by decide +kernel)) (fun _ h9 => h9) rfl (by decide +kernel) rfl rfl (Nat.le_of_ble_eq_true rfl) dX1_clear_7 (fun H locs hP hD hS => ?_)
  have hP : va_P (dC, dI) vwCl (wC cJ b1 b0 bw bq bf w en pl cu li (0 : Int32) fb) H := hP
  have hD : va_D A (wC cJ b1 b0 bw bq bf w en pl cu li (0 : Int32) fb) := hD
  refine lv_iload_n hx hb dX1_clear_10 rfl (lv_at hl 0 rfl) ?_
  have hr9 : (ld, (0 : Int32)) = r := Option.some.inj hj
  subst hr9
  exact W.iret (v := ld) hx hb hr (fun t ht hW => ⟨⟨ld, (), rfl, rfl, by rw [ht]; exact hP, va_K.moved hW.alike hK, hD⟩, hS.F ht⟩) hS.2.2 dX1_clear_11

set_option maxRecDepth 100000 in
theorem inn_X1_place_X0 : ∀ w ∈ u_ws RX0 TX0 4, w ∈ wsX1_place := by decide +kernel
set_option maxRecDepth 100000 in
theorem inn_X1_place_X1 : ∀ w ∈ u_ws RX1 TX1 4, w ∈ wsX1_place := by decide +kernel
def j_X1_place (pl : Int32) : Option (Int32) :=
  some pl
set_option maxHeartbeats 4000000 in
set_option maxRecDepth 100000 in
theorem c_X1_place (l : Launch) (dC : Nat → ClassId) (dI : Nat → Nat → Nat) (cI cJ : ClassId) (b1 : Nat) (b0 : Nat) (bw : Nat) (bq : Nat) (bf : Nat) (sz : Nat) (w : Nat → Int64) (en : Int32) (pl : Int32) (cu : Int32) (li : Nat → Int64) (ld : Int32) (fb : Nat → Int64) (r : Int32) (hj : j_X1_place pl = some r) : Met l yX1_place wsX1_place ({ frames := 0, cells := 0, slots := 0, locals := 0 } : Room) (va_Pc [.ref b1] (fun U => jPr dC dI cI cJ (wC cJ b1 b0 bw bq bf w en pl cu li ld fb) sz U ∧ jNs U)) (va_Qi (fun (v : Int32) (_ : Unit) => v = r) (fun (_ : Unit) t => jPo dC dI cI cJ (wC cJ b1 b0 bw bq bf w en pl cu li ld fb) (va_A (wC cJ b1 b0 bw bq bf w en pl cu li ld fb) sz) t) (va_A (wC cJ b1 b0 bw bq bf w en pl cu li ld fb) sz)) 0 0 (va_A (wC cJ b1 b0 bw bq bf w en pl cu li ld fb) sz) := by
  refine Met.ofW (cc := cX1_place) (maxL := 1) (ret := (some .int)) (by decide) rfl ?_
  intro p e s m args below meth c s₁ B hml hv
  obtain ⟨rfl, ⟨hsz, hP, hK, hD0⟩, hN⟩ := hv
  have hx := B.exec
  have hb := B.bytes
  have hr := B.returns
  have hts := atoms_spec (ws := wsX1_place) B.pre
  have hown : s.vm.findClass RX1 = some m.cls := findClass_of_methodNamed B.named
  have hlocks := B.notSynchronized
  have C0 := jCx.of hx hb hr hml hown hts hlocks
  subst hsz
  have hD := hD0.self (sz := s.heap.size)
  generalize hAe : va_A (wC cJ b1 b0 bw bq bf w en pl cu li ld fb) s.heap.size = A at hD ⊢
  have hA : ∀ q : Nat, s.heap.size ≤ q → A q := fun q h => by rw [← hAe]; exact Or.inr h
  have hS : va_S A s.heap s.heap [] := va_S.rf
  have hP : va_P (dC, dI) vwCl (wC cJ b1 b0 bw bq bf w en pl cu li ld fb) s.heap := hP
  have hl := lv_entry ([.ref b1]) (n := 1) (Nat.le_of_ble_eq_true rfl)
  rw [lg_entry_eq]
  generalize (lg_sl ([.ref b1]) ++ List.replicate (1 - (lg_sl ([.ref b1])).length) Slot.unset).toArray = ls at hl ⊢
  have hl : lv_has ls 1 [(0, .ref b1)] := hl
  clear hD0 hAe
  unfold j_X1_place at hj
  refine lv_aload_n hx hb dX1_place_0 rfl (lv_at hl 0 rfl) ?_
  refine va_get (D := (dC, dI)) (ci := 1) (v := .ref b0) (C := RX1) (T := TX1) (N := 4) hx hb hts inn_X1_place_X1 hown hK hP 0 rfl rfl 0 (by decide) (hts (.fieldLink RX1 12 "SelfEndingCodes" "row" "LSelfEndingCodes$BitRow;") (by decide +kernel)) (fun _ h9 => h9) rfl dX1_place_1 ?_
  refine va_getN (D := (dC, dI)) (ci := 0) (v := .int pl) (C := RX0) (T := TX0) (N := 4) hx hb hts inn_X1_place_X0 hown hK hP 1 rfl rfl 2 (by decide) (va_Nw.use rfl hN.2.1) (fun _ h9 => h9) rfl dX1_place_4 ?_
  have hr9 : pl = r := Option.some.inj hj
  subst hr9
  exact W.iret (v := pl) hx hb hr (fun t ht hW => ⟨⟨pl, (), rfl, rfl, by rw [ht]; exact hP, va_K.moved hW.alike hK, hD⟩, hS.F ht⟩) hS.2.2 dX1_place_7

set_option maxRecDepth 100000 in
theorem inn_X1_size_X0 : ∀ w ∈ u_ws RX0 TX0 4, w ∈ wsX1_size := by decide +kernel
set_option maxRecDepth 100000 in
theorem inn_X1_size_X1 : ∀ w ∈ u_ws RX1 TX1 4, w ∈ wsX1_size := by decide +kernel
def j_X1_size (en : Int32) : Option (Int32) :=
  some en
set_option maxHeartbeats 4000000 in
set_option maxRecDepth 100000 in
theorem c_X1_size (l : Launch) (dC : Nat → ClassId) (dI : Nat → Nat → Nat) (cI cJ : ClassId) (b1 : Nat) (b0 : Nat) (bw : Nat) (bq : Nat) (bf : Nat) (sz : Nat) (w : Nat → Int64) (en : Int32) (pl : Int32) (cu : Int32) (li : Nat → Int64) (ld : Int32) (fb : Nat → Int64) (r : Int32) (hj : j_X1_size en = some r) : Met l yX1_size wsX1_size ({ frames := 0, cells := 0, slots := 0, locals := 0 } : Room) (va_Pc [.ref b1] (fun U => jPr dC dI cI cJ (wC cJ b1 b0 bw bq bf w en pl cu li ld fb) sz U ∧ jNs U)) (va_Qi (fun (v : Int32) (_ : Unit) => v = r) (fun (_ : Unit) t => jPo dC dI cI cJ (wC cJ b1 b0 bw bq bf w en pl cu li ld fb) (va_A (wC cJ b1 b0 bw bq bf w en pl cu li ld fb) sz) t) (va_A (wC cJ b1 b0 bw bq bf w en pl cu li ld fb) sz)) 0 0 (va_A (wC cJ b1 b0 bw bq bf w en pl cu li ld fb) sz) := by
  refine Met.ofW (cc := cX1_size) (maxL := 1) (ret := (some .int)) (by decide) rfl ?_
  intro p e s m args below meth c s₁ B hml hv
  obtain ⟨rfl, ⟨hsz, hP, hK, hD0⟩, hN⟩ := hv
  have hx := B.exec
  have hb := B.bytes
  have hr := B.returns
  have hts := atoms_spec (ws := wsX1_size) B.pre
  have hown : s.vm.findClass RX1 = some m.cls := findClass_of_methodNamed B.named
  have hlocks := B.notSynchronized
  have C0 := jCx.of hx hb hr hml hown hts hlocks
  subst hsz
  have hD := hD0.self (sz := s.heap.size)
  generalize hAe : va_A (wC cJ b1 b0 bw bq bf w en pl cu li ld fb) s.heap.size = A at hD ⊢
  have hA : ∀ q : Nat, s.heap.size ≤ q → A q := fun q h => by rw [← hAe]; exact Or.inr h
  have hS : va_S A s.heap s.heap [] := va_S.rf
  have hP : va_P (dC, dI) vwCl (wC cJ b1 b0 bw bq bf w en pl cu li ld fb) s.heap := hP
  have hl := lv_entry ([.ref b1]) (n := 1) (Nat.le_of_ble_eq_true rfl)
  rw [lg_entry_eq]
  generalize (lg_sl ([.ref b1]) ++ List.replicate (1 - (lg_sl ([.ref b1])).length) Slot.unset).toArray = ls at hl ⊢
  have hl : lv_has ls 1 [(0, .ref b1)] := hl
  clear hD0 hAe
  unfold j_X1_size at hj
  refine lv_aload_n hx hb dX1_size_0 rfl (lv_at hl 0 rfl) ?_
  refine va_get (D := (dC, dI)) (ci := 1) (v := .ref b0) (C := RX1) (T := TX1) (N := 4) hx hb hts inn_X1_size_X1 hown hK hP 0 rfl rfl 0 (by decide) (hts (.fieldLink RX1 12 "SelfEndingCodes" "row" "LSelfEndingCodes$BitRow;") (by decide +kernel)) (fun _ h9 => h9) rfl dX1_size_1 ?_
  refine va_getN (D := (dC, dI)) (ci := 0) (v := .int en) (C := RX0) (T := TX0) (N := 4) hx hb hts inn_X1_size_X0 hown hK hP 1 rfl rfl 1 (by decide) (va_Nw.use rfl hN.1) (fun _ h9 => h9) rfl dX1_size_4 ?_
  have hr9 : en = r := Option.some.inj hj
  subst hr9
  exact W.iret (v := en) hx hb hr (fun t ht hW => ⟨⟨en, (), rfl, rfl, by rw [ht]; exact hP, va_K.moved hW.alike hK, hD⟩, hS.F ht⟩) hS.2.2 dX1_size_7

set_option maxRecDepth 100000 in
theorem inn_X1_wipe_X0 : ∀ w ∈ u_ws RX0 TX0 4, w ∈ wsX1_wipe := by decide +kernel
set_option maxRecDepth 100000 in
theorem inn_X1_wipe_X1 : ∀ w ∈ u_ws RX1 TX1 4, w ∈ wsX1_wipe := by decide +kernel
def j_X1_wipe (w : Nat → Int64) (en : Int32) (pl : Int32) : Option (Int32 × (Nat → Int64) × Int32 × Int32) :=
  (j_X0_makeEmpty w en pl).bind fun (v1, v2, v3) => (some (en, v1, v2, v3))
set_option maxHeartbeats 4000000 in
set_option maxRecDepth 100000 in
theorem c_X1_wipe (l : Launch) (dC : Nat → ClassId) (dI : Nat → Nat → Nat) (cI cJ : ClassId) (b1 : Nat) (b0 : Nat) (bw : Nat) (bq : Nat) (bf : Nat) (sz : Nat) (w : Nat → Int64) (en : Int32) (pl : Int32) (cu : Int32) (li : Nat → Int64) (ld : Int32) (fb : Nat → Int64) (r : Int32 × (Nat → Int64) × Int32 × Int32) (hj : j_X1_wipe w en pl = some r) : Met l yX1_wipe wsX1_wipe ({ frames := 2, cells := 0, slots := 0, locals := 44 } : Room) (va_Pc [.ref b1] (fun U => jPr dC dI cI cJ (wC cJ b1 b0 bw bq bf w en pl cu li ld fb) sz U ∧ jNs U)) (va_Qi (fun (v : Int32) (_ : Unit) => v = r.1) (fun (_ : Unit) t => jPo dC dI cI cJ (wC cJ b1 b0 bw bq bf r.2.1 r.2.2.1 r.2.2.2 cu li ld fb) (va_A (wC cJ b1 b0 bw bq bf w en pl cu li ld fb) sz) t) (va_A (wC cJ b1 b0 bw bq bf w en pl cu li ld fb) sz)) 0 0 (va_A (wC cJ b1 b0 bw bq bf w en pl cu li ld fb) sz) := by
  refine Met.ofW (cc := cX1_wipe) (maxL := 2) (ret := (some .int)) (by decide) rfl ?_
  intro p e s m args below meth c s₁ B hml hv
  obtain ⟨rfl, ⟨hsz, hP, hK, hD0⟩, hN⟩ := hv
  have hx := B.exec
  have hb := B.bytes
  have hr := B.returns
  have hts := atoms_spec (ws := wsX1_wipe) B.pre
  have hown : s.vm.findClass RX1 = some m.cls := findClass_of_methodNamed B.named
  have hlocks := B.notSynchronized
  have C0 := jCx.of hx hb hr hml hown hts hlocks
  subst hsz
  have hD := hD0.self (sz := s.heap.size)
  generalize hAe : va_A (wC cJ b1 b0 bw bq bf w en pl cu li ld fb) s.heap.size = A at hD ⊢
  have hA : ∀ q : Nat, s.heap.size ≤ q → A q := fun q h => by rw [← hAe]; exact Or.inr h
  have hS : va_S A s.heap s.heap [] := va_S.rf
  have hP : va_P (dC, dI) vwCl (wC cJ b1 b0 bw bq bf w en pl cu li ld fb) s.heap := hP
  have hl := lv_entry ([.ref b1]) (n := 2) (Nat.le_of_ble_eq_true rfl)
  rw [lg_entry_eq]
  generalize (lg_sl ([.ref b1]) ++ List.replicate (2 - (lg_sl ([.ref b1])).length) Slot.unset).toArray = ls at hl ⊢
  have hl : lv_has ls 2 [(0, .ref b1)] := hl
  clear hD0 hAe
  unfold j_X1_wipe at hj
  refine lv_aload_n hx hb dX1_wipe_0 rfl (lv_at hl 0 rfl) ?_
  refine va_get (D := (dC, dI)) (ci := 1) (v := .ref b0) (C := RX1) (T := TX1) (N := 4) hx hb hts inn_X1_wipe_X1 hown hK hP 0 rfl rfl 0 (by decide) (hts (.fieldLink RX1 12 "SelfEndingCodes" "row" "LSelfEndingCodes$BitRow;") (by decide +kernel)) (fun _ h9 => h9) rfl dX1_wipe_1 ?_
  refine va_getN (D := (dC, dI)) (ci := 0) (v := .int en) (C := RX0) (T := TX0) (N := 4) hx hb hts inn_X1_wipe_X0 hown hK hP 1 rfl rfl 1 (by decide) (va_Nw.use rfl hN.1) (fun _ h9 => h9) rfl dX1_wipe_4 ?_
  refine lv_istore_n (lv' := [(1, .int en), (0, .ref b1)]) hx hb dX1_wipe_7 rfl hl (by decide) rfl (fun ls hl => ?_)
  refine lv_aload_n hx hb dX1_wipe_8 rfl (lv_at hl 1 rfl) ?_
  refine va_get (D := (dC, dI)) (ci := 1) (v := .ref b0) (C := RX1) (T := TX1) (N := 4) hx hb hts inn_X1_wipe_X1 hown hK hP 0 rfl rfl 0 (by decide) (hts (.fieldLink RX1 12 "SelfEndingCodes" "row" "LSelfEndingCodes$BitRow;") (by decide +kernel)) (fun _ h9 => h9) rfl dX1_wipe_9 ?_
  obtain ⟨⟨v1, v2, v3⟩, hc, hj⟩ := ja_bd hj
  try dsimp only at hj
  have hPc := hP.sub (ws' := (wB cJ b0 bw w en pl cu)) [1, 2] rfl
  have hDc := hD.sub (ws' := (wB cJ b0 bw w en pl cu)) [1, 2] (by decide) rfl
  have hFc := va_free (wc := (wB cJ b0 bw w en pl cu)) hD hS hA [1, 2] rfl
  refine va_callv (va_runV (As := []) (rest := []) ⟨hx, hb, hml, hown, hts⟩ (c_X0_makeEmpty l dC dI cI cJ b0 bw s.heap.size w en pl cu _ hc) (cwV 0 hts gX1_wipe_X0_makeEmpty rfl rfl rfl (by decide +kernel) ⟨Nat.le_of_ble_eq_true rfl, Nat.le_of_ble_eq_true rfl⟩) ⟨fun a U g mk q => ⟨q.1, jPr.blind q.2⟩, va_recv hK hPc (ci := 0) (q0 := 0) rfl rfl, fun U hU hW => ⟨rfl, jPr.mk hU hW hPc hK hDc⟩⟩ rfl rfl hl.1 rfl (lv_room (Nat.le_of_ble_eq_true rfl)) dX1_wipe_12 ⟨Nat.le_of_ble_eq_true rfl, Nat.le_of_ble_eq_true rfl⟩) hS (fun q _ h => hFc q h) hFc (fun u t H1 locs ht hvm hw9 hB hz1 hk1 hS => ?_)
  obtain ⟨hP1, hK1, hD1⟩ := hB
  rw [ht] at hP1
  obtain ⟨hP, hD⟩ := va_join (wr := ([(b1, .inr (1, [.ref b0, .ref bq, .ref bf, .int ld])), (bq, .inl (cJ, 100, .inr (.inl li))), (bf, .inl (cJ, 89, .inr (.inl fb)))] : va_W)) (w1 := (wB cJ b0 bw v1 v2 v3 cu)) hP hD [1, 2] [0, 3, 4] rfl rfl (by decide) (by decide) hk1 hFc hP1 hD1
  replace hP := hP.sub (ws' := (wC cJ b1 b0 bw bq bf v1 v2 v3 cu li ld fb)) [0, 3, 4, 1, 2] rfl
  replace hD := hD.sub (ws' := (wC cJ b1 b0 bw bq bf v1 v2 v3 cu li ld fb)) [0, 3, 4, 1, 2] (by decide) rfl
  clear hk1 hP1 hK1 hD1 hvm hz1 hPc hDc hFc
  generalize H1 = H at hP hS ⊢
  have hP : va_P (dC, dI) vwCl (wC cJ b1 b0 bw bq bf v1 v2 v3 cu li ld fb) H := hP
  have hD : va_D A (wC cJ b1 b0 bw bq bf v1 v2 v3 cu li ld fb) := hD
  refine lv_iload_n hx hb dX1_wipe_15 rfl (lv_at hl 0 rfl) ?_
  have hr9 : (en, v1, v2, v3) = r := Option.some.inj hj
  subst hr9
  exact W.iret (v := en) hx hb hr (fun t ht hW => ⟨⟨en, (), rfl, rfl, by rw [ht]; exact hP, va_K.moved hW.alike hK, hD⟩, hS.F ht⟩) hS.2.2 dX1_wipe_16

