set_option maxRecDepth 100000 in
theorem inn_X1_init_X1 : ∀ w ∈ u_ws RX1 TX1 4, w ∈ wsX1_init := by decide +kernel
set_option maxRecDepth 100000 in
theorem inn_X1_init_X0 : ∀ w ∈ u_ws RX0 TX0 4, w ∈ wsX1_init := by decide +kernel
def jL_X1_init_54 : Nat → Int32 → (Nat → Int64) → Option ((Nat → Int64))
  | 0, _, _ => none
  | n + 1, x1, fb => if (89 : Int32) ≤ x1 then (some fb) else (jix (x1 - (1 : Int32)) 89 (jix (x1 - (2 : Int32)) 89 (jix x1 89 (jL_X1_init_54 n (x1 + (1 : Int32)) (vp_updL fb x1.toNatClampNeg ((fb (x1 - (1 : Int32)).toNatClampNeg) + (fb (x1 - (2 : Int32)).toNatClampNeg)))))))
set_option maxHeartbeats 4000000 in
set_option maxRecDepth 100000 in
theorem s_X1_init_54 {p : Program} {l : Launch} {e : Env} {s : State} {m : MethodId} {args : Array Value} {below : List Frame} {meth : Method} {c : Code} {dC : Nat → ClassId} {dI : Nat → Nat → Nat} {cI cJ : ClassId} {A : Nat → Prop} (C0 : jCx p s m args meth c RX1 cX1_init 2 none wsX1_init) (hK : va_K (dC, dI) vwCl (jTy cI cJ) s) (hA : ∀ q : Nat, s.heap.size ≤ q → A q) (hN : jNs s) (b1 : Nat) (b0 : Nat) (bw : Nat) (bq : Nat) (bf : Nat) (w : Nat → Int64) (en : Int32) (pl : Int32) (cu : Int32) (li : Nat → Int64) (ld : Int32) :
    ∀ (n : Nat) (x1 : Int32) (fb : Nat → Int64) (r : (Nat → Int64)), jL_X1_init_54 n x1 fb = some r → ∀ (H : Heap) (locs : List Loc) (ls : Array Slot), va_P (dC, dI) vwCl (wC cJ b1 b0 bw bq bf w en pl cu li ld fb) H → va_D A (wC cJ b1 b0 bw bq bf w en pl cu li ld fb) → va_S A s.heap H locs → lv_has ls 2 [(0, .ref b1), (1, .int x1)] → W p l e ({ frames := 2, cells := 4, slots := 257, locals := 32 } : Room) s m args below meth c H locs 4 257 (MQ below (va_Qv (fun _ : Unit => True) (fun (_ : Unit) t => jPo dC dI cI cJ (wC cJ b1 b0 bw bq bf w en pl cu li ld r) A t) A) args s 4 257 A) (F0 m 54 ls []) := by
  obtain ⟨hx, hb, hr, hml, hown, hts, hlocks⟩ := id C0
  intro n
  induction n with
  | zero =>
    intro x1 fb r hj
    exact nomatch (show (none : Option ((Nat → Int64))) = some r from hj)
  | succ n ih =>
    intro x1 fb r hj H locs ls hP hD hS hl
    replace hj : (if (89 : Int32) ≤ x1 then (some fb) else (jix (x1 - (1 : Int32)) 89 (jix (x1 - (2 : Int32)) 89 (jix x1 89 (jL_X1_init_54 n (x1 + (1 : Int32)) (vp_updL fb x1.toNatClampNeg ((fb (x1 - (1 : Int32)).toNatClampNeg) + (fb (x1 - (2 : Int32)).toNatClampNeg)))))))) = some r := hj
    refine lv_iload_n hx hb dX1_init_54 rfl (lv_at hl 1 rfl) ?_
    refine lv_bipush (v := (89 : Int32)) hx hb dX1_init_55 (by decide) ?_
    refine lv_icmp_ge (tgt := 89) hx hb dX1_init_57 (by decide) (fun c5401 => ?_) (fun c5401 => ?_)
    · replace hj := ja_pos c5401 hj
      have hr9 : fb = r := Option.some.inj hj
      subst hr9
      exact W.vret hx hb hr (fun t ht hW => ⟨⟨(), rfl, trivial, by rw [ht]; exact hP, va_K.moved hW.alike hK, hD⟩, hS.F ht⟩) hS.2.2 dX1_init_89
    · replace hj := ja_neg c5401 hj
      refine lv_aload_n hx hb dX1_init_60 rfl (lv_at hl 0 rfl) ?_
      refine va_get (D := (dC, dI)) (ci := 1) (v := .ref bf) (C := RX1) (T := TX1) (N := 4) hx hb hts inn_X1_init_X1 hown hK hP 0 rfl rfl 2 (by decide) (hts (.fieldLink RX1 24 "SelfEndingCodes" "fibonacci" "[J") (by decide +kernel)) (fun _ h9 => h9) rfl dX1_init_61 ?_
      refine lv_iload_n hx hb dX1_init_64 rfl (lv_at hl 1 rfl) ?_
      refine lv_aload_n hx hb dX1_init_65 rfl (lv_at hl 0 rfl) ?_
      refine va_get (D := (dC, dI)) (ci := 1) (v := .ref bf) (C := RX1) (T := TX1) (N := 4) hx hb hts inn_X1_init_X1 hown hK hP 0 rfl rfl 2 (by decide) (hts (.fieldLink RX1 24 "SelfEndingCodes" "fibonacci" "[J") (by decide +kernel)) (fun _ h9 => h9) rfl dX1_init_66 ?_
      refine lv_iload_n hx hb dX1_init_69 rfl (lv_at hl 1 rfl) ?_
      refine lv_iconst (v := (1 : Int32)) hx hb dX1_init_70 (by decide) ?_
      refine lv_isub hx hb dX1_init_71 ?_
      obtain ⟨hin, hj⟩ := ja_ix hj
      refine va_lald hx hb hK hP 4 1 rfl rfl hin dX1_init_72 ?_
      refine lv_aload_n hx hb dX1_init_73 rfl (lv_at hl 0 rfl) ?_
      refine va_get (D := (dC, dI)) (ci := 1) (v := .ref bf) (C := RX1) (T := TX1) (N := 4) hx hb hts inn_X1_init_X1 hown hK hP 0 rfl rfl 2 (by decide) (hts (.fieldLink RX1 24 "SelfEndingCodes" "fibonacci" "[J") (by decide +kernel)) (fun _ h9 => h9) rfl dX1_init_74 ?_
      refine lv_iload_n hx hb dX1_init_77 rfl (lv_at hl 1 rfl) ?_
      refine lv_iconst (v := (2 : Int32)) hx hb dX1_init_78 (by decide) ?_
      refine lv_isub hx hb dX1_init_79 ?_
      obtain ⟨hin, hj⟩ := ja_ix hj
      refine va_lald hx hb hK hP 4 1 rfl rfl hin dX1_init_80 ?_
      refine lv_ladd hx hb dX1_init_81 ?_
      obtain ⟨hin, hj⟩ := ja_ix hj
      refine va_last hx hb hK hP hD hS 4 1 rfl rfl hin dX1_init_82 (fun H locs hP hD hS => ?_)
      have hP : va_P (dC, dI) vwCl (wC cJ b1 b0 bw bq bf w en pl cu li ld (vp_updL fb x1.toNatClampNeg ((fb (x1 - (1 : Int32)).toNatClampNeg) + (fb (x1 - (2 : Int32)).toNatClampNeg)))) H := hP
      have hD : va_D A (wC cJ b1 b0 bw bq bf w en pl cu li ld (vp_updL fb x1.toNatClampNeg ((fb (x1 - (1 : Int32)).toNatClampNeg) + (fb (x1 - (2 : Int32)).toNatClampNeg)))) := hD
      refine lv_iinc (v := x1 + (1 : Int32)) (lv' := [(1, .int (x1 + (1 : Int32))), (0, .ref b1)]) hx hb dX1_init_83 hl (k := 1) rfl (congrArg (fun z => x1 + z) (by decide)) (by decide) rfl (fun ls hl => ?_)
      refine lv_goto (tgt := 54) hx hb dX1_init_86 (by decide) ?_
      exact ih (x1 + (1 : Int32)) (vp_updL fb x1.toNatClampNeg ((fb (x1 - (1 : Int32)).toNatClampNeg) + (fb (x1 - (2 : Int32)).toNatClampNeg))) _ hj _ _ _ (hP) (hD) hS (lv_sub hl [1, 0] rfl)
def j_X1_init : Option (Nat → Int64) :=
  jix (0 : Int32) 89 (jix (1 : Int32) 89 (jL_X1_init_54 jF (2 : Int32) (vp_updL (vp_updL (fun _ => 0 : Nat → Int64) (0 : Int32).toNatClampNeg (1 : Int64)) (1 : Int32).toNatClampNeg (2 : Int64))))
set_option maxHeartbeats 4000000 in
set_option maxRecDepth 100000 in
theorem c_X1_init (l : Launch) (dC : Nat → ClassId) (dI : Nat → Nat → Nat) (cI cJ : ClassId) (b1 : Nat) (sz : Nat) (l0 : Int32) (r : Nat → Int64) (hj : j_X1_init = some r) : Met l yX1_init wsX1_init ({ frames := 2, cells := 4, slots := 257, locals := 32 } : Room) (va_Pc [.ref b1] (fun U => jPr dC dI cI cJ [(b1, .inr (1, [.null, .null, .null, .int l0]))] sz U ∧ jNs U)) (va_Qv (fun _ : Nat × Nat × Nat × Nat => True) (fun (u : Nat × Nat × Nat × Nat) t => jPo dC dI cI cJ (wC cJ b1 u.1 u.2.1 u.2.2.1 u.2.2.2 (fun _ => 0 : Nat → Int64) 0 0 0 (fun _ => 0 : Nat → Int64) 0 r) (va_A ([(b1, .inr (1, [.null, .null, .null, .int l0]))] : va_W) sz) t) (va_A ([(b1, .inr (1, [.null, .null, .null, .int l0]))] : va_W) sz)) 4 257 (va_A ([(b1, .inr (1, [.null, .null, .null, .int l0]))] : va_W) sz) := by
  refine Met.ofW (cc := cX1_init) (maxL := 2) (ret := none) (by decide) rfl ?_
  intro p e s m args below meth c s₁ B hml hv
  obtain ⟨rfl, ⟨hsz, hP, hK, hD0⟩, hN⟩ := hv
  have hx := B.exec
  have hb := B.bytes
  have hr := B.returns
  have hts := atoms_spec (ws := wsX1_init) B.pre
  have hown : s.vm.findClass RX1 = some m.cls := findClass_of_methodNamed B.named
  have hlocks := B.notSynchronized
  have hin : meth.name = "<init>" := (name_of_methodNamed B.named B.method).1
  have C0 := jCx.of hx hb hr hml hown hts hlocks
  subst hsz
  have hD := hD0.self (sz := s.heap.size)
  generalize hAe : va_A ([(b1, .inr (1, [.null, .null, .null, .int l0]))] : va_W) s.heap.size = A at hD ⊢
  have hA : ∀ q : Nat, s.heap.size ≤ q → A q := fun q h => by rw [← hAe]; exact Or.inr h
  have hS : va_S A s.heap s.heap [] := va_S.rf
  have hP : va_P (dC, dI) vwCl ([(b1, .inr (1, [.null, .null, .null, .int l0]))] : va_W) s.heap := hP
  have hl := lv_entry ([.ref b1]) (n := 2) (Nat.le_of_ble_eq_true rfl)
  rw [lg_entry_eq]
  generalize (lg_sl ([.ref b1]) ++ List.replicate (2 - (lg_sl ([.ref b1])).length) Slot.unset).toArray = ls at hl ⊢
  have hl : lv_has ls 2 [(0, .ref b1)] := hl
  clear hD0 hAe
  refine lv_aload_n hx hb dX1_init_0 rfl (lv_at hl 0 rfl) ?_
  refine W.objInit hx hb hown (hts (.methodLink RX1 3 objectInit) (by decide +kernel)) (hts (.instanceMethod objectInit) (by decide +kernel)) (hts (.code objectInit ⟨#[0xb1]⟩ 1 none) (by decide +kernel)) rfl (by rw [hml]; exact hl.1) rfl dX1_init_1 (Nat.le_of_ble_eq_true rfl) (Nat.le_of_ble_eq_true rfl) ?_
  refine W.eq (g2 := F0 m 4 ls []) rfl ?_
  refine lv_aload_n hx hb dX1_init_4 rfl (lv_at hl 0 rfl) ?_
  refine va_new (ci := 0) (fs := [.null, .int 0, .int 0, .int 0]) (C := RX0) (T := TX0) (N := 4) hx hb hts inn_X1_init_X0 tyX0 tyX0_ok hown (hts (.classLink RX1 9 RX0) (by decide +kernel)) (hts (.instantiable RX0 4) (by decide +kernel)) (hts (.initialized RX0) (by decide +kernel)) hK hP hD hS hA rfl (fun j h9 => by rcases (show j = 0 ∨ j = 1 ∨ j = 2 ∨ j = 3 by omega) with rfl | rfl | rfl | rfl <;> rfl) (by decide) (by decide) dX1_init_5 (fun b0 H hP hD hS => ?_)
  refine W.widen (k := 1) (n := 4) (by decide) (by decide) ?_
  have hP : va_P (dC, dI) vwCl [(b1, .inr (1, [.null, .null, .null, .int l0])), (b0, .inr (0, [.null, .int 0, .int 0, .int 0]))] H := hP
  have hD : va_D A [(b1, .inr (1, [.null, .null, .null, .int l0])), (b0, .inr (0, [.null, .int 0, .int 0, .int 0]))] := hD
  refine lv_dup hx hb dX1_init_8 rfl ?_
  have hPc := hP.sub (ws' := ([(b0, .inr (0, [.null, .int 0, .int 0, .int 0]))] : va_W)) [1] rfl
  have hDc := hD.sub (ws' := ([(b0, .inr (0, [.null, .int 0, .int 0, .int 0]))] : va_W)) [1] (by decide) rfl
  have hFc := va_free (wc := ([(b0, .inr (0, [.null, .int 0, .int 0, .int 0]))] : va_W)) hD hS hA [1] rfl
  refine va_callv (va_runIN (As := []) (rest := [.ref b0, .ref b1]) ⟨hx, hb, hml, hown, hts⟩ (c_X0_init l dC dI cI cJ b0 H.size 0 0 0) ⟨va_cnB 0 hts gX1_init_X0_init_n11 rfl rfl rfl hN.2.2.2 (hts (.initialized RX0) (by decide +kernel)) (by decide +kernel) ⟨Nat.le_of_ble_eq_true rfl, Nat.le_of_ble_eq_true rfl⟩, rfl, hts (.instanceMethod yX0_init) (by decide +kernel)⟩ ⟨fun a U g mk q => ⟨q.1, jPr.blind q.2⟩, fun U hU hW => ⟨rfl, jPr.mk hU hW hPc hK hDc⟩⟩ rfl rfl hl.1 rfl (lv_room (Nat.le_of_ble_eq_true rfl)) dX1_init_9 ⟨Nat.le_of_ble_eq_true rfl, Nat.le_of_ble_eq_true rfl⟩) hS (fun q _ h => hFc q h) hFc (fun bw t H1 locs ht hvm hw9 hB hz1 hk1 hS => ?_)
  obtain ⟨hP1, hK1, hD1⟩ := hB
  rw [ht] at hP1
  obtain ⟨hP, hD⟩ := va_join (wr := ([(b1, .inr (1, [.null, .null, .null, .int l0]))] : va_W)) (w1 := wB cJ b0 bw (fun _ => 0 : Nat → Int64) 0 0 0) hP hD [1] [0] rfl rfl (by decide) (by decide) hk1 hFc hP1 hD1
  clear hk1 hP1 hK1 hD1 hvm hz1 hPc hDc hFc
  generalize H1 = H at hP hS ⊢
  refine W.widen (k := 2) (n := 68) (by decide) (by decide) ?_
  have hP : va_P (dC, dI) vwCl [(b1, .inr (1, [.null, .null, .null, .int l0])), (b0, .inr (0, [.ref bw, .int 0, .int 0, .int 0])), (bw, .inl (cJ, 64, .inr (.inl (fun _ => 0 : Nat → Int64))))] H := hP
  have hD : va_D A [(b1, .inr (1, [.null, .null, .null, .int l0])), (b0, .inr (0, [.ref bw, .int 0, .int 0, .int 0])), (bw, .inl (cJ, 64, .inr (.inl (fun _ => 0 : Nat → Int64))))] := hD
  refine va_putF (D := (dC, dI)) (ci := 1) (v := .ref b0) (ty := .object "SelfEndingCodes$BitRow") (C := RX1) (T := TX1) (N := 4) hx hb hts inn_X1_init_X1 tyX1 tyX1_ok nmX1 hown hK hP hD hS 0 rfl rfl 0 (by decide) (hts (.fieldLink RX1 12 "SelfEndingCodes" "row" "LSelfEndingCodes$BitRow;") (by decide +kernel)) (fun _ h9 => h9) rfl hin rfl (by decide +kernel) rfl rfl (Nat.le_of_ble_eq_true rfl) dX1_init_12 (fun H locs hP hD hS => ?_)
  have hP : va_P (dC, dI) vwCl [(b1, .inr (1, [.ref b0, .null, .null, .int l0])), (b0, .inr (0, [.ref bw, .int 0, .int 0, .int 0])), (bw, .inl (cJ, 64, .inr (.inl (fun _ => 0 : Nat → Int64))))] H := hP
  have hD : va_D A [(b1, .inr (1, [.ref b0, .null, .null, .int l0])), (b0, .inr (0, [.ref bw, .int 0, .int 0, .int 0])), (bw, .inl (cJ, 64, .inr (.inl (fun _ => 0 : Nat → Int64))))] := hD
  refine lv_aload_n hx hb dX1_init_15 rfl (lv_at hl 0 rfl) ?_
  refine lv_bipush (v := (100 : Int32)) hx hb dX1_init_16 (by decide) ?_
  refine va_newa (atype := .long) hx hb (hts (.arrayClass .long) (by decide +kernel)) (ty := .long) rfl hK hP hD hS hA (N' := 100) (a0 := (100, .inr (.inl (fun _ => 0)))) (fun cA => (vp_cell_l cA 100 (fun _ => 0)).trans (congrArg (arrV cA 100) (funext fun _ => rfl))) (by decide) (by decide) (by decide) (by decide) (by decide) dX1_init_18 (fun bq cA H hK2 hP hD hS => ?_)
  rw [jclJ hK2] at hP hD
  clear hK2
  refine W.widen (k := 3) (n := 168) (by decide) (by decide) ?_
  have hP : va_P (dC, dI) vwCl [(b1, .inr (1, [.ref b0, .null, .null, .int l0])), (b0, .inr (0, [.ref bw, .int 0, .int 0, .int 0])), (bw, .inl (cJ, 64, .inr (.inl (fun _ => 0 : Nat → Int64)))), (bq, .inl (cJ, 100, .inr (.inl (fun _ => 0))))] H := hP
  have hD : va_D A [(b1, .inr (1, [.ref b0, .null, .null, .int l0])), (b0, .inr (0, [.ref bw, .int 0, .int 0, .int 0])), (bw, .inl (cJ, 64, .inr (.inl (fun _ => 0 : Nat → Int64)))), (bq, .inl (cJ, 100, .inr (.inl (fun _ => 0))))] := hD
  refine va_putF (D := (dC, dI)) (ci := 1) (v := .ref bq) (ty := .array .long) (C := RX1) (T := TX1) (N := 4) hx hb hts inn_X1_init_X1 tyX1 tyX1_ok nmX1 hown hK hP hD hS 0 rfl rfl 1 (by decide) (hts (.fieldLink RX1 16 "SelfEndingCodes" "list" "[J") (by decide +kernel)) (fun _ h9 => h9) rfl hin rfl (by decide +kernel) rfl rfl (Nat.le_of_ble_eq_true rfl) dX1_init_20 (fun H locs hP hD hS => ?_)
  have hP : va_P (dC, dI) vwCl [(b1, .inr (1, [.ref b0, .ref bq, .null, .int l0])), (b0, .inr (0, [.ref bw, .int 0, .int 0, .int 0])), (bw, .inl (cJ, 64, .inr (.inl (fun _ => 0 : Nat → Int64)))), (bq, .inl (cJ, 100, .inr (.inl (fun _ => 0))))] H := hP
  have hD : va_D A [(b1, .inr (1, [.ref b0, .ref bq, .null, .int l0])), (b0, .inr (0, [.ref bw, .int 0, .int 0, .int 0])), (bw, .inl (cJ, 64, .inr (.inl (fun _ => 0 : Nat → Int64)))), (bq, .inl (cJ, 100, .inr (.inl (fun _ => 0))))] := hD
  refine lv_aload_n hx hb dX1_init_23 rfl (lv_at hl 0 rfl) ?_
  refine lv_iconst (v := (0 : Int32)) hx hb dX1_init_24 (by decide) ?_
  refine va_put (D := (dC, dI)) (ci := 1) (v := .int 0) (ty := .int) (C := RX1) (T := TX1) (N := 4) hx hb hts inn_X1_init_X1 tyX1 tyX1_ok nmX1 hown hK hP hD hS 0 rfl rfl 3 (by decide) (hts (.fieldLink RX1 20 "SelfEndingCodes" "listed" "I") (by decide +kernel)) (fun _ h9 => h9) rfl (by decide +kernel) rfl rfl (Nat.le_of_ble_eq_true rfl) dX1_init_25 (fun H locs hP hD hS => ?_)
  have hP : va_P (dC, dI) vwCl [(b1, .inr (1, [.ref b0, .ref bq, .null, .int 0])), (b0, .inr (0, [.ref bw, .int 0, .int 0, .int 0])), (bw, .inl (cJ, 64, .inr (.inl (fun _ => 0 : Nat → Int64)))), (bq, .inl (cJ, 100, .inr (.inl (fun _ => 0))))] H := hP
  have hD : va_D A [(b1, .inr (1, [.ref b0, .ref bq, .null, .int 0])), (b0, .inr (0, [.ref bw, .int 0, .int 0, .int 0])), (bw, .inl (cJ, 64, .inr (.inl (fun _ => 0 : Nat → Int64)))), (bq, .inl (cJ, 100, .inr (.inl (fun _ => 0))))] := hD
  refine lv_aload_n hx hb dX1_init_28 rfl (lv_at hl 0 rfl) ?_
  refine lv_bipush (v := (89 : Int32)) hx hb dX1_init_29 (by decide) ?_
  refine va_newa (atype := .long) hx hb (hts (.arrayClass .long) (by decide +kernel)) (ty := .long) rfl hK hP hD hS hA (N' := 89) (a0 := (89, .inr (.inl (fun _ => 0)))) (fun cA => (vp_cell_l cA 89 (fun _ => 0)).trans (congrArg (arrV cA 89) (funext fun _ => rfl))) (by decide) (by decide) (by decide) (by decide) (by decide) dX1_init_31 (fun bf cA H hK2 hP hD hS => ?_)
  rw [jclJ hK2] at hP hD
  clear hK2
  refine W.widen (k := 4) (n := 257) (by decide) (by decide) ?_
  have hP : va_P (dC, dI) vwCl [(b1, .inr (1, [.ref b0, .ref bq, .null, .int 0])), (b0, .inr (0, [.ref bw, .int 0, .int 0, .int 0])), (bw, .inl (cJ, 64, .inr (.inl (fun _ => 0 : Nat → Int64)))), (bq, .inl (cJ, 100, .inr (.inl (fun _ => 0)))), (bf, .inl (cJ, 89, .inr (.inl (fun _ => 0))))] H := hP
  have hD : va_D A [(b1, .inr (1, [.ref b0, .ref bq, .null, .int 0])), (b0, .inr (0, [.ref bw, .int 0, .int 0, .int 0])), (bw, .inl (cJ, 64, .inr (.inl (fun _ => 0 : Nat → Int64)))), (bq, .inl (cJ, 100, .inr (.inl (fun _ => 0)))), (bf, .inl (cJ, 89, .inr (.inl (fun _ => 0))))] := hD
  refine va_putF (D := (dC, dI)) (ci := 1) (v := .ref bf) (ty := .array .long) (C := RX1) (T := TX1) (N := 4) hx hb hts inn_X1_init_X1 tyX1 tyX1_ok nmX1 hown hK hP hD hS 0 rfl rfl 2 (by decide) (hts (.fieldLink RX1 24 "SelfEndingCodes" "fibonacci" "[J") (by decide +kernel)) (fun _ h9 => h9) rfl hin rfl (by decide +kernel) rfl rfl (Nat.le_of_ble_eq_true rfl) dX1_init_33 (fun H locs hP hD hS => ?_)
  have hP : va_P (dC, dI) vwCl [(b1, .inr (1, [.ref b0, .ref bq, .ref bf, .int 0])), (b0, .inr (0, [.ref bw, .int 0, .int 0, .int 0])), (bw, .inl (cJ, 64, .inr (.inl (fun _ => 0 : Nat → Int64)))), (bq, .inl (cJ, 100, .inr (.inl (fun _ => 0)))), (bf, .inl (cJ, 89, .inr (.inl (fun _ => 0))))] H := hP
  have hD : va_D A [(b1, .inr (1, [.ref b0, .ref bq, .ref bf, .int 0])), (b0, .inr (0, [.ref bw, .int 0, .int 0, .int 0])), (bw, .inl (cJ, 64, .inr (.inl (fun _ => 0 : Nat → Int64)))), (bq, .inl (cJ, 100, .inr (.inl (fun _ => 0)))), (bf, .inl (cJ, 89, .inr (.inl (fun _ => 0))))] := hD
  have hP : va_P (dC, dI) vwCl (wC cJ b1 b0 bw bq bf (fun _ => 0 : Nat → Int64) 0 0 0 (fun _ => 0 : Nat → Int64) 0 (fun _ => 0 : Nat → Int64)) H := hP
  have hD : va_D A (wC cJ b1 b0 bw bq bf (fun _ => 0 : Nat → Int64) 0 0 0 (fun _ => 0 : Nat → Int64) 0 (fun _ => 0 : Nat → Int64)) := hD
  refine jW_mono (Q := MQ below (va_Qv (fun _ : Unit => True) (fun (_ : Unit) t => jPo dC dI cI cJ (wC cJ b1 b0 bw bq bf (fun _ => 0 : Nat → Int64) 0 0 0 (fun _ => 0 : Nat → Int64) 0 r) A t) A) ([Value.ref b1].toArray) s 4 257 A) ?_ ?_
  · intro t h
    obtain ⟨o, q1, q2, ⟨⟨u, e1, e2, e3⟩, hF⟩, q4⟩ := h
    exact ⟨o, q1, q2, ⟨⟨(b0, bw, bq, bf), e1, trivial, e3⟩, hF⟩, q4⟩
  unfold j_X1_init at hj
  refine lv_aload_n hx hb dX1_init_36 rfl (lv_at hl 0 rfl) ?_
  refine va_get (D := (dC, dI)) (ci := 1) (v := .ref bf) (C := RX1) (T := TX1) (N := 4) hx hb hts inn_X1_init_X1 hown hK hP 0 rfl rfl 2 (by decide) (hts (.fieldLink RX1 24 "SelfEndingCodes" "fibonacci" "[J") (by decide +kernel)) (fun _ h9 => h9) rfl dX1_init_37 ?_
  refine lv_iconst (v := (0 : Int32)) hx hb dX1_init_40 (by decide) ?_
  refine lv_lconst (v := (1 : Int64)) hx hb dX1_init_41 (by decide) ?_
  obtain ⟨hin, hj⟩ := ja_ix hj
  refine va_last hx hb hK hP hD hS 4 1 rfl rfl hin dX1_init_42 (fun H locs hP hD hS => ?_)
  have hP : va_P (dC, dI) vwCl (wC cJ b1 b0 bw bq bf (fun _ => 0 : Nat → Int64) (0 : Int32) (0 : Int32) (0 : Int32) (fun _ => 0 : Nat → Int64) (0 : Int32) (vp_updL (fun _ => 0 : Nat → Int64) (0 : Int32).toNatClampNeg (1 : Int64))) H := hP
  have hD : va_D A (wC cJ b1 b0 bw bq bf (fun _ => 0 : Nat → Int64) (0 : Int32) (0 : Int32) (0 : Int32) (fun _ => 0 : Nat → Int64) (0 : Int32) (vp_updL (fun _ => 0 : Nat → Int64) (0 : Int32).toNatClampNeg (1 : Int64))) := hD
  refine lv_aload_n hx hb dX1_init_43 rfl (lv_at hl 0 rfl) ?_
  refine va_get (D := (dC, dI)) (ci := 1) (v := .ref bf) (C := RX1) (T := TX1) (N := 4) hx hb hts inn_X1_init_X1 hown hK hP 0 rfl rfl 2 (by decide) (hts (.fieldLink RX1 24 "SelfEndingCodes" "fibonacci" "[J") (by decide +kernel)) (fun _ h9 => h9) rfl dX1_init_44 ?_
  refine lv_iconst (v := (1 : Int32)) hx hb dX1_init_47 (by decide) ?_
  refine lv_ldc2 (v := (2 : Int64)) hx hb hown (hts (.constantLong RX1 27 (2)) (by decide +kernel)) dX1_init_48 ?_
  obtain ⟨hin, hj⟩ := ja_ix hj
  refine va_last hx hb hK hP hD hS 4 1 rfl rfl hin dX1_init_51 (fun H locs hP hD hS => ?_)
  have hP : va_P (dC, dI) vwCl (wC cJ b1 b0 bw bq bf (fun _ => 0 : Nat → Int64) (0 : Int32) (0 : Int32) (0 : Int32) (fun _ => 0 : Nat → Int64) (0 : Int32) (vp_updL (vp_updL (fun _ => 0 : Nat → Int64) (0 : Int32).toNatClampNeg (1 : Int64)) (1 : Int32).toNatClampNeg (2 : Int64))) H := hP
  have hD : va_D A (wC cJ b1 b0 bw bq bf (fun _ => 0 : Nat → Int64) (0 : Int32) (0 : Int32) (0 : Int32) (fun _ => 0 : Nat → Int64) (0 : Int32) (vp_updL (vp_updL (fun _ => 0 : Nat → Int64) (0 : Int32).toNatClampNeg (1 : Int64)) (1 : Int32).toNatClampNeg (2 : Int64))) := hD
  refine lv_iconst (v := (2 : Int32)) hx hb dX1_init_52 (by decide) ?_
  refine lv_istore_n (lv' := [(1, .int (2 : Int32)), (0, .ref b1)]) hx hb dX1_init_53 rfl hl (by decide) rfl (fun ls hl => ?_)
  exact s_X1_init_54 C0 hK hA hN b1 b0 bw bq bf (fun _ => 0 : Nat → Int64) (0 : Int32) (0 : Int32) (0 : Int32) (fun _ => 0 : Nat → Int64) (0 : Int32) jF (2 : Int32) (vp_updL (vp_updL (fun _ => 0 : Nat → Int64) (0 : Int32).toNatClampNeg (1 : Int64)) (1 : Int32).toNatClampNeg (2 : Int64)) _ hj _ _ _ (hP) (hD) hS (lv_sub hl [1, 0] rfl)
