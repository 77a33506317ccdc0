set_option maxRecDepth 100000 in
theorem inn_X2_init_X2 : ∀ w ∈ u_ws RX2 TX2 11, w ∈ wsX2_init := by decide +kernel
def jL_X2_init_54 : Nat → Int32 → (Nat → Int64) → Option ((Nat → Int64))
  | 0, _, _ => none
  | n + 1, x1, sm => if (91 : Int32) ≤ x1 then (some sm) else (if x1 = (1 : Int32) then (jix (x1 + (1 : Int32)) 92 (jL_X2_init_54 n (x1 + (1 : Int32)) (vp_updL sm (x1 + (1 : Int32)).toNatClampNeg (2 : Int64)))) else (jix x1 92 (jix (x1 - (1 : Int32)) 92 (jix (x1 + (1 : Int32)) 92 (jL_X2_init_54 n (x1 + (1 : Int32)) (vp_updL sm (x1 + (1 : Int32)).toNatClampNeg ((sm x1.toNatClampNeg) + (sm (x1 - (1 : Int32)).toNatClampNeg))))))))
set_option maxHeartbeats 4000000 in
set_option maxRecDepth 100000 in
theorem s_X2_init_54 {p : Program} {l : Launch} {e : Env} {s : State} {m : MethodId} {args : Array Value} {below : List Frame} {meth : Method} {c : Code} {dC : Nat → ClassId} {dI : Nat → Nat → Nat} {cI cJ : ClassId} {A : Nat → Prop} (C0 : jCx p s m args meth c RX2 cX2_init 2 none wsX2_init) (hK : va_K (dC, dI) vwCl (jTy cI cJ) s) (hA : ∀ q : Nat, s.heap.size ≤ q → A q) (g0 : Nat) (gr : Nat) (gl : Nat) (gw : Nat) (gs : Nat) (th : Int32) (rw : Nat → Int32) (mn : Int32) (at_ : Int32) (ml : Nat → Int64) (md_l : Int32) (wd : Nat → Int32) (md : Int32) (fr : Int32) (no : Int32) :
    ∀ (n : Nat) (x1 : Int32) (sm : Nat → Int64) (r : (Nat → Int64)), jL_X2_init_54 n x1 sm = some r → ∀ (H : Heap) (locs : List Loc) (ls : Array Slot), va_P (dC, dI) vwCl (wM cI cJ g0 gr gl gw gs th rw mn at_ ml md_l wd md sm fr no) H → va_D A (wM cI cJ g0 gr gl gw gs th rw mn at_ ml md_l wd md sm fr no) → va_S A s.heap H locs → lv_has ls 2 [(0, .ref g0), (1, .int x1)] → W p l e ({ frames := 1, cells := 4, slots := 8488, locals := 12 } : Room) s m args below meth c H locs 4 8488 (MQ below (va_Qv (fun _ : Unit => True) (fun (_ : Unit) t => jPo dC dI cI cJ (wM cI cJ g0 gr gl gw gs th rw mn at_ ml md_l wd md r fr no) A t) A) args s 4 8488 A) (F0 m 54 ls []) := by
  obtain ⟨hx, hb, hr, hml, hown, hts, hlocks⟩ := id C0
  intro n
  induction n with
  | zero =>
    intro x1 sm r hj
    exact nomatch (show (none : Option ((Nat → Int64))) = some r from hj)
  | succ n ih =>
    intro x1 sm r hj H locs ls hP hD hS hl
    replace hj : (if (91 : Int32) ≤ x1 then (some sm) else (if x1 = (1 : Int32) then (jix (x1 + (1 : Int32)) 92 (jL_X2_init_54 n (x1 + (1 : Int32)) (vp_updL sm (x1 + (1 : Int32)).toNatClampNeg (2 : Int64)))) else (jix x1 92 (jix (x1 - (1 : Int32)) 92 (jix (x1 + (1 : Int32)) 92 (jL_X2_init_54 n (x1 + (1 : Int32)) (vp_updL sm (x1 + (1 : Int32)).toNatClampNeg ((sm x1.toNatClampNeg) + (sm (x1 - (1 : Int32)).toNatClampNeg))))))))) = some r := hj
    refine lv_iload_n hx hb dX2_init_54 rfl (lv_at hl 1 rfl) ?_
    refine lv_bipush (v := (91 : Int32)) hx hb dX2_init_55 (by decide) ?_
    refine lv_icmp_ge (tgt := 100) hx hb dX2_init_57 (by decide) (fun c5401 => ?_) (fun c5401 => ?_)
    · replace hj := ja_pos c5401 hj
      have hr9 : sm = r := Option.some.inj hj
      subst hr9
      exact W.vret hx hb hr (fun t ht hW => ⟨⟨(), rfl, trivial, by rw [ht]; exact hP, va_K.moved hW.alike hK, hD⟩, hS.F ht⟩) hS.2.2 dX2_init_100
    · replace hj := ja_neg c5401 hj
      refine lv_aload_n hx hb dX2_init_60 rfl (lv_at hl 0 rfl) ?_
      refine va_get (D := (dC, dI)) (ci := 2) (v := .ref gs) (C := RX2) (T := TX2) (N := 11) hx hb hts inn_X2_init_X2 hown hK hP 0 rfl rfl 8 (by decide) (hts (.fieldLink RX2 20 "SelfEndingCodesModel" "sums" "[J") (by decide +kernel)) (fun _ h9 => h9) rfl dX2_init_61 ?_
      refine lv_iload_n hx hb dX2_init_64 rfl (lv_at hl 1 rfl) ?_
      refine lv_iconst (v := (1 : Int32)) hx hb dX2_init_65 (by decide) ?_
      refine lv_iadd hx hb dX2_init_66 ?_
      refine lv_iload_n hx hb dX2_init_67 rfl (lv_at hl 1 rfl) ?_
      refine lv_iconst (v := (1 : Int32)) hx hb dX2_init_68 (by decide) ?_
      refine lv_icmp_ne (tgt := 78) hx hb dX2_init_69 (by decide) (fun c5402 => ?_) (fun c5402 => ?_)
      · replace hj := ja_neg c5402 hj
        refine lv_aload_n hx hb dX2_init_78 rfl (lv_at hl 0 rfl) ?_
        refine va_get (D := (dC, dI)) (ci := 2) (v := .ref gs) (C := RX2) (T := TX2) (N := 11) hx hb hts inn_X2_init_X2 hown hK hP 0 rfl rfl 8 (by decide) (hts (.fieldLink RX2 20 "SelfEndingCodesModel" "sums" "[J") (by decide +kernel)) (fun _ h9 => h9) rfl dX2_init_79 ?_
        refine lv_iload_n hx hb dX2_init_82 rfl (lv_at hl 1 rfl) ?_
        obtain ⟨hin, hj⟩ := ja_ix hj
        refine va_lald hx hb hK hP 4 1 rfl rfl hin dX2_init_83 ?_
        refine lv_aload_n hx hb dX2_init_84 rfl (lv_at hl 0 rfl) ?_
        refine va_get (D := (dC, dI)) (ci := 2) (v := .ref gs) (C := RX2) (T := TX2) (N := 11) hx hb hts inn_X2_init_X2 hown hK hP 0 rfl rfl 8 (by decide) (hts (.fieldLink RX2 20 "SelfEndingCodesModel" "sums" "[J") (by decide +kernel)) (fun _ h9 => h9) rfl dX2_init_85 ?_
        refine lv_iload_n hx hb dX2_init_88 rfl (lv_at hl 1 rfl) ?_
        refine lv_iconst (v := (1 : Int32)) hx hb dX2_init_89 (by decide) ?_
        refine lv_isub hx hb dX2_init_90 ?_
        obtain ⟨hin, hj⟩ := ja_ix hj
        refine va_lald hx hb hK hP 4 1 rfl rfl hin dX2_init_91 ?_
        refine lv_ladd hx hb dX2_init_92 ?_
        obtain ⟨hin, hj⟩ := ja_ix hj
        refine va_last hx hb hK hP hD hS 4 1 rfl rfl hin dX2_init_93 (fun H locs hP hD hS => ?_)
        have hP : va_P (dC, dI) vwCl (wM cI cJ g0 gr gl gw gs th rw mn at_ ml md_l wd md (vp_updL sm (x1 + (1 : Int32)).toNatClampNeg ((sm x1.toNatClampNeg) + (sm (x1 - (1 : Int32)).toNatClampNeg))) fr no) H := hP
        have hD : va_D A (wM cI cJ g0 gr gl gw gs th rw mn at_ ml md_l wd md (vp_updL sm (x1 + (1 : Int32)).toNatClampNeg ((sm x1.toNatClampNeg) + (sm (x1 - (1 : Int32)).toNatClampNeg))) fr no) := hD
        refine lv_iinc (v := x1 + (1 : Int32)) (lv' := [(1, .int (x1 + (1 : Int32))), (0, .ref g0)]) hx hb dX2_init_94 hl (k := 1) rfl (congrArg (fun z => x1 + z) (by decide)) (by decide) rfl (fun ls hl => ?_)
        refine lv_goto (tgt := 54) hx hb dX2_init_97 (by decide) ?_
        exact ih (x1 + (1 : Int32)) (vp_updL sm (x1 + (1 : Int32)).toNatClampNeg ((sm x1.toNatClampNeg) + (sm (x1 - (1 : Int32)).toNatClampNeg))) _ hj _ _ _ (hP) (hD) hS (lv_sub hl [1, 0] rfl)
      · replace hj := ja_pos c5402 hj
        refine lv_ldc2 (v := (2 : Int64)) hx hb hown (hts (.constantLong RX2 23 (2)) (by decide +kernel)) dX2_init_72 ?_
        refine lv_goto (tgt := 93) hx hb dX2_init_75 (by decide) ?_
        obtain ⟨hin, hj⟩ := ja_ix hj
        refine va_last hx hb hK hP hD hS 4 1 rfl rfl hin dX2_init_93 (fun H locs hP hD hS => ?_)
        have hP : va_P (dC, dI) vwCl (wM cI cJ g0 gr gl gw gs th rw mn at_ ml md_l wd md (vp_updL sm (x1 + (1 : Int32)).toNatClampNeg (2 : Int64)) fr no) H := hP
        have hD : va_D A (wM cI cJ g0 gr gl gw gs th rw mn at_ ml md_l wd md (vp_updL sm (x1 + (1 : Int32)).toNatClampNeg (2 : Int64)) fr no) := hD
        refine lv_iinc (v := x1 + (1 : Int32)) (lv' := [(1, .int (x1 + (1 : Int32))), (0, .ref g0)]) hx hb dX2_init_94 hl (k := 1) rfl (congrArg (fun z => x1 + z) (by decide)) (by decide) rfl (fun ls hl => ?_)
        refine lv_goto (tgt := 54) hx hb dX2_init_97 (by decide) ?_
        exact ih (x1 + (1 : Int32)) (vp_updL sm (x1 + (1 : Int32)).toNatClampNeg (2 : Int64)) _ hj _ _ _ (hP) (hD) hS (lv_sub hl [1, 0] rfl)
def j_X2_init : Option (Nat → Int64) :=
  jix (0 : Int32) 92 (jix (1 : Int32) 92 (jL_X2_init_54 jF (1 : Int32) (vp_updL (vp_updL (fun _ => 0 : Nat → Int64) (0 : Int32).toNatClampNeg (1 : Int64)) (1 : Int32).toNatClampNeg (1 : Int64))))
set_option maxHeartbeats 4000000 in
set_option maxRecDepth 100000 in
theorem c_X2_init (l : Launch) (dC : Nat → ClassId) (dI : Nat → Nat → Nat) (cI cJ : ClassId) (g0 : Nat) (sz : Nat) (t0 m0 a0 d0 d1 f0 n0 : Int32) (r : Nat → Int64) (hj : j_X2_init = some r) : Met l yX2_init wsX2_init ({ frames := 1, cells := 4, slots := 8488, locals := 12 } : Room) (va_Pc [.ref g0] (fun U => jPr dC dI cI cJ [(g0, .inr (2, [.int t0, .null, .int m0, .int a0, .null, .int d0, .null, .int d1, .null, .int f0, .int n0]))] sz U)) (va_Qv (fun _ : Nat × Nat × Nat × Nat => True) (fun (u : Nat × Nat × Nat × Nat) t => jPo dC dI cI cJ (wM cI cJ g0 u.1 u.2.1 u.2.2.1 u.2.2.2 t0 (fun _ => 0 : Nat → Int32) m0 a0 (fun _ => 0 : Nat → Int64) d0 (fun _ => 0 : Nat → Int32) d1 r f0 n0) (va_A ([(g0, .inr (2, [.int t0, .null, .int m0, .int a0, .null, .int d0, .null, .int d1, .null, .int f0, .int n0]))] : va_W) sz) t) (va_A ([(g0, .inr (2, [.int t0, .null, .int m0, .int a0, .null, .int d0, .null, .int d1, .null, .int f0, .int n0]))] : va_W) sz)) 4 8488 (va_A ([(g0, .inr (2, [.int t0, .null, .int m0, .int a0, .null, .int d0, .null, .int d1, .null, .int f0, .int n0]))] : va_W) sz) := by
  refine Met.ofW (cc := cX2_init) (maxL := 2) (ret := none) (by decide) rfl ?_
  intro p e s m args below meth c s₁ B hml hv
  obtain ⟨rfl, ⟨hsz, hP, hK, hD0⟩⟩ := hv
  have hx := B.exec
  have hb := B.bytes
  have hr := B.returns
  have hts := atoms_spec (ws := wsX2_init) B.pre
  have hown : s.vm.findClass RX2 = some m.cls := findClass_of_methodNamed B.named
  have hlocks := B.notSynchronized
  have hin : meth.name = "<init>" := (name_of_methodNamed B.named B.method).1
  have C0 := jCx.of hx hb hr hml hown hts hlocks
  subst hsz
  have hD := hD0.self (sz := s.heap.size)
  generalize hAe : va_A ([(g0, .inr (2, [.int t0, .null, .int m0, .int a0, .null, .int d0, .null, .int d1, .null, .int f0, .int n0]))] : va_W) s.heap.size = A at hD ⊢
  have hA : ∀ q : Nat, s.heap.size ≤ q → A q := fun q h => by rw [← hAe]; exact Or.inr h
  have hS : va_S A s.heap s.heap [] := va_S.rf
  have hP : va_P (dC, dI) vwCl ([(g0, .inr (2, [.int t0, .null, .int m0, .int a0, .null, .int d0, .null, .int d1, .null, .int f0, .int n0]))] : va_W) s.heap := hP
  have hl := lv_entry ([.ref g0]) (n := 2) (Nat.le_of_ble_eq_true rfl)
  rw [lg_entry_eq]
  generalize (lg_sl ([.ref g0]) ++ List.replicate (2 - (lg_sl ([.ref g0])).length) Slot.unset).toArray = ls at hl ⊢
  have hl : lv_has ls 2 [(0, .ref g0)] := hl
  clear hD0 hAe
  refine lv_aload_n hx hb dX2_init_0 rfl (lv_at hl 0 rfl) ?_
  refine W.objInit hx hb hown (hts (.methodLink RX2 1 objectInit) (by decide +kernel)) (hts (.instanceMethod objectInit) (by decide +kernel)) (hts (.code objectInit ⟨#[0xb1]⟩ 1 none) (by decide +kernel)) rfl (by rw [hml]; exact hl.1) rfl dX2_init_1 (Nat.le_of_ble_eq_true rfl) (Nat.le_of_ble_eq_true rfl) ?_
  refine W.eq (g2 := F0 m 4 ls []) rfl ?_
  refine lv_aload_n hx hb dX2_init_4 rfl (lv_at hl 0 rfl) ?_
  refine lv_sipush (v := (4096 : Int32)) hx hb dX2_init_5 (by decide) ?_
  refine va_newa (atype := .int) hx hb (hts (.arrayClass .int) (by decide +kernel)) (ty := .int) rfl hK hP hD hS hA (N' := 4096) (a0 := (4096, .inl (fun _ => 0))) (fun cA => (vp_cell_i cA 4096 (fun _ => 0)).trans (congrArg (arrV cA 4096) (funext fun _ => rfl))) (by decide) (by decide) (by decide) (by decide) (by decide) dX2_init_8 (fun gr cA H hK2 hP hD hS => ?_)
  rw [jclI hK2] at hP hD
  clear hK2
  refine W.widen (k := 1) (n := 4096) (by decide) (by decide) ?_
  have hP : va_P (dC, dI) vwCl [(g0, .inr (2, [.int t0, .null, .int m0, .int a0, .null, .int d0, .null, .int d1, .null, .int f0, .int n0])), (gr, .inl (cI, 4096, .inl (fun _ => 0)))] H := hP
  have hD : va_D A [(g0, .inr (2, [.int t0, .null, .int m0, .int a0, .null, .int d0, .null, .int d1, .null, .int f0, .int n0])), (gr, .inl (cI, 4096, .inl (fun _ => 0)))] := hD
  refine va_putF (D := (dC, dI)) (ci := 2) (v := .ref gr) (ty := .array .int) (C := RX2) (T := TX2) (N := 11) hx hb hts inn_X2_init_X2 tyX2 tyX2_ok nmX2 hown hK hP hD hS 0 rfl rfl 1 (by decide) (hts (.fieldLink RX2 7 "SelfEndingCodesModel" "row" "[I") (by decide +kernel)) (fun _ h9 => h9) rfl hin rfl (by decide +kernel) rfl rfl (Nat.le_of_ble_eq_true rfl) dX2_init_10 (fun H locs hP hD hS => ?_)
  have hP : va_P (dC, dI) vwCl [(g0, .inr (2, [.int t0, .ref gr, .int m0, .int a0, .null, .int d0, .null, .int d1, .null, .int f0, .int n0])), (gr, .inl (cI, 4096, .inl (fun _ => 0)))] H := hP
  have hD : va_D A [(g0, .inr (2, [.int t0, .ref gr, .int m0, .int a0, .null, .int d0, .null, .int d1, .null, .int f0, .int n0])), (gr, .inl (cI, 4096, .inl (fun _ => 0)))] := hD
  refine lv_aload_n hx hb dX2_init_13 rfl (lv_at hl 0 rfl) ?_
  refine lv_bipush (v := (100 : Int32)) hx hb dX2_init_14 (by decide) ?_
  refine va_newa (atype := .long) hx hb (hts (.arrayClass .long) (by decide +kernel)) (ty := .long) rfl hK hP hD hS hA (N' := 100) (a0 := (100, .inr (.inl (fun _ => 0)))) (fun cA => (vp_cell_l cA 100 (fun _ => 0)).trans (congrArg (arrV cA 100) (funext fun _ => rfl))) (by decide) (by decide) (by decide) (by decide) (by decide) dX2_init_16 (fun gl cA H hK2 hP hD hS => ?_)
  rw [jclJ hK2] at hP hD
  clear hK2
  refine W.widen (k := 2) (n := 4196) (by decide) (by decide) ?_
  have hP : va_P (dC, dI) vwCl [(g0, .inr (2, [.int t0, .ref gr, .int m0, .int a0, .null, .int d0, .null, .int d1, .null, .int f0, .int n0])), (gr, .inl (cI, 4096, .inl (fun _ => 0))), (gl, .inl (cJ, 100, .inr (.inl (fun _ => 0))))] H := hP
  have hD : va_D A [(g0, .inr (2, [.int t0, .ref gr, .int m0, .int a0, .null, .int d0, .null, .int d1, .null, .int f0, .int n0])), (gr, .inl (cI, 4096, .inl (fun _ => 0))), (gl, .inl (cJ, 100, .inr (.inl (fun _ => 0))))] := hD
  refine va_putF (D := (dC, dI)) (ci := 2) (v := .ref gl) (ty := .array .long) (C := RX2) (T := TX2) (N := 11) hx hb hts inn_X2_init_X2 tyX2 tyX2_ok nmX2 hown hK hP hD hS 0 rfl rfl 4 (by decide) (hts (.fieldLink RX2 13 "SelfEndingCodesModel" "list" "[J") (by decide +kernel)) (fun _ h9 => h9) rfl hin rfl (by decide +kernel) rfl rfl (Nat.le_of_ble_eq_true rfl) dX2_init_18 (fun H locs hP hD hS => ?_)
  have hP : va_P (dC, dI) vwCl [(g0, .inr (2, [.int t0, .ref gr, .int m0, .int a0, .ref gl, .int d0, .null, .int d1, .null, .int f0, .int n0])), (gr, .inl (cI, 4096, .inl (fun _ => 0))), (gl, .inl (cJ, 100, .inr (.inl (fun _ => 0))))] H := hP
  have hD : va_D A [(g0, .inr (2, [.int t0, .ref gr, .int m0, .int a0, .ref gl, .int d0, .null, .int d1, .null, .int f0, .int n0])), (gr, .inl (cI, 4096, .inl (fun _ => 0))), (gl, .inl (cJ, 100, .inr (.inl (fun _ => 0))))] := hD
  refine lv_aload_n hx hb dX2_init_21 rfl (lv_at hl 0 rfl) ?_
  refine lv_sipush (v := (4200 : Int32)) hx hb dX2_init_22 (by decide) ?_
  refine va_newa (atype := .int) hx hb (hts (.arrayClass .int) (by decide +kernel)) (ty := .int) rfl hK hP hD hS hA (N' := 4200) (a0 := (4200, .inl (fun _ => 0))) (fun cA => (vp_cell_i cA 4200 (fun _ => 0)).trans (congrArg (arrV cA 4200) (funext fun _ => rfl))) (by decide) (by decide) (by decide) (by decide) (by decide) dX2_init_25 (fun gw cA H hK2 hP hD hS => ?_)
  rw [jclI hK2] at hP hD
  clear hK2
  refine W.widen (k := 3) (n := 8396) (by decide) (by decide) ?_
  have hP : va_P (dC, dI) vwCl [(g0, .inr (2, [.int t0, .ref gr, .int m0, .int a0, .ref gl, .int d0, .null, .int d1, .null, .int f0, .int n0])), (gr, .inl (cI, 4096, .inl (fun _ => 0))), (gl, .inl (cJ, 100, .inr (.inl (fun _ => 0)))), (gw, .inl (cI, 4200, .inl (fun _ => 0)))] H := hP
  have hD : va_D A [(g0, .inr (2, [.int t0, .ref gr, .int m0, .int a0, .ref gl, .int d0, .null, .int d1, .null, .int f0, .int n0])), (gr, .inl (cI, 4096, .inl (fun _ => 0))), (gl, .inl (cJ, 100, .inr (.inl (fun _ => 0)))), (gw, .inl (cI, 4200, .inl (fun _ => 0)))] := hD
  refine va_putF (D := (dC, dI)) (ci := 2) (v := .ref gw) (ty := .array .int) (C := RX2) (T := TX2) (N := 11) hx hb hts inn_X2_init_X2 tyX2 tyX2_ok nmX2 hown hK hP hD hS 0 rfl rfl 6 (by decide) (hts (.fieldLink RX2 17 "SelfEndingCodesModel" "word" "[I") (by decide +kernel)) (fun _ h9 => h9) rfl hin rfl (by decide +kernel) rfl rfl (Nat.le_of_ble_eq_true rfl) dX2_init_27 (fun H locs hP hD hS => ?_)
  have hP : va_P (dC, dI) vwCl [(g0, .inr (2, [.int t0, .ref gr, .int m0, .int a0, .ref gl, .int d0, .ref gw, .int d1, .null, .int f0, .int n0])), (gr, .inl (cI, 4096, .inl (fun _ => 0))), (gl, .inl (cJ, 100, .inr (.inl (fun _ => 0)))), (gw, .inl (cI, 4200, .inl (fun _ => 0)))] H := hP
  have hD : va_D A [(g0, .inr (2, [.int t0, .ref gr, .int m0, .int a0, .ref gl, .int d0, .ref gw, .int d1, .null, .int f0, .int n0])), (gr, .inl (cI, 4096, .inl (fun _ => 0))), (gl, .inl (cJ, 100, .inr (.inl (fun _ => 0)))), (gw, .inl (cI, 4200, .inl (fun _ => 0)))] := hD
  refine lv_aload_n hx hb dX2_init_30 rfl (lv_at hl 0 rfl) ?_
  refine lv_bipush (v := (92 : Int32)) hx hb dX2_init_31 (by decide) ?_
  refine va_newa (atype := .long) hx hb (hts (.arrayClass .long) (by decide +kernel)) (ty := .long) rfl hK hP hD hS hA (N' := 92) (a0 := (92, .inr (.inl (fun _ => 0)))) (fun cA => (vp_cell_l cA 92 (fun _ => 0)).trans (congrArg (arrV cA 92) (funext fun _ => rfl))) (by decide) (by decide) (by decide) (by decide) (by decide) dX2_init_33 (fun gs cA H hK2 hP hD hS => ?_)
  rw [jclJ hK2] at hP hD
  clear hK2
  refine W.widen (k := 4) (n := 8488) (by decide) (by decide) ?_
  have hP : va_P (dC, dI) vwCl [(g0, .inr (2, [.int t0, .ref gr, .int m0, .int a0, .ref gl, .int d0, .ref gw, .int d1, .null, .int f0, .int n0])), (gr, .inl (cI, 4096, .inl (fun _ => 0))), (gl, .inl (cJ, 100, .inr (.inl (fun _ => 0)))), (gw, .inl (cI, 4200, .inl (fun _ => 0))), (gs, .inl (cJ, 92, .inr (.inl (fun _ => 0))))] H := hP
  have hD : va_D A [(g0, .inr (2, [.int t0, .ref gr, .int m0, .int a0, .ref gl, .int d0, .ref gw, .int d1, .null, .int f0, .int n0])), (gr, .inl (cI, 4096, .inl (fun _ => 0))), (gl, .inl (cJ, 100, .inr (.inl (fun _ => 0)))), (gw, .inl (cI, 4200, .inl (fun _ => 0))), (gs, .inl (cJ, 92, .inr (.inl (fun _ => 0))))] := hD
  refine va_putF (D := (dC, dI)) (ci := 2) (v := .ref gs) (ty := .array .long) (C := RX2) (T := TX2) (N := 11) hx hb hts inn_X2_init_X2 tyX2 tyX2_ok nmX2 hown hK hP hD hS 0 rfl rfl 8 (by decide) (hts (.fieldLink RX2 20 "SelfEndingCodesModel" "sums" "[J") (by decide +kernel)) (fun _ h9 => h9) rfl hin rfl (by decide +kernel) rfl rfl (Nat.le_of_ble_eq_true rfl) dX2_init_35 (fun H locs hP hD hS => ?_)
  have hP : va_P (dC, dI) vwCl [(g0, .inr (2, [.int t0, .ref gr, .int m0, .int a0, .ref gl, .int d0, .ref gw, .int d1, .ref gs, .int f0, .int n0])), (gr, .inl (cI, 4096, .inl (fun _ => 0))), (gl, .inl (cJ, 100, .inr (.inl (fun _ => 0)))), (gw, .inl (cI, 4200, .inl (fun _ => 0))), (gs, .inl (cJ, 92, .inr (.inl (fun _ => 0))))] H := hP
  have hD : va_D A [(g0, .inr (2, [.int t0, .ref gr, .int m0, .int a0, .ref gl, .int d0, .ref gw, .int d1, .ref gs, .int f0, .int n0])), (gr, .inl (cI, 4096, .inl (fun _ => 0))), (gl, .inl (cJ, 100, .inr (.inl (fun _ => 0)))), (gw, .inl (cI, 4200, .inl (fun _ => 0))), (gs, .inl (cJ, 92, .inr (.inl (fun _ => 0))))] := hD
  have hP : va_P (dC, dI) vwCl (wM cI cJ g0 gr gl gw gs t0 (fun _ => 0 : Nat → Int32) m0 a0 (fun _ => 0 : Nat → Int64) d0 (fun _ => 0 : Nat → Int32) d1 (fun _ => 0 : Nat → Int64) f0 n0) H := hP
  have hD : va_D A (wM cI cJ g0 gr gl gw gs t0 (fun _ => 0 : Nat → Int32) m0 a0 (fun _ => 0 : Nat → Int64) d0 (fun _ => 0 : Nat → Int32) d1 (fun _ => 0 : Nat → Int64) f0 n0) := hD
  refine jW_mono (Q := MQ below (va_Qv (fun _ : Unit => True) (fun (_ : Unit) t => jPo dC dI cI cJ (wM cI cJ g0 gr gl gw gs t0 (fun _ => 0 : Nat → Int32) m0 a0 (fun _ => 0 : Nat → Int64) d0 (fun _ => 0 : Nat → Int32) d1 r f0 n0) A t) A) ([Value.ref g0].toArray) s 4 8488 A) ?_ ?_
  · intro t h
    obtain ⟨o, q1, q2, ⟨⟨u, e1, e2, e3⟩, hF⟩, q4⟩ := h
    exact ⟨o, q1, q2, ⟨⟨(gr, gl, gw, gs), e1, trivial, e3⟩, hF⟩, q4⟩
  unfold j_X2_init at hj
  refine lv_aload_n hx hb dX2_init_38 rfl (lv_at hl 0 rfl) ?_
  refine va_get (D := (dC, dI)) (ci := 2) (v := .ref gs) (C := RX2) (T := TX2) (N := 11) hx hb hts inn_X2_init_X2 hown hK hP 0 rfl rfl 8 (by decide) (hts (.fieldLink RX2 20 "SelfEndingCodesModel" "sums" "[J") (by decide +kernel)) (fun _ h9 => h9) rfl dX2_init_39 ?_
  refine lv_iconst (v := (0 : Int32)) hx hb dX2_init_42 (by decide) ?_
  refine lv_lconst (v := (1 : Int64)) hx hb dX2_init_43 (by decide) ?_
  obtain ⟨hin, hj⟩ := ja_ix hj
  refine va_last hx hb hK hP hD hS 4 1 rfl rfl hin dX2_init_44 (fun H locs hP hD hS => ?_)
  have hP : va_P (dC, dI) vwCl (wM cI cJ g0 gr gl gw gs t0 (fun _ => 0 : Nat → Int32) m0 a0 (fun _ => 0 : Nat → Int64) d0 (fun _ => 0 : Nat → Int32) d1 (vp_updL (fun _ => 0 : Nat → Int64) (0 : Int32).toNatClampNeg (1 : Int64)) f0 n0) H := hP
  have hD : va_D A (wM cI cJ g0 gr gl gw gs t0 (fun _ => 0 : Nat → Int32) m0 a0 (fun _ => 0 : Nat → Int64) d0 (fun _ => 0 : Nat → Int32) d1 (vp_updL (fun _ => 0 : Nat → Int64) (0 : Int32).toNatClampNeg (1 : Int64)) f0 n0) := hD
  refine lv_aload_n hx hb dX2_init_45 rfl (lv_at hl 0 rfl) ?_
  refine va_get (D := (dC, dI)) (ci := 2) (v := .ref gs) (C := RX2) (T := TX2) (N := 11) hx hb hts inn_X2_init_X2 hown hK hP 0 rfl rfl 8 (by decide) (hts (.fieldLink RX2 20 "SelfEndingCodesModel" "sums" "[J") (by decide +kernel)) (fun _ h9 => h9) rfl dX2_init_46 ?_
  refine lv_iconst (v := (1 : Int32)) hx hb dX2_init_49 (by decide) ?_
  refine lv_lconst (v := (1 : Int64)) hx hb dX2_init_50 (by decide) ?_
  obtain ⟨hin, hj⟩ := ja_ix hj
  refine va_last hx hb hK hP hD hS 4 1 rfl rfl hin dX2_init_51 (fun H locs hP hD hS => ?_)
  have hP : va_P (dC, dI) vwCl (wM cI cJ g0 gr gl gw gs t0 (fun _ => 0 : Nat → Int32) m0 a0 (fun _ => 0 : Nat → Int64) d0 (fun _ => 0 : Nat → Int32) d1 (vp_updL (vp_updL (fun _ => 0 : Nat → Int64) (0 : Int32).toNatClampNeg (1 : Int64)) (1 : Int32).toNatClampNeg (1 : Int64)) f0 n0) H := hP
  have hD : va_D A (wM cI cJ g0 gr gl gw gs t0 (fun _ => 0 : Nat → Int32) m0 a0 (fun _ => 0 : Nat → Int64) d0 (fun _ => 0 : Nat → Int32) d1 (vp_updL (vp_updL (fun _ => 0 : Nat → Int64) (0 : Int32).toNatClampNeg (1 : Int64)) (1 : Int32).toNatClampNeg (1 : Int64)) f0 n0) := hD
  refine lv_iconst (v := (1 : Int32)) hx hb dX2_init_52 (by decide) ?_
  refine lv_istore_n (lv' := [(1, .int (1 : Int32)), (0, .ref g0)]) hx hb dX2_init_53 rfl hl (by decide) rfl (fun ls hl => ?_)
  exact s_X2_init_54 C0 hK hA g0 gr gl gw gs t0 (fun _ => 0 : Nat → Int32) m0 a0 (fun _ => 0 : Nat → Int64) d0 (fun _ => 0 : Nat → Int32) d1 f0 n0 jF (1 : Int32) (vp_updL (vp_updL (fun _ => 0 : Nat → Int64) (0 : Int32).toNatClampNeg (1 : Int64)) (1 : Int32).toNatClampNeg (1 : Int64)) _ hj _ _ _ (hP) (hD) hS (lv_sub hl [1, 0] rfl)
