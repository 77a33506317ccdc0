set_option maxRecDepth 100000 in
theorem inn_X2_add_X2 : ∀ w ∈ u_ws RX2 TX2 11, w ∈ wsX2_add := by decide +kernel
def j_X2_add (th : Int32) (ml : Nat → Int64) (md_l : Int32) (a1 : Int64) : Option (Int32 × Int32 × (Nat → Int64) × Int32) :=
  (j_X2_noNumber a1).bind fun v1 => (if v1 = (0 : Int32) then (if md_l = (100 : Int32) then (some ((-1 : Int32), (0 : Int32), ml, md_l)) else (jix md_l 100 (some (md_l + (1 : Int32), (0 : Int32), vp_updL ml md_l.toNatClampNeg a1, md_l + (1 : Int32))))) else (some ((0 : Int32), (1 : Int32), ml, md_l)))
set_option maxHeartbeats 4000000 in
set_option maxRecDepth 100000 in
theorem c_X2_add (l : Launch) (dC : Nat → ClassId) (dI : Nat → Nat → Nat) (cI cJ : ClassId) (g0 : Nat) (gr : Nat) (gl : Nat) (gw : Nat) (gs : Nat) (sz : Nat) (th : Int32) (rw : Nat → Int32) (mn : Int32) (at_ : Int32) (ml : Nat → Int64) (md_l : Int32) (wd : Nat → Int32) (md : Int32) (sm : Nat → Int64) (fr : Int32) (no : Int32) (a1 : Int64) (r : Int32 × Int32 × (Nat → Int64) × Int32) (hj : j_X2_add th ml md_l a1 = some r) : Met l yX2_add wsX2_add ({ frames := 1, cells := 0, slots := 0, locals := 21 } : Room) (va_Pc [.ref g0, .long a1] (fun U => jPr dC dI cI cJ (wM cI cJ g0 gr gl gw gs th rw mn at_ ml md_l wd md sm fr no) sz U)) (va_Qi (fun (v : Int32) (_ : Unit) => v = r.1) (fun (_ : Unit) t => jPo dC dI cI cJ (wM cI cJ g0 gr gl gw gs r.2.1 rw mn at_ r.2.2.1 r.2.2.2 wd md sm fr no) (va_A (wM cI cJ g0 gr gl gw gs th rw mn at_ ml md_l wd md sm fr no) sz) t) (va_A (wM cI cJ g0 gr gl gw gs th rw mn at_ ml md_l wd md sm fr no) sz)) 0 0 (va_A (wM cI cJ g0 gr gl gw gs th rw mn at_ ml md_l wd md sm fr no) sz) := by
  refine Met.ofW (cc := cX2_add) (maxL := 3) (ret := (some .int)) (by decide) rfl ?_
  intro p e s m args below meth c s₁ B hml hv
  obtain ⟨rfl, ⟨hsz, hP, hK, hD0⟩⟩ := hv
  have hx := B.exec
  have hb := B.bytes
  have hr := B.returns
  have hts := atoms_spec (ws := wsX2_add) B.pre
  have hown : s.vm.findClass RX2 = some m.cls := findClass_of_methodNamed B.named
  have hlocks := B.notSynchronized
  have C0 := jCx.of hx hb hr hml hown hts hlocks
  subst hsz
  have hD := hD0.self (sz := s.heap.size)
  generalize hAe : va_A (wM cI cJ g0 gr gl gw gs th rw mn at_ ml md_l wd md sm fr no) s.heap.size = A at hD ⊢
  have hA : ∀ q : Nat, s.heap.size ≤ q → A q := fun q h => by rw [← hAe]; exact Or.inr h
  have hS : va_S A s.heap s.heap [] := va_S.rf
  have hP : va_P (dC, dI) vwCl (wM cI cJ g0 gr gl gw gs th rw mn at_ ml md_l wd md sm fr no) s.heap := hP
  have hl := lv_entry ([.ref g0, .long a1]) (n := 3) (Nat.le_of_ble_eq_true rfl)
  rw [lg_entry_eq]
  generalize (lg_sl ([.ref g0, .long a1]) ++ List.replicate (3 - (lg_sl ([.ref g0, .long a1])).length) Slot.unset).toArray = ls at hl ⊢
  have hl : lv_has ls 3 [(0, .ref g0), (1, .long a1)] := hl
  clear hD0 hAe
  unfold j_X2_add at hj
  refine lv_aload_n hx hb dX2_add_0 rfl (lv_at hl 0 rfl) ?_
  refine lv_lload_n hx hb dX2_add_1 rfl (lv_at hl 1 rfl) ?_
  obtain ⟨v1, hc, hj⟩ := ja_bd hj
  try dsimp only at hj
  have hPc := hP.sub (ws' := ([] : va_W)) [] rfl
  have hDc := hD.sub (ws' := ([] : va_W)) [] (by decide) rfl
  have hFc := va_free (wc := ([] : va_W)) hD hS hA [] rfl
  refine va_calli (va_runS (As := [.long a1]) (rest := [.ref g0]) ⟨hx, hb, hml, hown, hts⟩ (c_X2_noNumber l dC dI cI cJ s.heap.size a1 _ hc) (va_cwS 1 hts gX2_add_X2_noNumber rfl rfl rfl (by decide +kernel) ⟨Nat.le_of_ble_eq_true rfl, Nat.le_of_ble_eq_true rfl⟩) ⟨fun a U g mk q => ⟨q.1, jPr.blind q.2⟩, fun U hU hW => ⟨rfl, jPr.mk hU hW hPc hK hDc⟩⟩ rfl rfl hl.1 rfl (lv_room (Nat.le_of_ble_eq_true rfl)) dX2_add_2 ⟨Nat.le_of_ble_eq_true rfl, Nat.le_of_ble_eq_true rfl⟩) hS (fun q _ h => hFc q h) hFc (fun rr u t H1 locs ht hvm hw9 hB hz1 hk1 hS => ?_)
  have hw8 : v1 = rr := hw9.symm
  subst hw8
  obtain ⟨hP1, hK1, hD1⟩ := hB
  rw [ht] at hP1
  obtain ⟨hP, hD⟩ := va_join (wr := ([(g0, .inr (2, [.int th, .ref gr, .int mn, .int at_, .ref gl, .int md_l, .ref gw, .int md, .ref gs, .int fr, .int no])), (gr, .inl (cI, 4096, .inl rw)), (gl, .inl (cJ, 100, .inr (.inl ml))), (gw, .inl (cI, 4200, .inl wd)), (gs, .inl (cJ, 92, .inr (.inl sm)))] : va_W)) (w1 := ([] : va_W)) hP hD [] [0, 1, 2, 3, 4] rfl rfl (by decide) (by decide) hk1 hFc hP1 hD1
  clear hk1 hP1 hK1 hD1 hvm hz1 hPc hDc hFc
  generalize H1 = H at hP hS ⊢
  have hP : va_P (dC, dI) vwCl (wM cI cJ g0 gr gl gw gs th rw mn at_ ml md_l wd md sm fr no) H := hP
  have hD : va_D A (wM cI cJ g0 gr gl gw gs th rw mn at_ ml md_l wd md sm fr no) := hD
  refine lv_if_eq (tgt := 12) hx hb dX2_add_5 (by decide) (fun c2 => ?_) (fun c2 => ?_)
  · replace hj := ja_pos c2 hj
    refine lv_iconst (v := (0 : Int32)) hx hb dX2_add_12 (by decide) ?_
    refine va_put (D := (dC, dI)) (ci := 2) (v := .int (0 : Int32)) (ty := .int) (C := RX2) (T := TX2) (N := 11) hx hb hts inn_X2_add_X2 tyX2 tyX2_ok nmX2 hown hK hP hD hS 0 rfl rfl 0 (by decide) (hts (.fieldLink RX2 25 "SelfEndingCodesModel" "thrown" "I") (by decide +kernel)) (fun _ h9 => h9) rfl (by decide +kernel) rfl rfl (Nat.le_of_ble_eq_true rfl) dX2_add_13 (fun H locs hP hD hS => ?_)
    have hP : va_P (dC, dI) vwCl (wM cI cJ g0 gr gl gw gs (0 : Int32) rw mn at_ ml md_l wd md sm fr no) H := hP
    have hD : va_D A (wM cI cJ g0 gr gl gw gs (0 : Int32) rw mn at_ ml md_l wd md sm fr no) := hD
    refine lv_aload_n hx hb dX2_add_16 rfl (lv_at hl 0 rfl) ?_
    refine va_get (D := (dC, dI)) (ci := 2) (v := .int (0 : Int32)) (C := RX2) (T := TX2) (N := 11) hx hb hts inn_X2_add_X2 hown hK hP 0 rfl rfl 0 (by decide) (hts (.fieldLink RX2 25 "SelfEndingCodesModel" "thrown" "I") (by decide +kernel)) (fun _ h9 => h9) rfl dX2_add_17 ?_
    refine lv_if_le (tgt := 25) hx hb dX2_add_20 (by decide) (fun _ => ?_) (fun h9 => absurd (by decide) h9)
    refine lv_aload_n hx hb dX2_add_25 rfl (lv_at hl 0 rfl) ?_
    refine va_get (D := (dC, dI)) (ci := 2) (v := .int md_l) (C := RX2) (T := TX2) (N := 11) hx hb hts inn_X2_add_X2 hown hK hP 0 rfl rfl 5 (by decide) (hts (.fieldLink RX2 167 "SelfEndingCodesModel" "listed" "I") (by decide +kernel)) (fun _ h9 => h9) rfl dX2_add_26 ?_
    refine lv_bipush (v := (100 : Int32)) hx hb dX2_add_29 (by decide) ?_
    refine lv_icmp_ne (tgt := 36) hx hb dX2_add_31 (by decide) (fun c4 => ?_) (fun c4 => ?_)
    · replace hj := ja_neg c4 hj
      refine lv_aload_n hx hb dX2_add_36 rfl (lv_at hl 0 rfl) ?_
      refine va_get (D := (dC, dI)) (ci := 2) (v := .ref gl) (C := RX2) (T := TX2) (N := 11) hx hb hts inn_X2_add_X2 hown hK hP 0 rfl rfl 4 (by decide) (hts (.fieldLink RX2 13 "SelfEndingCodesModel" "list" "[J") (by decide +kernel)) (fun _ h9 => h9) rfl dX2_add_37 ?_
      refine lv_aload_n hx hb dX2_add_40 rfl (lv_at hl 0 rfl) ?_
      refine va_get (D := (dC, dI)) (ci := 2) (v := .int md_l) (C := RX2) (T := TX2) (N := 11) hx hb hts inn_X2_add_X2 hown hK hP 0 rfl rfl 5 (by decide) (hts (.fieldLink RX2 167 "SelfEndingCodesModel" "listed" "I") (by decide +kernel)) (fun _ h9 => h9) rfl dX2_add_41 ?_
      refine lv_lload_n hx hb dX2_add_44 rfl (lv_at hl 1 rfl) ?_
      obtain ⟨hin, hj⟩ := ja_ix hj
      refine va_last hx hb hK hP hD hS 2 1 rfl rfl hin dX2_add_45 (fun H locs hP hD hS => ?_)
      have hP : va_P (dC, dI) vwCl (wM cI cJ g0 gr gl gw gs (0 : Int32) rw mn at_ (vp_updL ml md_l.toNatClampNeg a1) md_l wd md sm fr no) H := hP
      have hD : va_D A (wM cI cJ g0 gr gl gw gs (0 : Int32) rw mn at_ (vp_updL ml md_l.toNatClampNeg a1) md_l wd md sm fr no) := hD
      refine lv_aload_n hx hb dX2_add_46 rfl (lv_at hl 0 rfl) ?_
      refine lv_dup hx hb dX2_add_47 rfl ?_
      refine va_get (D := (dC, dI)) (ci := 2) (v := .int md_l) (C := RX2) (T := TX2) (N := 11) hx hb hts inn_X2_add_X2 hown hK hP 0 rfl rfl 5 (by decide) (hts (.fieldLink RX2 167 "SelfEndingCodesModel" "listed" "I") (by decide +kernel)) (fun _ h9 => h9) rfl dX2_add_48 ?_
      refine lv_iconst (v := (1 : Int32)) hx hb dX2_add_51 (by decide) ?_
      refine lv_iadd hx hb dX2_add_52 ?_
      refine va_put (D := (dC, dI)) (ci := 2) (v := .int (md_l + (1 : Int32))) (ty := .int) (C := RX2) (T := TX2) (N := 11) hx hb hts inn_X2_add_X2 tyX2 tyX2_ok nmX2 hown hK hP hD hS 0 rfl rfl 5 (by decide) (hts (.fieldLink RX2 167 "SelfEndingCodesModel" "listed" "I") (by decide +kernel)) (fun _ h9 => h9) rfl (by decide +kernel) rfl rfl (Nat.le_of_ble_eq_true rfl) dX2_add_53 (fun H locs hP hD hS => ?_)
      have hP : va_P (dC, dI) vwCl (wM cI cJ g0 gr gl gw gs (0 : Int32) rw mn at_ (vp_updL ml md_l.toNatClampNeg a1) (md_l + (1 : Int32)) wd md sm fr no) H := hP
      have hD : va_D A (wM cI cJ g0 gr gl gw gs (0 : Int32) rw mn at_ (vp_updL ml md_l.toNatClampNeg a1) (md_l + (1 : Int32)) wd md sm fr no) := hD
      refine lv_aload_n hx hb dX2_add_56 rfl (lv_at hl 0 rfl) ?_
      refine va_get (D := (dC, dI)) (ci := 2) (v := .int (md_l + (1 : Int32))) (C := RX2) (T := TX2) (N := 11) hx hb hts inn_X2_add_X2 hown hK hP 0 rfl rfl 5 (by decide) (hts (.fieldLink RX2 167 "SelfEndingCodesModel" "listed" "I") (by decide +kernel)) (fun _ h9 => h9) rfl dX2_add_57 ?_
      have hr9 : (md_l + (1 : Int32), (0 : Int32), vp_updL ml md_l.toNatClampNeg a1, md_l + (1 : Int32)) = r := Option.some.inj hj
      subst hr9
      exact W.iret (v := md_l + (1 : Int32)) hx hb hr (fun t ht hW => ⟨⟨md_l + (1 : Int32), (), rfl, rfl, by rw [ht]; exact hP, va_K.moved hW.alike hK, hD⟩, hS.F ht⟩) hS.2.2 dX2_add_60
    · replace hj := ja_pos c4 hj
      refine lv_iconst (v := (-1 : Int32)) hx hb dX2_add_34 (by decide) ?_
      have hr9 : ((-1 : Int32), (0 : Int32), ml, md_l) = r := Option.some.inj hj
      subst hr9
      exact W.iret (v := (-1 : Int32)) hx hb hr (fun t ht hW => ⟨⟨(-1 : Int32), (), rfl, rfl, by rw [ht]; exact hP, va_K.moved hW.alike hK, hD⟩, hS.F ht⟩) hS.2.2 dX2_add_35
  · replace hj := ja_neg c2 hj
    refine lv_iconst (v := (1 : Int32)) hx hb dX2_add_8 (by decide) ?_
    refine lv_goto (tgt := 13) hx hb dX2_add_9 (by decide) ?_
    refine va_put (D := (dC, dI)) (ci := 2) (v := .int (1 : Int32)) (ty := .int) (C := RX2) (T := TX2) (N := 11) hx hb hts inn_X2_add_X2 tyX2 tyX2_ok nmX2 hown hK hP hD hS 0 rfl rfl 0 (by decide) (hts (.fieldLink RX2 25 "SelfEndingCodesModel" "thrown" "I") (by decide +kernel)) (fun _ h9 => h9) rfl (by decide +kernel) rfl rfl (Nat.le_of_ble_eq_true rfl) dX2_add_13 (fun H locs hP hD hS => ?_)
    have hP : va_P (dC, dI) vwCl (wM cI cJ g0 gr gl gw gs (1 : Int32) rw mn at_ ml md_l wd md sm fr no) H := hP
    have hD : va_D A (wM cI cJ g0 gr gl gw gs (1 : Int32) rw mn at_ ml md_l wd md sm fr no) := hD
    refine lv_aload_n hx hb dX2_add_16 rfl (lv_at hl 0 rfl) ?_
    refine va_get (D := (dC, dI)) (ci := 2) (v := .int (1 : Int32)) (C := RX2) (T := TX2) (N := 11) hx hb hts inn_X2_add_X2 hown hK hP 0 rfl rfl 0 (by decide) (hts (.fieldLink RX2 25 "SelfEndingCodesModel" "thrown" "I") (by decide +kernel)) (fun _ h9 => h9) rfl dX2_add_17 ?_
    refine lv_if_le (tgt := 25) hx hb dX2_add_20 (by decide) (fun h9 => absurd h9 (by decide)) (fun _ => ?_)
    refine lv_iconst (v := (0 : Int32)) hx hb dX2_add_23 (by decide) ?_
    have hr9 : ((0 : Int32), (1 : Int32), ml, md_l) = r := Option.some.inj hj
    subst hr9
    exact W.iret (v := (0 : Int32)) hx hb hr (fun t ht hW => ⟨⟨(0 : Int32), (), rfl, rfl, by rw [ht]; exact hP, va_K.moved hW.alike hK, hD⟩, hS.F ht⟩) hS.2.2 dX2_add_24

set_option maxRecDepth 100000 in
theorem inn_X2_begun_X2 : ∀ w ∈ u_ws RX2 TX2 11, w ∈ wsX2_begun := by decide +kernel
def jL_X2_begun_33 (th : Int32) (sm : Nat → Int64) (x1 : Int32) (x2 : Int32) (x3 : Int32) : Nat → Int64 → Int32 → Option (Int64 × Int32)
  | 0, _, _ => none
  | n + 1, x4, x6 => if x3 < x6 then (some (x4, th)) else (if th = (0 : Int32) then ((j_X2_countOf sm x1 x2 x6).bind fun v3303 => (jL_X2_begun_33 th sm x1 x2 x3 n (x4 + (v3303 <<< ((x3 - x6).toInt64 &&& 63))) (x6 + (1 : Int32)))) else (some (x4, th)))
set_option maxHeartbeats 4000000 in
set_option maxRecDepth 100000 in
theorem s_X2_begun_33 {p : Program} {l : Launch} {e : Env} {s : State} {m : MethodId} {args : Array Value} {below : List Frame} {meth : Method} {c : Code} {dC : Nat → ClassId} {dI : Nat → Nat → Nat} {cI cJ : ClassId} {A : Nat → Prop} (C0 : jCx p s m args meth c RX2 cX2_begun 7 (some .long) wsX2_begun) (hK : va_K (dC, dI) vwCl (jTy cI cJ) s) (hA : ∀ q : Nat, s.heap.size ≤ q → A q) (g0 : Nat) (gr : Nat) (gl : Nat) (gw : Nat) (gs : Nat) (th : Int32) (rw : Nat → Int32) (mn : Int32) (at_ : Int32) (ml : Nat → Int64) (md_l : Int32) (wd : Nat → Int32) (md : Int32) (sm : Nat → Int64) (fr : Int32) (no : Int32) (x1 : Int32) (x2 : Int32) (x3 : Int32) :
    ∀ (n : Nat) (x4 : Int64) (x6 : Int32) (r : Int64 × Int32), jL_X2_begun_33 th sm x1 x2 x3 n x4 x6 = some r → ∀ (H : Heap) (locs : List Loc) (ls : Array Slot), va_P (dC, dI) vwCl (wM cI cJ g0 gr gl gw gs th rw mn at_ ml md_l wd md sm fr no) H → va_D A (wM cI cJ g0 gr gl gw gs th rw mn at_ ml md_l wd md sm fr no) → va_S A s.heap H locs → lv_has ls 7 [(0, .ref g0), (1, .int x1), (2, .int x2), (3, .int x3), (4, .long x4), (6, .int x6)] → W p l e ({ frames := 6, cells := 0, slots := 0, locals := 158 } : Room) s m args below meth c H locs 0 0 (MQ below (va_Ql (fun (v : Int64) (_ : Unit) => v = r.1) (fun (_ : Unit) t => jPo dC dI cI cJ (wM cI cJ g0 gr gl gw gs r.2 rw mn at_ ml md_l wd md sm fr no) A t) A) args s 0 0 A) (F0 m 33 ls []) := by
  obtain ⟨hx, hb, hr, hml, hown, hts, hlocks⟩ := id C0
  intro n
  induction n with
  | zero =>
    intro x4 x6 r hj
    exact nomatch (show (none : Option (Int64 × Int32)) = some r from hj)
  | succ n ih =>
    intro x4 x6 r hj H locs ls hP hD hS hl
    replace hj : (if x3 < x6 then (some (x4, th)) else (if th = (0 : Int32) then ((j_X2_countOf sm x1 x2 x6).bind fun v3303 => (jL_X2_begun_33 th sm x1 x2 x3 n (x4 + (v3303 <<< ((x3 - x6).toInt64 &&& 63))) (x6 + (1 : Int32)))) else (some (x4, th)))) = some r := hj
    refine lv_iload hx hb dX2_begun_33 (lv_at hl 5 rfl) ?_
    refine lv_iload_n hx hb dX2_begun_35 rfl (lv_at hl 3 rfl) ?_
    refine lv_icmp_gt (tgt := 70) hx hb dX2_begun_36 (by decide) (fun c3301 => ?_) (fun c3301 => ?_)
    · replace hj := ja_pos c3301 hj
      refine lv_lload hx hb dX2_begun_70 (lv_at hl 4 rfl) ?_
      have hr9 : (x4, th) = r := Option.some.inj hj
      subst hr9
      exact W.lret (v := x4) hx hb hr (fun t ht hW => ⟨⟨x4, (), rfl, rfl, by rw [ht]; exact hP, va_K.moved hW.alike hK, hD⟩, hS.F ht⟩) hS.2.2 dX2_begun_72
    · replace hj := ja_neg c3301 hj
      refine lv_aload_n hx hb dX2_begun_39 rfl (lv_at hl 0 rfl) ?_
      refine va_get (D := (dC, dI)) (ci := 2) (v := .int th) (C := RX2) (T := TX2) (N := 11) hx hb hts inn_X2_begun_X2 hown hK hP 0 rfl rfl 0 (by decide) (hts (.fieldLink RX2 25 "SelfEndingCodesModel" "thrown" "I") (by decide +kernel)) (fun _ h9 => h9) rfl dX2_begun_40 ?_
      refine lv_if_ne (tgt := 70) hx hb dX2_begun_43 (by decide) (fun c3302 => ?_) (fun c3302 => ?_)
      · replace hj := ja_neg c3302 hj
        refine lv_lload hx hb dX2_begun_70 (lv_at hl 4 rfl) ?_
        have hr9 : (x4, th) = r := Option.some.inj hj
        subst hr9
        exact W.lret (v := x4) hx hb hr (fun t ht hW => ⟨⟨x4, (), rfl, rfl, by rw [ht]; exact hP, va_K.moved hW.alike hK, hD⟩, hS.F ht⟩) hS.2.2 dX2_begun_72
      · replace hj := ja_pos c3302 hj
        refine lv_lload hx hb dX2_begun_46 (lv_at hl 4 rfl) ?_
        refine lv_aload_n hx hb dX2_begun_48 rfl (lv_at hl 0 rfl) ?_
        refine lv_iload_n hx hb dX2_begun_49 rfl (lv_at hl 1 rfl) ?_
        refine lv_iload_n hx hb dX2_begun_50 rfl (lv_at hl 2 rfl) ?_
        refine lv_iload hx hb dX2_begun_51 (lv_at hl 5 rfl) ?_
        obtain ⟨v3303, hc, hj⟩ := ja_bd hj
        try dsimp only at hj
        have hPc := hP.sub (ws' := (wM cI cJ g0 gr gl gw gs th rw mn at_ ml md_l wd md sm fr no)) [0, 1, 2, 3, 4] rfl
        have hDc := hD.sub (ws' := (wM cI cJ g0 gr gl gw gs th rw mn at_ ml md_l wd md sm fr no)) [0, 1, 2, 3, 4] (by decide) rfl
        have hFc := va_free (wc := (wM cI cJ g0 gr gl gw gs th rw mn at_ ml md_l wd md sm fr no)) hD hS hA [0, 1, 2, 3, 4] rfl
        refine va_calll (va_runV (As := [.int x1, .int x2, .int x6]) (rest := [.long x4]) ⟨hx, hb, hml, hown, hts⟩ (c_X2_countOf l dC dI cI cJ g0 gr gl gw gs H.size th rw mn at_ ml md_l wd md sm fr no x1 x2 x6 _ hc) (cwV 3 hts gX2_begun_X2_countOf rfl rfl rfl (by decide +kernel) ⟨Nat.le_of_ble_eq_true rfl, Nat.le_of_ble_eq_true rfl⟩) ⟨fun a U g mk q => ⟨q.1, jPr.blind q.2⟩, va_recv hK hPc (ci := 2) (q0 := 0) rfl rfl, fun U hU hW => ⟨rfl, jPr.mk hU hW hPc hK hDc⟩⟩ rfl rfl hl.1 rfl (lv_room (Nat.le_of_ble_eq_true rfl)) dX2_begun_53 ⟨Nat.le_of_ble_eq_true rfl, Nat.le_of_ble_eq_true rfl⟩) hS (fun q _ h => hFc q h) hFc (fun rr u t H1 locs ht hvm hw9 hB hz1 hk1 hS => ?_)
        have hw8 : v3303 = rr := hw9.symm
        subst hw8
        obtain ⟨hP1, hK1, hD1⟩ := hB
        rw [ht] at hP1
        obtain ⟨hP, hD⟩ := va_join (wr := ([] : va_W)) (w1 := (wM cI cJ g0 gr gl gw gs th rw mn at_ ml md_l wd md sm fr no)) hP hD [0, 1, 2, 3, 4] [] rfl rfl (by decide) (by decide) hk1 hFc hP1 hD1
        clear hk1 hP1 hK1 hD1 hvm hz1 hPc hDc hFc
        generalize H1 = H at hP hS ⊢
        have hP : va_P (dC, dI) vwCl (wM cI cJ g0 gr gl gw gs th rw mn at_ ml md_l wd md sm fr no) H := hP
        have hD : va_D A (wM cI cJ g0 gr gl gw gs th rw mn at_ ml md_l wd md sm fr no) := hD
        refine lv_iload_n hx hb dX2_begun_56 rfl (lv_at hl 3 rfl) ?_
        refine lv_iload hx hb dX2_begun_57 (lv_at hl 5 rfl) ?_
        refine lv_isub hx hb dX2_begun_59 ?_
        refine lv_lshl hx hb dX2_begun_60 rfl ?_
        refine lv_ladd hx hb dX2_begun_61 ?_
        refine lv_lstore (lv' := [(4, .long (x4 + (v3303 <<< ((x3 - x6).toInt64 &&& 63)))), (0, .ref g0), (1, .int x1), (2, .int x2), (3, .int x3), (6, .int x6)]) hx hb dX2_begun_62 hl (by decide) rfl (fun ls hl => ?_)
        refine lv_iinc (v := x6 + (1 : Int32)) (lv' := [(6, .int (x6 + (1 : Int32))), (4, .long (x4 + (v3303 <<< ((x3 - x6).toInt64 &&& 63)))), (0, .ref g0), (1, .int x1), (2, .int x2), (3, .int x3)]) hx hb dX2_begun_64 hl (k := 5) rfl (congrArg (fun z => x6 + z) (by decide)) (by decide) rfl (fun ls hl => ?_)
        refine lv_goto (tgt := 33) hx hb dX2_begun_67 (by decide) ?_
        exact ih (x4 + (v3303 <<< ((x3 - x6).toInt64 &&& 63))) (x6 + (1 : Int32)) _ hj _ _ _ (hP) (hD) hS (lv_sub hl [2, 3, 4, 5, 1, 0] rfl)
def j_X2_begun (th : Int32) (sm : Nat → Int64) (a1 : Int32) (a2 : Int32) (a3 : Int32) : Option (Int64 × Int32) :=
  (j_X2_noKind a1 a2).bind fun v1 => (if v1 = (0 : Int32) then (if a3 < (0 : Int32) then (jL_X2_begun_33 (1 : Int32) sm a1 a2 a3 jF (0 : Int64) (1 : Int32)) else (if a3 ≤ (62 : Int32) then (jL_X2_begun_33 (0 : Int32) sm a1 a2 a3 jF (0 : Int64) (1 : Int32)) else (jL_X2_begun_33 (1 : Int32) sm a1 a2 a3 jF (0 : Int64) (1 : Int32)))) else (jL_X2_begun_33 (1 : Int32) sm a1 a2 a3 jF (0 : Int64) (1 : Int32)))
set_option maxHeartbeats 4000000 in
set_option maxRecDepth 100000 in
theorem c_X2_begun (l : Launch) (dC : Nat → ClassId) (dI : Nat → Nat → Nat) (cI cJ : ClassId) (g0 : Nat) (gr : Nat) (gl : Nat) (gw : Nat) (gs : Nat) (sz : Nat) (th : Int32) (rw : Nat → Int32) (mn : Int32) (at_ : Int32) (ml : Nat → Int64) (md_l : Int32) (wd : Nat → Int32) (md : Int32) (sm : Nat → Int64) (fr : Int32) (no : Int32) (a1 : Int32) (a2 : Int32) (a3 : Int32) (r : Int64 × Int32) (hj : j_X2_begun th sm a1 a2 a3 = some r) : Met l yX2_begun wsX2_begun ({ frames := 6, cells := 0, slots := 0, locals := 158 } : Room) (va_Pc [.ref g0, .int a1, .int a2, .int a3] (fun U => jPr dC dI cI cJ (wM cI cJ g0 gr gl gw gs th rw mn at_ ml md_l wd md sm fr no) sz U)) (va_Ql (fun (v : Int64) (_ : Unit) => v = r.1) (fun (_ : Unit) t => jPo dC dI cI cJ (wM cI cJ g0 gr gl gw gs r.2 rw mn at_ ml md_l wd md sm fr no) (va_A (wM cI cJ g0 gr gl gw gs th rw mn at_ ml md_l wd md sm fr no) sz) t) (va_A (wM cI cJ g0 gr gl gw gs th rw mn at_ ml md_l wd md sm fr no) sz)) 0 0 (va_A (wM cI cJ g0 gr gl gw gs th rw mn at_ ml md_l wd md sm fr no) sz) := by
  refine Met.ofW (cc := cX2_begun) (maxL := 7) (ret := (some .long)) (by decide) rfl ?_
  intro p e s m args below meth c s₁ B hml hv
  obtain ⟨rfl, ⟨hsz, hP, hK, hD0⟩⟩ := hv
  have hx := B.exec
  have hb := B.bytes
  have hr := B.returns
  have hts := atoms_spec (ws := wsX2_begun) B.pre
  have hown : s.vm.findClass RX2 = some m.cls := findClass_of_methodNamed B.named
  have hlocks := B.notSynchronized
  have C0 := jCx.of hx hb hr hml hown hts hlocks
  subst hsz
  have hD := hD0.self (sz := s.heap.size)
  generalize hAe : va_A (wM cI cJ g0 gr gl gw gs th rw mn at_ ml md_l wd md sm fr no) s.heap.size = A at hD ⊢
  have hA : ∀ q : Nat, s.heap.size ≤ q → A q := fun q h => by rw [← hAe]; exact Or.inr h
  have hS : va_S A s.heap s.heap [] := va_S.rf
  have hP : va_P (dC, dI) vwCl (wM cI cJ g0 gr gl gw gs th rw mn at_ ml md_l wd md sm fr no) s.heap := hP
  have hl := lv_entry ([.ref g0, .int a1, .int a2, .int a3]) (n := 7) (Nat.le_of_ble_eq_true rfl)
  rw [lg_entry_eq]
  generalize (lg_sl ([.ref g0, .int a1, .int a2, .int a3]) ++ List.replicate (7 - (lg_sl ([.ref g0, .int a1, .int a2, .int a3])).length) Slot.unset).toArray = ls at hl ⊢
  have hl : lv_has ls 7 [(0, .ref g0), (1, .int a1), (2, .int a2), (3, .int a3)] := hl
  clear hD0 hAe
  unfold j_X2_begun at hj
  refine lv_aload_n hx hb dX2_begun_0 rfl (lv_at hl 0 rfl) ?_
  refine lv_iload_n hx hb dX2_begun_1 rfl (lv_at hl 1 rfl) ?_
  refine lv_iload_n hx hb dX2_begun_2 rfl (lv_at hl 2 rfl) ?_
  obtain ⟨v1, hc, hj⟩ := ja_bd hj
  try dsimp only at hj
  have hPc := hP.sub (ws' := ([] : va_W)) [] rfl
  have hDc := hD.sub (ws' := ([] : va_W)) [] (by decide) rfl
  have hFc := va_free (wc := ([] : va_W)) hD hS hA [] rfl
  refine va_calli (va_runS (As := [.int a1, .int a2]) (rest := [.ref g0]) ⟨hx, hb, hml, hown, hts⟩ (c_X2_noKind l dC dI cI cJ s.heap.size a1 a2 _ hc) (va_cwS 2 hts gX2_begun_X2_noKind rfl rfl rfl (by decide +kernel) ⟨Nat.le_of_ble_eq_true rfl, Nat.le_of_ble_eq_true rfl⟩) ⟨fun a U g mk q => ⟨q.1, jPr.blind q.2⟩, fun U hU hW => ⟨rfl, jPr.mk hU hW hPc hK hDc⟩⟩ rfl rfl hl.1 rfl (lv_room (Nat.le_of_ble_eq_true rfl)) dX2_begun_3 ⟨Nat.le_of_ble_eq_true rfl, Nat.le_of_ble_eq_true rfl⟩) hS (fun q _ h => hFc q h) hFc (fun rr u t H1 locs ht hvm hw9 hB hz1 hk1 hS => ?_)
  have hw8 : v1 = rr := hw9.symm
  subst hw8
  obtain ⟨hP1, hK1, hD1⟩ := hB
  rw [ht] at hP1
  obtain ⟨hP, hD⟩ := va_join (wr := ([(g0, .inr (2, [.int th, .ref gr, .int mn, .int at_, .ref gl, .int md_l, .ref gw, .int md, .ref gs, .int fr, .int no])), (gr, .inl (cI, 4096, .inl rw)), (gl, .inl (cJ, 100, .inr (.inl ml))), (gw, .inl (cI, 4200, .inl wd)), (gs, .inl (cJ, 92, .inr (.inl sm)))] : va_W)) (w1 := ([] : va_W)) hP hD [] [0, 1, 2, 3, 4] rfl rfl (by decide) (by decide) hk1 hFc hP1 hD1
  clear hk1 hP1 hK1 hD1 hvm hz1 hPc hDc hFc
  generalize H1 = H at hP hS ⊢
  have hP : va_P (dC, dI) vwCl (wM cI cJ g0 gr gl gw gs th rw mn at_ ml md_l wd md sm fr no) H := hP
  have hD : va_D A (wM cI cJ g0 gr gl gw gs th rw mn at_ ml md_l wd md sm fr no) := hD
  refine lv_if_ne (tgt := 19) hx hb dX2_begun_6 (by decide) (fun c2 => ?_) (fun c2 => ?_)
  · replace hj := ja_neg c2 hj
    refine lv_iconst (v := (1 : Int32)) hx hb dX2_begun_19 (by decide) ?_
    refine lv_goto (tgt := 24) hx hb dX2_begun_20 (by decide) ?_
    refine va_put (D := (dC, dI)) (ci := 2) (v := .int (1 : Int32)) (ty := .int) (C := RX2) (T := TX2) (N := 11) hx hb hts inn_X2_begun_X2 tyX2 tyX2_ok nmX2 hown hK hP hD hS 0 rfl rfl 0 (by decide) (hts (.fieldLink RX2 25 "SelfEndingCodesModel" "thrown" "I") (by decide +kernel)) (fun _ h9 => h9) rfl (by decide +kernel) rfl rfl (Nat.le_of_ble_eq_true rfl) dX2_begun_24 (fun H locs hP hD hS => ?_)
    have hP : va_P (dC, dI) vwCl (wM cI cJ g0 gr gl gw gs (1 : Int32) rw mn at_ ml md_l wd md sm fr no) H := hP
    have hD : va_D A (wM cI cJ g0 gr gl gw gs (1 : Int32) rw mn at_ ml md_l wd md sm fr no) := hD
    refine lv_lconst (v := (0 : Int64)) hx hb dX2_begun_27 (by decide) ?_
    refine lv_lstore (lv' := [(4, .long (0 : Int64)), (0, .ref g0), (1, .int a1), (2, .int a2), (3, .int a3)]) hx hb dX2_begun_28 hl (by decide) rfl (fun ls hl => ?_)
    refine lv_iconst (v := (1 : Int32)) hx hb dX2_begun_30 (by decide) ?_
    refine lv_istore (lv' := [(6, .int (1 : Int32)), (4, .long (0 : Int64)), (0, .ref g0), (1, .int a1), (2, .int a2), (3, .int a3)]) hx hb dX2_begun_31 hl (by decide) rfl (fun ls hl => ?_)
    exact s_X2_begun_33 C0 hK hA g0 gr gl gw gs (1 : Int32) rw mn at_ ml md_l wd md sm fr no a1 a2 a3 jF (0 : Int64) (1 : Int32) _ hj _ _ _ (hP) (hD) hS (lv_sub hl [2, 3, 4, 5, 1, 0] rfl)
  · replace hj := ja_pos c2 hj
    refine lv_iload_n hx hb dX2_begun_9 rfl (lv_at hl 3 rfl) ?_
    refine lv_if_lt (tgt := 19) hx hb dX2_begun_10 (by decide) (fun c3 => ?_) (fun c3 => ?_)
    · replace hj := ja_pos c3 hj
      refine lv_iconst (v := (1 : Int32)) hx hb dX2_begun_19 (by decide) ?_
      refine lv_goto (tgt := 24) hx hb dX2_begun_20 (by decide) ?_
      refine va_put (D := (dC, dI)) (ci := 2) (v := .int (1 : Int32)) (ty := .int) (C := RX2) (T := TX2) (N := 11) hx hb hts inn_X2_begun_X2 tyX2 tyX2_ok nmX2 hown hK hP hD hS 0 rfl rfl 0 (by decide) (hts (.fieldLink RX2 25 "SelfEndingCodesModel" "thrown" "I") (by decide +kernel)) (fun _ h9 => h9) rfl (by decide +kernel) rfl rfl (Nat.le_of_ble_eq_true rfl) dX2_begun_24 (fun H locs hP hD hS => ?_)
      have hP : va_P (dC, dI) vwCl (wM cI cJ g0 gr gl gw gs (1 : Int32) rw mn at_ ml md_l wd md sm fr no) H := hP
      have hD : va_D A (wM cI cJ g0 gr gl gw gs (1 : Int32) rw mn at_ ml md_l wd md sm fr no) := hD
      refine lv_lconst (v := (0 : Int64)) hx hb dX2_begun_27 (by decide) ?_
      refine lv_lstore (lv' := [(4, .long (0 : Int64)), (0, .ref g0), (1, .int a1), (2, .int a2), (3, .int a3)]) hx hb dX2_begun_28 hl (by decide) rfl (fun ls hl => ?_)
      refine lv_iconst (v := (1 : Int32)) hx hb dX2_begun_30 (by decide) ?_
      refine lv_istore (lv' := [(6, .int (1 : Int32)), (4, .long (0 : Int64)), (0, .ref g0), (1, .int a1), (2, .int a2), (3, .int a3)]) hx hb dX2_begun_31 hl (by decide) rfl (fun ls hl => ?_)
      exact s_X2_begun_33 C0 hK hA g0 gr gl gw gs (1 : Int32) rw mn at_ ml md_l wd md sm fr no a1 a2 a3 jF (0 : Int64) (1 : Int32) _ hj _ _ _ (hP) (hD) hS (lv_sub hl [2, 3, 4, 5, 1, 0] rfl)
    · replace hj := ja_neg c3 hj
      refine lv_iload_n hx hb dX2_begun_13 rfl (lv_at hl 3 rfl) ?_
      refine lv_bipush (v := (62 : Int32)) hx hb dX2_begun_14 (by decide) ?_
      refine lv_icmp_le (tgt := 23) hx hb dX2_begun_16 (by decide) (fun c4 => ?_) (fun c4 => ?_)
      · replace hj := ja_pos c4 hj
        refine lv_iconst (v := (0 : Int32)) hx hb dX2_begun_23 (by decide) ?_
        refine va_put (D := (dC, dI)) (ci := 2) (v := .int (0 : Int32)) (ty := .int) (C := RX2) (T := TX2) (N := 11) hx hb hts inn_X2_begun_X2 tyX2 tyX2_ok nmX2 hown hK hP hD hS 0 rfl rfl 0 (by decide) (hts (.fieldLink RX2 25 "SelfEndingCodesModel" "thrown" "I") (by decide +kernel)) (fun _ h9 => h9) rfl (by decide +kernel) rfl rfl (Nat.le_of_ble_eq_true rfl) dX2_begun_24 (fun H locs hP hD hS => ?_)
        have hP : va_P (dC, dI) vwCl (wM cI cJ g0 gr gl gw gs (0 : Int32) rw mn at_ ml md_l wd md sm fr no) H := hP
        have hD : va_D A (wM cI cJ g0 gr gl gw gs (0 : Int32) rw mn at_ ml md_l wd md sm fr no) := hD
        refine lv_lconst (v := (0 : Int64)) hx hb dX2_begun_27 (by decide) ?_
        refine lv_lstore (lv' := [(4, .long (0 : Int64)), (0, .ref g0), (1, .int a1), (2, .int a2), (3, .int a3)]) hx hb dX2_begun_28 hl (by decide) rfl (fun ls hl => ?_)
        refine lv_iconst (v := (1 : Int32)) hx hb dX2_begun_30 (by decide) ?_
        refine lv_istore (lv' := [(6, .int (1 : Int32)), (4, .long (0 : Int64)), (0, .ref g0), (1, .int a1), (2, .int a2), (3, .int a3)]) hx hb dX2_begun_31 hl (by decide) rfl (fun ls hl => ?_)
        exact s_X2_begun_33 C0 hK hA g0 gr gl gw gs (0 : Int32) rw mn at_ ml md_l wd md sm fr no a1 a2 a3 jF (0 : Int64) (1 : Int32) _ hj _ _ _ (hP) (hD) hS (lv_sub hl [2, 3, 4, 5, 1, 0] rfl)
      · replace hj := ja_neg c4 hj
        refine lv_iconst (v := (1 : Int32)) hx hb dX2_begun_19 (by decide) ?_
        refine lv_goto (tgt := 24) hx hb dX2_begun_20 (by decide) ?_
        refine va_put (D := (dC, dI)) (ci := 2) (v := .int (1 : Int32)) (ty := .int) (C := RX2) (T := TX2) (N := 11) hx hb hts inn_X2_begun_X2 tyX2 tyX2_ok nmX2 hown hK hP hD hS 0 rfl rfl 0 (by decide) (hts (.fieldLink RX2 25 "SelfEndingCodesModel" "thrown" "I") (by decide +kernel)) (fun _ h9 => h9) rfl (by decide +kernel) rfl rfl (Nat.le_of_ble_eq_true rfl) dX2_begun_24 (fun H locs hP hD hS => ?_)
        have hP : va_P (dC, dI) vwCl (wM cI cJ g0 gr gl gw gs (1 : Int32) rw mn at_ ml md_l wd md sm fr no) H := hP
        have hD : va_D A (wM cI cJ g0 gr gl gw gs (1 : Int32) rw mn at_ ml md_l wd md sm fr no) := hD
        refine lv_lconst (v := (0 : Int64)) hx hb dX2_begun_27 (by decide) ?_
        refine lv_lstore (lv' := [(4, .long (0 : Int64)), (0, .ref g0), (1, .int a1), (2, .int a2), (3, .int a3)]) hx hb dX2_begun_28 hl (by decide) rfl (fun ls hl => ?_)
        refine lv_iconst (v := (1 : Int32)) hx hb dX2_begun_30 (by decide) ?_
        refine lv_istore (lv' := [(6, .int (1 : Int32)), (4, .long (0 : Int64)), (0, .ref g0), (1, .int a1), (2, .int a2), (3, .int a3)]) hx hb dX2_begun_31 hl (by decide) rfl (fun ls hl => ?_)
        exact s_X2_begun_33 C0 hK hA g0 gr gl gw gs (1 : Int32) rw mn at_ ml md_l wd md sm fr no a1 a2 a3 jF (0 : Int64) (1 : Int32) _ hj _ _ _ (hP) (hD) hS (lv_sub hl [2, 3, 4, 5, 1, 0] rfl)

set_option maxRecDepth 100000 in
theorem inn_X2_totalOf_X2 : ∀ w ∈ u_ws RX2 TX2 11, w ∈ wsX2_totalOf := by decide +kernel
def jL_X2_totalOf_5 (ml : Nat → Int64) (md_l : Int32) (sm : Nat → Int64) (x1 : Int32) (x2 : Int32) : Nat → Int64 → Int32 → Option (Int64)
  | 0, _, _ => none
  | n + 1, x3, x5 => if md_l ≤ x5 then (some x3) else (jix x5 100 ((j_X2_lengthOf sm x1 x2 (ml x5.toNatClampNeg)).bind fun v502 => (if v502 ≤ ((4611686018427387904 : Int64) - x3) then (jL_X2_totalOf_5 ml md_l sm x1 x2 n (x3 + v502) (x5 + (1 : Int32))) else (jL_X2_totalOf_5 ml md_l sm x1 x2 n (4611686018427387904 : Int64) (x5 + (1 : Int32))))))
set_option maxHeartbeats 4000000 in
set_option maxRecDepth 100000 in
theorem s_X2_totalOf_5 {p : Program} {l : Launch} {e : Env} {s : State} {m : MethodId} {args : Array Value} {below : List Frame} {meth : Method} {c : Code} {dC : Nat → ClassId} {dI : Nat → Nat → Nat} {cI cJ : ClassId} {A : Nat → Prop} (C0 : jCx p s m args meth c RX2 cX2_totalOf 8 (some .long) wsX2_totalOf) (hK : va_K (dC, dI) vwCl (jTy cI cJ) s) (hA : ∀ q : Nat, s.heap.size ≤ q → A q) (g0 : Nat) (gr : Nat) (gl : Nat) (gw : Nat) (gs : Nat) (th : Int32) (rw : Nat → Int32) (mn : Int32) (at_ : Int32) (ml : Nat → Int64) (md_l : Int32) (wd : Nat → Int32) (md : Int32) (sm : Nat → Int64) (fr : Int32) (no : Int32) (x1 : Int32) (x2 : Int32) :
    ∀ (n : Nat) (x3 : Int64) (x5 : Int32) (r : Int64), jL_X2_totalOf_5 ml md_l sm x1 x2 n x3 x5 = some r → ∀ (H : Heap) (locs : List Loc) (ls : Array Slot), va_P (dC, dI) vwCl (wM cI cJ g0 gr gl gw gs th rw mn at_ ml md_l wd md sm fr no) H → va_D A (wM cI cJ g0 gr gl gw gs th rw mn at_ ml md_l wd md sm fr no) → va_S A s.heap H locs → lv_has ls 8 [(0, .ref g0), (1, .int x1), (2, .int x2), (3, .long x3), (5, .int x5)] → W p l e ({ frames := 3, cells := 0, slots := 0, locals := 80 } : Room) s m args below meth c H locs 0 0 (MQ below (va_Ql (fun (v : Int64) (_ : Unit) => v = r) (fun (_ : Unit) t => jPo dC dI cI cJ (wM cI cJ g0 gr gl gw gs th rw mn at_ ml md_l wd md sm fr no) A t) A) args s 0 0 A) (F0 m 5 ls []) := by
  obtain ⟨hx, hb, hr, hml, hown, hts, hlocks⟩ := id C0
  intro n
  induction n with
  | zero =>
    intro x3 x5 r hj
    exact nomatch (show (none : Option (Int64)) = some r from hj)
  | succ n ih =>
    intro x3 x5 r hj H locs ls hP hD hS hl
    replace hj : (if md_l ≤ x5 then (some x3) else (jix x5 100 ((j_X2_lengthOf sm x1 x2 (ml x5.toNatClampNeg)).bind fun v502 => (if v502 ≤ ((4611686018427387904 : Int64) - x3) then (jL_X2_totalOf_5 ml md_l sm x1 x2 n (x3 + v502) (x5 + (1 : Int32))) else (jL_X2_totalOf_5 ml md_l sm x1 x2 n (4611686018427387904 : Int64) (x5 + (1 : Int32))))))) = some r := hj
    refine lv_iload hx hb dX2_totalOf_5 (lv_at hl 4 rfl) ?_
    refine lv_aload_n hx hb dX2_totalOf_7 rfl (lv_at hl 0 rfl) ?_
    refine va_get (D := (dC, dI)) (ci := 2) (v := .int md_l) (C := RX2) (T := TX2) (N := 11) hx hb hts inn_X2_totalOf_X2 hown hK hP 0 rfl rfl 5 (by decide) (hts (.fieldLink RX2 167 "SelfEndingCodesModel" "listed" "I") (by decide +kernel)) (fun _ h9 => h9) rfl dX2_totalOf_8 ?_
    refine lv_icmp_ge (tgt := 57) hx hb dX2_totalOf_11 (by decide) (fun c501 => ?_) (fun c501 => ?_)
    · replace hj := ja_pos c501 hj
      refine lv_lload_n hx hb dX2_totalOf_57 rfl (lv_at hl 3 rfl) ?_
      have hr9 : x3 = r := Option.some.inj hj
      subst hr9
      exact W.lret (v := x3) hx hb hr (fun t ht hW => ⟨⟨x3, (), rfl, rfl, by rw [ht]; exact hP, va_K.moved hW.alike hK, hD⟩, hS.F ht⟩) hS.2.2 dX2_totalOf_58
    · replace hj := ja_neg c501 hj
      refine lv_aload_n hx hb dX2_totalOf_14 rfl (lv_at hl 0 rfl) ?_
      refine lv_iload_n hx hb dX2_totalOf_15 rfl (lv_at hl 1 rfl) ?_
      refine lv_iload_n hx hb dX2_totalOf_16 rfl (lv_at hl 2 rfl) ?_
      refine lv_aload_n hx hb dX2_totalOf_17 rfl (lv_at hl 0 rfl) ?_
      refine va_get (D := (dC, dI)) (ci := 2) (v := .ref gl) (C := RX2) (T := TX2) (N := 11) hx hb hts inn_X2_totalOf_X2 hown hK hP 0 rfl rfl 4 (by decide) (hts (.fieldLink RX2 13 "SelfEndingCodesModel" "list" "[J") (by decide +kernel)) (fun _ h9 => h9) rfl dX2_totalOf_18 ?_
      refine lv_iload hx hb dX2_totalOf_21 (lv_at hl 4 rfl) ?_
      obtain ⟨hin, hj⟩ := ja_ix hj
      refine va_lald hx hb hK hP 2 1 rfl rfl hin dX2_totalOf_23 ?_
      obtain ⟨v502, hc, hj⟩ := ja_bd hj
      try dsimp only at hj
      have hPc := hP.sub (ws' := (wM cI cJ g0 gr gl gw gs th rw mn at_ ml md_l wd md sm fr no)) [0, 1, 2, 3, 4] rfl
      have hDc := hD.sub (ws' := (wM cI cJ g0 gr gl gw gs th rw mn at_ ml md_l wd md sm fr no)) [0, 1, 2, 3, 4] (by decide) rfl
      have hFc := va_free (wc := (wM cI cJ g0 gr gl gw gs th rw mn at_ ml md_l wd md sm fr no)) hD hS hA [0, 1, 2, 3, 4] rfl
      refine va_calll (va_runV (As := [.int x1, .int x2, .long (ml x5.toNatClampNeg)]) (rest := []) ⟨hx, hb, hml, hown, hts⟩ (c_X2_lengthOf l dC dI cI cJ g0 gr gl gw gs H.size th rw mn at_ ml md_l wd md sm fr no x1 x2 (ml x5.toNatClampNeg) _ hc) (cwV 3 hts gX2_totalOf_X2_lengthOf rfl rfl rfl (by decide +kernel) ⟨Nat.le_of_ble_eq_true rfl, Nat.le_of_ble_eq_true rfl⟩) ⟨fun a U g mk q => ⟨q.1, jPr.blind q.2⟩, va_recv hK hPc (ci := 2) (q0 := 0) rfl rfl, fun U hU hW => ⟨rfl, jPr.mk hU hW hPc hK hDc⟩⟩ rfl rfl hl.1 rfl (lv_room (Nat.le_of_ble_eq_true rfl)) dX2_totalOf_24 ⟨Nat.le_of_ble_eq_true rfl, Nat.le_of_ble_eq_true rfl⟩) hS (fun q _ h => hFc q h) hFc (fun rr u t H1 locs ht hvm hw9 hB hz1 hk1 hS => ?_)
      have hw8 : v502 = rr := hw9.symm
      subst hw8
      obtain ⟨hP1, hK1, hD1⟩ := hB
      rw [ht] at hP1
      obtain ⟨hP, hD⟩ := va_join (wr := ([] : va_W)) (w1 := (wM cI cJ g0 gr gl gw gs th rw mn at_ ml md_l wd md sm fr no)) hP hD [0, 1, 2, 3, 4] [] rfl rfl (by decide) (by decide) hk1 hFc hP1 hD1
      clear hk1 hP1 hK1 hD1 hvm hz1 hPc hDc hFc
      generalize H1 = H at hP hS ⊢
      have hP : va_P (dC, dI) vwCl (wM cI cJ g0 gr gl gw gs th rw mn at_ ml md_l wd md sm fr no) H := hP
      have hD : va_D A (wM cI cJ g0 gr gl gw gs th rw mn at_ ml md_l wd md sm fr no) := hD
      refine lv_lstore (lv' := [(6, .long v502), (0, .ref g0), (1, .int x1), (2, .int x2), (3, .long x3), (5, .int x5)]) hx hb dX2_totalOf_27 hl (by decide) rfl (fun ls hl => ?_)
      refine lv_lload hx hb dX2_totalOf_29 (lv_at hl 0 rfl) ?_
      refine lv_ldc2 (v := (4611686018427387904 : Int64)) hx hb hown (hts (.constantLong RX2 30 (4611686018427387904)) (by decide +kernel)) dX2_totalOf_31 ?_
      refine lv_lload_n hx hb dX2_totalOf_34 rfl (lv_at hl 4 rfl) ?_
      refine lv_lsub hx hb dX2_totalOf_35 ?_
      refine W.lcmp hx hb dX2_totalOf_36 ?_
      refine lv_if_le (tgt := 46) hx hb dX2_totalOf_37 (by decide) (fun c503 => ?_) (fun c503 => ?_)
      · replace hj := ja_pos ((lg_cmp_le v502 ((4611686018427387904 : Int64) - x3)).mp c503) hj
        refine lv_lload_n hx hb dX2_totalOf_46 rfl (lv_at hl 4 rfl) ?_
        refine lv_lload hx hb dX2_totalOf_47 (lv_at hl 0 rfl) ?_
        refine lv_ladd hx hb dX2_totalOf_49 ?_
        refine lv_lstore_n (lv' := [(3, .long (x3 + v502)), (6, .long v502), (0, .ref g0), (1, .int x1), (2, .int x2), (5, .int x5)]) hx hb dX2_totalOf_50 rfl hl (by decide) rfl (fun ls hl => ?_)
        refine lv_iinc (v := x5 + (1 : Int32)) (lv' := [(5, .int (x5 + (1 : Int32))), (3, .long (x3 + v502)), (6, .long v502), (0, .ref g0), (1, .int x1), (2, .int x2)]) hx hb dX2_totalOf_51 hl (k := 5) rfl (congrArg (fun z => x5 + z) (by decide)) (by decide) rfl (fun ls hl => ?_)
        refine lv_goto (tgt := 5) hx hb dX2_totalOf_54 (by decide) ?_
        exact ih (x3 + v502) (x5 + (1 : Int32)) _ hj _ _ _ (hP) (hD) hS (lv_sub hl [3, 4, 5, 1, 0] rfl)
      · replace hj := ja_neg (fun h9 => c503 ((lg_cmp_le v502 ((4611686018427387904 : Int64) - x3)).mpr h9)) hj
        refine lv_ldc2 (v := (4611686018427387904 : Int64)) hx hb hown (hts (.constantLong RX2 30 (4611686018427387904)) (by decide +kernel)) dX2_totalOf_40 ?_
        refine lv_goto (tgt := 50) hx hb dX2_totalOf_43 (by decide) ?_
        refine lv_lstore_n (lv' := [(3, .long (4611686018427387904 : Int64)), (6, .long v502), (0, .ref g0), (1, .int x1), (2, .int x2), (5, .int x5)]) hx hb dX2_totalOf_50 rfl hl (by decide) rfl (fun ls hl => ?_)
        refine lv_iinc (v := x5 + (1 : Int32)) (lv' := [(5, .int (x5 + (1 : Int32))), (3, .long (4611686018427387904 : Int64)), (6, .long v502), (0, .ref g0), (1, .int x1), (2, .int x2)]) hx hb dX2_totalOf_51 hl (k := 5) rfl (congrArg (fun z => x5 + z) (by decide)) (by decide) rfl (fun ls hl => ?_)
        refine lv_goto (tgt := 5) hx hb dX2_totalOf_54 (by decide) ?_
        exact ih (4611686018427387904 : Int64) (x5 + (1 : Int32)) _ hj _ _ _ (hP) (hD) hS (lv_sub hl [3, 4, 5, 1, 0] rfl)
def j_X2_totalOf (ml : Nat → Int64) (md_l : Int32) (sm : Nat → Int64) (a1 : Int32) (a2 : Int32) : Option (Int64) :=
  jL_X2_totalOf_5 ml md_l sm a1 a2 jF (0 : Int64) (0 : Int32)
set_option maxHeartbeats 4000000 in
set_option maxRecDepth 100000 in
theorem c_X2_totalOf (l : Launch) (dC : Nat → ClassId) (dI : Nat → Nat → Nat) (cI cJ : ClassId) (g0 : Nat) (gr : Nat) (gl : Nat) (gw : Nat) (gs : Nat) (sz : Nat) (th : Int32) (rw : Nat → Int32) (mn : Int32) (at_ : Int32) (ml : Nat → Int64) (md_l : Int32) (wd : Nat → Int32) (md : Int32) (sm : Nat → Int64) (fr : Int32) (no : Int32) (a1 : Int32) (a2 : Int32) (r : Int64) (hj : j_X2_totalOf ml md_l sm a1 a2 = some r) : Met l yX2_totalOf wsX2_totalOf ({ frames := 3, cells := 0, slots := 0, locals := 80 } : Room) (va_Pc [.ref g0, .int a1, .int a2] (fun U => jPr dC dI cI cJ (wM cI cJ g0 gr gl gw gs th rw mn at_ ml md_l wd md sm fr no) sz U)) (va_Ql (fun (v : Int64) (_ : Unit) => v = r) (fun (_ : Unit) t => jPo dC dI cI cJ (wM cI cJ g0 gr gl gw gs th rw mn at_ ml md_l wd md sm fr no) (va_A (wM cI cJ g0 gr gl gw gs th rw mn at_ ml md_l wd md sm fr no) sz) t) (va_A (wM cI cJ g0 gr gl gw gs th rw mn at_ ml md_l wd md sm fr no) sz)) 0 0 (va_A (wM cI cJ g0 gr gl gw gs th rw mn at_ ml md_l wd md sm fr no) sz) := by
  refine Met.ofW (cc := cX2_totalOf) (maxL := 8) (ret := (some .long)) (by decide) rfl ?_
  intro p e s m args below meth c s₁ B hml hv
  obtain ⟨rfl, ⟨hsz, hP, hK, hD0⟩⟩ := hv
  have hx := B.exec
  have hb := B.bytes
  have hr := B.returns
  have hts := atoms_spec (ws := wsX2_totalOf) B.pre
  have hown : s.vm.findClass RX2 = some m.cls := findClass_of_methodNamed B.named
  have hlocks := B.notSynchronized
  have C0 := jCx.of hx hb hr hml hown hts hlocks
  subst hsz
  have hD := hD0.self (sz := s.heap.size)
  generalize hAe : va_A (wM cI cJ g0 gr gl gw gs th rw mn at_ ml md_l wd md sm fr no) s.heap.size = A at hD ⊢
  have hA : ∀ q : Nat, s.heap.size ≤ q → A q := fun q h => by rw [← hAe]; exact Or.inr h
  have hS : va_S A s.heap s.heap [] := va_S.rf
  have hP : va_P (dC, dI) vwCl (wM cI cJ g0 gr gl gw gs th rw mn at_ ml md_l wd md sm fr no) s.heap := hP
  have hl := lv_entry ([.ref g0, .int a1, .int a2]) (n := 8) (Nat.le_of_ble_eq_true rfl)
  rw [lg_entry_eq]
  generalize (lg_sl ([.ref g0, .int a1, .int a2]) ++ List.replicate (8 - (lg_sl ([.ref g0, .int a1, .int a2])).length) Slot.unset).toArray = ls at hl ⊢
  have hl : lv_has ls 8 [(0, .ref g0), (1, .int a1), (2, .int a2)] := hl
  clear hD0 hAe
  unfold j_X2_totalOf at hj
  refine lv_lconst (v := (0 : Int64)) hx hb dX2_totalOf_0 (by decide) ?_
  refine lv_lstore_n (lv' := [(3, .long (0 : Int64)), (0, .ref g0), (1, .int a1), (2, .int a2)]) hx hb dX2_totalOf_1 rfl hl (by decide) rfl (fun ls hl => ?_)
  refine lv_iconst (v := (0 : Int32)) hx hb dX2_totalOf_2 (by decide) ?_
  refine lv_istore (lv' := [(5, .int (0 : Int32)), (3, .long (0 : Int64)), (0, .ref g0), (1, .int a1), (2, .int a2)]) hx hb dX2_totalOf_3 hl (by decide) rfl (fun ls hl => ?_)
  exact s_X2_totalOf_5 C0 hK hA g0 gr gl gw gs th rw mn at_ ml md_l wd md sm fr no a1 a2 jF (0 : Int64) (0 : Int32) _ hj _ _ _ (hP) (hD) hS (lv_sub hl [2, 3, 4, 1, 0] rfl)

set_option maxRecDepth 100000 in
theorem inn_X2_best_X2 : ∀ w ∈ u_ws RX2 TX2 11, w ∈ wsX2_best := by decide +kernel
def jL_X2_best_53 (th : Int32) (ml : Nat → Int64) (md_l : Int32) (sm : Nat → Int64) (x1 : Int32) (x2 : Int32) : Nat → Int32 → Int32 → Option (Int32 × Int32)
  | 0, _, _ => none
  | n + 1, x3, x4 => if x2 < x4 then (some (x3, th)) else ((j_X2_totalOf ml md_l sm x1 x4).bind fun v5302 => ((j_X2_totalOf ml md_l sm x1 x3).bind fun v5303 => (if v5303 ≤ v5302 then (jL_X2_best_53 th ml md_l sm x1 x2 n x3 (x4 + (1 : Int32))) else (jL_X2_best_53 th ml md_l sm x1 x2 n x4 (x4 + (1 : Int32))))))
set_option maxHeartbeats 4000000 in
set_option maxRecDepth 100000 in
theorem s_X2_best_53 {p : Program} {l : Launch} {e : Env} {s : State} {m : MethodId} {args : Array Value} {below : List Frame} {meth : Method} {c : Code} {dC : Nat → ClassId} {dI : Nat → Nat → Nat} {cI cJ : ClassId} {A : Nat → Prop} (C0 : jCx p s m args meth c RX2 cX2_best 5 (some .int) wsX2_best) (hK : va_K (dC, dI) vwCl (jTy cI cJ) s) (hA : ∀ q : Nat, s.heap.size ≤ q → A q) (g0 : Nat) (gr : Nat) (gl : Nat) (gw : Nat) (gs : Nat) (th : Int32) (rw : Nat → Int32) (mn : Int32) (at_ : Int32) (ml : Nat → Int64) (md_l : Int32) (wd : Nat → Int32) (md : Int32) (sm : Nat → Int64) (fr : Int32) (no : Int32) (x1 : Int32) (x2 : Int32) :
    ∀ (n : Nat) (x3 : Int32) (x4 : Int32) (r : Int32 × Int32), jL_X2_best_53 th ml md_l sm x1 x2 n x3 x4 = some r → ∀ (H : Heap) (locs : List Loc) (ls : Array Slot), va_P (dC, dI) vwCl (wM cI cJ g0 gr gl gw gs th rw mn at_ ml md_l wd md sm fr no) H → va_D A (wM cI cJ g0 gr gl gw gs th rw mn at_ ml md_l wd md sm fr no) → va_S A s.heap H locs → lv_has ls 5 [(0, .ref g0), (1, .int x1), (2, .int x2), (3, .int x3), (4, .int x4)] → W p l e ({ frames := 4, cells := 0, slots := 0, locals := 107 } : Room) s m args below meth c H locs 0 0 (MQ below (va_Qi (fun (v : Int32) (_ : Unit) => v = r.1) (fun (_ : Unit) t => jPo dC dI cI cJ (wM cI cJ g0 gr gl gw gs r.2 rw mn at_ ml md_l wd md sm fr no) A t) A) args s 0 0 A) (F0 m 53 ls []) := by
  obtain ⟨hx, hb, hr, hml, hown, hts, hlocks⟩ := id C0
  intro n
  induction n with
  | zero =>
    intro x3 x4 r hj
    exact nomatch (show (none : Option (Int32 × Int32)) = some r from hj)
  | succ n ih =>
    intro x3 x4 r hj H locs ls hP hD hS hl
    replace hj : (if x2 < x4 then (some (x3, th)) else ((j_X2_totalOf ml md_l sm x1 x4).bind fun v5302 => ((j_X2_totalOf ml md_l sm x1 x3).bind fun v5303 => (if v5303 ≤ v5302 then (jL_X2_best_53 th ml md_l sm x1 x2 n x3 (x4 + (1 : Int32))) else (jL_X2_best_53 th ml md_l sm x1 x2 n x4 (x4 + (1 : Int32))))))) = some r := hj
    refine lv_iload hx hb dX2_best_53 (lv_at hl 4 rfl) ?_
    refine lv_iload_n hx hb dX2_best_55 rfl (lv_at hl 2 rfl) ?_
    refine lv_icmp_gt (tgt := 89) hx hb dX2_best_56 (by decide) (fun c5301 => ?_) (fun c5301 => ?_)
    · replace hj := ja_pos c5301 hj
      refine lv_iload_n hx hb dX2_best_89 rfl (lv_at hl 3 rfl) ?_
      have hr9 : (x3, th) = r := Option.some.inj hj
      subst hr9
      exact W.iret (v := x3) hx hb hr (fun t ht hW => ⟨⟨x3, (), rfl, rfl, by rw [ht]; exact hP, va_K.moved hW.alike hK, hD⟩, hS.F ht⟩) hS.2.2 dX2_best_90
    · replace hj := ja_neg c5301 hj
      refine lv_aload_n hx hb dX2_best_59 rfl (lv_at hl 0 rfl) ?_
      refine lv_iload_n hx hb dX2_best_60 rfl (lv_at hl 1 rfl) ?_
      refine lv_iload hx hb dX2_best_61 (lv_at hl 4 rfl) ?_
      obtain ⟨v5302, hc, hj⟩ := ja_bd hj
      try dsimp only at hj
      have hPc := hP.sub (ws' := (wM cI cJ g0 gr gl gw gs th rw mn at_ ml md_l wd md sm fr no)) [0, 1, 2, 3, 4] rfl
      have hDc := hD.sub (ws' := (wM cI cJ g0 gr gl gw gs th rw mn at_ ml md_l wd md sm fr no)) [0, 1, 2, 3, 4] (by decide) rfl
      have hFc := va_free (wc := (wM cI cJ g0 gr gl gw gs th rw mn at_ ml md_l wd md sm fr no)) hD hS hA [0, 1, 2, 3, 4] rfl
      refine va_calll (va_runV (As := [.int x1, .int x4]) (rest := []) ⟨hx, hb, hml, hown, hts⟩ (c_X2_totalOf l dC dI cI cJ g0 gr gl gw gs H.size th rw mn at_ ml md_l wd md sm fr no x1 x4 _ hc) (cwV 2 hts gX2_best_X2_totalOf rfl rfl rfl (by decide +kernel) ⟨Nat.le_of_ble_eq_true rfl, Nat.le_of_ble_eq_true rfl⟩) ⟨fun a U g mk q => ⟨q.1, jPr.blind q.2⟩, va_recv hK hPc (ci := 2) (q0 := 0) rfl rfl, fun U hU hW => ⟨rfl, jPr.mk hU hW hPc hK hDc⟩⟩ rfl rfl hl.1 rfl (lv_room (Nat.le_of_ble_eq_true rfl)) dX2_best_63 ⟨Nat.le_of_ble_eq_true rfl, Nat.le_of_ble_eq_true rfl⟩) hS (fun q _ h => hFc q h) hFc (fun rr u t H1 locs ht hvm hw9 hB hz1 hk1 hS => ?_)
      have hw8 : v5302 = rr := hw9.symm
      subst hw8
      obtain ⟨hP1, hK1, hD1⟩ := hB
      rw [ht] at hP1
      obtain ⟨hP, hD⟩ := va_join (wr := ([] : va_W)) (w1 := (wM cI cJ g0 gr gl gw gs th rw mn at_ ml md_l wd md sm fr no)) hP hD [0, 1, 2, 3, 4] [] rfl rfl (by decide) (by decide) hk1 hFc hP1 hD1
      clear hk1 hP1 hK1 hD1 hvm hz1 hPc hDc hFc
      generalize H1 = H at hP hS ⊢
      have hP : va_P (dC, dI) vwCl (wM cI cJ g0 gr gl gw gs th rw mn at_ ml md_l wd md sm fr no) H := hP
      have hD : va_D A (wM cI cJ g0 gr gl gw gs th rw mn at_ ml md_l wd md sm fr no) := hD
      refine lv_aload_n hx hb dX2_best_66 rfl (lv_at hl 0 rfl) ?_
      refine lv_iload_n hx hb dX2_best_67 rfl (lv_at hl 1 rfl) ?_
      refine lv_iload_n hx hb dX2_best_68 rfl (lv_at hl 3 rfl) ?_
      obtain ⟨v5303, hc, hj⟩ := ja_bd hj
      try dsimp only at hj
      have hPc := hP.sub (ws' := (wM cI cJ g0 gr gl gw gs th rw mn at_ ml md_l wd md sm fr no)) [0, 1, 2, 3, 4] rfl
      have hDc := hD.sub (ws' := (wM cI cJ g0 gr gl gw gs th rw mn at_ ml md_l wd md sm fr no)) [0, 1, 2, 3, 4] (by decide) rfl
      have hFc := va_free (wc := (wM cI cJ g0 gr gl gw gs th rw mn at_ ml md_l wd md sm fr no)) hD hS hA [0, 1, 2, 3, 4] rfl
      refine va_calll (va_runV (As := [.int x1, .int x3]) (rest := [.long v5302]) ⟨hx, hb, hml, hown, hts⟩ (c_X2_totalOf l dC dI cI cJ g0 gr gl gw gs H.size th rw mn at_ ml md_l wd md sm fr no x1 x3 _ hc) (cwV 2 hts gX2_best_X2_totalOf rfl rfl rfl (by decide +kernel) ⟨Nat.le_of_ble_eq_true rfl, Nat.le_of_ble_eq_true rfl⟩) ⟨fun a U g mk q => ⟨q.1, jPr.blind q.2⟩, va_recv hK hPc (ci := 2) (q0 := 0) rfl rfl, fun U hU hW => ⟨rfl, jPr.mk hU hW hPc hK hDc⟩⟩ rfl rfl hl.1 rfl (lv_room (Nat.le_of_ble_eq_true rfl)) dX2_best_69 ⟨Nat.le_of_ble_eq_true rfl, Nat.le_of_ble_eq_true rfl⟩) hS (fun q _ h => hFc q h) hFc (fun rr u t H1 locs ht hvm hw9 hB hz1 hk1 hS => ?_)
      have hw8 : v5303 = rr := hw9.symm
      subst hw8
      obtain ⟨hP1, hK1, hD1⟩ := hB
      rw [ht] at hP1
      obtain ⟨hP, hD⟩ := va_join (wr := ([] : va_W)) (w1 := (wM cI cJ g0 gr gl gw gs th rw mn at_ ml md_l wd md sm fr no)) hP hD [0, 1, 2, 3, 4] [] rfl rfl (by decide) (by decide) hk1 hFc hP1 hD1
      clear hk1 hP1 hK1 hD1 hvm hz1 hPc hDc hFc
      generalize H1 = H at hP hS ⊢
      have hP : va_P (dC, dI) vwCl (wM cI cJ g0 gr gl gw gs th rw mn at_ ml md_l wd md sm fr no) H := hP
      have hD : va_D A (wM cI cJ g0 gr gl gw gs th rw mn at_ ml md_l wd md sm fr no) := hD
      refine W.lcmp hx hb dX2_best_72 ?_
      refine lv_if_ge (tgt := 81) hx hb dX2_best_73 (by decide) (fun c5304 => ?_) (fun c5304 => ?_)
      · replace hj := ja_pos ((lg_cmp_ge v5302 v5303).mp c5304) hj
        refine lv_iload_n hx hb dX2_best_81 rfl (lv_at hl 3 rfl) ?_
        refine lv_istore_n (lv' := [(3, .int x3), (0, .ref g0), (1, .int x1), (2, .int x2), (4, .int x4)]) hx hb dX2_best_82 rfl hl (by decide) rfl (fun ls hl => ?_)
        refine lv_iinc (v := x4 + (1 : Int32)) (lv' := [(4, .int (x4 + (1 : Int32))), (3, .int x3), (0, .ref g0), (1, .int x1), (2, .int x2)]) hx hb dX2_best_83 hl (k := 4) rfl (congrArg (fun z => x4 + z) (by decide)) (by decide) rfl (fun ls hl => ?_)
        refine lv_goto (tgt := 53) hx hb dX2_best_86 (by decide) ?_
        exact ih x3 (x4 + (1 : Int32)) _ hj _ _ _ (hP) (hD) hS (lv_sub hl [2, 3, 4, 1, 0] rfl)
      · replace hj := ja_neg (fun h9 => c5304 ((lg_cmp_ge v5302 v5303).mpr h9)) hj
        refine lv_iload hx hb dX2_best_76 (lv_at hl 4 rfl) ?_
        refine lv_goto (tgt := 82) hx hb dX2_best_78 (by decide) ?_
        refine lv_istore_n (lv' := [(3, .int x4), (0, .ref g0), (1, .int x1), (2, .int x2), (4, .int x4)]) hx hb dX2_best_82 rfl hl (by decide) rfl (fun ls hl => ?_)
        refine lv_iinc (v := x4 + (1 : Int32)) (lv' := [(4, .int (x4 + (1 : Int32))), (3, .int x4), (0, .ref g0), (1, .int x1), (2, .int x2)]) hx hb dX2_best_83 hl (k := 4) rfl (congrArg (fun z => x4 + z) (by decide)) (by decide) rfl (fun ls hl => ?_)
        refine lv_goto (tgt := 53) hx hb dX2_best_86 (by decide) ?_
        exact ih x4 (x4 + (1 : Int32)) _ hj _ _ _ (hP) (hD) hS (lv_sub hl [2, 3, 4, 1, 0] rfl)
def j_X2_best (th : Int32) (ml : Nat → Int64) (md_l : Int32) (sm : Nat → Int64) (a1 : Int32) (a2 : Int32) : Option (Int32 × Int32) :=
  if a1 < (5 : Int32) then (some ((0 : Int32), (1 : Int32))) else ((j_X2_noKind a1 a2).bind fun v3 => (if v3 = (0 : Int32) then (if a2 ≤ (500 : Int32) then (if a1 = (6 : Int32) then (jL_X2_best_53 (0 : Int32) ml md_l sm a1 a2 jF (0 : Int32) (0 : Int32)) else (jL_X2_best_53 (0 : Int32) ml md_l sm a1 a2 jF (1 : Int32) (1 : Int32))) else (some ((0 : Int32), (1 : Int32)))) else (some ((0 : Int32), (1 : Int32)))))
set_option maxHeartbeats 4000000 in
set_option maxRecDepth 100000 in
theorem c_X2_best (l : Launch) (dC : Nat → ClassId) (dI : Nat → Nat → Nat) (cI cJ : ClassId) (g0 : Nat) (gr : Nat) (gl : Nat) (gw : Nat) (gs : Nat) (sz : Nat) (th : Int32) (rw : Nat → Int32) (mn : Int32) (at_ : Int32) (ml : Nat → Int64) (md_l : Int32) (wd : Nat → Int32) (md : Int32) (sm : Nat → Int64) (fr : Int32) (no : Int32) (a1 : Int32) (a2 : Int32) (r : Int32 × Int32) (hj : j_X2_best th ml md_l sm a1 a2 = some r) : Met l yX2_best wsX2_best ({ frames := 4, cells := 0, slots := 0, locals := 107 } : Room) (va_Pc [.ref g0, .int a1, .int a2] (fun U => jPr dC dI cI cJ (wM cI cJ g0 gr gl gw gs th rw mn at_ ml md_l wd md sm fr no) sz U)) (va_Qi (fun (v : Int32) (_ : Unit) => v = r.1) (fun (_ : Unit) t => jPo dC dI cI cJ (wM cI cJ g0 gr gl gw gs r.2 rw mn at_ ml md_l wd md sm fr no) (va_A (wM cI cJ g0 gr gl gw gs th rw mn at_ ml md_l wd md sm fr no) sz) t) (va_A (wM cI cJ g0 gr gl gw gs th rw mn at_ ml md_l wd md sm fr no) sz)) 0 0 (va_A (wM cI cJ g0 gr gl gw gs th rw mn at_ ml md_l wd md sm fr no) sz) := by
  refine Met.ofW (cc := cX2_best) (maxL := 5) (ret := (some .int)) (by decide) rfl ?_
  intro p e s m args below meth c s₁ B hml hv
  obtain ⟨rfl, ⟨hsz, hP, hK, hD0⟩⟩ := hv
  have hx := B.exec
  have hb := B.bytes
  have hr := B.returns
  have hts := atoms_spec (ws := wsX2_best) B.pre
  have hown : s.vm.findClass RX2 = some m.cls := findClass_of_methodNamed B.named
  have hlocks := B.notSynchronized
  have C0 := jCx.of hx hb hr hml hown hts hlocks
  subst hsz
  have hD := hD0.self (sz := s.heap.size)
  generalize hAe : va_A (wM cI cJ g0 gr gl gw gs th rw mn at_ ml md_l wd md sm fr no) s.heap.size = A at hD ⊢
  have hA : ∀ q : Nat, s.heap.size ≤ q → A q := fun q h => by rw [← hAe]; exact Or.inr h
  have hS : va_S A s.heap s.heap [] := va_S.rf
  have hP : va_P (dC, dI) vwCl (wM cI cJ g0 gr gl gw gs th rw mn at_ ml md_l wd md sm fr no) s.heap := hP
  have hl := lv_entry ([.ref g0, .int a1, .int a2]) (n := 5) (Nat.le_of_ble_eq_true rfl)
  rw [lg_entry_eq]
  generalize (lg_sl ([.ref g0, .int a1, .int a2]) ++ List.replicate (5 - (lg_sl ([.ref g0, .int a1, .int a2])).length) Slot.unset).toArray = ls at hl ⊢
  have hl : lv_has ls 5 [(0, .ref g0), (1, .int a1), (2, .int a2)] := hl
  clear hD0 hAe
  unfold j_X2_best at hj
  refine lv_aload_n hx hb dX2_best_0 rfl (lv_at hl 0 rfl) ?_
  refine lv_iload_n hx hb dX2_best_1 rfl (lv_at hl 1 rfl) ?_
  refine lv_iconst (v := (5 : Int32)) hx hb dX2_best_2 (by decide) ?_
  refine lv_icmp_lt (tgt := 21) hx hb dX2_best_3 (by decide) (fun c1 => ?_) (fun c1 => ?_)
  · replace hj := ja_pos c1 hj
    refine lv_iconst (v := (1 : Int32)) hx hb dX2_best_21 (by decide) ?_
    refine lv_goto (tgt := 26) hx hb dX2_best_22 (by decide) ?_
    refine va_put (D := (dC, dI)) (ci := 2) (v := .int (1 : Int32)) (ty := .int) (C := RX2) (T := TX2) (N := 11) hx hb hts inn_X2_best_X2 tyX2 tyX2_ok nmX2 hown hK hP hD hS 0 rfl rfl 0 (by decide) (hts (.fieldLink RX2 25 "SelfEndingCodesModel" "thrown" "I") (by decide +kernel)) (fun _ h9 => h9) rfl (by decide +kernel) rfl rfl (Nat.le_of_ble_eq_true rfl) dX2_best_26 (fun H locs hP hD hS => ?_)
    have hP : va_P (dC, dI) vwCl (wM cI cJ g0 gr gl gw gs (1 : Int32) rw mn at_ ml md_l wd md sm fr no) H := hP
    have hD : va_D A (wM cI cJ g0 gr gl gw gs (1 : Int32) rw mn at_ ml md_l wd md sm fr no) := hD
    refine lv_aload_n hx hb dX2_best_29 rfl (lv_at hl 0 rfl) ?_
    refine va_get (D := (dC, dI)) (ci := 2) (v := .int (1 : Int32)) (C := RX2) (T := TX2) (N := 11) hx hb hts inn_X2_best_X2 hown hK hP 0 rfl rfl 0 (by decide) (hts (.fieldLink RX2 25 "SelfEndingCodesModel" "thrown" "I") (by decide +kernel)) (fun _ h9 => h9) rfl dX2_best_30 ?_
    refine lv_if_le (tgt := 38) hx hb dX2_best_33 (by decide) (fun h9 => absurd h9 (by decide)) (fun _ => ?_)
    refine lv_iconst (v := (0 : Int32)) hx hb dX2_best_36 (by decide) ?_
    have hr9 : ((0 : Int32), (1 : Int32)) = r := Option.some.inj hj
    subst hr9
    exact W.iret (v := (0 : Int32)) hx hb hr (fun t ht hW => ⟨⟨(0 : Int32), (), rfl, rfl, by rw [ht]; exact hP, va_K.moved hW.alike hK, hD⟩, hS.F ht⟩) hS.2.2 dX2_best_37
  · replace hj := ja_neg c1 hj
    refine lv_iload_n hx hb dX2_best_6 rfl (lv_at hl 1 rfl) ?_
    refine lv_iload_n hx hb dX2_best_7 rfl (lv_at hl 2 rfl) ?_
    obtain ⟨v3, hc, hj⟩ := ja_bd hj
    try dsimp only at hj
    have hPc := hP.sub (ws' := ([] : va_W)) [] rfl
    have hDc := hD.sub (ws' := ([] : va_W)) [] (by decide) rfl
    have hFc := va_free (wc := ([] : va_W)) hD hS hA [] rfl
    refine va_calli (va_runS (As := [.int a1, .int a2]) (rest := [.ref g0]) ⟨hx, hb, hml, hown, hts⟩ (c_X2_noKind l dC dI cI cJ s.heap.size a1 a2 _ hc) (va_cwS 2 hts gX2_best_X2_noKind rfl rfl rfl (by decide +kernel) ⟨Nat.le_of_ble_eq_true rfl, Nat.le_of_ble_eq_true rfl⟩) ⟨fun a U g mk q => ⟨q.1, jPr.blind q.2⟩, fun U hU hW => ⟨rfl, jPr.mk hU hW hPc hK hDc⟩⟩ rfl rfl hl.1 rfl (lv_room (Nat.le_of_ble_eq_true rfl)) dX2_best_8 ⟨Nat.le_of_ble_eq_true rfl, Nat.le_of_ble_eq_true rfl⟩) hS (fun q _ h => hFc q h) hFc (fun rr u t H1 locs ht hvm hw9 hB hz1 hk1 hS => ?_)
    have hw8 : v3 = rr := hw9.symm
    subst hw8
    obtain ⟨hP1, hK1, hD1⟩ := hB
    rw [ht] at hP1
    obtain ⟨hP, hD⟩ := va_join (wr := ([(g0, .inr (2, [.int th, .ref gr, .int mn, .int at_, .ref gl, .int md_l, .ref gw, .int md, .ref gs, .int fr, .int no])), (gr, .inl (cI, 4096, .inl rw)), (gl, .inl (cJ, 100, .inr (.inl ml))), (gw, .inl (cI, 4200, .inl wd)), (gs, .inl (cJ, 92, .inr (.inl sm)))] : va_W)) (w1 := ([] : va_W)) hP hD [] [0, 1, 2, 3, 4] rfl rfl (by decide) (by decide) hk1 hFc hP1 hD1
    clear hk1 hP1 hK1 hD1 hvm hz1 hPc hDc hFc
    generalize H1 = H at hP hS ⊢
    have hP : va_P (dC, dI) vwCl (wM cI cJ g0 gr gl gw gs th rw mn at_ ml md_l wd md sm fr no) H := hP
    have hD : va_D A (wM cI cJ g0 gr gl gw gs th rw mn at_ ml md_l wd md sm fr no) := hD
    refine lv_if_ne (tgt := 21) hx hb dX2_best_11 (by decide) (fun c4 => ?_) (fun c4 => ?_)
    · replace hj := ja_neg c4 hj
      refine lv_iconst (v := (1 : Int32)) hx hb dX2_best_21 (by decide) ?_
      refine lv_goto (tgt := 26) hx hb dX2_best_22 (by decide) ?_
      refine va_put (D := (dC, dI)) (ci := 2) (v := .int (1 : Int32)) (ty := .int) (C := RX2) (T := TX2) (N := 11) hx hb hts inn_X2_best_X2 tyX2 tyX2_ok nmX2 hown hK hP hD hS 0 rfl rfl 0 (by decide) (hts (.fieldLink RX2 25 "SelfEndingCodesModel" "thrown" "I") (by decide +kernel)) (fun _ h9 => h9) rfl (by decide +kernel) rfl rfl (Nat.le_of_ble_eq_true rfl) dX2_best_26 (fun H locs hP hD hS => ?_)
      have hP : va_P (dC, dI) vwCl (wM cI cJ g0 gr gl gw gs (1 : Int32) rw mn at_ ml md_l wd md sm fr no) H := hP
      have hD : va_D A (wM cI cJ g0 gr gl gw gs (1 : Int32) rw mn at_ ml md_l wd md sm fr no) := hD
      refine lv_aload_n hx hb dX2_best_29 rfl (lv_at hl 0 rfl) ?_
      refine va_get (D := (dC, dI)) (ci := 2) (v := .int (1 : Int32)) (C := RX2) (T := TX2) (N := 11) hx hb hts inn_X2_best_X2 hown hK hP 0 rfl rfl 0 (by decide) (hts (.fieldLink RX2 25 "SelfEndingCodesModel" "thrown" "I") (by decide +kernel)) (fun _ h9 => h9) rfl dX2_best_30 ?_
      refine lv_if_le (tgt := 38) hx hb dX2_best_33 (by decide) (fun h9 => absurd h9 (by decide)) (fun _ => ?_)
      refine lv_iconst (v := (0 : Int32)) hx hb dX2_best_36 (by decide) ?_
      have hr9 : ((0 : Int32), (1 : Int32)) = r := Option.some.inj hj
      subst hr9
      exact W.iret (v := (0 : Int32)) hx hb hr (fun t ht hW => ⟨⟨(0 : Int32), (), rfl, rfl, by rw [ht]; exact hP, va_K.moved hW.alike hK, hD⟩, hS.F ht⟩) hS.2.2 dX2_best_37
    · replace hj := ja_pos c4 hj
      refine lv_iload_n hx hb dX2_best_14 rfl (lv_at hl 2 rfl) ?_
      refine lv_sipush (v := (500 : Int32)) hx hb dX2_best_15 (by decide) ?_
      refine lv_icmp_le (tgt := 25) hx hb dX2_best_18 (by decide) (fun c6 => ?_) (fun c6 => ?_)
      · replace hj := ja_pos c6 hj
        refine lv_iconst (v := (0 : Int32)) hx hb dX2_best_25 (by decide) ?_
        refine va_put (D := (dC, dI)) (ci := 2) (v := .int (0 : Int32)) (ty := .int) (C := RX2) (T := TX2) (N := 11) hx hb hts inn_X2_best_X2 tyX2 tyX2_ok nmX2 hown hK hP hD hS 0 rfl rfl 0 (by decide) (hts (.fieldLink RX2 25 "SelfEndingCodesModel" "thrown" "I") (by decide +kernel)) (fun _ h9 => h9) rfl (by decide +kernel) rfl rfl (Nat.le_of_ble_eq_true rfl) dX2_best_26 (fun H locs hP hD hS => ?_)
        have hP : va_P (dC, dI) vwCl (wM cI cJ g0 gr gl gw gs (0 : Int32) rw mn at_ ml md_l wd md sm fr no) H := hP
        have hD : va_D A (wM cI cJ g0 gr gl gw gs (0 : Int32) rw mn at_ ml md_l wd md sm fr no) := hD
        refine lv_aload_n hx hb dX2_best_29 rfl (lv_at hl 0 rfl) ?_
        refine va_get (D := (dC, dI)) (ci := 2) (v := .int (0 : Int32)) (C := RX2) (T := TX2) (N := 11) hx hb hts inn_X2_best_X2 hown hK hP 0 rfl rfl 0 (by decide) (hts (.fieldLink RX2 25 "SelfEndingCodesModel" "thrown" "I") (by decide +kernel)) (fun _ h9 => h9) rfl dX2_best_30 ?_
        refine lv_if_le (tgt := 38) hx hb dX2_best_33 (by decide) (fun _ => ?_) (fun h9 => absurd (by decide) h9)
        refine lv_iload_n hx hb dX2_best_38 rfl (lv_at hl 1 rfl) ?_
        refine lv_bipush (v := (6 : Int32)) hx hb dX2_best_39 (by decide) ?_
        refine lv_icmp_ne (tgt := 48) hx hb dX2_best_41 (by decide) (fun c8 => ?_) (fun c8 => ?_)
        · replace hj := ja_neg c8 hj
          refine lv_iconst (v := (1 : Int32)) hx hb dX2_best_48 (by decide) ?_
          refine lv_istore_n (lv' := [(3, .int (1 : Int32)), (0, .ref g0), (1, .int a1), (2, .int a2)]) hx hb dX2_best_49 rfl hl (by decide) rfl (fun ls hl => ?_)
          refine lv_iload_n hx hb dX2_best_50 rfl (lv_at hl 0 rfl) ?_
          refine lv_istore (lv' := [(4, .int (1 : Int32)), (3, .int (1 : Int32)), (0, .ref g0), (1, .int a1), (2, .int a2)]) hx hb dX2_best_51 hl (by decide) rfl (fun ls hl => ?_)
          exact s_X2_best_53 C0 hK hA g0 gr gl gw gs (0 : Int32) rw mn at_ ml md_l wd md sm fr no a1 a2 jF (1 : Int32) (1 : Int32) _ hj _ _ _ (hP) (hD) hS (lv_sub hl [2, 3, 4, 1, 0] rfl)
        · replace hj := ja_pos c8 hj
          refine lv_iconst (v := (0 : Int32)) hx hb dX2_best_44 (by decide) ?_
          refine lv_goto (tgt := 49) hx hb dX2_best_45 (by decide) ?_
          refine lv_istore_n (lv' := [(3, .int (0 : Int32)), (0, .ref g0), (1, .int a1), (2, .int a2)]) hx hb dX2_best_49 rfl hl (by decide) rfl (fun ls hl => ?_)
          refine lv_iload_n hx hb dX2_best_50 rfl (lv_at hl 0 rfl) ?_
          refine lv_istore (lv' := [(4, .int (0 : Int32)), (3, .int (0 : Int32)), (0, .ref g0), (1, .int a1), (2, .int a2)]) hx hb dX2_best_51 hl (by decide) rfl (fun ls hl => ?_)
          exact s_X2_best_53 C0 hK hA g0 gr gl gw gs (0 : Int32) rw mn at_ ml md_l wd md sm fr no a1 a2 jF (0 : Int32) (0 : Int32) _ hj _ _ _ (hP) (hD) hS (lv_sub hl [2, 3, 4, 1, 0] rfl)
      · replace hj := ja_neg c6 hj
        refine lv_iconst (v := (1 : Int32)) hx hb dX2_best_21 (by decide) ?_
        refine lv_goto (tgt := 26) hx hb dX2_best_22 (by decide) ?_
        refine va_put (D := (dC, dI)) (ci := 2) (v := .int (1 : Int32)) (ty := .int) (C := RX2) (T := TX2) (N := 11) hx hb hts inn_X2_best_X2 tyX2 tyX2_ok nmX2 hown hK hP hD hS 0 rfl rfl 0 (by decide) (hts (.fieldLink RX2 25 "SelfEndingCodesModel" "thrown" "I") (by decide +kernel)) (fun _ h9 => h9) rfl (by decide +kernel) rfl rfl (Nat.le_of_ble_eq_true rfl) dX2_best_26 (fun H locs hP hD hS => ?_)
        have hP : va_P (dC, dI) vwCl (wM cI cJ g0 gr gl gw gs (1 : Int32) rw mn at_ ml md_l wd md sm fr no) H := hP
        have hD : va_D A (wM cI cJ g0 gr gl gw gs (1 : Int32) rw mn at_ ml md_l wd md sm fr no) := hD
        refine lv_aload_n hx hb dX2_best_29 rfl (lv_at hl 0 rfl) ?_
        refine va_get (D := (dC, dI)) (ci := 2) (v := .int (1 : Int32)) (C := RX2) (T := TX2) (N := 11) hx hb hts inn_X2_best_X2 hown hK hP 0 rfl rfl 0 (by decide) (hts (.fieldLink RX2 25 "SelfEndingCodesModel" "thrown" "I") (by decide +kernel)) (fun _ h9 => h9) rfl dX2_best_30 ?_
        refine lv_if_le (tgt := 38) hx hb dX2_best_33 (by decide) (fun h9 => absurd h9 (by decide)) (fun _ => ?_)
        refine lv_iconst (v := (0 : Int32)) hx hb dX2_best_36 (by decide) ?_
        have hr9 : ((0 : Int32), (1 : Int32)) = r := Option.some.inj hj
        subst hr9
        exact W.iret (v := (0 : Int32)) hx hb hr (fun t ht hW => ⟨⟨(0 : Int32), (), rfl, rfl, by rw [ht]; exact hP, va_K.moved hW.alike hK, hD⟩, hS.F ht⟩) hS.2.2 dX2_best_37

set_option maxRecDepth 100000 in
theorem inn_X2_bits_X2 : ∀ w ∈ u_ws RX2 TX2 11, w ∈ wsX2_bits := by decide +kernel
def jL_X2_bits_10 (th : Int32) (rw : Nat → Int32) (mn : Int32) (x1 : Int32) : Nat → Int64 → Int32 → Option (Int64 × Int32)
  | 0, _, _ => none
  | n + 1, x2, x4 => if (64 : Int32) ≤ x4 then (some (x2, th)) else (if (x1.toInt64 + x4.toInt64) < (0 : Int64) then (jL_X2_bits_10 th rw mn x1 n (((2 : Int64) * x2) + ((0 : Int32).toInt64)) (x4 + (1 : Int32))) else (if mn.toInt64 ≤ (x1.toInt64 + x4.toInt64) then (jL_X2_bits_10 th rw mn x1 n (((2 : Int64) * x2) + ((0 : Int32).toInt64)) (x4 + (1 : Int32))) else (jix ((x1.toInt64 + x4.toInt64).toInt32) 4096 (jL_X2_bits_10 th rw mn x1 n (((2 : Int64) * x2) + ((rw ((x1.toInt64 + x4.toInt64).toInt32).toNatClampNeg).toInt64)) (x4 + (1 : Int32))))))
set_option maxHeartbeats 4000000 in
set_option maxRecDepth 100000 in
theorem s_X2_bits_10 {p : Program} {l : Launch} {e : Env} {s : State} {m : MethodId} {args : Array Value} {below : List Frame} {meth : Method} {c : Code} {dC : Nat → ClassId} {dI : Nat → Nat → Nat} {cI cJ : ClassId} {A : Nat → Prop} (C0 : jCx p s m args meth c RX2 cX2_bits 7 (some .long) wsX2_bits) (hK : va_K (dC, dI) vwCl (jTy cI cJ) s) (hA : ∀ q : Nat, s.heap.size ≤ q → A q) (g0 : Nat) (gr : Nat) (gl : Nat) (gw : Nat) (gs : Nat) (th : Int32) (rw : Nat → Int32) (mn : Int32) (at_ : Int32) (ml : Nat → Int64) (md_l : Int32) (wd : Nat → Int32) (md : Int32) (sm : Nat → Int64) (fr : Int32) (no : Int32) (x1 : Int32) :
    ∀ (n : Nat) (x2 : Int64) (x4 : Int32) (r : Int64 × Int32), jL_X2_bits_10 th rw mn x1 n x2 x4 = some r → ∀ (H : Heap) (locs : List Loc) (ls : Array Slot), va_P (dC, dI) vwCl (wM cI cJ g0 gr gl gw gs th rw mn at_ ml md_l wd md sm fr no) H → va_D A (wM cI cJ g0 gr gl gw gs th rw mn at_ ml md_l wd md sm fr no) → va_S A s.heap H locs → lv_has ls 7 [(0, .ref g0), (1, .int x1), (2, .long x2), (4, .int x4)] → W p l e ({ frames := 0, cells := 0, slots := 0, locals := 0 } : Room) s m args below meth c H locs 0 0 (MQ below (va_Ql (fun (v : Int64) (_ : Unit) => v = r.1) (fun (_ : Unit) t => jPo dC dI cI cJ (wM cI cJ g0 gr gl gw gs r.2 rw mn at_ ml md_l wd md sm fr no) A t) A) args s 0 0 A) (F0 m 10 ls []) := by
  obtain ⟨hx, hb, hr, hml, hown, hts, hlocks⟩ := id C0
  intro n
  induction n with
  | zero =>
    intro x2 x4 r hj
    exact nomatch (show (none : Option (Int64 × Int32)) = some r from hj)
  | succ n ih =>
    intro x2 x4 r hj H locs ls hP hD hS hl
    replace hj : (if (64 : Int32) ≤ x4 then (some (x2, th)) else (if (x1.toInt64 + x4.toInt64) < (0 : Int64) then (jL_X2_bits_10 th rw mn x1 n (((2 : Int64) * x2) + ((0 : Int32).toInt64)) (x4 + (1 : Int32))) else (if mn.toInt64 ≤ (x1.toInt64 + x4.toInt64) then (jL_X2_bits_10 th rw mn x1 n (((2 : Int64) * x2) + ((0 : Int32).toInt64)) (x4 + (1 : Int32))) else (jix ((x1.toInt64 + x4.toInt64).toInt32) 4096 (jL_X2_bits_10 th rw mn x1 n (((2 : Int64) * x2) + ((rw ((x1.toInt64 + x4.toInt64).toInt32).toNatClampNeg).toInt64)) (x4 + (1 : Int32))))))) = some r := hj
    refine lv_iload hx hb dX2_bits_10 (lv_at hl 3 rfl) ?_
    refine lv_bipush (v := (64 : Int32)) hx hb dX2_bits_12 (by decide) ?_
    refine lv_icmp_ge (tgt := 69) hx hb dX2_bits_14 (by decide) (fun c1001 => ?_) (fun c1001 => ?_)
    · replace hj := ja_pos c1001 hj
      refine lv_lload_n hx hb dX2_bits_69 rfl (lv_at hl 2 rfl) ?_
      have hr9 : (x2, th) = r := Option.some.inj hj
      subst hr9
      exact W.lret (v := x2) hx hb hr (fun t ht hW => ⟨⟨x2, (), rfl, rfl, by rw [ht]; exact hP, va_K.moved hW.alike hK, hD⟩, hS.F ht⟩) hS.2.2 dX2_bits_70
    · replace hj := ja_neg c1001 hj
      refine lv_iload_n hx hb dX2_bits_17 rfl (lv_at hl 1 rfl) ?_
      refine lv_i2l hx hb dX2_bits_18 rfl ?_
      refine lv_iload hx hb dX2_bits_19 (lv_at hl 3 rfl) ?_
      refine lv_i2l hx hb dX2_bits_21 rfl ?_
      refine lv_ladd hx hb dX2_bits_22 ?_
      refine lv_lstore (lv' := [(5, .long (x1.toInt64 + x4.toInt64)), (0, .ref g0), (1, .int x1), (2, .long x2), (4, .int x4)]) hx hb dX2_bits_23 hl (by decide) rfl (fun ls hl => ?_)
      refine lv_ldc2 (v := (2 : Int64)) hx hb hown (hts (.constantLong RX2 23 (2)) (by decide +kernel)) dX2_bits_25 ?_
      refine lv_lload_n hx hb dX2_bits_28 rfl (lv_at hl 3 rfl) ?_
      refine lv_lmul hx hb dX2_bits_29 ?_
      refine lv_lload hx hb dX2_bits_30 (lv_at hl 0 rfl) ?_
      refine lv_lconst (v := (0 : Int64)) hx hb dX2_bits_32 (by decide) ?_
      refine W.lcmp hx hb dX2_bits_33 ?_
      refine lv_if_lt (tgt := 59) hx hb dX2_bits_34 (by decide) (fun c1002 => ?_) (fun c1002 => ?_)
      · replace hj := ja_pos ((lg_cmp_lt (x1.toInt64 + x4.toInt64) (0 : Int64)).mp c1002) hj
        refine lv_iconst (v := (0 : Int32)) hx hb dX2_bits_59 (by decide) ?_
        refine lv_i2l hx hb dX2_bits_60 rfl ?_
        refine lv_ladd hx hb dX2_bits_61 ?_
        refine lv_lstore_n (lv' := [(2, .long (((2 : Int64) * x2) + ((0 : Int32).toInt64))), (5, .long (x1.toInt64 + x4.toInt64)), (0, .ref g0), (1, .int x1), (4, .int x4)]) hx hb dX2_bits_62 rfl hl (by decide) rfl (fun ls hl => ?_)
        refine lv_iinc (v := x4 + (1 : Int32)) (lv' := [(4, .int (x4 + (1 : Int32))), (2, .long (((2 : Int64) * x2) + ((0 : Int32).toInt64))), (5, .long (x1.toInt64 + x4.toInt64)), (0, .ref g0), (1, .int x1)]) hx hb dX2_bits_63 hl (k := 4) rfl (congrArg (fun z => x4 + z) (by decide)) (by decide) rfl (fun ls hl => ?_)
        refine lv_goto (tgt := 10) hx hb dX2_bits_66 (by decide) ?_
        exact ih (((2 : Int64) * x2) + ((0 : Int32).toInt64)) (x4 + (1 : Int32)) _ hj _ _ _ (hP) (hD) hS (lv_sub hl [3, 4, 1, 0] rfl)
      · replace hj := ja_neg (fun h9 => c1002 ((lg_cmp_lt (x1.toInt64 + x4.toInt64) (0 : Int64)).mpr h9)) hj
        refine lv_lload hx hb dX2_bits_37 (lv_at hl 0 rfl) ?_
        refine lv_aload_n hx hb dX2_bits_39 rfl (lv_at hl 1 rfl) ?_
        refine va_get (D := (dC, dI)) (ci := 2) (v := .int mn) (C := RX2) (T := TX2) (N := 11) hx hb hts inn_X2_bits_X2 hown hK hP 0 rfl rfl 2 (by decide) (hts (.fieldLink RX2 82 "SelfEndingCodesModel" "many" "I") (by decide +kernel)) (fun _ h9 => h9) rfl dX2_bits_40 ?_
        refine lv_i2l hx hb dX2_bits_43 rfl ?_
        refine W.lcmp hx hb dX2_bits_44 ?_
        refine lv_if_ge (tgt := 59) hx hb dX2_bits_45 (by decide) (fun c1003 => ?_) (fun c1003 => ?_)
        · replace hj := ja_pos ((lg_cmp_ge (x1.toInt64 + x4.toInt64) mn.toInt64).mp c1003) hj
          refine lv_iconst (v := (0 : Int32)) hx hb dX2_bits_59 (by decide) ?_
          refine lv_i2l hx hb dX2_bits_60 rfl ?_
          refine lv_ladd hx hb dX2_bits_61 ?_
          refine lv_lstore_n (lv' := [(2, .long (((2 : Int64) * x2) + ((0 : Int32).toInt64))), (5, .long (x1.toInt64 + x4.toInt64)), (0, .ref g0), (1, .int x1), (4, .int x4)]) hx hb dX2_bits_62 rfl hl (by decide) rfl (fun ls hl => ?_)
          refine lv_iinc (v := x4 + (1 : Int32)) (lv' := [(4, .int (x4 + (1 : Int32))), (2, .long (((2 : Int64) * x2) + ((0 : Int32).toInt64))), (5, .long (x1.toInt64 + x4.toInt64)), (0, .ref g0), (1, .int x1)]) hx hb dX2_bits_63 hl (k := 4) rfl (congrArg (fun z => x4 + z) (by decide)) (by decide) rfl (fun ls hl => ?_)
          refine lv_goto (tgt := 10) hx hb dX2_bits_66 (by decide) ?_
          exact ih (((2 : Int64) * x2) + ((0 : Int32).toInt64)) (x4 + (1 : Int32)) _ hj _ _ _ (hP) (hD) hS (lv_sub hl [3, 4, 1, 0] rfl)
        · replace hj := ja_neg (fun h9 => c1003 ((lg_cmp_ge (x1.toInt64 + x4.toInt64) mn.toInt64).mpr h9)) hj
          refine lv_aload_n hx hb dX2_bits_48 rfl (lv_at hl 1 rfl) ?_
          refine va_get (D := (dC, dI)) (ci := 2) (v := .ref gr) (C := RX2) (T := TX2) (N := 11) hx hb hts inn_X2_bits_X2 hown hK hP 0 rfl rfl 1 (by decide) (hts (.fieldLink RX2 7 "SelfEndingCodesModel" "row" "[I") (by decide +kernel)) (fun _ h9 => h9) rfl dX2_bits_49 ?_
          refine lv_lload hx hb dX2_bits_52 (lv_at hl 0 rfl) ?_
          refine lv_l2i hx hb dX2_bits_54 rfl ?_
          obtain ⟨hin, hj⟩ := ja_ix hj
          refine va_iald hx hb hK hP 1 0 rfl rfl hin dX2_bits_55 ?_
          refine lv_goto (tgt := 60) hx hb dX2_bits_56 (by decide) ?_
          refine lv_i2l hx hb dX2_bits_60 rfl ?_
          refine lv_ladd hx hb dX2_bits_61 ?_
          refine lv_lstore_n (lv' := [(2, .long (((2 : Int64) * x2) + ((rw ((x1.toInt64 + x4.toInt64).toInt32).toNatClampNeg).toInt64))), (5, .long (x1.toInt64 + x4.toInt64)), (0, .ref g0), (1, .int x1), (4, .int x4)]) hx hb dX2_bits_62 rfl hl (by decide) rfl (fun ls hl => ?_)
          refine lv_iinc (v := x4 + (1 : Int32)) (lv' := [(4, .int (x4 + (1 : Int32))), (2, .long (((2 : Int64) * x2) + ((rw ((x1.toInt64 + x4.toInt64).toInt32).toNatClampNeg).toInt64))), (5, .long (x1.toInt64 + x4.toInt64)), (0, .ref g0), (1, .int x1)]) hx hb dX2_bits_63 hl (k := 4) rfl (congrArg (fun z => x4 + z) (by decide)) (by decide) rfl (fun ls hl => ?_)
          refine lv_goto (tgt := 10) hx hb dX2_bits_66 (by decide) ?_
          exact ih (((2 : Int64) * x2) + ((rw ((x1.toInt64 + x4.toInt64).toInt32).toNatClampNeg).toInt64)) (x4 + (1 : Int32)) _ hj _ _ _ (hP) (hD) hS (lv_sub hl [3, 4, 1, 0] rfl)
def j_X2_bits (th : Int32) (rw : Nat → Int32) (mn : Int32) (a1 : Int32) : Option (Int64 × Int32) :=
  jL_X2_bits_10 (0 : Int32) rw mn a1 jF (0 : Int64) (0 : Int32)
set_option maxHeartbeats 4000000 in
set_option maxRecDepth 100000 in
theorem c_X2_bits (l : Launch) (dC : Nat → ClassId) (dI : Nat → Nat → Nat) (cI cJ : ClassId) (g0 : Nat) (gr : Nat) (gl : Nat) (gw : Nat) (gs : Nat) (sz : Nat) (th : Int32) (rw : Nat → Int32) (mn : Int32) (at_ : Int32) (ml : Nat → Int64) (md_l : Int32) (wd : Nat → Int32) (md : Int32) (sm : Nat → Int64) (fr : Int32) (no : Int32) (a1 : Int32) (r : Int64 × Int32) (hj : j_X2_bits th rw mn a1 = some r) : Met l yX2_bits wsX2_bits ({ frames := 0, cells := 0, slots := 0, locals := 0 } : Room) (va_Pc [.ref g0, .int a1] (fun U => jPr dC dI cI cJ (wM cI cJ g0 gr gl gw gs th rw mn at_ ml md_l wd md sm fr no) sz U)) (va_Ql (fun (v : Int64) (_ : Unit) => v = r.1) (fun (_ : Unit) t => jPo dC dI cI cJ (wM cI cJ g0 gr gl gw gs r.2 rw mn at_ ml md_l wd md sm fr no) (va_A (wM cI cJ g0 gr gl gw gs th rw mn at_ ml md_l wd md sm fr no) sz) t) (va_A (wM cI cJ g0 gr gl gw gs th rw mn at_ ml md_l wd md sm fr no) sz)) 0 0 (va_A (wM cI cJ g0 gr gl gw gs th rw mn at_ ml md_l wd md sm fr no) sz) := by
  refine Met.ofW (cc := cX2_bits) (maxL := 7) (ret := (some .long)) (by decide) rfl ?_
  intro p e s m args below meth c s₁ B hml hv
  obtain ⟨rfl, ⟨hsz, hP, hK, hD0⟩⟩ := hv
  have hx := B.exec
  have hb := B.bytes
  have hr := B.returns
  have hts := atoms_spec (ws := wsX2_bits) B.pre
  have hown : s.vm.findClass RX2 = some m.cls := findClass_of_methodNamed B.named
  have hlocks := B.notSynchronized
  have C0 := jCx.of hx hb hr hml hown hts hlocks
  subst hsz
  have hD := hD0.self (sz := s.heap.size)
  generalize hAe : va_A (wM cI cJ g0 gr gl gw gs th rw mn at_ ml md_l wd md sm fr no) s.heap.size = A at hD ⊢
  have hA : ∀ q : Nat, s.heap.size ≤ q → A q := fun q h => by rw [← hAe]; exact Or.inr h
  have hS : va_S A s.heap s.heap [] := va_S.rf
  have hP : va_P (dC, dI) vwCl (wM cI cJ g0 gr gl gw gs th rw mn at_ ml md_l wd md sm fr no) s.heap := hP
  have hl := lv_entry ([.ref g0, .int a1]) (n := 7) (Nat.le_of_ble_eq_true rfl)
  rw [lg_entry_eq]
  generalize (lg_sl ([.ref g0, .int a1]) ++ List.replicate (7 - (lg_sl ([.ref g0, .int a1])).length) Slot.unset).toArray = ls at hl ⊢
  have hl : lv_has ls 7 [(0, .ref g0), (1, .int a1)] := hl
  clear hD0 hAe
  unfold j_X2_bits at hj
  refine lv_aload_n hx hb dX2_bits_0 rfl (lv_at hl 0 rfl) ?_
  refine lv_iconst (v := (0 : Int32)) hx hb dX2_bits_1 (by decide) ?_
  refine va_put (D := (dC, dI)) (ci := 2) (v := .int (0 : Int32)) (ty := .int) (C := RX2) (T := TX2) (N := 11) hx hb hts inn_X2_bits_X2 tyX2 tyX2_ok nmX2 hown hK hP hD hS 0 rfl rfl 0 (by decide) (hts (.fieldLink RX2 25 "SelfEndingCodesModel" "thrown" "I") (by decide +kernel)) (fun _ h9 => h9) rfl (by decide +kernel) rfl rfl (Nat.le_of_ble_eq_true rfl) dX2_bits_2 (fun H locs hP hD hS => ?_)
  have hP : va_P (dC, dI) vwCl (wM cI cJ g0 gr gl gw gs (0 : Int32) rw mn at_ ml md_l wd md sm fr no) H := hP
  have hD : va_D A (wM cI cJ g0 gr gl gw gs (0 : Int32) rw mn at_ ml md_l wd md sm fr no) := hD
  refine lv_lconst (v := (0 : Int64)) hx hb dX2_bits_5 (by decide) ?_
  refine lv_lstore_n (lv' := [(2, .long (0 : Int64)), (0, .ref g0), (1, .int a1)]) hx hb dX2_bits_6 rfl hl (by decide) rfl (fun ls hl => ?_)
  refine lv_iconst (v := (0 : Int32)) hx hb dX2_bits_7 (by decide) ?_
  refine lv_istore (lv' := [(4, .int (0 : Int32)), (2, .long (0 : Int64)), (0, .ref g0), (1, .int a1)]) hx hb dX2_bits_8 hl (by decide) rfl (fun ls hl => ?_)
  exact s_X2_bits_10 C0 hK hA g0 gr gl gw gs (0 : Int32) rw mn at_ ml md_l wd md sm fr no a1 jF (0 : Int64) (0 : Int32) _ hj _ _ _ (hP) (hD) hS (lv_sub hl [2, 3, 1, 0] rfl)

set_option maxRecDepth 100000 in
theorem inn_X2_clear_X2 : ∀ w ∈ u_ws RX2 TX2 11, w ∈ wsX2_clear := by decide +kernel
def j_X2_clear (th : Int32) (md_l : Int32) : Option (Int32 × Int32 × Int32) :=
  some (md_l, (0 : Int32), (0 : Int32))
set_option maxHeartbeats 4000000 in
set_option maxRecDepth 100000 in
theorem c_X2_clear (l : Launch) (dC : Nat → ClassId) (dI : Nat → Nat → Nat) (cI cJ : ClassId) (g0 : Nat) (gr : Nat) (gl : Nat) (gw : Nat) (gs : Nat) (sz : Nat) (th : Int32) (rw : Nat → Int32) (mn : Int32) (at_ : Int32) (ml : Nat → Int64) (md_l : Int32) (wd : Nat → Int32) (md : Int32) (sm : Nat → Int64) (fr : Int32) (no : Int32) (r : Int32 × Int32 × Int32) (hj : j_X2_clear th md_l = some r) : Met l yX2_clear wsX2_clear ({ frames := 0, cells := 0, slots := 0, locals := 0 } : Room) (va_Pc [.ref g0] (fun U => jPr dC dI cI cJ (wM cI cJ g0 gr gl gw gs th rw mn at_ ml md_l wd md sm fr no) sz U)) (va_Qi (fun (v : Int32) (_ : Unit) => v = r.1) (fun (_ : Unit) t => jPo dC dI cI cJ (wM cI cJ g0 gr gl gw gs r.2.1 rw mn at_ ml r.2.2 wd md sm fr no) (va_A (wM cI cJ g0 gr gl gw gs th rw mn at_ ml md_l wd md sm fr no) sz) t) (va_A (wM cI cJ g0 gr gl gw gs th rw mn at_ ml md_l wd md sm fr no) sz)) 0 0 (va_A (wM cI cJ g0 gr gl gw gs th rw mn at_ ml md_l wd md sm fr no) sz) := by
  refine Met.ofW (cc := cX2_clear) (maxL := 2) (ret := (some .int)) (by decide) rfl ?_
  intro p e s m args below meth c s₁ B hml hv
  obtain ⟨rfl, ⟨hsz, hP, hK, hD0⟩⟩ := hv
  have hx := B.exec
  have hb := B.bytes
  have hr := B.returns
  have hts := atoms_spec (ws := wsX2_clear) B.pre
  have hown : s.vm.findClass RX2 = some m.cls := findClass_of_methodNamed B.named
  have hlocks := B.notSynchronized
  have C0 := jCx.of hx hb hr hml hown hts hlocks
  subst hsz
  have hD := hD0.self (sz := s.heap.size)
  generalize hAe : va_A (wM cI cJ g0 gr gl gw gs th rw mn at_ ml md_l wd md sm fr no) s.heap.size = A at hD ⊢
  have hA : ∀ q : Nat, s.heap.size ≤ q → A q := fun q h => by rw [← hAe]; exact Or.inr h
  have hS : va_S A s.heap s.heap [] := va_S.rf
  have hP : va_P (dC, dI) vwCl (wM cI cJ g0 gr gl gw gs th rw mn at_ ml md_l wd md sm fr no) s.heap := hP
  have hl := lv_entry ([.ref g0]) (n := 2) (Nat.le_of_ble_eq_true rfl)
  rw [lg_entry_eq]
  generalize (lg_sl ([.ref g0]) ++ List.replicate (2 - (lg_sl ([.ref g0])).length) Slot.unset).toArray = ls at hl ⊢
  have hl : lv_has ls 2 [(0, .ref g0)] := hl
  clear hD0 hAe
  unfold j_X2_clear at hj
  refine lv_aload_n hx hb dX2_clear_0 rfl (lv_at hl 0 rfl) ?_
  refine lv_iconst (v := (0 : Int32)) hx hb dX2_clear_1 (by decide) ?_
  refine va_put (D := (dC, dI)) (ci := 2) (v := .int (0 : Int32)) (ty := .int) (C := RX2) (T := TX2) (N := 11) hx hb hts inn_X2_clear_X2 tyX2 tyX2_ok nmX2 hown hK hP hD hS 0 rfl rfl 0 (by decide) (hts (.fieldLink RX2 25 "SelfEndingCodesModel" "thrown" "I") (by decide +kernel)) (fun _ h9 => h9) rfl (by decide +kernel) rfl rfl (Nat.le_of_ble_eq_true rfl) dX2_clear_2 (fun H locs hP hD hS => ?_)
  have hP : va_P (dC, dI) vwCl (wM cI cJ g0 gr gl gw gs (0 : Int32) rw mn at_ ml md_l wd md sm fr no) H := hP
  have hD : va_D A (wM cI cJ g0 gr gl gw gs (0 : Int32) rw mn at_ ml md_l wd md sm fr no) := hD
  refine lv_aload_n hx hb dX2_clear_5 rfl (lv_at hl 0 rfl) ?_
  refine va_get (D := (dC, dI)) (ci := 2) (v := .int md_l) (C := RX2) (T := TX2) (N := 11) hx hb hts inn_X2_clear_X2 hown hK hP 0 rfl rfl 5 (by decide) (hts (.fieldLink RX2 167 "SelfEndingCodesModel" "listed" "I") (by decide +kernel)) (fun _ h9 => h9) rfl dX2_clear_6 ?_
  refine lv_istore_n (lv' := [(1, .int md_l), (0, .ref g0)]) hx hb dX2_clear_9 rfl hl (by decide) rfl (fun ls hl => ?_)
  refine lv_aload_n hx hb dX2_clear_10 rfl (lv_at hl 1 rfl) ?_
  refine lv_iconst (v := (0 : Int32)) hx hb dX2_clear_11 (by decide) ?_
  refine va_put (D := (dC, dI)) (ci := 2) (v := .int (0 : Int32)) (ty := .int) (C := RX2) (T := TX2) (N := 11) hx hb hts inn_X2_clear_X2 tyX2 tyX2_ok nmX2 hown hK hP hD hS 0 rfl rfl 5 (by decide) (hts (.fieldLink RX2 167 "SelfEndingCodesModel" "listed" "I") (by decide +kernel)) (fun _ h9 => h9) rfl (by decide +kernel) rfl rfl (Nat.le_of_ble_eq_true rfl) dX2_clear_12 (fun H locs hP hD hS => ?_)
  have hP : va_P (dC, dI) vwCl (wM cI cJ g0 gr gl gw gs (0 : Int32) rw mn at_ ml (0 : Int32) wd md sm fr no) H := hP
  have hD : va_D A (wM cI cJ g0 gr gl gw gs (0 : Int32) rw mn at_ ml (0 : Int32) wd md sm fr no) := hD
  refine lv_iload_n hx hb dX2_clear_15 rfl (lv_at hl 0 rfl) ?_
  have hr9 : (md_l, (0 : Int32), (0 : Int32)) = r := Option.some.inj hj
  subst hr9
  exact W.iret (v := md_l) hx hb hr (fun t ht hW => ⟨⟨md_l, (), rfl, rfl, by rw [ht]; exact hP, va_K.moved hW.alike hK, hD⟩, hS.F ht⟩) hS.2.2 dX2_clear_16

set_option maxRecDepth 100000 in
theorem inn_X2_count_X2 : ∀ w ∈ u_ws RX2 TX2 11, w ∈ wsX2_count := by decide +kernel
def j_X2_count (th : Int32) (sm : Nat → Int64) (a1 : Int32) (a2 : Int32) (a3 : Int32) : Option (Int64 × Int32) :=
  (j_X2_noKind a1 a2).bind fun v1 => (if v1 = (0 : Int32) then (if a3 < (0 : Int32) then (some ((0 : Int64), (1 : Int32))) else (if a3 ≤ (200 : Int32) then ((j_X2_countOf sm a1 a2 a3).bind fun v8 => (some (v8, (0 : Int32)))) else (some ((0 : Int64), (1 : Int32))))) else (some ((0 : Int64), (1 : Int32))))
set_option maxHeartbeats 4000000 in
set_option maxRecDepth 100000 in
theorem c_X2_count (l : Launch) (dC : Nat → ClassId) (dI : Nat → Nat → Nat) (cI cJ : ClassId) (g0 : Nat) (gr : Nat) (gl : Nat) (gw : Nat) (gs : Nat) (sz : Nat) (th : Int32) (rw : Nat → Int32) (mn : Int32) (at_ : Int32) (ml : Nat → Int64) (md_l : Int32) (wd : Nat → Int32) (md : Int32) (sm : Nat → Int64) (fr : Int32) (no : Int32) (a1 : Int32) (a2 : Int32) (a3 : Int32) (r : Int64 × Int32) (hj : j_X2_count th sm a1 a2 a3 = some r) : Met l yX2_count wsX2_count ({ frames := 6, cells := 0, slots := 0, locals := 158 } : Room) (va_Pc [.ref g0, .int a1, .int a2, .int a3] (fun U => jPr dC dI cI cJ (wM cI cJ g0 gr gl gw gs th rw mn at_ ml md_l wd md sm fr no) sz U)) (va_Ql (fun (v : Int64) (_ : Unit) => v = r.1) (fun (_ : Unit) t => jPo dC dI cI cJ (wM cI cJ g0 gr gl gw gs r.2 rw mn at_ ml md_l wd md sm fr no) (va_A (wM cI cJ g0 gr gl gw gs th rw mn at_ ml md_l wd md sm fr no) sz) t) (va_A (wM cI cJ g0 gr gl gw gs th rw mn at_ ml md_l wd md sm fr no) sz)) 0 0 (va_A (wM cI cJ g0 gr gl gw gs th rw mn at_ ml md_l wd md sm fr no) sz) := by
  refine Met.ofW (cc := cX2_count) (maxL := 4) (ret := (some .long)) (by decide) rfl ?_
  intro p e s m args below meth c s₁ B hml hv
  obtain ⟨rfl, ⟨hsz, hP, hK, hD0⟩⟩ := hv
  have hx := B.exec
  have hb := B.bytes
  have hr := B.returns
  have hts := atoms_spec (ws := wsX2_count) B.pre
  have hown : s.vm.findClass RX2 = some m.cls := findClass_of_methodNamed B.named
  have hlocks := B.notSynchronized
  have C0 := jCx.of hx hb hr hml hown hts hlocks
  subst hsz
  have hD := hD0.self (sz := s.heap.size)
  generalize hAe : va_A (wM cI cJ g0 gr gl gw gs th rw mn at_ ml md_l wd md sm fr no) s.heap.size = A at hD ⊢
  have hA : ∀ q : Nat, s.heap.size ≤ q → A q := fun q h => by rw [← hAe]; exact Or.inr h
  have hS : va_S A s.heap s.heap [] := va_S.rf
  have hP : va_P (dC, dI) vwCl (wM cI cJ g0 gr gl gw gs th rw mn at_ ml md_l wd md sm fr no) s.heap := hP
  have hl := lv_entry ([.ref g0, .int a1, .int a2, .int a3]) (n := 4) (Nat.le_of_ble_eq_true rfl)
  rw [lg_entry_eq]
  generalize (lg_sl ([.ref g0, .int a1, .int a2, .int a3]) ++ List.replicate (4 - (lg_sl ([.ref g0, .int a1, .int a2, .int a3])).length) Slot.unset).toArray = ls at hl ⊢
  have hl : lv_has ls 4 [(0, .ref g0), (1, .int a1), (2, .int a2), (3, .int a3)] := hl
  clear hD0 hAe
  unfold j_X2_count at hj
  refine lv_aload_n hx hb dX2_count_0 rfl (lv_at hl 0 rfl) ?_
  refine lv_iload_n hx hb dX2_count_1 rfl (lv_at hl 1 rfl) ?_
  refine lv_iload_n hx hb dX2_count_2 rfl (lv_at hl 2 rfl) ?_
  obtain ⟨v1, hc, hj⟩ := ja_bd hj
  try dsimp only at hj
  have hPc := hP.sub (ws' := ([] : va_W)) [] rfl
  have hDc := hD.sub (ws' := ([] : va_W)) [] (by decide) rfl
  have hFc := va_free (wc := ([] : va_W)) hD hS hA [] rfl
  refine va_calli (va_runS (As := [.int a1, .int a2]) (rest := [.ref g0]) ⟨hx, hb, hml, hown, hts⟩ (c_X2_noKind l dC dI cI cJ s.heap.size a1 a2 _ hc) (va_cwS 2 hts gX2_count_X2_noKind rfl rfl rfl (by decide +kernel) ⟨Nat.le_of_ble_eq_true rfl, Nat.le_of_ble_eq_true rfl⟩) ⟨fun a U g mk q => ⟨q.1, jPr.blind q.2⟩, fun U hU hW => ⟨rfl, jPr.mk hU hW hPc hK hDc⟩⟩ rfl rfl hl.1 rfl (lv_room (Nat.le_of_ble_eq_true rfl)) dX2_count_3 ⟨Nat.le_of_ble_eq_true rfl, Nat.le_of_ble_eq_true rfl⟩) hS (fun q _ h => hFc q h) hFc (fun rr u t H1 locs ht hvm hw9 hB hz1 hk1 hS => ?_)
  have hw8 : v1 = rr := hw9.symm
  subst hw8
  obtain ⟨hP1, hK1, hD1⟩ := hB
  rw [ht] at hP1
  obtain ⟨hP, hD⟩ := va_join (wr := ([(g0, .inr (2, [.int th, .ref gr, .int mn, .int at_, .ref gl, .int md_l, .ref gw, .int md, .ref gs, .int fr, .int no])), (gr, .inl (cI, 4096, .inl rw)), (gl, .inl (cJ, 100, .inr (.inl ml))), (gw, .inl (cI, 4200, .inl wd)), (gs, .inl (cJ, 92, .inr (.inl sm)))] : va_W)) (w1 := ([] : va_W)) hP hD [] [0, 1, 2, 3, 4] rfl rfl (by decide) (by decide) hk1 hFc hP1 hD1
  clear hk1 hP1 hK1 hD1 hvm hz1 hPc hDc hFc
  generalize H1 = H at hP hS ⊢
  have hP : va_P (dC, dI) vwCl (wM cI cJ g0 gr gl gw gs th rw mn at_ ml md_l wd md sm fr no) H := hP
  have hD : va_D A (wM cI cJ g0 gr gl gw gs th rw mn at_ ml md_l wd md sm fr no) := hD
  refine lv_if_ne (tgt := 20) hx hb dX2_count_6 (by decide) (fun c2 => ?_) (fun c2 => ?_)
  · replace hj := ja_neg c2 hj
    refine lv_iconst (v := (1 : Int32)) hx hb dX2_count_20 (by decide) ?_
    refine lv_goto (tgt := 25) hx hb dX2_count_21 (by decide) ?_
    refine va_put (D := (dC, dI)) (ci := 2) (v := .int (1 : Int32)) (ty := .int) (C := RX2) (T := TX2) (N := 11) hx hb hts inn_X2_count_X2 tyX2 tyX2_ok nmX2 hown hK hP hD hS 0 rfl rfl 0 (by decide) (hts (.fieldLink RX2 25 "SelfEndingCodesModel" "thrown" "I") (by decide +kernel)) (fun _ h9 => h9) rfl (by decide +kernel) rfl rfl (Nat.le_of_ble_eq_true rfl) dX2_count_25 (fun H locs hP hD hS => ?_)
    have hP : va_P (dC, dI) vwCl (wM cI cJ g0 gr gl gw gs (1 : Int32) rw mn at_ ml md_l wd md sm fr no) H := hP
    have hD : va_D A (wM cI cJ g0 gr gl gw gs (1 : Int32) rw mn at_ ml md_l wd md sm fr no) := hD
    refine lv_aload_n hx hb dX2_count_28 rfl (lv_at hl 0 rfl) ?_
    refine va_get (D := (dC, dI)) (ci := 2) (v := .int (1 : Int32)) (C := RX2) (T := TX2) (N := 11) hx hb hts inn_X2_count_X2 hown hK hP 0 rfl rfl 0 (by decide) (hts (.fieldLink RX2 25 "SelfEndingCodesModel" "thrown" "I") (by decide +kernel)) (fun _ h9 => h9) rfl dX2_count_29 ?_
    refine lv_if_le (tgt := 39) hx hb dX2_count_32 (by decide) (fun h9 => absurd h9 (by decide)) (fun _ => ?_)
    refine lv_lconst (v := (0 : Int64)) hx hb dX2_count_35 (by decide) ?_
    refine lv_goto (tgt := 46) hx hb dX2_count_36 (by decide) ?_
    have hr9 : ((0 : Int64), (1 : Int32)) = r := Option.some.inj hj
    subst hr9
    exact W.lret (v := (0 : Int64)) hx hb hr (fun t ht hW => ⟨⟨(0 : Int64), (), rfl, rfl, by rw [ht]; exact hP, va_K.moved hW.alike hK, hD⟩, hS.F ht⟩) hS.2.2 dX2_count_46
  · replace hj := ja_pos c2 hj
    refine lv_iload_n hx hb dX2_count_9 rfl (lv_at hl 3 rfl) ?_
    refine lv_if_lt (tgt := 20) hx hb dX2_count_10 (by decide) (fun c4 => ?_) (fun c4 => ?_)
    · replace hj := ja_pos c4 hj
      refine lv_iconst (v := (1 : Int32)) hx hb dX2_count_20 (by decide) ?_
      refine lv_goto (tgt := 25) hx hb dX2_count_21 (by decide) ?_
      refine va_put (D := (dC, dI)) (ci := 2) (v := .int (1 : Int32)) (ty := .int) (C := RX2) (T := TX2) (N := 11) hx hb hts inn_X2_count_X2 tyX2 tyX2_ok nmX2 hown hK hP hD hS 0 rfl rfl 0 (by decide) (hts (.fieldLink RX2 25 "SelfEndingCodesModel" "thrown" "I") (by decide +kernel)) (fun _ h9 => h9) rfl (by decide +kernel) rfl rfl (Nat.le_of_ble_eq_true rfl) dX2_count_25 (fun H locs hP hD hS => ?_)
      have hP : va_P (dC, dI) vwCl (wM cI cJ g0 gr gl gw gs (1 : Int32) rw mn at_ ml md_l wd md sm fr no) H := hP
      have hD : va_D A (wM cI cJ g0 gr gl gw gs (1 : Int32) rw mn at_ ml md_l wd md sm fr no) := hD
      refine lv_aload_n hx hb dX2_count_28 rfl (lv_at hl 0 rfl) ?_
      refine va_get (D := (dC, dI)) (ci := 2) (v := .int (1 : Int32)) (C := RX2) (T := TX2) (N := 11) hx hb hts inn_X2_count_X2 hown hK hP 0 rfl rfl 0 (by decide) (hts (.fieldLink RX2 25 "SelfEndingCodesModel" "thrown" "I") (by decide +kernel)) (fun _ h9 => h9) rfl dX2_count_29 ?_
      refine lv_if_le (tgt := 39) hx hb dX2_count_32 (by decide) (fun h9 => absurd h9 (by decide)) (fun _ => ?_)
      refine lv_lconst (v := (0 : Int64)) hx hb dX2_count_35 (by decide) ?_
      refine lv_goto (tgt := 46) hx hb dX2_count_36 (by decide) ?_
      have hr9 : ((0 : Int64), (1 : Int32)) = r := Option.some.inj hj
      subst hr9
      exact W.lret (v := (0 : Int64)) hx hb hr (fun t ht hW => ⟨⟨(0 : Int64), (), rfl, rfl, by rw [ht]; exact hP, va_K.moved hW.alike hK, hD⟩, hS.F ht⟩) hS.2.2 dX2_count_46
    · replace hj := ja_neg c4 hj
      refine lv_iload_n hx hb dX2_count_13 rfl (lv_at hl 3 rfl) ?_
      refine lv_sipush (v := (200 : Int32)) hx hb dX2_count_14 (by decide) ?_
      refine lv_icmp_le (tgt := 24) hx hb dX2_count_17 (by decide) (fun c6 => ?_) (fun c6 => ?_)
      · replace hj := ja_pos c6 hj
        refine lv_iconst (v := (0 : Int32)) hx hb dX2_count_24 (by decide) ?_
        refine va_put (D := (dC, dI)) (ci := 2) (v := .int (0 : Int32)) (ty := .int) (C := RX2) (T := TX2) (N := 11) hx hb hts inn_X2_count_X2 tyX2 tyX2_ok nmX2 hown hK hP hD hS 0 rfl rfl 0 (by decide) (hts (.fieldLink RX2 25 "SelfEndingCodesModel" "thrown" "I") (by decide +kernel)) (fun _ h9 => h9) rfl (by decide +kernel) rfl rfl (Nat.le_of_ble_eq_true rfl) dX2_count_25 (fun H locs hP hD hS => ?_)
        have hP : va_P (dC, dI) vwCl (wM cI cJ g0 gr gl gw gs (0 : Int32) rw mn at_ ml md_l wd md sm fr no) H := hP
        have hD : va_D A (wM cI cJ g0 gr gl gw gs (0 : Int32) rw mn at_ ml md_l wd md sm fr no) := hD
        refine lv_aload_n hx hb dX2_count_28 rfl (lv_at hl 0 rfl) ?_
        refine va_get (D := (dC, dI)) (ci := 2) (v := .int (0 : Int32)) (C := RX2) (T := TX2) (N := 11) hx hb hts inn_X2_count_X2 hown hK hP 0 rfl rfl 0 (by decide) (hts (.fieldLink RX2 25 "SelfEndingCodesModel" "thrown" "I") (by decide +kernel)) (fun _ h9 => h9) rfl dX2_count_29 ?_
        refine lv_if_le (tgt := 39) hx hb dX2_count_32 (by decide) (fun _ => ?_) (fun h9 => absurd (by decide) h9)
        refine lv_aload_n hx hb dX2_count_39 rfl (lv_at hl 0 rfl) ?_
        refine lv_iload_n hx hb dX2_count_40 rfl (lv_at hl 1 rfl) ?_
        refine lv_iload_n hx hb dX2_count_41 rfl (lv_at hl 2 rfl) ?_
        refine lv_iload_n hx hb dX2_count_42 rfl (lv_at hl 3 rfl) ?_
        obtain ⟨v8, hc, hj⟩ := ja_bd hj
        try dsimp only at hj
        have hPc := hP.sub (ws' := (wM cI cJ g0 gr gl gw gs (0 : Int32) rw mn at_ ml md_l wd md sm fr no)) [0, 1, 2, 3, 4] rfl
        have hDc := hD.sub (ws' := (wM cI cJ g0 gr gl gw gs (0 : Int32) rw mn at_ ml md_l wd md sm fr no)) [0, 1, 2, 3, 4] (by decide) rfl
        have hFc := va_free (wc := (wM cI cJ g0 gr gl gw gs (0 : Int32) rw mn at_ ml md_l wd md sm fr no)) hD hS hA [0, 1, 2, 3, 4] rfl
        refine va_calll (va_runV (As := [.int a1, .int a2, .int a3]) (rest := []) ⟨hx, hb, hml, hown, hts⟩ (c_X2_countOf l dC dI cI cJ g0 gr gl gw gs H.size (0 : Int32) rw mn at_ ml md_l wd md sm fr no a1 a2 a3 _ hc) (cwV 3 hts gX2_count_X2_countOf rfl rfl rfl (by decide +kernel) ⟨Nat.le_of_ble_eq_true rfl, Nat.le_of_ble_eq_true rfl⟩) ⟨fun a U g mk q => ⟨q.1, jPr.blind q.2⟩, va_recv hK hPc (ci := 2) (q0 := 0) rfl rfl, fun U hU hW => ⟨rfl, jPr.mk hU hW hPc hK hDc⟩⟩ rfl rfl hl.1 rfl (lv_room (Nat.le_of_ble_eq_true rfl)) dX2_count_43 ⟨Nat.le_of_ble_eq_true rfl, Nat.le_of_ble_eq_true rfl⟩) hS (fun q _ h => hFc q h) hFc (fun rr u t H1 locs ht hvm hw9 hB hz1 hk1 hS => ?_)
        have hw8 : v8 = rr := hw9.symm
        subst hw8
        obtain ⟨hP1, hK1, hD1⟩ := hB
        rw [ht] at hP1
        obtain ⟨hP, hD⟩ := va_join (wr := ([] : va_W)) (w1 := (wM cI cJ g0 gr gl gw gs (0 : Int32) rw mn at_ ml md_l wd md sm fr no)) hP hD [0, 1, 2, 3, 4] [] rfl rfl (by decide) (by decide) hk1 hFc hP1 hD1
        clear hk1 hP1 hK1 hD1 hvm hz1 hPc hDc hFc
        generalize H1 = H at hP hS ⊢
        have hP : va_P (dC, dI) vwCl (wM cI cJ g0 gr gl gw gs (0 : Int32) rw mn at_ ml md_l wd md sm fr no) H := hP
        have hD : va_D A (wM cI cJ g0 gr gl gw gs (0 : Int32) rw mn at_ ml md_l wd md sm fr no) := hD
        have hr9 : (v8, (0 : Int32)) = r := Option.some.inj hj
        subst hr9
        exact W.lret (v := v8) hx hb hr (fun t ht hW => ⟨⟨v8, (), rfl, rfl, by rw [ht]; exact hP, va_K.moved hW.alike hK, hD⟩, hS.F ht⟩) hS.2.2 dX2_count_46
      · replace hj := ja_neg c6 hj
        refine lv_iconst (v := (1 : Int32)) hx hb dX2_count_20 (by decide) ?_
        refine lv_goto (tgt := 25) hx hb dX2_count_21 (by decide) ?_
        refine va_put (D := (dC, dI)) (ci := 2) (v := .int (1 : Int32)) (ty := .int) (C := RX2) (T := TX2) (N := 11) hx hb hts inn_X2_count_X2 tyX2 tyX2_ok nmX2 hown hK hP hD hS 0 rfl rfl 0 (by decide) (hts (.fieldLink RX2 25 "SelfEndingCodesModel" "thrown" "I") (by decide +kernel)) (fun _ h9 => h9) rfl (by decide +kernel) rfl rfl (Nat.le_of_ble_eq_true rfl) dX2_count_25 (fun H locs hP hD hS => ?_)
        have hP : va_P (dC, dI) vwCl (wM cI cJ g0 gr gl gw gs (1 : Int32) rw mn at_ ml md_l wd md sm fr no) H := hP
        have hD : va_D A (wM cI cJ g0 gr gl gw gs (1 : Int32) rw mn at_ ml md_l wd md sm fr no) := hD
        refine lv_aload_n hx hb dX2_count_28 rfl (lv_at hl 0 rfl) ?_
        refine va_get (D := (dC, dI)) (ci := 2) (v := .int (1 : Int32)) (C := RX2) (T := TX2) (N := 11) hx hb hts inn_X2_count_X2 hown hK hP 0 rfl rfl 0 (by decide) (hts (.fieldLink RX2 25 "SelfEndingCodesModel" "thrown" "I") (by decide +kernel)) (fun _ h9 => h9) rfl dX2_count_29 ?_
        refine lv_if_le (tgt := 39) hx hb dX2_count_32 (by decide) (fun h9 => absurd h9 (by decide)) (fun _ => ?_)
        refine lv_lconst (v := (0 : Int64)) hx hb dX2_count_35 (by decide) ?_
        refine lv_goto (tgt := 46) hx hb dX2_count_36 (by decide) ?_
        have hr9 : ((0 : Int64), (1 : Int32)) = r := Option.some.inj hj
        subst hr9
        exact W.lret (v := (0 : Int64)) hx hb hr (fun t ht hW => ⟨⟨(0 : Int64), (), rfl, rfl, by rw [ht]; exact hP, va_K.moved hW.alike hK, hD⟩, hS.F ht⟩) hS.2.2 dX2_count_46

set_option maxRecDepth 100000 in
theorem inn_X2_first_X2 : ∀ w ∈ u_ws RX2 TX2 11, w ∈ wsX2_first := by decide +kernel
def j_X2_first (th : Int32) (sm : Nat → Int64) (a1 : Int32) (a2 : Int32) (a3 : Int32) : Option (Int64 × Int32) :=
  (j_X2_noKind a1 a2).bind fun v1 => (if v1 = (0 : Int32) then (if a3 < (0 : Int32) then (some ((0 : Int64), (1 : Int32))) else (if a3 ≤ (200 : Int32) then ((j_X2_leastOf sm a1 a2 a3).bind fun v8 => (if v8 = (0 : Int64) then (some ((-1 : Int64), (0 : Int32))) else (some (v8, (0 : Int32))))) else (some ((0 : Int64), (1 : Int32))))) else (some ((0 : Int64), (1 : Int32))))
set_option maxHeartbeats 4000000 in
set_option maxRecDepth 100000 in
theorem c_X2_first (l : Launch) (dC : Nat → ClassId) (dI : Nat → Nat → Nat) (cI cJ : ClassId) (g0 : Nat) (gr : Nat) (gl : Nat) (gw : Nat) (gs : Nat) (sz : Nat) (th : Int32) (rw : Nat → Int32) (mn : Int32) (at_ : Int32) (ml : Nat → Int64) (md_l : Int32) (wd : Nat → Int32) (md : Int32) (sm : Nat → Int64) (fr : Int32) (no : Int32) (a1 : Int32) (a2 : Int32) (a3 : Int32) (r : Int64 × Int32) (hj : j_X2_first th sm a1 a2 a3 = some r) : Met l yX2_first wsX2_first ({ frames := 6, cells := 0, slots := 0, locals := 158 } : Room) (va_Pc [.ref g0, .int a1, .int a2, .int a3] (fun U => jPr dC dI cI cJ (wM cI cJ g0 gr gl gw gs th rw mn at_ ml md_l wd md sm fr no) sz U)) (va_Ql (fun (v : Int64) (_ : Unit) => v = r.1) (fun (_ : Unit) t => jPo dC dI cI cJ (wM cI cJ g0 gr gl gw gs r.2 rw mn at_ ml md_l wd md sm fr no) (va_A (wM cI cJ g0 gr gl gw gs th rw mn at_ ml md_l wd md sm fr no) sz) t) (va_A (wM cI cJ g0 gr gl gw gs th rw mn at_ ml md_l wd md sm fr no) sz)) 0 0 (va_A (wM cI cJ g0 gr gl gw gs th rw mn at_ ml md_l wd md sm fr no) sz) := by
  refine Met.ofW (cc := cX2_first) (maxL := 6) (ret := (some .long)) (by decide) rfl ?_
  intro p e s m args below meth c s₁ B hml hv
  obtain ⟨rfl, ⟨hsz, hP, hK, hD0⟩⟩ := hv
  have hx := B.exec
  have hb := B.bytes
  have hr := B.returns
  have hts := atoms_spec (ws := wsX2_first) B.pre
  have hown : s.vm.findClass RX2 = some m.cls := findClass_of_methodNamed B.named
  have hlocks := B.notSynchronized
  have C0 := jCx.of hx hb hr hml hown hts hlocks
  subst hsz
  have hD := hD0.self (sz := s.heap.size)
  generalize hAe : va_A (wM cI cJ g0 gr gl gw gs th rw mn at_ ml md_l wd md sm fr no) s.heap.size = A at hD ⊢
  have hA : ∀ q : Nat, s.heap.size ≤ q → A q := fun q h => by rw [← hAe]; exact Or.inr h
  have hS : va_S A s.heap s.heap [] := va_S.rf
  have hP : va_P (dC, dI) vwCl (wM cI cJ g0 gr gl gw gs th rw mn at_ ml md_l wd md sm fr no) s.heap := hP
  have hl := lv_entry ([.ref g0, .int a1, .int a2, .int a3]) (n := 6) (Nat.le_of_ble_eq_true rfl)
  rw [lg_entry_eq]
  generalize (lg_sl ([.ref g0, .int a1, .int a2, .int a3]) ++ List.replicate (6 - (lg_sl ([.ref g0, .int a1, .int a2, .int a3])).length) Slot.unset).toArray = ls at hl ⊢
  have hl : lv_has ls 6 [(0, .ref g0), (1, .int a1), (2, .int a2), (3, .int a3)] := hl
  clear hD0 hAe
  unfold j_X2_first at hj
  refine lv_aload_n hx hb dX2_first_0 rfl (lv_at hl 0 rfl) ?_
  refine lv_iload_n hx hb dX2_first_1 rfl (lv_at hl 1 rfl) ?_
  refine lv_iload_n hx hb dX2_first_2 rfl (lv_at hl 2 rfl) ?_
  obtain ⟨v1, hc, hj⟩ := ja_bd hj
  try dsimp only at hj
  have hPc := hP.sub (ws' := ([] : va_W)) [] rfl
  have hDc := hD.sub (ws' := ([] : va_W)) [] (by decide) rfl
  have hFc := va_free (wc := ([] : va_W)) hD hS hA [] rfl
  refine va_calli (va_runS (As := [.int a1, .int a2]) (rest := [.ref g0]) ⟨hx, hb, hml, hown, hts⟩ (c_X2_noKind l dC dI cI cJ s.heap.size a1 a2 _ hc) (va_cwS 2 hts gX2_first_X2_noKind rfl rfl rfl (by decide +kernel) ⟨Nat.le_of_ble_eq_true rfl, Nat.le_of_ble_eq_true rfl⟩) ⟨fun a U g mk q => ⟨q.1, jPr.blind q.2⟩, fun U hU hW => ⟨rfl, jPr.mk hU hW hPc hK hDc⟩⟩ rfl rfl hl.1 rfl (lv_room (Nat.le_of_ble_eq_true rfl)) dX2_first_3 ⟨Nat.le_of_ble_eq_true rfl, Nat.le_of_ble_eq_true rfl⟩) hS (fun q _ h => hFc q h) hFc (fun rr u t H1 locs ht hvm hw9 hB hz1 hk1 hS => ?_)
  have hw8 : v1 = rr := hw9.symm
  subst hw8
  obtain ⟨hP1, hK1, hD1⟩ := hB
  rw [ht] at hP1
  obtain ⟨hP, hD⟩ := va_join (wr := ([(g0, .inr (2, [.int th, .ref gr, .int mn, .int at_, .ref gl, .int md_l, .ref gw, .int md, .ref gs, .int fr, .int no])), (gr, .inl (cI, 4096, .inl rw)), (gl, .inl (cJ, 100, .inr (.inl ml))), (gw, .inl (cI, 4200, .inl wd)), (gs, .inl (cJ, 92, .inr (.inl sm)))] : va_W)) (w1 := ([] : va_W)) hP hD [] [0, 1, 2, 3, 4] rfl rfl (by decide) (by decide) hk1 hFc hP1 hD1
  clear hk1 hP1 hK1 hD1 hvm hz1 hPc hDc hFc
  generalize H1 = H at hP hS ⊢
  have hP : va_P (dC, dI) vwCl (wM cI cJ g0 gr gl gw gs th rw mn at_ ml md_l wd md sm fr no) H := hP
  have hD : va_D A (wM cI cJ g0 gr gl gw gs th rw mn at_ ml md_l wd md sm fr no) := hD
  refine lv_if_ne (tgt := 20) hx hb dX2_first_6 (by decide) (fun c2 => ?_) (fun c2 => ?_)
  · replace hj := ja_neg c2 hj
    refine lv_iconst (v := (1 : Int32)) hx hb dX2_first_20 (by decide) ?_
    refine lv_goto (tgt := 25) hx hb dX2_first_21 (by decide) ?_
    refine va_put (D := (dC, dI)) (ci := 2) (v := .int (1 : Int32)) (ty := .int) (C := RX2) (T := TX2) (N := 11) hx hb hts inn_X2_first_X2 tyX2 tyX2_ok nmX2 hown hK hP hD hS 0 rfl rfl 0 (by decide) (hts (.fieldLink RX2 25 "SelfEndingCodesModel" "thrown" "I") (by decide +kernel)) (fun _ h9 => h9) rfl (by decide +kernel) rfl rfl (Nat.le_of_ble_eq_true rfl) dX2_first_25 (fun H locs hP hD hS => ?_)
    have hP : va_P (dC, dI) vwCl (wM cI cJ g0 gr gl gw gs (1 : Int32) rw mn at_ ml md_l wd md sm fr no) H := hP
    have hD : va_D A (wM cI cJ g0 gr gl gw gs (1 : Int32) rw mn at_ ml md_l wd md sm fr no) := hD
    refine lv_aload_n hx hb dX2_first_28 rfl (lv_at hl 0 rfl) ?_
    refine va_get (D := (dC, dI)) (ci := 2) (v := .int (1 : Int32)) (C := RX2) (T := TX2) (N := 11) hx hb hts inn_X2_first_X2 hown hK hP 0 rfl rfl 0 (by decide) (hts (.fieldLink RX2 25 "SelfEndingCodesModel" "thrown" "I") (by decide +kernel)) (fun _ h9 => h9) rfl dX2_first_29 ?_
    refine lv_if_le (tgt := 37) hx hb dX2_first_32 (by decide) (fun h9 => absurd h9 (by decide)) (fun _ => ?_)
    refine lv_lconst (v := (0 : Int64)) hx hb dX2_first_35 (by decide) ?_
    have hr9 : ((0 : Int64), (1 : Int32)) = r := Option.some.inj hj
    subst hr9
    exact W.lret (v := (0 : Int64)) hx hb hr (fun t ht hW => ⟨⟨(0 : Int64), (), rfl, rfl, by rw [ht]; exact hP, va_K.moved hW.alike hK, hD⟩, hS.F ht⟩) hS.2.2 dX2_first_36
  · replace hj := ja_pos c2 hj
    refine lv_iload_n hx hb dX2_first_9 rfl (lv_at hl 3 rfl) ?_
    refine lv_if_lt (tgt := 20) hx hb dX2_first_10 (by decide) (fun c4 => ?_) (fun c4 => ?_)
    · replace hj := ja_pos c4 hj
      refine lv_iconst (v := (1 : Int32)) hx hb dX2_first_20 (by decide) ?_
      refine lv_goto (tgt := 25) hx hb dX2_first_21 (by decide) ?_
      refine va_put (D := (dC, dI)) (ci := 2) (v := .int (1 : Int32)) (ty := .int) (C := RX2) (T := TX2) (N := 11) hx hb hts inn_X2_first_X2 tyX2 tyX2_ok nmX2 hown hK hP hD hS 0 rfl rfl 0 (by decide) (hts (.fieldLink RX2 25 "SelfEndingCodesModel" "thrown" "I") (by decide +kernel)) (fun _ h9 => h9) rfl (by decide +kernel) rfl rfl (Nat.le_of_ble_eq_true rfl) dX2_first_25 (fun H locs hP hD hS => ?_)
      have hP : va_P (dC, dI) vwCl (wM cI cJ g0 gr gl gw gs (1 : Int32) rw mn at_ ml md_l wd md sm fr no) H := hP
      have hD : va_D A (wM cI cJ g0 gr gl gw gs (1 : Int32) rw mn at_ ml md_l wd md sm fr no) := hD
      refine lv_aload_n hx hb dX2_first_28 rfl (lv_at hl 0 rfl) ?_
      refine va_get (D := (dC, dI)) (ci := 2) (v := .int (1 : Int32)) (C := RX2) (T := TX2) (N := 11) hx hb hts inn_X2_first_X2 hown hK hP 0 rfl rfl 0 (by decide) (hts (.fieldLink RX2 25 "SelfEndingCodesModel" "thrown" "I") (by decide +kernel)) (fun _ h9 => h9) rfl dX2_first_29 ?_
      refine lv_if_le (tgt := 37) hx hb dX2_first_32 (by decide) (fun h9 => absurd h9 (by decide)) (fun _ => ?_)
      refine lv_lconst (v := (0 : Int64)) hx hb dX2_first_35 (by decide) ?_
      have hr9 : ((0 : Int64), (1 : Int32)) = r := Option.some.inj hj
      subst hr9
      exact W.lret (v := (0 : Int64)) hx hb hr (fun t ht hW => ⟨⟨(0 : Int64), (), rfl, rfl, by rw [ht]; exact hP, va_K.moved hW.alike hK, hD⟩, hS.F ht⟩) hS.2.2 dX2_first_36
    · replace hj := ja_neg c4 hj
      refine lv_iload_n hx hb dX2_first_13 rfl (lv_at hl 3 rfl) ?_
      refine lv_sipush (v := (200 : Int32)) hx hb dX2_first_14 (by decide) ?_
      refine lv_icmp_le (tgt := 24) hx hb dX2_first_17 (by decide) (fun c6 => ?_) (fun c6 => ?_)
      · replace hj := ja_pos c6 hj
        refine lv_iconst (v := (0 : Int32)) hx hb dX2_first_24 (by decide) ?_
        refine va_put (D := (dC, dI)) (ci := 2) (v := .int (0 : Int32)) (ty := .int) (C := RX2) (T := TX2) (N := 11) hx hb hts inn_X2_first_X2 tyX2 tyX2_ok nmX2 hown hK hP hD hS 0 rfl rfl 0 (by decide) (hts (.fieldLink RX2 25 "SelfEndingCodesModel" "thrown" "I") (by decide +kernel)) (fun _ h9 => h9) rfl (by decide +kernel) rfl rfl (Nat.le_of_ble_eq_true rfl) dX2_first_25 (fun H locs hP hD hS => ?_)
        have hP : va_P (dC, dI) vwCl (wM cI cJ g0 gr gl gw gs (0 : Int32) rw mn at_ ml md_l wd md sm fr no) H := hP
        have hD : va_D A (wM cI cJ g0 gr gl gw gs (0 : Int32) rw mn at_ ml md_l wd md sm fr no) := hD
        refine lv_aload_n hx hb dX2_first_28 rfl (lv_at hl 0 rfl) ?_
        refine va_get (D := (dC, dI)) (ci := 2) (v := .int (0 : Int32)) (C := RX2) (T := TX2) (N := 11) hx hb hts inn_X2_first_X2 hown hK hP 0 rfl rfl 0 (by decide) (hts (.fieldLink RX2 25 "SelfEndingCodesModel" "thrown" "I") (by decide +kernel)) (fun _ h9 => h9) rfl dX2_first_29 ?_
        refine lv_if_le (tgt := 37) hx hb dX2_first_32 (by decide) (fun _ => ?_) (fun h9 => absurd (by decide) h9)
        refine lv_aload_n hx hb dX2_first_37 rfl (lv_at hl 0 rfl) ?_
        refine lv_iload_n hx hb dX2_first_38 rfl (lv_at hl 1 rfl) ?_
        refine lv_iload_n hx hb dX2_first_39 rfl (lv_at hl 2 rfl) ?_
        refine lv_iload_n hx hb dX2_first_40 rfl (lv_at hl 3 rfl) ?_
        obtain ⟨v8, hc, hj⟩ := ja_bd hj
        try dsimp only at hj
        have hPc := hP.sub (ws' := (wM cI cJ g0 gr gl gw gs (0 : Int32) rw mn at_ ml md_l wd md sm fr no)) [0, 1, 2, 3, 4] rfl
        have hDc := hD.sub (ws' := (wM cI cJ g0 gr gl gw gs (0 : Int32) rw mn at_ ml md_l wd md sm fr no)) [0, 1, 2, 3, 4] (by decide) rfl
        have hFc := va_free (wc := (wM cI cJ g0 gr gl gw gs (0 : Int32) rw mn at_ ml md_l wd md sm fr no)) hD hS hA [0, 1, 2, 3, 4] rfl
        refine va_calll (va_runV (As := [.int a1, .int a2, .int a3]) (rest := []) ⟨hx, hb, hml, hown, hts⟩ (c_X2_leastOf l dC dI cI cJ g0 gr gl gw gs H.size (0 : Int32) rw mn at_ ml md_l wd md sm fr no a1 a2 a3 _ hc) (cwV 3 hts gX2_first_X2_leastOf rfl rfl rfl (by decide +kernel) ⟨Nat.le_of_ble_eq_true rfl, Nat.le_of_ble_eq_true rfl⟩) ⟨fun a U g mk q => ⟨q.1, jPr.blind q.2⟩, va_recv hK hPc (ci := 2) (q0 := 0) rfl rfl, fun U hU hW => ⟨rfl, jPr.mk hU hW hPc hK hDc⟩⟩ rfl rfl hl.1 rfl (lv_room (Nat.le_of_ble_eq_true rfl)) dX2_first_41 ⟨Nat.le_of_ble_eq_true rfl, Nat.le_of_ble_eq_true rfl⟩) hS (fun q _ h => hFc q h) hFc (fun rr u t H1 locs ht hvm hw9 hB hz1 hk1 hS => ?_)
        have hw8 : v8 = rr := hw9.symm
        subst hw8
        obtain ⟨hP1, hK1, hD1⟩ := hB
        rw [ht] at hP1
        obtain ⟨hP, hD⟩ := va_join (wr := ([] : va_W)) (w1 := (wM cI cJ g0 gr gl gw gs (0 : Int32) rw mn at_ ml md_l wd md sm fr no)) hP hD [0, 1, 2, 3, 4] [] rfl rfl (by decide) (by decide) hk1 hFc hP1 hD1
        clear hk1 hP1 hK1 hD1 hvm hz1 hPc hDc hFc
        generalize H1 = H at hP hS ⊢
        have hP : va_P (dC, dI) vwCl (wM cI cJ g0 gr gl gw gs (0 : Int32) rw mn at_ ml md_l wd md sm fr no) H := hP
        have hD : va_D A (wM cI cJ g0 gr gl gw gs (0 : Int32) rw mn at_ ml md_l wd md sm fr no) := hD
        refine lv_lstore (lv' := [(4, .long v8), (0, .ref g0), (1, .int a1), (2, .int a2), (3, .int a3)]) hx hb dX2_first_44 hl (by decide) rfl (fun ls hl => ?_)
        refine lv_lload hx hb dX2_first_46 (lv_at hl 0 rfl) ?_
        refine lv_lconst (v := (0 : Int64)) hx hb dX2_first_48 (by decide) ?_
        refine W.lcmp hx hb dX2_first_49 ?_
        refine lv_if_ne (tgt := 59) hx hb dX2_first_50 (by decide) (fun c9 => ?_) (fun c9 => ?_)
        · replace hj := ja_neg (fun h9 => c9 ((lg_cmp_eq v8 (0 : Int64)).mpr h9)) hj
          refine lv_lload hx hb dX2_first_59 (lv_at hl 0 rfl) ?_
          have hr9 : (v8, (0 : Int32)) = r := Option.some.inj hj
          subst hr9
          exact W.lret (v := v8) hx hb hr (fun t ht hW => ⟨⟨v8, (), rfl, rfl, by rw [ht]; exact hP, va_K.moved hW.alike hK, hD⟩, hS.F ht⟩) hS.2.2 dX2_first_61
        · replace hj := ja_pos ((lg_cmp_eq v8 (0 : Int64)).mp c9) hj
          refine lv_ldc2 (v := (-1 : Int64)) hx hb hown (hts (.constantLong RX2 135 (-1)) (by decide +kernel)) dX2_first_53 ?_
          refine lv_goto (tgt := 61) hx hb dX2_first_56 (by decide) ?_
          have hr9 : ((-1 : Int64), (0 : Int32)) = r := Option.some.inj hj
          subst hr9
          exact W.lret (v := (-1 : Int64)) hx hb hr (fun t ht hW => ⟨⟨(-1 : Int64), (), rfl, rfl, by rw [ht]; exact hP, va_K.moved hW.alike hK, hD⟩, hS.F ht⟩) hS.2.2 dX2_first_61
      · replace hj := ja_neg c6 hj
        refine lv_iconst (v := (1 : Int32)) hx hb dX2_first_20 (by decide) ?_
        refine lv_goto (tgt := 25) hx hb dX2_first_21 (by decide) ?_
        refine va_put (D := (dC, dI)) (ci := 2) (v := .int (1 : Int32)) (ty := .int) (C := RX2) (T := TX2) (N := 11) hx hb hts inn_X2_first_X2 tyX2 tyX2_ok nmX2 hown hK hP hD hS 0 rfl rfl 0 (by decide) (hts (.fieldLink RX2 25 "SelfEndingCodesModel" "thrown" "I") (by decide +kernel)) (fun _ h9 => h9) rfl (by decide +kernel) rfl rfl (Nat.le_of_ble_eq_true rfl) dX2_first_25 (fun H locs hP hD hS => ?_)
        have hP : va_P (dC, dI) vwCl (wM cI cJ g0 gr gl gw gs (1 : Int32) rw mn at_ ml md_l wd md sm fr no) H := hP
        have hD : va_D A (wM cI cJ g0 gr gl gw gs (1 : Int32) rw mn at_ ml md_l wd md sm fr no) := hD
        refine lv_aload_n hx hb dX2_first_28 rfl (lv_at hl 0 rfl) ?_
        refine va_get (D := (dC, dI)) (ci := 2) (v := .int (1 : Int32)) (C := RX2) (T := TX2) (N := 11) hx hb hts inn_X2_first_X2 hown hK hP 0 rfl rfl 0 (by decide) (hts (.fieldLink RX2 25 "SelfEndingCodesModel" "thrown" "I") (by decide +kernel)) (fun _ h9 => h9) rfl dX2_first_29 ?_
        refine lv_if_le (tgt := 37) hx hb dX2_first_32 (by decide) (fun h9 => absurd h9 (by decide)) (fun _ => ?_)
        refine lv_lconst (v := (0 : Int64)) hx hb dX2_first_35 (by decide) ?_
        have hr9 : ((0 : Int64), (1 : Int32)) = r := Option.some.inj hj
        subst hr9
        exact W.lret (v := (0 : Int64)) hx hb hr (fun t ht hW => ⟨⟨(0 : Int64), (), rfl, rfl, by rw [ht]; exact hP, va_K.moved hW.alike hK, hD⟩, hS.F ht⟩) hS.2.2 dX2_first_36

set_option maxRecDepth 100000 in
theorem inn_X2_fold_X2 : ∀ w ∈ u_ws RX2 TX2 11, w ∈ wsX2_fold := by decide +kernel
def j_X2_fold (th : Int32) (a1 : Int64) : Option (Int64 × Int32) :=
  if (2305843009213693952 : Int64) < a1 then (some ((0 : Int64), (1 : Int32))) else (if (-2305843009213693952 : Int64) < a1 then (if a1 ≤ (0 : Int64) then (some ((1 : Int64) - ((2 : Int64) * a1), (0 : Int32))) else (some ((2 : Int64) * a1, (0 : Int32)))) else (some ((0 : Int64), (1 : Int32))))
set_option maxHeartbeats 4000000 in
set_option maxRecDepth 100000 in
theorem c_X2_fold (l : Launch) (dC : Nat → ClassId) (dI : Nat → Nat → Nat) (cI cJ : ClassId) (g0 : Nat) (gr : Nat) (gl : Nat) (gw : Nat) (gs : Nat) (sz : Nat) (th : Int32) (rw : Nat → Int32) (mn : Int32) (at_ : Int32) (ml : Nat → Int64) (md_l : Int32) (wd : Nat → Int32) (md : Int32) (sm : Nat → Int64) (fr : Int32) (no : Int32) (a1 : Int64) (r : Int64 × Int32) (hj : j_X2_fold th a1 = some r) : Met l yX2_fold wsX2_fold ({ frames := 0, cells := 0, slots := 0, locals := 0 } : Room) (va_Pc [.ref g0, .long a1] (fun U => jPr dC dI cI cJ (wM cI cJ g0 gr gl gw gs th rw mn at_ ml md_l wd md sm fr no) sz U)) (va_Ql (fun (v : Int64) (_ : Unit) => v = r.1) (fun (_ : Unit) t => jPo dC dI cI cJ (wM cI cJ g0 gr gl gw gs r.2 rw mn at_ ml md_l wd md sm fr no) (va_A (wM cI cJ g0 gr gl gw gs th rw mn at_ ml md_l wd md sm fr no) sz) t) (va_A (wM cI cJ g0 gr gl gw gs th rw mn at_ ml md_l wd md sm fr no) sz)) 0 0 (va_A (wM cI cJ g0 gr gl gw gs th rw mn at_ ml md_l wd md sm fr no) sz) := by
  refine Met.ofW (cc := cX2_fold) (maxL := 3) (ret := (some .long)) (by decide) rfl ?_
  intro p e s m args below meth c s₁ B hml hv
  obtain ⟨rfl, ⟨hsz, hP, hK, hD0⟩⟩ := hv
  have hx := B.exec
  have hb := B.bytes
  have hr := B.returns
  have hts := atoms_spec (ws := wsX2_fold) B.pre
  have hown : s.vm.findClass RX2 = some m.cls := findClass_of_methodNamed B.named
  have hlocks := B.notSynchronized
  have C0 := jCx.of hx hb hr hml hown hts hlocks
  subst hsz
  have hD := hD0.self (sz := s.heap.size)
  generalize hAe : va_A (wM cI cJ g0 gr gl gw gs th rw mn at_ ml md_l wd md sm fr no) s.heap.size = A at hD ⊢
  have hA : ∀ q : Nat, s.heap.size ≤ q → A q := fun q h => by rw [← hAe]; exact Or.inr h
  have hS : va_S A s.heap s.heap [] := va_S.rf
  have hP : va_P (dC, dI) vwCl (wM cI cJ g0 gr gl gw gs th rw mn at_ ml md_l wd md sm fr no) s.heap := hP
  have hl := lv_entry ([.ref g0, .long a1]) (n := 3) (Nat.le_of_ble_eq_true rfl)
  rw [lg_entry_eq]
  generalize (lg_sl ([.ref g0, .long a1]) ++ List.replicate (3 - (lg_sl ([.ref g0, .long a1])).length) Slot.unset).toArray = ls at hl ⊢
  have hl : lv_has ls 3 [(0, .ref g0), (1, .long a1)] := hl
  clear hD0 hAe
  unfold j_X2_fold at hj
  refine lv_aload_n hx hb dX2_fold_0 rfl (lv_at hl 0 rfl) ?_
  refine lv_lload_n hx hb dX2_fold_1 rfl (lv_at hl 1 rfl) ?_
  refine lv_ldc2 (v := (2305843009213693952 : Int64)) hx hb hown (hts (.constantLong RX2 180 (2305843009213693952)) (by decide +kernel)) dX2_fold_2 ?_
  refine W.lcmp hx hb dX2_fold_5 ?_
  refine lv_if_gt (tgt := 17) hx hb dX2_fold_6 (by decide) (fun c1 => ?_) (fun c1 => ?_)
  · replace hj := ja_pos ((lg_cmp_gt a1 (2305843009213693952 : Int64)).mp c1) hj
    refine lv_iconst (v := (1 : Int32)) hx hb dX2_fold_17 (by decide) ?_
    refine lv_goto (tgt := 22) hx hb dX2_fold_18 (by decide) ?_
    refine va_put (D := (dC, dI)) (ci := 2) (v := .int (1 : Int32)) (ty := .int) (C := RX2) (T := TX2) (N := 11) hx hb hts inn_X2_fold_X2 tyX2 tyX2_ok nmX2 hown hK hP hD hS 0 rfl rfl 0 (by decide) (hts (.fieldLink RX2 25 "SelfEndingCodesModel" "thrown" "I") (by decide +kernel)) (fun _ h9 => h9) rfl (by decide +kernel) rfl rfl (Nat.le_of_ble_eq_true rfl) dX2_fold_22 (fun H locs hP hD hS => ?_)
    have hP : va_P (dC, dI) vwCl (wM cI cJ g0 gr gl gw gs (1 : Int32) rw mn at_ ml md_l wd md sm fr no) H := hP
    have hD : va_D A (wM cI cJ g0 gr gl gw gs (1 : Int32) rw mn at_ ml md_l wd md sm fr no) := hD
    refine lv_aload_n hx hb dX2_fold_25 rfl (lv_at hl 0 rfl) ?_
    refine va_get (D := (dC, dI)) (ci := 2) (v := .int (1 : Int32)) (C := RX2) (T := TX2) (N := 11) hx hb hts inn_X2_fold_X2 hown hK hP 0 rfl rfl 0 (by decide) (hts (.fieldLink RX2 25 "SelfEndingCodesModel" "thrown" "I") (by decide +kernel)) (fun _ h9 => h9) rfl dX2_fold_26 ?_
    refine lv_if_le (tgt := 34) hx hb dX2_fold_29 (by decide) (fun h9 => absurd h9 (by decide)) (fun _ => ?_)
    refine lv_lconst (v := (0 : Int64)) hx hb dX2_fold_32 (by decide) ?_
    have hr9 : ((0 : Int64), (1 : Int32)) = r := Option.some.inj hj
    subst hr9
    exact W.lret (v := (0 : Int64)) hx hb hr (fun t ht hW => ⟨⟨(0 : Int64), (), rfl, rfl, by rw [ht]; exact hP, va_K.moved hW.alike hK, hD⟩, hS.F ht⟩) hS.2.2 dX2_fold_33
  · replace hj := ja_neg (fun h9 => c1 ((lg_cmp_gt a1 (2305843009213693952 : Int64)).mpr h9)) hj
    refine lv_lload_n hx hb dX2_fold_9 rfl (lv_at hl 1 rfl) ?_
    refine lv_ldc2 (v := (-2305843009213693952 : Int64)) hx hb hown (hts (.constantLong RX2 182 (-2305843009213693952)) (by decide +kernel)) dX2_fold_10 ?_
    refine W.lcmp hx hb dX2_fold_13 ?_
    refine lv_if_gt (tgt := 21) hx hb dX2_fold_14 (by decide) (fun c3 => ?_) (fun c3 => ?_)
    · replace hj := ja_pos ((lg_cmp_gt a1 (-2305843009213693952 : Int64)).mp c3) hj
      refine lv_iconst (v := (0 : Int32)) hx hb dX2_fold_21 (by decide) ?_
      refine va_put (D := (dC, dI)) (ci := 2) (v := .int (0 : Int32)) (ty := .int) (C := RX2) (T := TX2) (N := 11) hx hb hts inn_X2_fold_X2 tyX2 tyX2_ok nmX2 hown hK hP hD hS 0 rfl rfl 0 (by decide) (hts (.fieldLink RX2 25 "SelfEndingCodesModel" "thrown" "I") (by decide +kernel)) (fun _ h9 => h9) rfl (by decide +kernel) rfl rfl (Nat.le_of_ble_eq_true rfl) dX2_fold_22 (fun H locs hP hD hS => ?_)
      have hP : va_P (dC, dI) vwCl (wM cI cJ g0 gr gl gw gs (0 : Int32) rw mn at_ ml md_l wd md sm fr no) H := hP
      have hD : va_D A (wM cI cJ g0 gr gl gw gs (0 : Int32) rw mn at_ ml md_l wd md sm fr no) := hD
      refine lv_aload_n hx hb dX2_fold_25 rfl (lv_at hl 0 rfl) ?_
      refine va_get (D := (dC, dI)) (ci := 2) (v := .int (0 : Int32)) (C := RX2) (T := TX2) (N := 11) hx hb hts inn_X2_fold_X2 hown hK hP 0 rfl rfl 0 (by decide) (hts (.fieldLink RX2 25 "SelfEndingCodesModel" "thrown" "I") (by decide +kernel)) (fun _ h9 => h9) rfl dX2_fold_26 ?_
      refine lv_if_le (tgt := 34) hx hb dX2_fold_29 (by decide) (fun _ => ?_) (fun h9 => absurd (by decide) h9)
      refine lv_lload_n hx hb dX2_fold_34 rfl (lv_at hl 1 rfl) ?_
      refine lv_lconst (v := (0 : Int64)) hx hb dX2_fold_35 (by decide) ?_
      refine W.lcmp hx hb dX2_fold_36 ?_
      refine lv_if_le (tgt := 48) hx hb dX2_fold_37 (by decide) (fun c5 => ?_) (fun c5 => ?_)
      · replace hj := ja_pos ((lg_cmp_le a1 (0 : Int64)).mp c5) hj
        refine lv_lconst (v := (1 : Int64)) hx hb dX2_fold_48 (by decide) ?_
        refine lv_ldc2 (v := (2 : Int64)) hx hb hown (hts (.constantLong RX2 23 (2)) (by decide +kernel)) dX2_fold_49 ?_
        refine lv_lload_n hx hb dX2_fold_52 rfl (lv_at hl 1 rfl) ?_
        refine lv_lmul hx hb dX2_fold_53 ?_
        refine lv_lsub hx hb dX2_fold_54 ?_
        have hr9 : ((1 : Int64) - ((2 : Int64) * a1), (0 : Int32)) = r := Option.some.inj hj
        subst hr9
        exact W.lret (v := (1 : Int64) - ((2 : Int64) * a1)) hx hb hr (fun t ht hW => ⟨⟨(1 : Int64) - ((2 : Int64) * a1), (), rfl, rfl, by rw [ht]; exact hP, va_K.moved hW.alike hK, hD⟩, hS.F ht⟩) hS.2.2 dX2_fold_55
      · replace hj := ja_neg (fun h9 => c5 ((lg_cmp_le a1 (0 : Int64)).mpr h9)) hj
        refine lv_ldc2 (v := (2 : Int64)) hx hb hown (hts (.constantLong RX2 23 (2)) (by decide +kernel)) dX2_fold_40 ?_
        refine lv_lload_n hx hb dX2_fold_43 rfl (lv_at hl 1 rfl) ?_
        refine lv_lmul hx hb dX2_fold_44 ?_
        refine lv_goto (tgt := 55) hx hb dX2_fold_45 (by decide) ?_
        have hr9 : ((2 : Int64) * a1, (0 : Int32)) = r := Option.some.inj hj
        subst hr9
        exact W.lret (v := (2 : Int64) * a1) hx hb hr (fun t ht hW => ⟨⟨(2 : Int64) * a1, (), rfl, rfl, by rw [ht]; exact hP, va_K.moved hW.alike hK, hD⟩, hS.F ht⟩) hS.2.2 dX2_fold_55
    · replace hj := ja_neg (fun h9 => c3 ((lg_cmp_gt a1 (-2305843009213693952 : Int64)).mpr h9)) hj
      refine lv_iconst (v := (1 : Int32)) hx hb dX2_fold_17 (by decide) ?_
      refine lv_goto (tgt := 22) hx hb dX2_fold_18 (by decide) ?_
      refine va_put (D := (dC, dI)) (ci := 2) (v := .int (1 : Int32)) (ty := .int) (C := RX2) (T := TX2) (N := 11) hx hb hts inn_X2_fold_X2 tyX2 tyX2_ok nmX2 hown hK hP hD hS 0 rfl rfl 0 (by decide) (hts (.fieldLink RX2 25 "SelfEndingCodesModel" "thrown" "I") (by decide +kernel)) (fun _ h9 => h9) rfl (by decide +kernel) rfl rfl (Nat.le_of_ble_eq_true rfl) dX2_fold_22 (fun H locs hP hD hS => ?_)
      have hP : va_P (dC, dI) vwCl (wM cI cJ g0 gr gl gw gs (1 : Int32) rw mn at_ ml md_l wd md sm fr no) H := hP
      have hD : va_D A (wM cI cJ g0 gr gl gw gs (1 : Int32) rw mn at_ ml md_l wd md sm fr no) := hD
      refine lv_aload_n hx hb dX2_fold_25 rfl (lv_at hl 0 rfl) ?_
      refine va_get (D := (dC, dI)) (ci := 2) (v := .int (1 : Int32)) (C := RX2) (T := TX2) (N := 11) hx hb hts inn_X2_fold_X2 hown hK hP 0 rfl rfl 0 (by decide) (hts (.fieldLink RX2 25 "SelfEndingCodesModel" "thrown" "I") (by decide +kernel)) (fun _ h9 => h9) rfl dX2_fold_26 ?_
      refine lv_if_le (tgt := 34) hx hb dX2_fold_29 (by decide) (fun h9 => absurd h9 (by decide)) (fun _ => ?_)
      refine lv_lconst (v := (0 : Int64)) hx hb dX2_fold_32 (by decide) ?_
      have hr9 : ((0 : Int64), (1 : Int32)) = r := Option.some.inj hj
      subst hr9
      exact W.lret (v := (0 : Int64)) hx hb hr (fun t ht hW => ⟨⟨(0 : Int64), (), rfl, rfl, by rw [ht]; exact hP, va_K.moved hW.alike hK, hD⟩, hS.F ht⟩) hS.2.2 dX2_fold_33

set_option maxRecDepth 100000 in
theorem inn_X2_get_X2 : ∀ w ∈ u_ws RX2 TX2 11, w ∈ wsX2_get := by decide +kernel
def j_X2_get (th : Int32) (ml : Nat → Int64) (md_l : Int32) (a1 : Int32) : Option (Int64 × Int32) :=
  if a1 < (0 : Int32) then (some ((0 : Int64), (1 : Int32))) else (if a1 < md_l then (jix a1 100 (some (ml a1.toNatClampNeg, (0 : Int32)))) else (some ((0 : Int64), (1 : Int32))))
set_option maxHeartbeats 4000000 in
set_option maxRecDepth 100000 in
theorem c_X2_get (l : Launch) (dC : Nat → ClassId) (dI : Nat → Nat → Nat) (cI cJ : ClassId) (g0 : Nat) (gr : Nat) (gl : Nat) (gw : Nat) (gs : Nat) (sz : Nat) (th : Int32) (rw : Nat → Int32) (mn : Int32) (at_ : Int32) (ml : Nat → Int64) (md_l : Int32) (wd : Nat → Int32) (md : Int32) (sm : Nat → Int64) (fr : Int32) (no : Int32) (a1 : Int32) (r : Int64 × Int32) (hj : j_X2_get th ml md_l a1 = some r) : Met l yX2_get wsX2_get ({ frames := 0, cells := 0, slots := 0, locals := 0 } : Room) (va_Pc [.ref g0, .int a1] (fun U => jPr dC dI cI cJ (wM cI cJ g0 gr gl gw gs th rw mn at_ ml md_l wd md sm fr no) sz U)) (va_Ql (fun (v : Int64) (_ : Unit) => v = r.1) (fun (_ : Unit) t => jPo dC dI cI cJ (wM cI cJ g0 gr gl gw gs r.2 rw mn at_ ml md_l wd md sm fr no) (va_A (wM cI cJ g0 gr gl gw gs th rw mn at_ ml md_l wd md sm fr no) sz) t) (va_A (wM cI cJ g0 gr gl gw gs th rw mn at_ ml md_l wd md sm fr no) sz)) 0 0 (va_A (wM cI cJ g0 gr gl gw gs th rw mn at_ ml md_l wd md sm fr no) sz) := by
  refine Met.ofW (cc := cX2_get) (maxL := 2) (ret := (some .long)) (by decide) rfl ?_
  intro p e s m args below meth c s₁ B hml hv
  obtain ⟨rfl, ⟨hsz, hP, hK, hD0⟩⟩ := hv
  have hx := B.exec
  have hb := B.bytes
  have hr := B.returns
  have hts := atoms_spec (ws := wsX2_get) B.pre
  have hown : s.vm.findClass RX2 = some m.cls := findClass_of_methodNamed B.named
  have hlocks := B.notSynchronized
  have C0 := jCx.of hx hb hr hml hown hts hlocks
  subst hsz
  have hD := hD0.self (sz := s.heap.size)
  generalize hAe : va_A (wM cI cJ g0 gr gl gw gs th rw mn at_ ml md_l wd md sm fr no) s.heap.size = A at hD ⊢
  have hA : ∀ q : Nat, s.heap.size ≤ q → A q := fun q h => by rw [← hAe]; exact Or.inr h
  have hS : va_S A s.heap s.heap [] := va_S.rf
  have hP : va_P (dC, dI) vwCl (wM cI cJ g0 gr gl gw gs th rw mn at_ ml md_l wd md sm fr no) s.heap := hP
  have hl := lv_entry ([.ref g0, .int a1]) (n := 2) (Nat.le_of_ble_eq_true rfl)
  rw [lg_entry_eq]
  generalize (lg_sl ([.ref g0, .int a1]) ++ List.replicate (2 - (lg_sl ([.ref g0, .int a1])).length) Slot.unset).toArray = ls at hl ⊢
  have hl : lv_has ls 2 [(0, .ref g0), (1, .int a1)] := hl
  clear hD0 hAe
  unfold j_X2_get at hj
  refine lv_aload_n hx hb dX2_get_0 rfl (lv_at hl 0 rfl) ?_
  refine lv_iload_n hx hb dX2_get_1 rfl (lv_at hl 1 rfl) ?_
  refine lv_if_lt (tgt := 13) hx hb dX2_get_2 (by decide) (fun c1 => ?_) (fun c1 => ?_)
  · replace hj := ja_pos c1 hj
    refine lv_iconst (v := (1 : Int32)) hx hb dX2_get_13 (by decide) ?_
    refine lv_goto (tgt := 18) hx hb dX2_get_14 (by decide) ?_
    refine va_put (D := (dC, dI)) (ci := 2) (v := .int (1 : Int32)) (ty := .int) (C := RX2) (T := TX2) (N := 11) hx hb hts inn_X2_get_X2 tyX2 tyX2_ok nmX2 hown hK hP hD hS 0 rfl rfl 0 (by decide) (hts (.fieldLink RX2 25 "SelfEndingCodesModel" "thrown" "I") (by decide +kernel)) (fun _ h9 => h9) rfl (by decide +kernel) rfl rfl (Nat.le_of_ble_eq_true rfl) dX2_get_18 (fun H locs hP hD hS => ?_)
    have hP : va_P (dC, dI) vwCl (wM cI cJ g0 gr gl gw gs (1 : Int32) rw mn at_ ml md_l wd md sm fr no) H := hP
    have hD : va_D A (wM cI cJ g0 gr gl gw gs (1 : Int32) rw mn at_ ml md_l wd md sm fr no) := hD
    refine lv_aload_n hx hb dX2_get_21 rfl (lv_at hl 0 rfl) ?_
    refine va_get (D := (dC, dI)) (ci := 2) (v := .int (1 : Int32)) (C := RX2) (T := TX2) (N := 11) hx hb hts inn_X2_get_X2 hown hK hP 0 rfl rfl 0 (by decide) (hts (.fieldLink RX2 25 "SelfEndingCodesModel" "thrown" "I") (by decide +kernel)) (fun _ h9 => h9) rfl dX2_get_22 ?_
    refine lv_if_le (tgt := 32) hx hb dX2_get_25 (by decide) (fun h9 => absurd h9 (by decide)) (fun _ => ?_)
    refine lv_lconst (v := (0 : Int64)) hx hb dX2_get_28 (by decide) ?_
    refine lv_goto (tgt := 38) hx hb dX2_get_29 (by decide) ?_
    have hr9 : ((0 : Int64), (1 : Int32)) = r := Option.some.inj hj
    subst hr9
    exact W.lret (v := (0 : Int64)) hx hb hr (fun t ht hW => ⟨⟨(0 : Int64), (), rfl, rfl, by rw [ht]; exact hP, va_K.moved hW.alike hK, hD⟩, hS.F ht⟩) hS.2.2 dX2_get_38
  · replace hj := ja_neg c1 hj
    refine lv_iload_n hx hb dX2_get_5 rfl (lv_at hl 1 rfl) ?_
    refine lv_aload_n hx hb dX2_get_6 rfl (lv_at hl 0 rfl) ?_
    refine va_get (D := (dC, dI)) (ci := 2) (v := .int md_l) (C := RX2) (T := TX2) (N := 11) hx hb hts inn_X2_get_X2 hown hK hP 0 rfl rfl 5 (by decide) (hts (.fieldLink RX2 167 "SelfEndingCodesModel" "listed" "I") (by decide +kernel)) (fun _ h9 => h9) rfl dX2_get_7 ?_
    refine lv_icmp_lt (tgt := 17) hx hb dX2_get_10 (by decide) (fun c3 => ?_) (fun c3 => ?_)
    · replace hj := ja_pos c3 hj
      refine lv_iconst (v := (0 : Int32)) hx hb dX2_get_17 (by decide) ?_
      refine va_put (D := (dC, dI)) (ci := 2) (v := .int (0 : Int32)) (ty := .int) (C := RX2) (T := TX2) (N := 11) hx hb hts inn_X2_get_X2 tyX2 tyX2_ok nmX2 hown hK hP hD hS 0 rfl rfl 0 (by decide) (hts (.fieldLink RX2 25 "SelfEndingCodesModel" "thrown" "I") (by decide +kernel)) (fun _ h9 => h9) rfl (by decide +kernel) rfl rfl (Nat.le_of_ble_eq_true rfl) dX2_get_18 (fun H locs hP hD hS => ?_)
      have hP : va_P (dC, dI) vwCl (wM cI cJ g0 gr gl gw gs (0 : Int32) rw mn at_ ml md_l wd md sm fr no) H := hP
      have hD : va_D A (wM cI cJ g0 gr gl gw gs (0 : Int32) rw mn at_ ml md_l wd md sm fr no) := hD
      refine lv_aload_n hx hb dX2_get_21 rfl (lv_at hl 0 rfl) ?_
      refine va_get (D := (dC, dI)) (ci := 2) (v := .int (0 : Int32)) (C := RX2) (T := TX2) (N := 11) hx hb hts inn_X2_get_X2 hown hK hP 0 rfl rfl 0 (by decide) (hts (.fieldLink RX2 25 "SelfEndingCodesModel" "thrown" "I") (by decide +kernel)) (fun _ h9 => h9) rfl dX2_get_22 ?_
      refine lv_if_le (tgt := 32) hx hb dX2_get_25 (by decide) (fun _ => ?_) (fun h9 => absurd (by decide) h9)
      refine lv_aload_n hx hb dX2_get_32 rfl (lv_at hl 0 rfl) ?_
      refine va_get (D := (dC, dI)) (ci := 2) (v := .ref gl) (C := RX2) (T := TX2) (N := 11) hx hb hts inn_X2_get_X2 hown hK hP 0 rfl rfl 4 (by decide) (hts (.fieldLink RX2 13 "SelfEndingCodesModel" "list" "[J") (by decide +kernel)) (fun _ h9 => h9) rfl dX2_get_33 ?_
      refine lv_iload_n hx hb dX2_get_36 rfl (lv_at hl 1 rfl) ?_
      obtain ⟨hin, hj⟩ := ja_ix hj
      refine va_lald hx hb hK hP 2 1 rfl rfl hin dX2_get_37 ?_
      have hr9 : (ml a1.toNatClampNeg, (0 : Int32)) = r := Option.some.inj hj
      subst hr9
      exact W.lret (v := ml a1.toNatClampNeg) hx hb hr (fun t ht hW => ⟨⟨ml a1.toNatClampNeg, (), rfl, rfl, by rw [ht]; exact hP, va_K.moved hW.alike hK, hD⟩, hS.F ht⟩) hS.2.2 dX2_get_38
    · replace hj := ja_neg c3 hj
      refine lv_iconst (v := (1 : Int32)) hx hb dX2_get_13 (by decide) ?_
      refine lv_goto (tgt := 18) hx hb dX2_get_14 (by decide) ?_
      refine va_put (D := (dC, dI)) (ci := 2) (v := .int (1 : Int32)) (ty := .int) (C := RX2) (T := TX2) (N := 11) hx hb hts inn_X2_get_X2 tyX2 tyX2_ok nmX2 hown hK hP hD hS 0 rfl rfl 0 (by decide) (hts (.fieldLink RX2 25 "SelfEndingCodesModel" "thrown" "I") (by decide +kernel)) (fun _ h9 => h9) rfl (by decide +kernel) rfl rfl (Nat.le_of_ble_eq_true rfl) dX2_get_18 (fun H locs hP hD hS => ?_)
      have hP : va_P (dC, dI) vwCl (wM cI cJ g0 gr gl gw gs (1 : Int32) rw mn at_ ml md_l wd md sm fr no) H := hP
      have hD : va_D A (wM cI cJ g0 gr gl gw gs (1 : Int32) rw mn at_ ml md_l wd md sm fr no) := hD
      refine lv_aload_n hx hb dX2_get_21 rfl (lv_at hl 0 rfl) ?_
      refine va_get (D := (dC, dI)) (ci := 2) (v := .int (1 : Int32)) (C := RX2) (T := TX2) (N := 11) hx hb hts inn_X2_get_X2 hown hK hP 0 rfl rfl 0 (by decide) (hts (.fieldLink RX2 25 "SelfEndingCodesModel" "thrown" "I") (by decide +kernel)) (fun _ h9 => h9) rfl dX2_get_22 ?_
      refine lv_if_le (tgt := 32) hx hb dX2_get_25 (by decide) (fun h9 => absurd h9 (by decide)) (fun _ => ?_)
      refine lv_lconst (v := (0 : Int64)) hx hb dX2_get_28 (by decide) ?_
      refine lv_goto (tgt := 38) hx hb dX2_get_29 (by decide) ?_
      have hr9 : ((0 : Int64), (1 : Int32)) = r := Option.some.inj hj
      subst hr9
      exact W.lret (v := (0 : Int64)) hx hb hr (fun t ht hW => ⟨⟨(0 : Int64), (), rfl, rfl, by rw [ht]; exact hP, va_K.moved hW.alike hK, hD⟩, hS.F ht⟩) hS.2.2 dX2_get_38

set_option maxRecDepth 100000 in
theorem inn_X2_length_X2 : ∀ w ∈ u_ws RX2 TX2 11, w ∈ wsX2_length := by decide +kernel
def j_X2_length (th : Int32) (sm : Nat → Int64) (a1 : Int32) (a2 : Int32) (a3 : Int64) : Option (Int64 × Int32) :=
  (j_X2_noKind a1 a2).bind fun v1 => (if v1 = (0 : Int32) then ((j_X2_noNumber a3).bind fun v4 => (if v4 = (0 : Int32) then ((j_X2_lengthOf sm a1 a2 a3).bind fun v7 => (some (v7, (0 : Int32)))) else (some ((0 : Int64), (1 : Int32))))) else (some ((0 : Int64), (1 : Int32))))
set_option maxHeartbeats 4000000 in
set_option maxRecDepth 100000 in
theorem c_X2_length (l : Launch) (dC : Nat → ClassId) (dI : Nat → Nat → Nat) (cI cJ : ClassId) (g0 : Nat) (gr : Nat) (gl : Nat) (gw : Nat) (gs : Nat) (sz : Nat) (th : Int32) (rw : Nat → Int32) (mn : Int32) (at_ : Int32) (ml : Nat → Int64) (md_l : Int32) (wd : Nat → Int32) (md : Int32) (sm : Nat → Int64) (fr : Int32) (no : Int32) (a1 : Int32) (a2 : Int32) (a3 : Int64) (r : Int64 × Int32) (hj : j_X2_length th sm a1 a2 a3 = some r) : Met l yX2_length wsX2_length ({ frames := 3, cells := 0, slots := 0, locals := 80 } : Room) (va_Pc [.ref g0, .int a1, .int a2, .long a3] (fun U => jPr dC dI cI cJ (wM cI cJ g0 gr gl gw gs th rw mn at_ ml md_l wd md sm fr no) sz U)) (va_Ql (fun (v : Int64) (_ : Unit) => v = r.1) (fun (_ : Unit) t => jPo dC dI cI cJ (wM cI cJ g0 gr gl gw gs r.2 rw mn at_ ml md_l wd md sm fr no) (va_A (wM cI cJ g0 gr gl gw gs th rw mn at_ ml md_l wd md sm fr no) sz) t) (va_A (wM cI cJ g0 gr gl gw gs th rw mn at_ ml md_l wd md sm fr no) sz)) 0 0 (va_A (wM cI cJ g0 gr gl gw gs th rw mn at_ ml md_l wd md sm fr no) sz) := by
  refine Met.ofW (cc := cX2_length) (maxL := 5) (ret := (some .long)) (by decide) rfl ?_
  intro p e s m args below meth c s₁ B hml hv
  obtain ⟨rfl, ⟨hsz, hP, hK, hD0⟩⟩ := hv
  have hx := B.exec
  have hb := B.bytes
  have hr := B.returns
  have hts := atoms_spec (ws := wsX2_length) B.pre
  have hown : s.vm.findClass RX2 = some m.cls := findClass_of_methodNamed B.named
  have hlocks := B.notSynchronized
  have C0 := jCx.of hx hb hr hml hown hts hlocks
  subst hsz
  have hD := hD0.self (sz := s.heap.size)
  generalize hAe : va_A (wM cI cJ g0 gr gl gw gs th rw mn at_ ml md_l wd md sm fr no) s.heap.size = A at hD ⊢
  have hA : ∀ q : Nat, s.heap.size ≤ q → A q := fun q h => by rw [← hAe]; exact Or.inr h
  have hS : va_S A s.heap s.heap [] := va_S.rf
  have hP : va_P (dC, dI) vwCl (wM cI cJ g0 gr gl gw gs th rw mn at_ ml md_l wd md sm fr no) s.heap := hP
  have hl := lv_entry ([.ref g0, .int a1, .int a2, .long a3]) (n := 5) (Nat.le_of_ble_eq_true rfl)
  rw [lg_entry_eq]
  generalize (lg_sl ([.ref g0, .int a1, .int a2, .long a3]) ++ List.replicate (5 - (lg_sl ([.ref g0, .int a1, .int a2, .long a3])).length) Slot.unset).toArray = ls at hl ⊢
  have hl : lv_has ls 5 [(0, .ref g0), (1, .int a1), (2, .int a2), (3, .long a3)] := hl
  clear hD0 hAe
  unfold j_X2_length at hj
  refine lv_aload_n hx hb dX2_length_0 rfl (lv_at hl 0 rfl) ?_
  refine lv_iload_n hx hb dX2_length_1 rfl (lv_at hl 1 rfl) ?_
  refine lv_iload_n hx hb dX2_length_2 rfl (lv_at hl 2 rfl) ?_
  obtain ⟨v1, hc, hj⟩ := ja_bd hj
  try dsimp only at hj
  have hPc := hP.sub (ws' := ([] : va_W)) [] rfl
  have hDc := hD.sub (ws' := ([] : va_W)) [] (by decide) rfl
  have hFc := va_free (wc := ([] : va_W)) hD hS hA [] rfl
  refine va_calli (va_runS (As := [.int a1, .int a2]) (rest := [.ref g0]) ⟨hx, hb, hml, hown, hts⟩ (c_X2_noKind l dC dI cI cJ s.heap.size a1 a2 _ hc) (va_cwS 2 hts gX2_length_X2_noKind rfl rfl rfl (by decide +kernel) ⟨Nat.le_of_ble_eq_true rfl, Nat.le_of_ble_eq_true rfl⟩) ⟨fun a U g mk q => ⟨q.1, jPr.blind q.2⟩, fun U hU hW => ⟨rfl, jPr.mk hU hW hPc hK hDc⟩⟩ rfl rfl hl.1 rfl (lv_room (Nat.le_of_ble_eq_true rfl)) dX2_length_3 ⟨Nat.le_of_ble_eq_true rfl, Nat.le_of_ble_eq_true rfl⟩) hS (fun q _ h => hFc q h) hFc (fun rr u t H1 locs ht hvm hw9 hB hz1 hk1 hS => ?_)
  have hw8 : v1 = rr := hw9.symm
  subst hw8
  obtain ⟨hP1, hK1, hD1⟩ := hB
  rw [ht] at hP1
  obtain ⟨hP, hD⟩ := va_join (wr := ([(g0, .inr (2, [.int th, .ref gr, .int mn, .int at_, .ref gl, .int md_l, .ref gw, .int md, .ref gs, .int fr, .int no])), (gr, .inl (cI, 4096, .inl rw)), (gl, .inl (cJ, 100, .inr (.inl ml))), (gw, .inl (cI, 4200, .inl wd)), (gs, .inl (cJ, 92, .inr (.inl sm)))] : va_W)) (w1 := ([] : va_W)) hP hD [] [0, 1, 2, 3, 4] rfl rfl (by decide) (by decide) hk1 hFc hP1 hD1
  clear hk1 hP1 hK1 hD1 hvm hz1 hPc hDc hFc
  generalize H1 = H at hP hS ⊢
  have hP : va_P (dC, dI) vwCl (wM cI cJ g0 gr gl gw gs th rw mn at_ ml md_l wd md sm fr no) H := hP
  have hD : va_D A (wM cI cJ g0 gr gl gw gs th rw mn at_ ml md_l wd md sm fr no) := hD
  refine lv_if_ne (tgt := 16) hx hb dX2_length_6 (by decide) (fun c2 => ?_) (fun c2 => ?_)
  · replace hj := ja_neg c2 hj
    refine lv_iconst (v := (1 : Int32)) hx hb dX2_length_16 (by decide) ?_
    refine lv_goto (tgt := 21) hx hb dX2_length_17 (by decide) ?_
    refine va_put (D := (dC, dI)) (ci := 2) (v := .int (1 : Int32)) (ty := .int) (C := RX2) (T := TX2) (N := 11) hx hb hts inn_X2_length_X2 tyX2 tyX2_ok nmX2 hown hK hP hD hS 0 rfl rfl 0 (by decide) (hts (.fieldLink RX2 25 "SelfEndingCodesModel" "thrown" "I") (by decide +kernel)) (fun _ h9 => h9) rfl (by decide +kernel) rfl rfl (Nat.le_of_ble_eq_true rfl) dX2_length_21 (fun H locs hP hD hS => ?_)
    have hP : va_P (dC, dI) vwCl (wM cI cJ g0 gr gl gw gs (1 : Int32) rw mn at_ ml md_l wd md sm fr no) H := hP
    have hD : va_D A (wM cI cJ g0 gr gl gw gs (1 : Int32) rw mn at_ ml md_l wd md sm fr no) := hD
    refine lv_aload_n hx hb dX2_length_24 rfl (lv_at hl 0 rfl) ?_
    refine va_get (D := (dC, dI)) (ci := 2) (v := .int (1 : Int32)) (C := RX2) (T := TX2) (N := 11) hx hb hts inn_X2_length_X2 hown hK hP 0 rfl rfl 0 (by decide) (hts (.fieldLink RX2 25 "SelfEndingCodesModel" "thrown" "I") (by decide +kernel)) (fun _ h9 => h9) rfl dX2_length_25 ?_
    refine lv_if_le (tgt := 35) hx hb dX2_length_28 (by decide) (fun h9 => absurd h9 (by decide)) (fun _ => ?_)
    refine lv_lconst (v := (0 : Int64)) hx hb dX2_length_31 (by decide) ?_
    refine lv_goto (tgt := 42) hx hb dX2_length_32 (by decide) ?_
    have hr9 : ((0 : Int64), (1 : Int32)) = r := Option.some.inj hj
    subst hr9
    exact W.lret (v := (0 : Int64)) hx hb hr (fun t ht hW => ⟨⟨(0 : Int64), (), rfl, rfl, by rw [ht]; exact hP, va_K.moved hW.alike hK, hD⟩, hS.F ht⟩) hS.2.2 dX2_length_42
  · replace hj := ja_pos c2 hj
    refine lv_lload_n hx hb dX2_length_9 rfl (lv_at hl 3 rfl) ?_
    obtain ⟨v4, hc, hj⟩ := ja_bd hj
    try dsimp only at hj
    have hPc := hP.sub (ws' := ([] : va_W)) [] rfl
    have hDc := hD.sub (ws' := ([] : va_W)) [] (by decide) rfl
    have hFc := va_free (wc := ([] : va_W)) hD hS hA [] rfl
    refine va_calli (va_runS (As := [.long a3]) (rest := [.ref g0]) ⟨hx, hb, hml, hown, hts⟩ (c_X2_noNumber l dC dI cI cJ H.size a3 _ hc) (va_cwS 1 hts gX2_length_X2_noNumber rfl rfl rfl (by decide +kernel) ⟨Nat.le_of_ble_eq_true rfl, Nat.le_of_ble_eq_true rfl⟩) ⟨fun a U g mk q => ⟨q.1, jPr.blind q.2⟩, fun U hU hW => ⟨rfl, jPr.mk hU hW hPc hK hDc⟩⟩ rfl rfl hl.1 rfl (lv_room (Nat.le_of_ble_eq_true rfl)) dX2_length_10 ⟨Nat.le_of_ble_eq_true rfl, Nat.le_of_ble_eq_true rfl⟩) hS (fun q _ h => hFc q h) hFc (fun rr u t H1 locs ht hvm hw9 hB hz1 hk1 hS => ?_)
    have hw8 : v4 = rr := hw9.symm
    subst hw8
    obtain ⟨hP1, hK1, hD1⟩ := hB
    rw [ht] at hP1
    obtain ⟨hP, hD⟩ := va_join (wr := ([(g0, .inr (2, [.int th, .ref gr, .int mn, .int at_, .ref gl, .int md_l, .ref gw, .int md, .ref gs, .int fr, .int no])), (gr, .inl (cI, 4096, .inl rw)), (gl, .inl (cJ, 100, .inr (.inl ml))), (gw, .inl (cI, 4200, .inl wd)), (gs, .inl (cJ, 92, .inr (.inl sm)))] : va_W)) (w1 := ([] : va_W)) hP hD [] [0, 1, 2, 3, 4] rfl rfl (by decide) (by decide) hk1 hFc hP1 hD1
    clear hk1 hP1 hK1 hD1 hvm hz1 hPc hDc hFc
    generalize H1 = H at hP hS ⊢
    have hP : va_P (dC, dI) vwCl (wM cI cJ g0 gr gl gw gs th rw mn at_ ml md_l wd md sm fr no) H := hP
    have hD : va_D A (wM cI cJ g0 gr gl gw gs th rw mn at_ ml md_l wd md sm fr no) := hD
    refine lv_if_eq (tgt := 20) hx hb dX2_length_13 (by decide) (fun c5 => ?_) (fun c5 => ?_)
    · replace hj := ja_pos c5 hj
      refine lv_iconst (v := (0 : Int32)) hx hb dX2_length_20 (by decide) ?_
      refine va_put (D := (dC, dI)) (ci := 2) (v := .int (0 : Int32)) (ty := .int) (C := RX2) (T := TX2) (N := 11) hx hb hts inn_X2_length_X2 tyX2 tyX2_ok nmX2 hown hK hP hD hS 0 rfl rfl 0 (by decide) (hts (.fieldLink RX2 25 "SelfEndingCodesModel" "thrown" "I") (by decide +kernel)) (fun _ h9 => h9) rfl (by decide +kernel) rfl rfl (Nat.le_of_ble_eq_true rfl) dX2_length_21 (fun H locs hP hD hS => ?_)
      have hP : va_P (dC, dI) vwCl (wM cI cJ g0 gr gl gw gs (0 : Int32) rw mn at_ ml md_l wd md sm fr no) H := hP
      have hD : va_D A (wM cI cJ g0 gr gl gw gs (0 : Int32) rw mn at_ ml md_l wd md sm fr no) := hD
      refine lv_aload_n hx hb dX2_length_24 rfl (lv_at hl 0 rfl) ?_
      refine va_get (D := (dC, dI)) (ci := 2) (v := .int (0 : Int32)) (C := RX2) (T := TX2) (N := 11) hx hb hts inn_X2_length_X2 hown hK hP 0 rfl rfl 0 (by decide) (hts (.fieldLink RX2 25 "SelfEndingCodesModel" "thrown" "I") (by decide +kernel)) (fun _ h9 => h9) rfl dX2_length_25 ?_
      refine lv_if_le (tgt := 35) hx hb dX2_length_28 (by decide) (fun _ => ?_) (fun h9 => absurd (by decide) h9)
      refine lv_aload_n hx hb dX2_length_35 rfl (lv_at hl 0 rfl) ?_
      refine lv_iload_n hx hb dX2_length_36 rfl (lv_at hl 1 rfl) ?_
      refine lv_iload_n hx hb dX2_length_37 rfl (lv_at hl 2 rfl) ?_
      refine lv_lload_n hx hb dX2_length_38 rfl (lv_at hl 3 rfl) ?_
      obtain ⟨v7, hc, hj⟩ := ja_bd hj
      try dsimp only at hj
      have hPc := hP.sub (ws' := (wM cI cJ g0 gr gl gw gs (0 : Int32) rw mn at_ ml md_l wd md sm fr no)) [0, 1, 2, 3, 4] rfl
      have hDc := hD.sub (ws' := (wM cI cJ g0 gr gl gw gs (0 : Int32) rw mn at_ ml md_l wd md sm fr no)) [0, 1, 2, 3, 4] (by decide) rfl
      have hFc := va_free (wc := (wM cI cJ g0 gr gl gw gs (0 : Int32) rw mn at_ ml md_l wd md sm fr no)) hD hS hA [0, 1, 2, 3, 4] rfl
      refine va_calll (va_runV (As := [.int a1, .int a2, .long a3]) (rest := []) ⟨hx, hb, hml, hown, hts⟩ (c_X2_lengthOf l dC dI cI cJ g0 gr gl gw gs H.size (0 : Int32) rw mn at_ ml md_l wd md sm fr no a1 a2 a3 _ hc) (cwV 3 hts gX2_length_X2_lengthOf rfl rfl rfl (by decide +kernel) ⟨Nat.le_of_ble_eq_true rfl, Nat.le_of_ble_eq_true rfl⟩) ⟨fun a U g mk q => ⟨q.1, jPr.blind q.2⟩, va_recv hK hPc (ci := 2) (q0 := 0) rfl rfl, fun U hU hW => ⟨rfl, jPr.mk hU hW hPc hK hDc⟩⟩ rfl rfl hl.1 rfl (lv_room (Nat.le_of_ble_eq_true rfl)) dX2_length_39 ⟨Nat.le_of_ble_eq_true rfl, Nat.le_of_ble_eq_true rfl⟩) hS (fun q _ h => hFc q h) hFc (fun rr u t H1 locs ht hvm hw9 hB hz1 hk1 hS => ?_)
      have hw8 : v7 = rr := hw9.symm
      subst hw8
      obtain ⟨hP1, hK1, hD1⟩ := hB
      rw [ht] at hP1
      obtain ⟨hP, hD⟩ := va_join (wr := ([] : va_W)) (w1 := (wM cI cJ g0 gr gl gw gs (0 : Int32) rw mn at_ ml md_l wd md sm fr no)) hP hD [0, 1, 2, 3, 4] [] rfl rfl (by decide) (by decide) hk1 hFc hP1 hD1
      clear hk1 hP1 hK1 hD1 hvm hz1 hPc hDc hFc
      generalize H1 = H at hP hS ⊢
      have hP : va_P (dC, dI) vwCl (wM cI cJ g0 gr gl gw gs (0 : Int32) rw mn at_ ml md_l wd md sm fr no) H := hP
      have hD : va_D A (wM cI cJ g0 gr gl gw gs (0 : Int32) rw mn at_ ml md_l wd md sm fr no) := hD
      have hr9 : (v7, (0 : Int32)) = r := Option.some.inj hj
      subst hr9
      exact W.lret (v := v7) hx hb hr (fun t ht hW => ⟨⟨v7, (), rfl, rfl, by rw [ht]; exact hP, va_K.moved hW.alike hK, hD⟩, hS.F ht⟩) hS.2.2 dX2_length_42
    · replace hj := ja_neg c5 hj
      refine lv_iconst (v := (1 : Int32)) hx hb dX2_length_16 (by decide) ?_
      refine lv_goto (tgt := 21) hx hb dX2_length_17 (by decide) ?_
      refine va_put (D := (dC, dI)) (ci := 2) (v := .int (1 : Int32)) (ty := .int) (C := RX2) (T := TX2) (N := 11) hx hb hts inn_X2_length_X2 tyX2 tyX2_ok nmX2 hown hK hP hD hS 0 rfl rfl 0 (by decide) (hts (.fieldLink RX2 25 "SelfEndingCodesModel" "thrown" "I") (by decide +kernel)) (fun _ h9 => h9) rfl (by decide +kernel) rfl rfl (Nat.le_of_ble_eq_true rfl) dX2_length_21 (fun H locs hP hD hS => ?_)
      have hP : va_P (dC, dI) vwCl (wM cI cJ g0 gr gl gw gs (1 : Int32) rw mn at_ ml md_l wd md sm fr no) H := hP
      have hD : va_D A (wM cI cJ g0 gr gl gw gs (1 : Int32) rw mn at_ ml md_l wd md sm fr no) := hD
      refine lv_aload_n hx hb dX2_length_24 rfl (lv_at hl 0 rfl) ?_
      refine va_get (D := (dC, dI)) (ci := 2) (v := .int (1 : Int32)) (C := RX2) (T := TX2) (N := 11) hx hb hts inn_X2_length_X2 hown hK hP 0 rfl rfl 0 (by decide) (hts (.fieldLink RX2 25 "SelfEndingCodesModel" "thrown" "I") (by decide +kernel)) (fun _ h9 => h9) rfl dX2_length_25 ?_
      refine lv_if_le (tgt := 35) hx hb dX2_length_28 (by decide) (fun h9 => absurd h9 (by decide)) (fun _ => ?_)
      refine lv_lconst (v := (0 : Int64)) hx hb dX2_length_31 (by decide) ?_
      refine lv_goto (tgt := 42) hx hb dX2_length_32 (by decide) ?_
      have hr9 : ((0 : Int64), (1 : Int32)) = r := Option.some.inj hj
      subst hr9
      exact W.lret (v := (0 : Int64)) hx hb hr (fun t ht hW => ⟨⟨(0 : Int64), (), rfl, rfl, by rw [ht]; exact hP, va_K.moved hW.alike hK, hD⟩, hS.F ht⟩) hS.2.2 dX2_length_42

set_option maxRecDepth 100000 in
theorem inn_X2_place_X2 : ∀ w ∈ u_ws RX2 TX2 11, w ∈ wsX2_place := by decide +kernel
def j_X2_place (th : Int32) (at_ : Int32) : Option (Int32 × Int32) :=
  some (at_, (0 : Int32))
set_option maxHeartbeats 4000000 in
set_option maxRecDepth 100000 in
theorem c_X2_place (l : Launch) (dC : Nat → ClassId) (dI : Nat → Nat → Nat) (cI cJ : ClassId) (g0 : Nat) (gr : Nat) (gl : Nat) (gw : Nat) (gs : Nat) (sz : Nat) (th : Int32) (rw : Nat → Int32) (mn : Int32) (at_ : Int32) (ml : Nat → Int64) (md_l : Int32) (wd : Nat → Int32) (md : Int32) (sm : Nat → Int64) (fr : Int32) (no : Int32) (r : Int32 × Int32) (hj : j_X2_place th at_ = some r) : Met l yX2_place wsX2_place ({ frames := 0, cells := 0, slots := 0, locals := 0 } : Room) (va_Pc [.ref g0] (fun U => jPr dC dI cI cJ (wM cI cJ g0 gr gl gw gs th rw mn at_ ml md_l wd md sm fr no) sz U)) (va_Qi (fun (v : Int32) (_ : Unit) => v = r.1) (fun (_ : Unit) t => jPo dC dI cI cJ (wM cI cJ g0 gr gl gw gs r.2 rw mn at_ ml md_l wd md sm fr no) (va_A (wM cI cJ g0 gr gl gw gs th rw mn at_ ml md_l wd md sm fr no) sz) t) (va_A (wM cI cJ g0 gr gl gw gs th rw mn at_ ml md_l wd md sm fr no) sz)) 0 0 (va_A (wM cI cJ g0 gr gl gw gs th rw mn at_ ml md_l wd md sm fr no) sz) := by
  refine Met.ofW (cc := cX2_place) (maxL := 1) (ret := (some .int)) (by decide) rfl ?_
  intro p e s m args below meth c s₁ B hml hv
  obtain ⟨rfl, ⟨hsz, hP, hK, hD0⟩⟩ := hv
  have hx := B.exec
  have hb := B.bytes
  have hr := B.returns
  have hts := atoms_spec (ws := wsX2_place) B.pre
  have hown : s.vm.findClass RX2 = some m.cls := findClass_of_methodNamed B.named
  have hlocks := B.notSynchronized
  have C0 := jCx.of hx hb hr hml hown hts hlocks
  subst hsz
  have hD := hD0.self (sz := s.heap.size)
  generalize hAe : va_A (wM cI cJ g0 gr gl gw gs th rw mn at_ ml md_l wd md sm fr no) s.heap.size = A at hD ⊢
  have hA : ∀ q : Nat, s.heap.size ≤ q → A q := fun q h => by rw [← hAe]; exact Or.inr h
  have hS : va_S A s.heap s.heap [] := va_S.rf
  have hP : va_P (dC, dI) vwCl (wM cI cJ g0 gr gl gw gs th rw mn at_ ml md_l wd md sm fr no) s.heap := hP
  have hl := lv_entry ([.ref g0]) (n := 1) (Nat.le_of_ble_eq_true rfl)
  rw [lg_entry_eq]
  generalize (lg_sl ([.ref g0]) ++ List.replicate (1 - (lg_sl ([.ref g0])).length) Slot.unset).toArray = ls at hl ⊢
  have hl : lv_has ls 1 [(0, .ref g0)] := hl
  clear hD0 hAe
  unfold j_X2_place at hj
  refine lv_aload_n hx hb dX2_place_0 rfl (lv_at hl 0 rfl) ?_
  refine lv_iconst (v := (0 : Int32)) hx hb dX2_place_1 (by decide) ?_
  refine va_put (D := (dC, dI)) (ci := 2) (v := .int (0 : Int32)) (ty := .int) (C := RX2) (T := TX2) (N := 11) hx hb hts inn_X2_place_X2 tyX2 tyX2_ok nmX2 hown hK hP hD hS 0 rfl rfl 0 (by decide) (hts (.fieldLink RX2 25 "SelfEndingCodesModel" "thrown" "I") (by decide +kernel)) (fun _ h9 => h9) rfl (by decide +kernel) rfl rfl (Nat.le_of_ble_eq_true rfl) dX2_place_2 (fun H locs hP hD hS => ?_)
  have hP : va_P (dC, dI) vwCl (wM cI cJ g0 gr gl gw gs (0 : Int32) rw mn at_ ml md_l wd md sm fr no) H := hP
  have hD : va_D A (wM cI cJ g0 gr gl gw gs (0 : Int32) rw mn at_ ml md_l wd md sm fr no) := hD
  refine lv_aload_n hx hb dX2_place_5 rfl (lv_at hl 0 rfl) ?_
  refine va_get (D := (dC, dI)) (ci := 2) (v := .int at_) (C := RX2) (T := TX2) (N := 11) hx hb hts inn_X2_place_X2 hown hK hP 0 rfl rfl 3 (by decide) (hts (.fieldLink RX2 115 "SelfEndingCodesModel" "at" "I") (by decide +kernel)) (fun _ h9 => h9) rfl dX2_place_6 ?_
  have hr9 : (at_, (0 : Int32)) = r := Option.some.inj hj
  subst hr9
  exact W.iret (v := at_) hx hb hr (fun t ht hW => ⟨⟨at_, (), rfl, rfl, by rw [ht]; exact hP, va_K.moved hW.alike hK, hD⟩, hS.F ht⟩) hS.2.2 dX2_place_9

set_option maxRecDepth 100000 in
theorem inn_X2_push_X2 : ∀ w ∈ u_ws RX2 TX2 11, w ∈ wsX2_push := by decide +kernel
def jL_X2_push_46 (th : Int32) (x1 : Int64) (x3 : Int32) : Nat → Int32 → (Nat → Int32) → Int32 → Option (Int32 × Int32 × (Nat → Int32) × Int32)
  | 0, _, _, _ => none
  | n + 1, x4, rw, mn => if x3 ≤ x4 then (some (mn, th, rw, mn)) else (jix mn 4096 (jL_X2_push_46 th x1 x3 n (x4 + (1 : Int32)) (upd rw mn.toNatClampNeg (((x1 >>> (((63 : Int32) - x4).toInt64 &&& 63)) &&& (1 : Int64)).toInt32)) (mn + (1 : Int32))))
set_option maxHeartbeats 4000000 in
set_option maxRecDepth 100000 in
theorem s_X2_push_46 {p : Program} {l : Launch} {e : Env} {s : State} {m : MethodId} {args : Array Value} {below : List Frame} {meth : Method} {c : Code} {dC : Nat → ClassId} {dI : Nat → Nat → Nat} {cI cJ : ClassId} {A : Nat → Prop} (C0 : jCx p s m args meth c RX2 cX2_push 5 (some .int) wsX2_push) (hK : va_K (dC, dI) vwCl (jTy cI cJ) s) (hA : ∀ q : Nat, s.heap.size ≤ q → A q) (g0 : Nat) (gr : Nat) (gl : Nat) (gw : Nat) (gs : Nat) (th : Int32) (at_ : Int32) (ml : Nat → Int64) (md_l : Int32) (wd : Nat → Int32) (md : Int32) (sm : Nat → Int64) (fr : Int32) (no : Int32) (x1 : Int64) (x3 : Int32) :
    ∀ (n : Nat) (x4 : Int32) (rw : Nat → Int32) (mn : Int32) (r : Int32 × Int32 × (Nat → Int32) × Int32), jL_X2_push_46 th x1 x3 n x4 rw mn = some r → ∀ (H : Heap) (locs : List Loc) (ls : Array Slot), va_P (dC, dI) vwCl (wM cI cJ g0 gr gl gw gs th rw mn at_ ml md_l wd md sm fr no) H → va_D A (wM cI cJ g0 gr gl gw gs th rw mn at_ ml md_l wd md sm fr no) → va_S A s.heap H locs → lv_has ls 5 [(0, .ref g0), (1, .long x1), (3, .int x3), (4, .int x4)] → W p l e ({ frames := 0, cells := 0, slots := 0, locals := 0 } : Room) s m args below meth c H locs 0 0 (MQ below (va_Qi (fun (v : Int32) (_ : Unit) => v = r.1) (fun (_ : Unit) t => jPo dC dI cI cJ (wM cI cJ g0 gr gl gw gs r.2.1 r.2.2.1 r.2.2.2 at_ ml md_l wd md sm fr no) A t) A) args s 0 0 A) (F0 m 46 ls []) := by
  obtain ⟨hx, hb, hr, hml, hown, hts, hlocks⟩ := id C0
  intro n
  induction n with
  | zero =>
    intro x4 rw mn r hj
    exact nomatch (show (none : Option (Int32 × Int32 × (Nat → Int32) × Int32)) = some r from hj)
  | succ n ih =>
    intro x4 rw mn r hj H locs ls hP hD hS hl
    replace hj : (if x3 ≤ x4 then (some (mn, th, rw, mn)) else (jix mn 4096 (jL_X2_push_46 th x1 x3 n (x4 + (1 : Int32)) (upd rw mn.toNatClampNeg (((x1 >>> (((63 : Int32) - x4).toInt64 &&& 63)) &&& (1 : Int64)).toInt32)) (mn + (1 : Int32))))) = some r := hj
    refine lv_iload hx hb dX2_push_46 (lv_at hl 3 rfl) ?_
    refine lv_iload_n hx hb dX2_push_48 rfl (lv_at hl 2 rfl) ?_
    refine lv_icmp_ge (tgt := 87) hx hb dX2_push_49 (by decide) (fun c4601 => ?_) (fun c4601 => ?_)
    · replace hj := ja_pos c4601 hj
      refine lv_aload_n hx hb dX2_push_87 rfl (lv_at hl 0 rfl) ?_
      refine va_get (D := (dC, dI)) (ci := 2) (v := .int mn) (C := RX2) (T := TX2) (N := 11) hx hb hts inn_X2_push_X2 hown hK hP 0 rfl rfl 2 (by decide) (hts (.fieldLink RX2 82 "SelfEndingCodesModel" "many" "I") (by decide +kernel)) (fun _ h9 => h9) rfl dX2_push_88 ?_
      have hr9 : (mn, th, rw, mn) = r := Option.some.inj hj
      subst hr9
      exact W.iret (v := mn) hx hb hr (fun t ht hW => ⟨⟨mn, (), rfl, rfl, by rw [ht]; exact hP, va_K.moved hW.alike hK, hD⟩, hS.F ht⟩) hS.2.2 dX2_push_91
    · replace hj := ja_neg c4601 hj
      refine lv_aload_n hx hb dX2_push_52 rfl (lv_at hl 0 rfl) ?_
      refine va_get (D := (dC, dI)) (ci := 2) (v := .ref gr) (C := RX2) (T := TX2) (N := 11) hx hb hts inn_X2_push_X2 hown hK hP 0 rfl rfl 1 (by decide) (hts (.fieldLink RX2 7 "SelfEndingCodesModel" "row" "[I") (by decide +kernel)) (fun _ h9 => h9) rfl dX2_push_53 ?_
      refine lv_aload_n hx hb dX2_push_56 rfl (lv_at hl 0 rfl) ?_
      refine va_get (D := (dC, dI)) (ci := 2) (v := .int mn) (C := RX2) (T := TX2) (N := 11) hx hb hts inn_X2_push_X2 hown hK hP 0 rfl rfl 2 (by decide) (hts (.fieldLink RX2 82 "SelfEndingCodesModel" "many" "I") (by decide +kernel)) (fun _ h9 => h9) rfl dX2_push_57 ?_
      refine lv_lload_n hx hb dX2_push_60 rfl (lv_at hl 1 rfl) ?_
      refine lv_bipush (v := (63 : Int32)) hx hb dX2_push_61 (by decide) ?_
      refine lv_iload hx hb dX2_push_63 (lv_at hl 3 rfl) ?_
      refine lv_isub hx hb dX2_push_65 ?_
      refine lv_lshr hx hb dX2_push_66 rfl ?_
      refine lv_lconst (v := (1 : Int64)) hx hb dX2_push_67 (by decide) ?_
      refine lv_land hx hb dX2_push_68 ?_
      refine lv_l2i hx hb dX2_push_69 rfl ?_
      obtain ⟨hin, hj⟩ := ja_ix hj
      refine va_iast hx hb hK hP hD hS 1 0 rfl rfl hin dX2_push_70 (fun H locs hP hD hS => ?_)
      have hP : va_P (dC, dI) vwCl (wM cI cJ g0 gr gl gw gs th (upd rw mn.toNatClampNeg (((x1 >>> (((63 : Int32) - x4).toInt64 &&& 63)) &&& (1 : Int64)).toInt32)) mn at_ ml md_l wd md sm fr no) H := hP
      have hD : va_D A (wM cI cJ g0 gr gl gw gs th (upd rw mn.toNatClampNeg (((x1 >>> (((63 : Int32) - x4).toInt64 &&& 63)) &&& (1 : Int64)).toInt32)) mn at_ ml md_l wd md sm fr no) := hD
      refine lv_aload_n hx hb dX2_push_71 rfl (lv_at hl 0 rfl) ?_
      refine lv_dup hx hb dX2_push_72 rfl ?_
      refine va_get (D := (dC, dI)) (ci := 2) (v := .int mn) (C := RX2) (T := TX2) (N := 11) hx hb hts inn_X2_push_X2 hown hK hP 0 rfl rfl 2 (by decide) (hts (.fieldLink RX2 82 "SelfEndingCodesModel" "many" "I") (by decide +kernel)) (fun _ h9 => h9) rfl dX2_push_73 ?_
      refine lv_iconst (v := (1 : Int32)) hx hb dX2_push_76 (by decide) ?_
      refine lv_iadd hx hb dX2_push_77 ?_
      refine va_put (D := (dC, dI)) (ci := 2) (v := .int (mn + (1 : Int32))) (ty := .int) (C := RX2) (T := TX2) (N := 11) hx hb hts inn_X2_push_X2 tyX2 tyX2_ok nmX2 hown hK hP hD hS 0 rfl rfl 2 (by decide) (hts (.fieldLink RX2 82 "SelfEndingCodesModel" "many" "I") (by decide +kernel)) (fun _ h9 => h9) rfl (by decide +kernel) rfl rfl (Nat.le_of_ble_eq_true rfl) dX2_push_78 (fun H locs hP hD hS => ?_)
      have hP : va_P (dC, dI) vwCl (wM cI cJ g0 gr gl gw gs th (upd rw mn.toNatClampNeg (((x1 >>> (((63 : Int32) - x4).toInt64 &&& 63)) &&& (1 : Int64)).toInt32)) (mn + (1 : Int32)) at_ ml md_l wd md sm fr no) H := hP
      have hD : va_D A (wM cI cJ g0 gr gl gw gs th (upd rw mn.toNatClampNeg (((x1 >>> (((63 : Int32) - x4).toInt64 &&& 63)) &&& (1 : Int64)).toInt32)) (mn + (1 : Int32)) at_ ml md_l wd md sm fr no) := hD
      refine lv_iinc (v := x4 + (1 : Int32)) (lv' := [(4, .int (x4 + (1 : Int32))), (0, .ref g0), (1, .long x1), (3, .int x3)]) hx hb dX2_push_81 hl (k := 3) rfl (congrArg (fun z => x4 + z) (by decide)) (by decide) rfl (fun ls hl => ?_)
      refine lv_goto (tgt := 46) hx hb dX2_push_84 (by decide) ?_
      exact ih (x4 + (1 : Int32)) (upd rw mn.toNatClampNeg (((x1 >>> (((63 : Int32) - x4).toInt64 &&& 63)) &&& (1 : Int64)).toInt32)) (mn + (1 : Int32)) _ hj _ _ _ (hP) (hD) hS (lv_sub hl [1, 2, 3, 0] rfl)
def j_X2_push (th : Int32) (rw : Nat → Int32) (mn : Int32) (a1 : Int64) (a2 : Int32) : Option (Int32 × Int32 × (Nat → Int32) × Int32) :=
  if a2 < (1 : Int32) then (some ((0 : Int32), (1 : Int32), rw, mn)) else (if a2 ≤ (64 : Int32) then (if (mn + a2) ≤ (4096 : Int32) then (jL_X2_push_46 (0 : Int32) a1 a2 jF (0 : Int32) rw mn) else (some ((-1 : Int32), (0 : Int32), rw, mn))) else (some ((0 : Int32), (1 : Int32), rw, mn)))
set_option maxHeartbeats 4000000 in
set_option maxRecDepth 100000 in
theorem c_X2_push (l : Launch) (dC : Nat → ClassId) (dI : Nat → Nat → Nat) (cI cJ : ClassId) (g0 : Nat) (gr : Nat) (gl : Nat) (gw : Nat) (gs : Nat) (sz : Nat) (th : Int32) (rw : Nat → Int32) (mn : Int32) (at_ : Int32) (ml : Nat → Int64) (md_l : Int32) (wd : Nat → Int32) (md : Int32) (sm : Nat → Int64) (fr : Int32) (no : Int32) (a1 : Int64) (a2 : Int32) (r : Int32 × Int32 × (Nat → Int32) × Int32) (hj : j_X2_push th rw mn a1 a2 = some r) : Met l yX2_push wsX2_push ({ frames := 0, cells := 0, slots := 0, locals := 0 } : Room) (va_Pc [.ref g0, .long a1, .int a2] (fun U => jPr dC dI cI cJ (wM cI cJ g0 gr gl gw gs th rw mn at_ ml md_l wd md sm fr no) sz U)) (va_Qi (fun (v : Int32) (_ : Unit) => v = r.1) (fun (_ : Unit) t => jPo dC dI cI cJ (wM cI cJ g0 gr gl gw gs r.2.1 r.2.2.1 r.2.2.2 at_ ml md_l wd md sm fr no) (va_A (wM cI cJ g0 gr gl gw gs th rw mn at_ ml md_l wd md sm fr no) sz) t) (va_A (wM cI cJ g0 gr gl gw gs th rw mn at_ ml md_l wd md sm fr no) sz)) 0 0 (va_A (wM cI cJ g0 gr gl gw gs th rw mn at_ ml md_l wd md sm fr no) sz) := by
  refine Met.ofW (cc := cX2_push) (maxL := 5) (ret := (some .int)) (by decide) rfl ?_
  intro p e s m args below meth c s₁ B hml hv
  obtain ⟨rfl, ⟨hsz, hP, hK, hD0⟩⟩ := hv
  have hx := B.exec
  have hb := B.bytes
  have hr := B.returns
  have hts := atoms_spec (ws := wsX2_push) B.pre
  have hown : s.vm.findClass RX2 = some m.cls := findClass_of_methodNamed B.named
  have hlocks := B.notSynchronized
  have C0 := jCx.of hx hb hr hml hown hts hlocks
  subst hsz
  have hD := hD0.self (sz := s.heap.size)
  generalize hAe : va_A (wM cI cJ g0 gr gl gw gs th rw mn at_ ml md_l wd md sm fr no) s.heap.size = A at hD ⊢
  have hA : ∀ q : Nat, s.heap.size ≤ q → A q := fun q h => by rw [← hAe]; exact Or.inr h
  have hS : va_S A s.heap s.heap [] := va_S.rf
  have hP : va_P (dC, dI) vwCl (wM cI cJ g0 gr gl gw gs th rw mn at_ ml md_l wd md sm fr no) s.heap := hP
  have hl := lv_entry ([.ref g0, .long a1, .int a2]) (n := 5) (Nat.le_of_ble_eq_true rfl)
  rw [lg_entry_eq]
  generalize (lg_sl ([.ref g0, .long a1, .int a2]) ++ List.replicate (5 - (lg_sl ([.ref g0, .long a1, .int a2])).length) Slot.unset).toArray = ls at hl ⊢
  have hl : lv_has ls 5 [(0, .ref g0), (1, .long a1), (3, .int a2)] := hl
  clear hD0 hAe
  unfold j_X2_push at hj
  refine lv_aload_n hx hb dX2_push_0 rfl (lv_at hl 0 rfl) ?_
  refine lv_iload_n hx hb dX2_push_1 rfl (lv_at hl 2 rfl) ?_
  refine lv_iconst (v := (1 : Int32)) hx hb dX2_push_2 (by decide) ?_
  refine lv_icmp_lt (tgt := 12) hx hb dX2_push_3 (by decide) (fun c1 => ?_) (fun c1 => ?_)
  · replace hj := ja_pos c1 hj
    refine lv_iconst (v := (1 : Int32)) hx hb dX2_push_12 (by decide) ?_
    refine lv_goto (tgt := 17) hx hb dX2_push_13 (by decide) ?_
    refine va_put (D := (dC, dI)) (ci := 2) (v := .int (1 : Int32)) (ty := .int) (C := RX2) (T := TX2) (N := 11) hx hb hts inn_X2_push_X2 tyX2 tyX2_ok nmX2 hown hK hP hD hS 0 rfl rfl 0 (by decide) (hts (.fieldLink RX2 25 "SelfEndingCodesModel" "thrown" "I") (by decide +kernel)) (fun _ h9 => h9) rfl (by decide +kernel) rfl rfl (Nat.le_of_ble_eq_true rfl) dX2_push_17 (fun H locs hP hD hS => ?_)
    have hP : va_P (dC, dI) vwCl (wM cI cJ g0 gr gl gw gs (1 : Int32) rw mn at_ ml md_l wd md sm fr no) H := hP
    have hD : va_D A (wM cI cJ g0 gr gl gw gs (1 : Int32) rw mn at_ ml md_l wd md sm fr no) := hD
    refine lv_aload_n hx hb dX2_push_20 rfl (lv_at hl 0 rfl) ?_
    refine va_get (D := (dC, dI)) (ci := 2) (v := .int (1 : Int32)) (C := RX2) (T := TX2) (N := 11) hx hb hts inn_X2_push_X2 hown hK hP 0 rfl rfl 0 (by decide) (hts (.fieldLink RX2 25 "SelfEndingCodesModel" "thrown" "I") (by decide +kernel)) (fun _ h9 => h9) rfl dX2_push_21 ?_
    refine lv_if_le (tgt := 29) hx hb dX2_push_24 (by decide) (fun h9 => absurd h9 (by decide)) (fun _ => ?_)
    refine lv_iconst (v := (0 : Int32)) hx hb dX2_push_27 (by decide) ?_
    have hr9 : ((0 : Int32), (1 : Int32), rw, mn) = r := Option.some.inj hj
    subst hr9
    exact W.iret (v := (0 : Int32)) hx hb hr (fun t ht hW => ⟨⟨(0 : Int32), (), rfl, rfl, by rw [ht]; exact hP, va_K.moved hW.alike hK, hD⟩, hS.F ht⟩) hS.2.2 dX2_push_28
  · replace hj := ja_neg c1 hj
    refine lv_iload_n hx hb dX2_push_6 rfl (lv_at hl 2 rfl) ?_
    refine lv_bipush (v := (64 : Int32)) hx hb dX2_push_7 (by decide) ?_
    refine lv_icmp_le (tgt := 16) hx hb dX2_push_9 (by decide) (fun c3 => ?_) (fun c3 => ?_)
    · replace hj := ja_pos c3 hj
      refine lv_iconst (v := (0 : Int32)) hx hb dX2_push_16 (by decide) ?_
      refine va_put (D := (dC, dI)) (ci := 2) (v := .int (0 : Int32)) (ty := .int) (C := RX2) (T := TX2) (N := 11) hx hb hts inn_X2_push_X2 tyX2 tyX2_ok nmX2 hown hK hP hD hS 0 rfl rfl 0 (by decide) (hts (.fieldLink RX2 25 "SelfEndingCodesModel" "thrown" "I") (by decide +kernel)) (fun _ h9 => h9) rfl (by decide +kernel) rfl rfl (Nat.le_of_ble_eq_true rfl) dX2_push_17 (fun H locs hP hD hS => ?_)
      have hP : va_P (dC, dI) vwCl (wM cI cJ g0 gr gl gw gs (0 : Int32) rw mn at_ ml md_l wd md sm fr no) H := hP
      have hD : va_D A (wM cI cJ g0 gr gl gw gs (0 : Int32) rw mn at_ ml md_l wd md sm fr no) := hD
      refine lv_aload_n hx hb dX2_push_20 rfl (lv_at hl 0 rfl) ?_
      refine va_get (D := (dC, dI)) (ci := 2) (v := .int (0 : Int32)) (C := RX2) (T := TX2) (N := 11) hx hb hts inn_X2_push_X2 hown hK hP 0 rfl rfl 0 (by decide) (hts (.fieldLink RX2 25 "SelfEndingCodesModel" "thrown" "I") (by decide +kernel)) (fun _ h9 => h9) rfl dX2_push_21 ?_
      refine lv_if_le (tgt := 29) hx hb dX2_push_24 (by decide) (fun _ => ?_) (fun h9 => absurd (by decide) h9)
      refine lv_aload_n hx hb dX2_push_29 rfl (lv_at hl 0 rfl) ?_
      refine va_get (D := (dC, dI)) (ci := 2) (v := .int mn) (C := RX2) (T := TX2) (N := 11) hx hb hts inn_X2_push_X2 hown hK hP 0 rfl rfl 2 (by decide) (hts (.fieldLink RX2 82 "SelfEndingCodesModel" "many" "I") (by decide +kernel)) (fun _ h9 => h9) rfl dX2_push_30 ?_
      refine lv_iload_n hx hb dX2_push_33 rfl (lv_at hl 2 rfl) ?_
      refine lv_iadd hx hb dX2_push_34 ?_
      refine lv_sipush (v := (4096 : Int32)) hx hb dX2_push_35 (by decide) ?_
      refine lv_icmp_le (tgt := 43) hx hb dX2_push_38 (by decide) (fun c5 => ?_) (fun c5 => ?_)
      · replace hj := ja_pos c5 hj
        refine lv_iconst (v := (0 : Int32)) hx hb dX2_push_43 (by decide) ?_
        refine lv_istore (lv' := [(4, .int (0 : Int32)), (0, .ref g0), (1, .long a1), (3, .int a2)]) hx hb dX2_push_44 hl (by decide) rfl (fun ls hl => ?_)
        exact s_X2_push_46 C0 hK hA g0 gr gl gw gs (0 : Int32) at_ ml md_l wd md sm fr no a1 a2 jF (0 : Int32) rw mn _ hj _ _ _ (hP) (hD) hS (lv_sub hl [1, 2, 3, 0] rfl)
      · replace hj := ja_neg c5 hj
        refine lv_iconst (v := (-1 : Int32)) hx hb dX2_push_41 (by decide) ?_
        have hr9 : ((-1 : Int32), (0 : Int32), rw, mn) = r := Option.some.inj hj
        subst hr9
        exact W.iret (v := (-1 : Int32)) hx hb hr (fun t ht hW => ⟨⟨(-1 : Int32), (), rfl, rfl, by rw [ht]; exact hP, va_K.moved hW.alike hK, hD⟩, hS.F ht⟩) hS.2.2 dX2_push_42
    · replace hj := ja_neg c3 hj
      refine lv_iconst (v := (1 : Int32)) hx hb dX2_push_12 (by decide) ?_
      refine lv_goto (tgt := 17) hx hb dX2_push_13 (by decide) ?_
      refine va_put (D := (dC, dI)) (ci := 2) (v := .int (1 : Int32)) (ty := .int) (C := RX2) (T := TX2) (N := 11) hx hb hts inn_X2_push_X2 tyX2 tyX2_ok nmX2 hown hK hP hD hS 0 rfl rfl 0 (by decide) (hts (.fieldLink RX2 25 "SelfEndingCodesModel" "thrown" "I") (by decide +kernel)) (fun _ h9 => h9) rfl (by decide +kernel) rfl rfl (Nat.le_of_ble_eq_true rfl) dX2_push_17 (fun H locs hP hD hS => ?_)
      have hP : va_P (dC, dI) vwCl (wM cI cJ g0 gr gl gw gs (1 : Int32) rw mn at_ ml md_l wd md sm fr no) H := hP
      have hD : va_D A (wM cI cJ g0 gr gl gw gs (1 : Int32) rw mn at_ ml md_l wd md sm fr no) := hD
      refine lv_aload_n hx hb dX2_push_20 rfl (lv_at hl 0 rfl) ?_
      refine va_get (D := (dC, dI)) (ci := 2) (v := .int (1 : Int32)) (C := RX2) (T := TX2) (N := 11) hx hb hts inn_X2_push_X2 hown hK hP 0 rfl rfl 0 (by decide) (hts (.fieldLink RX2 25 "SelfEndingCodesModel" "thrown" "I") (by decide +kernel)) (fun _ h9 => h9) rfl dX2_push_21 ?_
      refine lv_if_le (tgt := 29) hx hb dX2_push_24 (by decide) (fun h9 => absurd h9 (by decide)) (fun _ => ?_)
      refine lv_iconst (v := (0 : Int32)) hx hb dX2_push_27 (by decide) ?_
      have hr9 : ((0 : Int32), (1 : Int32), rw, mn) = r := Option.some.inj hj
      subst hr9
      exact W.iret (v := (0 : Int32)) hx hb hr (fun t ht hW => ⟨⟨(0 : Int32), (), rfl, rfl, by rw [ht]; exact hP, va_K.moved hW.alike hK, hD⟩, hS.F ht⟩) hS.2.2 dX2_push_28

set_option maxRecDepth 100000 in
theorem inn_X2_put_X2 : ∀ w ∈ u_ws RX2 TX2 11, w ∈ wsX2_put := by decide +kernel
def j_X2_put (th : Int32) (rw : Nat → Int32) (mn : Int32) (wd : Nat → Int32) (md : Int32) (sm : Nat → Int64) (a1 : Int32) (a2 : Int32) (a3 : Int64) : Option (Int32 × Int32 × (Nat → Int32) × Int32 × (Nat → Int32) × Int32) :=
  (j_X2_noKind a1 a2).bind fun v1 => (if v1 = (0 : Int32) then ((j_X2_noNumber a3).bind fun v4 => (if v4 = (0 : Int32) then ((j_X2_puts rw mn wd md sm a1 a2 a3).bind fun (v7, v8, v9, v10, v11) => (if v7 = (0 : Int32) then (some ((-1 : Int32), (0 : Int32), v8, v9, v10, v11)) else (some (v9, (0 : Int32), v8, v9, v10, v11)))) else (some ((0 : Int32), (1 : Int32), rw, mn, wd, md)))) else (some ((0 : Int32), (1 : Int32), rw, mn, wd, md)))
set_option maxHeartbeats 4000000 in
set_option maxRecDepth 100000 in
theorem c_X2_put (l : Launch) (dC : Nat → ClassId) (dI : Nat → Nat → Nat) (cI cJ : ClassId) (g0 : Nat) (gr : Nat) (gl : Nat) (gw : Nat) (gs : Nat) (sz : Nat) (th : Int32) (rw : Nat → Int32) (mn : Int32) (at_ : Int32) (ml : Nat → Int64) (md_l : Int32) (wd : Nat → Int32) (md : Int32) (sm : Nat → Int64) (fr : Int32) (no : Int32) (a1 : Int32) (a2 : Int32) (a3 : Int64) (r : Int32 × Int32 × (Nat → Int32) × Int32 × (Nat → Int32) × Int32) (hj : j_X2_put th rw mn wd md sm a1 a2 a3 = some r) : Met l yX2_put wsX2_put ({ frames := 5, cells := 0, slots := 0, locals := 127 } : Room) (va_Pc [.ref g0, .int a1, .int a2, .long a3] (fun U => jPr dC dI cI cJ (wM cI cJ g0 gr gl gw gs th rw mn at_ ml md_l wd md sm fr no) sz U)) (va_Qi (fun (v : Int32) (_ : Unit) => v = r.1) (fun (_ : Unit) t => jPo dC dI cI cJ (wM cI cJ g0 gr gl gw gs r.2.1 r.2.2.1 r.2.2.2.1 at_ ml md_l r.2.2.2.2.1 r.2.2.2.2.2 sm fr no) (va_A (wM cI cJ g0 gr gl gw gs th rw mn at_ ml md_l wd md sm fr no) sz) t) (va_A (wM cI cJ g0 gr gl gw gs th rw mn at_ ml md_l wd md sm fr no) sz)) 0 0 (va_A (wM cI cJ g0 gr gl gw gs th rw mn at_ ml md_l wd md sm fr no) sz) := by
  refine Met.ofW (cc := cX2_put) (maxL := 5) (ret := (some .int)) (by decide) rfl ?_
  intro p e s m args below meth c s₁ B hml hv
  obtain ⟨rfl, ⟨hsz, hP, hK, hD0⟩⟩ := hv
  have hx := B.exec
  have hb := B.bytes
  have hr := B.returns
  have hts := atoms_spec (ws := wsX2_put) B.pre
  have hown : s.vm.findClass RX2 = some m.cls := findClass_of_methodNamed B.named
  have hlocks := B.notSynchronized
  have C0 := jCx.of hx hb hr hml hown hts hlocks
  subst hsz
  have hD := hD0.self (sz := s.heap.size)
  generalize hAe : va_A (wM cI cJ g0 gr gl gw gs th rw mn at_ ml md_l wd md sm fr no) s.heap.size = A at hD ⊢
  have hA : ∀ q : Nat, s.heap.size ≤ q → A q := fun q h => by rw [← hAe]; exact Or.inr h
  have hS : va_S A s.heap s.heap [] := va_S.rf
  have hP : va_P (dC, dI) vwCl (wM cI cJ g0 gr gl gw gs th rw mn at_ ml md_l wd md sm fr no) s.heap := hP
  have hl := lv_entry ([.ref g0, .int a1, .int a2, .long a3]) (n := 5) (Nat.le_of_ble_eq_true rfl)
  rw [lg_entry_eq]
  generalize (lg_sl ([.ref g0, .int a1, .int a2, .long a3]) ++ List.replicate (5 - (lg_sl ([.ref g0, .int a1, .int a2, .long a3])).length) Slot.unset).toArray = ls at hl ⊢
  have hl : lv_has ls 5 [(0, .ref g0), (1, .int a1), (2, .int a2), (3, .long a3)] := hl
  clear hD0 hAe
  unfold j_X2_put at hj
  refine lv_aload_n hx hb dX2_put_0 rfl (lv_at hl 0 rfl) ?_
  refine lv_iload_n hx hb dX2_put_1 rfl (lv_at hl 1 rfl) ?_
  refine lv_iload_n hx hb dX2_put_2 rfl (lv_at hl 2 rfl) ?_
  obtain ⟨v1, hc, hj⟩ := ja_bd hj
  try dsimp only at hj
  have hPc := hP.sub (ws' := ([] : va_W)) [] rfl
  have hDc := hD.sub (ws' := ([] : va_W)) [] (by decide) rfl
  have hFc := va_free (wc := ([] : va_W)) hD hS hA [] rfl
  refine va_calli (va_runS (As := [.int a1, .int a2]) (rest := [.ref g0]) ⟨hx, hb, hml, hown, hts⟩ (c_X2_noKind l dC dI cI cJ s.heap.size a1 a2 _ hc) (va_cwS 2 hts gX2_put_X2_noKind rfl rfl rfl (by decide +kernel) ⟨Nat.le_of_ble_eq_true rfl, Nat.le_of_ble_eq_true rfl⟩) ⟨fun a U g mk q => ⟨q.1, jPr.blind q.2⟩, fun U hU hW => ⟨rfl, jPr.mk hU hW hPc hK hDc⟩⟩ rfl rfl hl.1 rfl (lv_room (Nat.le_of_ble_eq_true rfl)) dX2_put_3 ⟨Nat.le_of_ble_eq_true rfl, Nat.le_of_ble_eq_true rfl⟩) hS (fun q _ h => hFc q h) hFc (fun rr u t H1 locs ht hvm hw9 hB hz1 hk1 hS => ?_)
  have hw8 : v1 = rr := hw9.symm
  subst hw8
  obtain ⟨hP1, hK1, hD1⟩ := hB
  rw [ht] at hP1
  obtain ⟨hP, hD⟩ := va_join (wr := ([(g0, .inr (2, [.int th, .ref gr, .int mn, .int at_, .ref gl, .int md_l, .ref gw, .int md, .ref gs, .int fr, .int no])), (gr, .inl (cI, 4096, .inl rw)), (gl, .inl (cJ, 100, .inr (.inl ml))), (gw, .inl (cI, 4200, .inl wd)), (gs, .inl (cJ, 92, .inr (.inl sm)))] : va_W)) (w1 := ([] : va_W)) hP hD [] [0, 1, 2, 3, 4] rfl rfl (by decide) (by decide) hk1 hFc hP1 hD1
  clear hk1 hP1 hK1 hD1 hvm hz1 hPc hDc hFc
  generalize H1 = H at hP hS ⊢
  have hP : va_P (dC, dI) vwCl (wM cI cJ g0 gr gl gw gs th rw mn at_ ml md_l wd md sm fr no) H := hP
  have hD : va_D A (wM cI cJ g0 gr gl gw gs th rw mn at_ ml md_l wd md sm fr no) := hD
  refine lv_if_ne (tgt := 16) hx hb dX2_put_6 (by decide) (fun c2 => ?_) (fun c2 => ?_)
  · replace hj := ja_neg c2 hj
    refine lv_iconst (v := (1 : Int32)) hx hb dX2_put_16 (by decide) ?_
    refine lv_goto (tgt := 21) hx hb dX2_put_17 (by decide) ?_
    refine va_put (D := (dC, dI)) (ci := 2) (v := .int (1 : Int32)) (ty := .int) (C := RX2) (T := TX2) (N := 11) hx hb hts inn_X2_put_X2 tyX2 tyX2_ok nmX2 hown hK hP hD hS 0 rfl rfl 0 (by decide) (hts (.fieldLink RX2 25 "SelfEndingCodesModel" "thrown" "I") (by decide +kernel)) (fun _ h9 => h9) rfl (by decide +kernel) rfl rfl (Nat.le_of_ble_eq_true rfl) dX2_put_21 (fun H locs hP hD hS => ?_)
    have hP : va_P (dC, dI) vwCl (wM cI cJ g0 gr gl gw gs (1 : Int32) rw mn at_ ml md_l wd md sm fr no) H := hP
    have hD : va_D A (wM cI cJ g0 gr gl gw gs (1 : Int32) rw mn at_ ml md_l wd md sm fr no) := hD
    refine lv_aload_n hx hb dX2_put_24 rfl (lv_at hl 0 rfl) ?_
    refine va_get (D := (dC, dI)) (ci := 2) (v := .int (1 : Int32)) (C := RX2) (T := TX2) (N := 11) hx hb hts inn_X2_put_X2 hown hK hP 0 rfl rfl 0 (by decide) (hts (.fieldLink RX2 25 "SelfEndingCodesModel" "thrown" "I") (by decide +kernel)) (fun _ h9 => h9) rfl dX2_put_25 ?_
    refine lv_if_le (tgt := 33) hx hb dX2_put_28 (by decide) (fun h9 => absurd h9 (by decide)) (fun _ => ?_)
    refine lv_iconst (v := (0 : Int32)) hx hb dX2_put_31 (by decide) ?_
    have hr9 : ((0 : Int32), (1 : Int32), rw, mn, wd, md) = r := Option.some.inj hj
    subst hr9
    exact W.iret (v := (0 : Int32)) hx hb hr (fun t ht hW => ⟨⟨(0 : Int32), (), rfl, rfl, by rw [ht]; exact hP, va_K.moved hW.alike hK, hD⟩, hS.F ht⟩) hS.2.2 dX2_put_32
  · replace hj := ja_pos c2 hj
    refine lv_lload_n hx hb dX2_put_9 rfl (lv_at hl 3 rfl) ?_
    obtain ⟨v4, hc, hj⟩ := ja_bd hj
    try dsimp only at hj
    have hPc := hP.sub (ws' := ([] : va_W)) [] rfl
    have hDc := hD.sub (ws' := ([] : va_W)) [] (by decide) rfl
    have hFc := va_free (wc := ([] : va_W)) hD hS hA [] rfl
    refine va_calli (va_runS (As := [.long a3]) (rest := [.ref g0]) ⟨hx, hb, hml, hown, hts⟩ (c_X2_noNumber l dC dI cI cJ H.size a3 _ hc) (va_cwS 1 hts gX2_put_X2_noNumber rfl rfl rfl (by decide +kernel) ⟨Nat.le_of_ble_eq_true rfl, Nat.le_of_ble_eq_true rfl⟩) ⟨fun a U g mk q => ⟨q.1, jPr.blind q.2⟩, fun U hU hW => ⟨rfl, jPr.mk hU hW hPc hK hDc⟩⟩ rfl rfl hl.1 rfl (lv_room (Nat.le_of_ble_eq_true rfl)) dX2_put_10 ⟨Nat.le_of_ble_eq_true rfl, Nat.le_of_ble_eq_true rfl⟩) hS (fun q _ h => hFc q h) hFc (fun rr u t H1 locs ht hvm hw9 hB hz1 hk1 hS => ?_)
    have hw8 : v4 = rr := hw9.symm
    subst hw8
    obtain ⟨hP1, hK1, hD1⟩ := hB
    rw [ht] at hP1
    obtain ⟨hP, hD⟩ := va_join (wr := ([(g0, .inr (2, [.int th, .ref gr, .int mn, .int at_, .ref gl, .int md_l, .ref gw, .int md, .ref gs, .int fr, .int no])), (gr, .inl (cI, 4096, .inl rw)), (gl, .inl (cJ, 100, .inr (.inl ml))), (gw, .inl (cI, 4200, .inl wd)), (gs, .inl (cJ, 92, .inr (.inl sm)))] : va_W)) (w1 := ([] : va_W)) hP hD [] [0, 1, 2, 3, 4] rfl rfl (by decide) (by decide) hk1 hFc hP1 hD1
    clear hk1 hP1 hK1 hD1 hvm hz1 hPc hDc hFc
    generalize H1 = H at hP hS ⊢
    have hP : va_P (dC, dI) vwCl (wM cI cJ g0 gr gl gw gs th rw mn at_ ml md_l wd md sm fr no) H := hP
    have hD : va_D A (wM cI cJ g0 gr gl gw gs th rw mn at_ ml md_l wd md sm fr no) := hD
    refine lv_if_eq (tgt := 20) hx hb dX2_put_13 (by decide) (fun c5 => ?_) (fun c5 => ?_)
    · replace hj := ja_pos c5 hj
      refine lv_iconst (v := (0 : Int32)) hx hb dX2_put_20 (by decide) ?_
      refine va_put (D := (dC, dI)) (ci := 2) (v := .int (0 : Int32)) (ty := .int) (C := RX2) (T := TX2) (N := 11) hx hb hts inn_X2_put_X2 tyX2 tyX2_ok nmX2 hown hK hP hD hS 0 rfl rfl 0 (by decide) (hts (.fieldLink RX2 25 "SelfEndingCodesModel" "thrown" "I") (by decide +kernel)) (fun _ h9 => h9) rfl (by decide +kernel) rfl rfl (Nat.le_of_ble_eq_true rfl) dX2_put_21 (fun H locs hP hD hS => ?_)
      have hP : va_P (dC, dI) vwCl (wM cI cJ g0 gr gl gw gs (0 : Int32) rw mn at_ ml md_l wd md sm fr no) H := hP
      have hD : va_D A (wM cI cJ g0 gr gl gw gs (0 : Int32) rw mn at_ ml md_l wd md sm fr no) := hD
      refine lv_aload_n hx hb dX2_put_24 rfl (lv_at hl 0 rfl) ?_
      refine va_get (D := (dC, dI)) (ci := 2) (v := .int (0 : Int32)) (C := RX2) (T := TX2) (N := 11) hx hb hts inn_X2_put_X2 hown hK hP 0 rfl rfl 0 (by decide) (hts (.fieldLink RX2 25 "SelfEndingCodesModel" "thrown" "I") (by decide +kernel)) (fun _ h9 => h9) rfl dX2_put_25 ?_
      refine lv_if_le (tgt := 33) hx hb dX2_put_28 (by decide) (fun _ => ?_) (fun h9 => absurd (by decide) h9)
      refine lv_aload_n hx hb dX2_put_33 rfl (lv_at hl 0 rfl) ?_
      refine lv_iload_n hx hb dX2_put_34 rfl (lv_at hl 1 rfl) ?_
      refine lv_iload_n hx hb dX2_put_35 rfl (lv_at hl 2 rfl) ?_
      refine lv_lload_n hx hb dX2_put_36 rfl (lv_at hl 3 rfl) ?_
      obtain ⟨⟨v7, v8, v9, v10, v11⟩, hc, hj⟩ := ja_bd hj
      try dsimp only at hj
      have hPc := hP.sub (ws' := (wM cI cJ g0 gr gl gw gs (0 : Int32) rw mn at_ ml md_l wd md sm fr no)) [0, 1, 2, 3, 4] rfl
      have hDc := hD.sub (ws' := (wM cI cJ g0 gr gl gw gs (0 : Int32) rw mn at_ ml md_l wd md sm fr no)) [0, 1, 2, 3, 4] (by decide) rfl
      have hFc := va_free (wc := (wM cI cJ g0 gr gl gw gs (0 : Int32) rw mn at_ ml md_l wd md sm fr no)) hD hS hA [0, 1, 2, 3, 4] rfl
      refine va_calli (va_runV (As := [.int a1, .int a2, .long a3]) (rest := []) ⟨hx, hb, hml, hown, hts⟩ (c_X2_puts l dC dI cI cJ g0 gr gl gw gs H.size (0 : Int32) rw mn at_ ml md_l wd md sm fr no a1 a2 a3 _ hc) (cwV 3 hts gX2_put_X2_puts rfl rfl rfl (by decide +kernel) ⟨Nat.le_of_ble_eq_true rfl, Nat.le_of_ble_eq_true rfl⟩) ⟨fun a U g mk q => ⟨q.1, jPr.blind q.2⟩, va_recv hK hPc (ci := 2) (q0 := 0) rfl rfl, fun U hU hW => ⟨rfl, jPr.mk hU hW hPc hK hDc⟩⟩ rfl rfl hl.1 rfl (lv_room (Nat.le_of_ble_eq_true rfl)) dX2_put_37 ⟨Nat.le_of_ble_eq_true rfl, Nat.le_of_ble_eq_true rfl⟩) hS (fun q _ h => hFc q h) hFc (fun rr u t H1 locs ht hvm hw9 hB hz1 hk1 hS => ?_)
      have hw8 : v7 = rr := hw9.symm
      subst hw8
      obtain ⟨hP1, hK1, hD1⟩ := hB
      rw [ht] at hP1
      obtain ⟨hP, hD⟩ := va_join (wr := ([] : va_W)) (w1 := (wM cI cJ g0 gr gl gw gs (0 : Int32) v8 v9 at_ ml md_l v10 v11 sm fr no)) hP hD [0, 1, 2, 3, 4] [] rfl rfl (by decide) (by decide) hk1 hFc hP1 hD1
      clear hk1 hP1 hK1 hD1 hvm hz1 hPc hDc hFc
      generalize H1 = H at hP hS ⊢
      have hP : va_P (dC, dI) vwCl (wM cI cJ g0 gr gl gw gs (0 : Int32) v8 v9 at_ ml md_l v10 v11 sm fr no) H := hP
      have hD : va_D A (wM cI cJ g0 gr gl gw gs (0 : Int32) v8 v9 at_ ml md_l v10 v11 sm fr no) := hD
      refine lv_if_eq (tgt := 50) hx hb dX2_put_40 (by decide) (fun c12 => ?_) (fun c12 => ?_)
      · replace hj := ja_pos c12 hj
        refine lv_iconst (v := (-1 : Int32)) hx hb dX2_put_50 (by decide) ?_
        have hr9 : ((-1 : Int32), (0 : Int32), v8, v9, v10, v11) = r := Option.some.inj hj
        subst hr9
        exact W.iret (v := (-1 : Int32)) hx hb hr (fun t ht hW => ⟨⟨(-1 : Int32), (), rfl, rfl, by rw [ht]; exact hP, va_K.moved hW.alike hK, hD⟩, hS.F ht⟩) hS.2.2 dX2_put_51
      · replace hj := ja_neg c12 hj
        refine lv_aload_n hx hb dX2_put_43 rfl (lv_at hl 0 rfl) ?_
        refine va_get (D := (dC, dI)) (ci := 2) (v := .int v9) (C := RX2) (T := TX2) (N := 11) hx hb hts inn_X2_put_X2 hown hK hP 0 rfl rfl 2 (by decide) (hts (.fieldLink RX2 82 "SelfEndingCodesModel" "many" "I") (by decide +kernel)) (fun _ h9 => h9) rfl dX2_put_44 ?_
        refine lv_goto (tgt := 51) hx hb dX2_put_47 (by decide) ?_
        have hr9 : (v9, (0 : Int32), v8, v9, v10, v11) = r := Option.some.inj hj
        subst hr9
        exact W.iret (v := v9) hx hb hr (fun t ht hW => ⟨⟨v9, (), rfl, rfl, by rw [ht]; exact hP, va_K.moved hW.alike hK, hD⟩, hS.F ht⟩) hS.2.2 dX2_put_51
    · replace hj := ja_neg c5 hj
      refine lv_iconst (v := (1 : Int32)) hx hb dX2_put_16 (by decide) ?_
      refine lv_goto (tgt := 21) hx hb dX2_put_17 (by decide) ?_
      refine va_put (D := (dC, dI)) (ci := 2) (v := .int (1 : Int32)) (ty := .int) (C := RX2) (T := TX2) (N := 11) hx hb hts inn_X2_put_X2 tyX2 tyX2_ok nmX2 hown hK hP hD hS 0 rfl rfl 0 (by decide) (hts (.fieldLink RX2 25 "SelfEndingCodesModel" "thrown" "I") (by decide +kernel)) (fun _ h9 => h9) rfl (by decide +kernel) rfl rfl (Nat.le_of_ble_eq_true rfl) dX2_put_21 (fun H locs hP hD hS => ?_)
      have hP : va_P (dC, dI) vwCl (wM cI cJ g0 gr gl gw gs (1 : Int32) rw mn at_ ml md_l wd md sm fr no) H := hP
      have hD : va_D A (wM cI cJ g0 gr gl gw gs (1 : Int32) rw mn at_ ml md_l wd md sm fr no) := hD
      refine lv_aload_n hx hb dX2_put_24 rfl (lv_at hl 0 rfl) ?_
      refine va_get (D := (dC, dI)) (ci := 2) (v := .int (1 : Int32)) (C := RX2) (T := TX2) (N := 11) hx hb hts inn_X2_put_X2 hown hK hP 0 rfl rfl 0 (by decide) (hts (.fieldLink RX2 25 "SelfEndingCodesModel" "thrown" "I") (by decide +kernel)) (fun _ h9 => h9) rfl dX2_put_25 ?_
      refine lv_if_le (tgt := 33) hx hb dX2_put_28 (by decide) (fun h9 => absurd h9 (by decide)) (fun _ => ?_)
      refine lv_iconst (v := (0 : Int32)) hx hb dX2_put_31 (by decide) ?_
      have hr9 : ((0 : Int32), (1 : Int32), rw, mn, wd, md) = r := Option.some.inj hj
      subst hr9
      exact W.iret (v := (0 : Int32)) hx hb hr (fun t ht hW => ⟨⟨(0 : Int32), (), rfl, rfl, by rw [ht]; exact hP, va_K.moved hW.alike hK, hD⟩, hS.F ht⟩) hS.2.2 dX2_put_32

set_option maxRecDepth 100000 in
theorem inn_X2_putAll_X2 : ∀ w ∈ u_ws RX2 TX2 11, w ∈ wsX2_putAll := by decide +kernel
def jL_X2_putAll_19 (th : Int32) (ml : Nat → Int64) (md_l : Int32) (sm : Nat → Int64) (x1 : Int32) (x2 : Int32) : Nat → Int32 → (Nat → Int32) → Int32 → (Nat → Int32) → Int32 → Option (Int32 × Int32 × (Nat → Int32) × Int32 × (Nat → Int32) × Int32)
  | 0, _, _, _, _, _ => none
  | n + 1, x3, rw, mn, wd, md => if th = (0 : Int32) then (if md_l ≤ x3 then (some (x3, th, rw, mn, wd, md)) else (jix x3 100 ((j_X2_puts rw mn wd md sm x1 x2 (ml x3.toNatClampNeg)).bind fun (v1903, v1904, v1905, v1906, v1907) => (if v1903 = (0 : Int32) then (some (x3, th, v1904, v1905, v1906, v1907)) else (jL_X2_putAll_19 th ml md_l sm x1 x2 n (x3 + (1 : Int32)) v1904 v1905 v1906 v1907))))) else (some (x3, th, rw, mn, wd, md))
set_option maxHeartbeats 4000000 in
set_option maxRecDepth 100000 in
theorem s_X2_putAll_19 {p : Program} {l : Launch} {e : Env} {s : State} {m : MethodId} {args : Array Value} {below : List Frame} {meth : Method} {c : Code} {dC : Nat → ClassId} {dI : Nat → Nat → Nat} {cI cJ : ClassId} {A : Nat → Prop} (C0 : jCx p s m args meth c RX2 cX2_putAll 4 (some .int) wsX2_putAll) (hK : va_K (dC, dI) vwCl (jTy cI cJ) s) (hA : ∀ q : Nat, s.heap.size ≤ q → A q) (g0 : Nat) (gr : Nat) (gl : Nat) (gw : Nat) (gs : Nat) (th : Int32) (at_ : Int32) (ml : Nat → Int64) (md_l : Int32) (sm : Nat → Int64) (fr : Int32) (no : Int32) (x1 : Int32) (x2 : Int32) :
    ∀ (n : Nat) (x3 : Int32) (rw : Nat → Int32) (mn : Int32) (wd : Nat → Int32) (md : Int32) (r : Int32 × Int32 × (Nat → Int32) × Int32 × (Nat → Int32) × Int32), jL_X2_putAll_19 th ml md_l sm x1 x2 n x3 rw mn wd md = some r → ∀ (H : Heap) (locs : List Loc) (ls : Array Slot), va_P (dC, dI) vwCl (wM cI cJ g0 gr gl gw gs th rw mn at_ ml md_l wd md sm fr no) H → va_D A (wM cI cJ g0 gr gl gw gs th rw mn at_ ml md_l wd md sm fr no) → va_S A s.heap H locs → lv_has ls 4 [(0, .ref g0), (1, .int x1), (2, .int x2), (3, .int x3)] → W p l e ({ frames := 5, cells := 0, slots := 0, locals := 127 } : Room) s m args below meth c H locs 0 0 (MQ below (va_Qi (fun (v : Int32) (_ : Unit) => v = r.1) (fun (_ : Unit) t => jPo dC dI cI cJ (wM cI cJ g0 gr gl gw gs r.2.1 r.2.2.1 r.2.2.2.1 at_ ml md_l r.2.2.2.2.1 r.2.2.2.2.2 sm fr no) A t) A) args s 0 0 A) (F0 m 19 ls []) := by
  obtain ⟨hx, hb, hr, hml, hown, hts, hlocks⟩ := id C0
  intro n
  induction n with
  | zero =>
    intro x3 rw mn wd md r hj
    exact nomatch (show (none : Option (Int32 × Int32 × (Nat → Int32) × Int32 × (Nat → Int32) × Int32)) = some r from hj)
  | succ n ih =>
    intro x3 rw mn wd md r hj H locs ls hP hD hS hl
    replace hj : (if th = (0 : Int32) then (if md_l ≤ x3 then (some (x3, th, rw, mn, wd, md)) else (jix x3 100 ((j_X2_puts rw mn wd md sm x1 x2 (ml x3.toNatClampNeg)).bind fun (v1903, v1904, v1905, v1906, v1907) => (if v1903 = (0 : Int32) then (some (x3, th, v1904, v1905, v1906, v1907)) else (jL_X2_putAll_19 th ml md_l sm x1 x2 n (x3 + (1 : Int32)) v1904 v1905 v1906 v1907))))) else (some (x3, th, rw, mn, wd, md))) = some r := hj
    refine lv_aload_n hx hb dX2_putAll_19 rfl (lv_at hl 0 rfl) ?_
    refine va_get (D := (dC, dI)) (ci := 2) (v := .int th) (C := RX2) (T := TX2) (N := 11) hx hb hts inn_X2_putAll_X2 hown hK hP 0 rfl rfl 0 (by decide) (hts (.fieldLink RX2 25 "SelfEndingCodesModel" "thrown" "I") (by decide +kernel)) (fun _ h9 => h9) rfl dX2_putAll_20 ?_
    refine lv_if_ne (tgt := 55) hx hb dX2_putAll_23 (by decide) (fun c1901 => ?_) (fun c1901 => ?_)
    · replace hj := ja_neg c1901 hj
      refine lv_iload_n hx hb dX2_putAll_55 rfl (lv_at hl 3 rfl) ?_
      have hr9 : (x3, th, rw, mn, wd, md) = r := Option.some.inj hj
      subst hr9
      exact W.iret (v := x3) hx hb hr (fun t ht hW => ⟨⟨x3, (), rfl, rfl, by rw [ht]; exact hP, va_K.moved hW.alike hK, hD⟩, hS.F ht⟩) hS.2.2 dX2_putAll_56
    · replace hj := ja_pos c1901 hj
      refine lv_iload_n hx hb dX2_putAll_26 rfl (lv_at hl 3 rfl) ?_
      refine lv_aload_n hx hb dX2_putAll_27 rfl (lv_at hl 0 rfl) ?_
      refine va_get (D := (dC, dI)) (ci := 2) (v := .int md_l) (C := RX2) (T := TX2) (N := 11) hx hb hts inn_X2_putAll_X2 hown hK hP 0 rfl rfl 5 (by decide) (hts (.fieldLink RX2 167 "SelfEndingCodesModel" "listed" "I") (by decide +kernel)) (fun _ h9 => h9) rfl dX2_putAll_28 ?_
      refine lv_icmp_ge (tgt := 55) hx hb dX2_putAll_31 (by decide) (fun c1902 => ?_) (fun c1902 => ?_)
      · replace hj := ja_pos c1902 hj
        refine lv_iload_n hx hb dX2_putAll_55 rfl (lv_at hl 3 rfl) ?_
        have hr9 : (x3, th, rw, mn, wd, md) = r := Option.some.inj hj
        subst hr9
        exact W.iret (v := x3) hx hb hr (fun t ht hW => ⟨⟨x3, (), rfl, rfl, by rw [ht]; exact hP, va_K.moved hW.alike hK, hD⟩, hS.F ht⟩) hS.2.2 dX2_putAll_56
      · replace hj := ja_neg c1902 hj
        refine lv_aload_n hx hb dX2_putAll_34 rfl (lv_at hl 0 rfl) ?_
        refine lv_iload_n hx hb dX2_putAll_35 rfl (lv_at hl 1 rfl) ?_
        refine lv_iload_n hx hb dX2_putAll_36 rfl (lv_at hl 2 rfl) ?_
        refine lv_aload_n hx hb dX2_putAll_37 rfl (lv_at hl 0 rfl) ?_
        refine va_get (D := (dC, dI)) (ci := 2) (v := .ref gl) (C := RX2) (T := TX2) (N := 11) hx hb hts inn_X2_putAll_X2 hown hK hP 0 rfl rfl 4 (by decide) (hts (.fieldLink RX2 13 "SelfEndingCodesModel" "list" "[J") (by decide +kernel)) (fun _ h9 => h9) rfl dX2_putAll_38 ?_
        refine lv_iload_n hx hb dX2_putAll_41 rfl (lv_at hl 3 rfl) ?_
        obtain ⟨hin, hj⟩ := ja_ix hj
        refine va_lald hx hb hK hP 2 1 rfl rfl hin dX2_putAll_42 ?_
        obtain ⟨⟨v1903, v1904, v1905, v1906, v1907⟩, hc, hj⟩ := ja_bd hj
        try dsimp only at hj
        have hPc := hP.sub (ws' := (wM cI cJ g0 gr gl gw gs th rw mn at_ ml md_l wd md sm fr no)) [0, 1, 2, 3, 4] rfl
        have hDc := hD.sub (ws' := (wM cI cJ g0 gr gl gw gs th rw mn at_ ml md_l wd md sm fr no)) [0, 1, 2, 3, 4] (by decide) rfl
        have hFc := va_free (wc := (wM cI cJ g0 gr gl gw gs th rw mn at_ ml md_l wd md sm fr no)) hD hS hA [0, 1, 2, 3, 4] rfl
        refine va_calli (va_runV (As := [.int x1, .int x2, .long (ml x3.toNatClampNeg)]) (rest := []) ⟨hx, hb, hml, hown, hts⟩ (c_X2_puts l dC dI cI cJ g0 gr gl gw gs H.size th rw mn at_ ml md_l wd md sm fr no x1 x2 (ml x3.toNatClampNeg) _ hc) (cwV 3 hts gX2_putAll_X2_puts rfl rfl rfl (by decide +kernel) ⟨Nat.le_of_ble_eq_true rfl, Nat.le_of_ble_eq_true rfl⟩) ⟨fun a U g mk q => ⟨q.1, jPr.blind q.2⟩, va_recv hK hPc (ci := 2) (q0 := 0) rfl rfl, fun U hU hW => ⟨rfl, jPr.mk hU hW hPc hK hDc⟩⟩ rfl rfl hl.1 rfl (lv_room (Nat.le_of_ble_eq_true rfl)) dX2_putAll_43 ⟨Nat.le_of_ble_eq_true rfl, Nat.le_of_ble_eq_true rfl⟩) hS (fun q _ h => hFc q h) hFc (fun rr u t H1 locs ht hvm hw9 hB hz1 hk1 hS => ?_)
        have hw8 : v1903 = rr := hw9.symm
        subst hw8
        obtain ⟨hP1, hK1, hD1⟩ := hB
        rw [ht] at hP1
        obtain ⟨hP, hD⟩ := va_join (wr := ([] : va_W)) (w1 := (wM cI cJ g0 gr gl gw gs th v1904 v1905 at_ ml md_l v1906 v1907 sm fr no)) hP hD [0, 1, 2, 3, 4] [] rfl rfl (by decide) (by decide) hk1 hFc hP1 hD1
        clear hk1 hP1 hK1 hD1 hvm hz1 hPc hDc hFc
        generalize H1 = H at hP hS ⊢
        have hP : va_P (dC, dI) vwCl (wM cI cJ g0 gr gl gw gs th v1904 v1905 at_ ml md_l v1906 v1907 sm fr no) H := hP
        have hD : va_D A (wM cI cJ g0 gr gl gw gs th v1904 v1905 at_ ml md_l v1906 v1907 sm fr no) := hD
        refine lv_if_eq (tgt := 55) hx hb dX2_putAll_46 (by decide) (fun c1908 => ?_) (fun c1908 => ?_)
        · replace hj := ja_pos c1908 hj
          refine lv_iload_n hx hb dX2_putAll_55 rfl (lv_at hl 3 rfl) ?_
          have hr9 : (x3, th, v1904, v1905, v1906, v1907) = r := Option.some.inj hj
          subst hr9
          exact W.iret (v := x3) hx hb hr (fun t ht hW => ⟨⟨x3, (), rfl, rfl, by rw [ht]; exact hP, va_K.moved hW.alike hK, hD⟩, hS.F ht⟩) hS.2.2 dX2_putAll_56
        · replace hj := ja_neg c1908 hj
          refine lv_iinc (v := x3 + (1 : Int32)) (lv' := [(3, .int (x3 + (1 : Int32))), (0, .ref g0), (1, .int x1), (2, .int x2)]) hx hb dX2_putAll_49 hl (k := 3) rfl (congrArg (fun z => x3 + z) (by decide)) (by decide) rfl (fun ls hl => ?_)
          refine lv_goto (tgt := 19) hx hb dX2_putAll_52 (by decide) ?_
          exact ih (x3 + (1 : Int32)) v1904 v1905 v1906 v1907 _ hj _ _ _ (hP) (hD) hS (lv_sub hl [1, 2, 3, 0] rfl)
def j_X2_putAll (th : Int32) (rw : Nat → Int32) (mn : Int32) (ml : Nat → Int64) (md_l : Int32) (wd : Nat → Int32) (md : Int32) (sm : Nat → Int64) (a1 : Int32) (a2 : Int32) : Option (Int32 × Int32 × (Nat → Int32) × Int32 × (Nat → Int32) × Int32) :=
  (j_X2_noKind a1 a2).bind fun v1 => (if v1 = (0 : Int32) then (jL_X2_putAll_19 (0 : Int32) ml md_l sm a1 a2 jF (0 : Int32) rw mn wd md) else (jL_X2_putAll_19 (1 : Int32) ml md_l sm a1 a2 jF (0 : Int32) rw mn wd md))
set_option maxHeartbeats 4000000 in
set_option maxRecDepth 100000 in
theorem c_X2_putAll (l : Launch) (dC : Nat → ClassId) (dI : Nat → Nat → Nat) (cI cJ : ClassId) (g0 : Nat) (gr : Nat) (gl : Nat) (gw : Nat) (gs : Nat) (sz : Nat) (th : Int32) (rw : Nat → Int32) (mn : Int32) (at_ : Int32) (ml : Nat → Int64) (md_l : Int32) (wd : Nat → Int32) (md : Int32) (sm : Nat → Int64) (fr : Int32) (no : Int32) (a1 : Int32) (a2 : Int32) (r : Int32 × Int32 × (Nat → Int32) × Int32 × (Nat → Int32) × Int32) (hj : j_X2_putAll th rw mn ml md_l wd md sm a1 a2 = some r) : Met l yX2_putAll wsX2_putAll ({ frames := 5, cells := 0, slots := 0, locals := 127 } : Room) (va_Pc [.ref g0, .int a1, .int a2] (fun U => jPr dC dI cI cJ (wM cI cJ g0 gr gl gw gs th rw mn at_ ml md_l wd md sm fr no) sz U)) (va_Qi (fun (v : Int32) (_ : Unit) => v = r.1) (fun (_ : Unit) t => jPo dC dI cI cJ (wM cI cJ g0 gr gl gw gs r.2.1 r.2.2.1 r.2.2.2.1 at_ ml md_l r.2.2.2.2.1 r.2.2.2.2.2 sm fr no) (va_A (wM cI cJ g0 gr gl gw gs th rw mn at_ ml md_l wd md sm fr no) sz) t) (va_A (wM cI cJ g0 gr gl gw gs th rw mn at_ ml md_l wd md sm fr no) sz)) 0 0 (va_A (wM cI cJ g0 gr gl gw gs th rw mn at_ ml md_l wd md sm fr no) sz) := by
  refine Met.ofW (cc := cX2_putAll) (maxL := 4) (ret := (some .int)) (by decide) rfl ?_
  intro p e s m args below meth c s₁ B hml hv
  obtain ⟨rfl, ⟨hsz, hP, hK, hD0⟩⟩ := hv
  have hx := B.exec
  have hb := B.bytes
  have hr := B.returns
  have hts := atoms_spec (ws := wsX2_putAll) B.pre
  have hown : s.vm.findClass RX2 = some m.cls := findClass_of_methodNamed B.named
  have hlocks := B.notSynchronized
  have C0 := jCx.of hx hb hr hml hown hts hlocks
  subst hsz
  have hD := hD0.self (sz := s.heap.size)
  generalize hAe : va_A (wM cI cJ g0 gr gl gw gs th rw mn at_ ml md_l wd md sm fr no) s.heap.size = A at hD ⊢
  have hA : ∀ q : Nat, s.heap.size ≤ q → A q := fun q h => by rw [← hAe]; exact Or.inr h
  have hS : va_S A s.heap s.heap [] := va_S.rf
  have hP : va_P (dC, dI) vwCl (wM cI cJ g0 gr gl gw gs th rw mn at_ ml md_l wd md sm fr no) s.heap := hP
  have hl := lv_entry ([.ref g0, .int a1, .int a2]) (n := 4) (Nat.le_of_ble_eq_true rfl)
  rw [lg_entry_eq]
  generalize (lg_sl ([.ref g0, .int a1, .int a2]) ++ List.replicate (4 - (lg_sl ([.ref g0, .int a1, .int a2])).length) Slot.unset).toArray = ls at hl ⊢
  have hl : lv_has ls 4 [(0, .ref g0), (1, .int a1), (2, .int a2)] := hl
  clear hD0 hAe
  unfold j_X2_putAll at hj
  refine lv_aload_n hx hb dX2_putAll_0 rfl (lv_at hl 0 rfl) ?_
  refine lv_iload_n hx hb dX2_putAll_1 rfl (lv_at hl 1 rfl) ?_
  refine lv_iload_n hx hb dX2_putAll_2 rfl (lv_at hl 2 rfl) ?_
  obtain ⟨v1, hc, hj⟩ := ja_bd hj
  try dsimp only at hj
  have hPc := hP.sub (ws' := ([] : va_W)) [] rfl
  have hDc := hD.sub (ws' := ([] : va_W)) [] (by decide) rfl
  have hFc := va_free (wc := ([] : va_W)) hD hS hA [] rfl
  refine va_calli (va_runS (As := [.int a1, .int a2]) (rest := [.ref g0]) ⟨hx, hb, hml, hown, hts⟩ (c_X2_noKind l dC dI cI cJ s.heap.size a1 a2 _ hc) (va_cwS 2 hts gX2_putAll_X2_noKind rfl rfl rfl (by decide +kernel) ⟨Nat.le_of_ble_eq_true rfl, Nat.le_of_ble_eq_true rfl⟩) ⟨fun a U g mk q => ⟨q.1, jPr.blind q.2⟩, fun U hU hW => ⟨rfl, jPr.mk hU hW hPc hK hDc⟩⟩ rfl rfl hl.1 rfl (lv_room (Nat.le_of_ble_eq_true rfl)) dX2_putAll_3 ⟨Nat.le_of_ble_eq_true rfl, Nat.le_of_ble_eq_true rfl⟩) hS (fun q _ h => hFc q h) hFc (fun rr u t H1 locs ht hvm hw9 hB hz1 hk1 hS => ?_)
  have hw8 : v1 = rr := hw9.symm
  subst hw8
  obtain ⟨hP1, hK1, hD1⟩ := hB
  rw [ht] at hP1
  obtain ⟨hP, hD⟩ := va_join (wr := ([(g0, .inr (2, [.int th, .ref gr, .int mn, .int at_, .ref gl, .int md_l, .ref gw, .int md, .ref gs, .int fr, .int no])), (gr, .inl (cI, 4096, .inl rw)), (gl, .inl (cJ, 100, .inr (.inl ml))), (gw, .inl (cI, 4200, .inl wd)), (gs, .inl (cJ, 92, .inr (.inl sm)))] : va_W)) (w1 := ([] : va_W)) hP hD [] [0, 1, 2, 3, 4] rfl rfl (by decide) (by decide) hk1 hFc hP1 hD1
  clear hk1 hP1 hK1 hD1 hvm hz1 hPc hDc hFc
  generalize H1 = H at hP hS ⊢
  have hP : va_P (dC, dI) vwCl (wM cI cJ g0 gr gl gw gs th rw mn at_ ml md_l wd md sm fr no) H := hP
  have hD : va_D A (wM cI cJ g0 gr gl gw gs th rw mn at_ ml md_l wd md sm fr no) := hD
  refine lv_if_eq (tgt := 13) hx hb dX2_putAll_6 (by decide) (fun c2 => ?_) (fun c2 => ?_)
  · replace hj := ja_pos c2 hj
    refine lv_iconst (v := (0 : Int32)) hx hb dX2_putAll_13 (by decide) ?_
    refine va_put (D := (dC, dI)) (ci := 2) (v := .int (0 : Int32)) (ty := .int) (C := RX2) (T := TX2) (N := 11) hx hb hts inn_X2_putAll_X2 tyX2 tyX2_ok nmX2 hown hK hP hD hS 0 rfl rfl 0 (by decide) (hts (.fieldLink RX2 25 "SelfEndingCodesModel" "thrown" "I") (by decide +kernel)) (fun _ h9 => h9) rfl (by decide +kernel) rfl rfl (Nat.le_of_ble_eq_true rfl) dX2_putAll_14 (fun H locs hP hD hS => ?_)
    have hP : va_P (dC, dI) vwCl (wM cI cJ g0 gr gl gw gs (0 : Int32) rw mn at_ ml md_l wd md sm fr no) H := hP
    have hD : va_D A (wM cI cJ g0 gr gl gw gs (0 : Int32) rw mn at_ ml md_l wd md sm fr no) := hD
    refine lv_iconst (v := (0 : Int32)) hx hb dX2_putAll_17 (by decide) ?_
    refine lv_istore_n (lv' := [(3, .int (0 : Int32)), (0, .ref g0), (1, .int a1), (2, .int a2)]) hx hb dX2_putAll_18 rfl hl (by decide) rfl (fun ls hl => ?_)
    exact s_X2_putAll_19 C0 hK hA g0 gr gl gw gs (0 : Int32) at_ ml md_l sm fr no a1 a2 jF (0 : Int32) rw mn wd md _ hj _ _ _ (hP) (hD) hS (lv_sub hl [1, 2, 3, 0] rfl)
  · replace hj := ja_neg c2 hj
    refine lv_iconst (v := (1 : Int32)) hx hb dX2_putAll_9 (by decide) ?_
    refine lv_goto (tgt := 14) hx hb dX2_putAll_10 (by decide) ?_
    refine va_put (D := (dC, dI)) (ci := 2) (v := .int (1 : Int32)) (ty := .int) (C := RX2) (T := TX2) (N := 11) hx hb hts inn_X2_putAll_X2 tyX2 tyX2_ok nmX2 hown hK hP hD hS 0 rfl rfl 0 (by decide) (hts (.fieldLink RX2 25 "SelfEndingCodesModel" "thrown" "I") (by decide +kernel)) (fun _ h9 => h9) rfl (by decide +kernel) rfl rfl (Nat.le_of_ble_eq_true rfl) dX2_putAll_14 (fun H locs hP hD hS => ?_)
    have hP : va_P (dC, dI) vwCl (wM cI cJ g0 gr gl gw gs (1 : Int32) rw mn at_ ml md_l wd md sm fr no) H := hP
    have hD : va_D A (wM cI cJ g0 gr gl gw gs (1 : Int32) rw mn at_ ml md_l wd md sm fr no) := hD
    refine lv_iconst (v := (0 : Int32)) hx hb dX2_putAll_17 (by decide) ?_
    refine lv_istore_n (lv' := [(3, .int (0 : Int32)), (0, .ref g0), (1, .int a1), (2, .int a2)]) hx hb dX2_putAll_18 rfl hl (by decide) rfl (fun ls hl => ?_)
    exact s_X2_putAll_19 C0 hK hA g0 gr gl gw gs (1 : Int32) at_ ml md_l sm fr no a1 a2 jF (0 : Int32) rw mn wd md _ hj _ _ _ (hP) (hD) hS (lv_sub hl [1, 2, 3, 0] rfl)

set_option maxRecDepth 100000 in
theorem inn_X2_seek_X2 : ∀ w ∈ u_ws RX2 TX2 11, w ∈ wsX2_seek := by decide +kernel
def j_X2_seek (th : Int32) (mn : Int32) (at_ : Int32) (a1 : Int32) : Option (Int32 × Int32) :=
  if a1 < (0 : Int32) then (some ((1 : Int32), at_)) else (if a1 ≤ mn then (some ((0 : Int32), a1)) else (some ((1 : Int32), at_)))
set_option maxHeartbeats 4000000 in
set_option maxRecDepth 100000 in
theorem c_X2_seek (l : Launch) (dC : Nat → ClassId) (dI : Nat → Nat → Nat) (cI cJ : ClassId) (g0 : Nat) (gr : Nat) (gl : Nat) (gw : Nat) (gs : Nat) (sz : Nat) (th : Int32) (rw : Nat → Int32) (mn : Int32) (at_ : Int32) (ml : Nat → Int64) (md_l : Int32) (wd : Nat → Int32) (md : Int32) (sm : Nat → Int64) (fr : Int32) (no : Int32) (a1 : Int32) (r : Int32 × Int32) (hj : j_X2_seek th mn at_ a1 = some r) : Met l yX2_seek wsX2_seek ({ frames := 0, cells := 0, slots := 0, locals := 0 } : Room) (va_Pc [.ref g0, .int a1] (fun U => jPr dC dI cI cJ (wM cI cJ g0 gr gl gw gs th rw mn at_ ml md_l wd md sm fr no) sz U)) (va_Qv (fun _ : Unit => True) (fun (_ : Unit) t => jPo dC dI cI cJ (wM cI cJ g0 gr gl gw gs r.1 rw mn r.2 ml md_l wd md sm fr no) (va_A (wM cI cJ g0 gr gl gw gs th rw mn at_ ml md_l wd md sm fr no) sz) t) (va_A (wM cI cJ g0 gr gl gw gs th rw mn at_ ml md_l wd md sm fr no) sz)) 0 0 (va_A (wM cI cJ g0 gr gl gw gs th rw mn at_ ml md_l wd md sm fr no) sz) := by
  refine Met.ofW (cc := cX2_seek) (maxL := 2) (ret := none) (by decide) rfl ?_
  intro p e s m args below meth c s₁ B hml hv
  obtain ⟨rfl, ⟨hsz, hP, hK, hD0⟩⟩ := hv
  have hx := B.exec
  have hb := B.bytes
  have hr := B.returns
  have hts := atoms_spec (ws := wsX2_seek) B.pre
  have hown : s.vm.findClass RX2 = some m.cls := findClass_of_methodNamed B.named
  have hlocks := B.notSynchronized
  have C0 := jCx.of hx hb hr hml hown hts hlocks
  subst hsz
  have hD := hD0.self (sz := s.heap.size)
  generalize hAe : va_A (wM cI cJ g0 gr gl gw gs th rw mn at_ ml md_l wd md sm fr no) s.heap.size = A at hD ⊢
  have hA : ∀ q : Nat, s.heap.size ≤ q → A q := fun q h => by rw [← hAe]; exact Or.inr h
  have hS : va_S A s.heap s.heap [] := va_S.rf
  have hP : va_P (dC, dI) vwCl (wM cI cJ g0 gr gl gw gs th rw mn at_ ml md_l wd md sm fr no) s.heap := hP
  have hl := lv_entry ([.ref g0, .int a1]) (n := 2) (Nat.le_of_ble_eq_true rfl)
  rw [lg_entry_eq]
  generalize (lg_sl ([.ref g0, .int a1]) ++ List.replicate (2 - (lg_sl ([.ref g0, .int a1])).length) Slot.unset).toArray = ls at hl ⊢
  have hl : lv_has ls 2 [(0, .ref g0), (1, .int a1)] := hl
  clear hD0 hAe
  unfold j_X2_seek at hj
  refine lv_aload_n hx hb dX2_seek_0 rfl (lv_at hl 0 rfl) ?_
  refine lv_iload_n hx hb dX2_seek_1 rfl (lv_at hl 1 rfl) ?_
  refine lv_if_lt (tgt := 13) hx hb dX2_seek_2 (by decide) (fun c1 => ?_) (fun c1 => ?_)
  · replace hj := ja_pos c1 hj
    refine lv_iconst (v := (1 : Int32)) hx hb dX2_seek_13 (by decide) ?_
    refine lv_goto (tgt := 18) hx hb dX2_seek_14 (by decide) ?_
    refine va_put (D := (dC, dI)) (ci := 2) (v := .int (1 : Int32)) (ty := .int) (C := RX2) (T := TX2) (N := 11) hx hb hts inn_X2_seek_X2 tyX2 tyX2_ok nmX2 hown hK hP hD hS 0 rfl rfl 0 (by decide) (hts (.fieldLink RX2 25 "SelfEndingCodesModel" "thrown" "I") (by decide +kernel)) (fun _ h9 => h9) rfl (by decide +kernel) rfl rfl (Nat.le_of_ble_eq_true rfl) dX2_seek_18 (fun H locs hP hD hS => ?_)
    have hP : va_P (dC, dI) vwCl (wM cI cJ g0 gr gl gw gs (1 : Int32) rw mn at_ ml md_l wd md sm fr no) H := hP
    have hD : va_D A (wM cI cJ g0 gr gl gw gs (1 : Int32) rw mn at_ ml md_l wd md sm fr no) := hD
    refine lv_aload_n hx hb dX2_seek_21 rfl (lv_at hl 0 rfl) ?_
    refine va_get (D := (dC, dI)) (ci := 2) (v := .int (1 : Int32)) (C := RX2) (T := TX2) (N := 11) hx hb hts inn_X2_seek_X2 hown hK hP 0 rfl rfl 0 (by decide) (hts (.fieldLink RX2 25 "SelfEndingCodesModel" "thrown" "I") (by decide +kernel)) (fun _ h9 => h9) rfl dX2_seek_22 ?_
    refine lv_if_ne (tgt := 33) hx hb dX2_seek_25 (by decide) (fun _ => ?_) (fun h9 => absurd h9 (by decide))
    have hr9 : ((1 : Int32), at_) = r := Option.some.inj hj
    subst hr9
    exact W.vret hx hb hr (fun t ht hW => ⟨⟨(), rfl, trivial, by rw [ht]; exact hP, va_K.moved hW.alike hK, hD⟩, hS.F ht⟩) hS.2.2 dX2_seek_33
  · replace hj := ja_neg c1 hj
    refine lv_iload_n hx hb dX2_seek_5 rfl (lv_at hl 1 rfl) ?_
    refine lv_aload_n hx hb dX2_seek_6 rfl (lv_at hl 0 rfl) ?_
    refine va_get (D := (dC, dI)) (ci := 2) (v := .int mn) (C := RX2) (T := TX2) (N := 11) hx hb hts inn_X2_seek_X2 hown hK hP 0 rfl rfl 2 (by decide) (hts (.fieldLink RX2 82 "SelfEndingCodesModel" "many" "I") (by decide +kernel)) (fun _ h9 => h9) rfl dX2_seek_7 ?_
    refine lv_icmp_le (tgt := 17) hx hb dX2_seek_10 (by decide) (fun c3 => ?_) (fun c3 => ?_)
    · replace hj := ja_pos c3 hj
      refine lv_iconst (v := (0 : Int32)) hx hb dX2_seek_17 (by decide) ?_
      refine va_put (D := (dC, dI)) (ci := 2) (v := .int (0 : Int32)) (ty := .int) (C := RX2) (T := TX2) (N := 11) hx hb hts inn_X2_seek_X2 tyX2 tyX2_ok nmX2 hown hK hP hD hS 0 rfl rfl 0 (by decide) (hts (.fieldLink RX2 25 "SelfEndingCodesModel" "thrown" "I") (by decide +kernel)) (fun _ h9 => h9) rfl (by decide +kernel) rfl rfl (Nat.le_of_ble_eq_true rfl) dX2_seek_18 (fun H locs hP hD hS => ?_)
      have hP : va_P (dC, dI) vwCl (wM cI cJ g0 gr gl gw gs (0 : Int32) rw mn at_ ml md_l wd md sm fr no) H := hP
      have hD : va_D A (wM cI cJ g0 gr gl gw gs (0 : Int32) rw mn at_ ml md_l wd md sm fr no) := hD
      refine lv_aload_n hx hb dX2_seek_21 rfl (lv_at hl 0 rfl) ?_
      refine va_get (D := (dC, dI)) (ci := 2) (v := .int (0 : Int32)) (C := RX2) (T := TX2) (N := 11) hx hb hts inn_X2_seek_X2 hown hK hP 0 rfl rfl 0 (by decide) (hts (.fieldLink RX2 25 "SelfEndingCodesModel" "thrown" "I") (by decide +kernel)) (fun _ h9 => h9) rfl dX2_seek_22 ?_
      refine lv_if_ne (tgt := 33) hx hb dX2_seek_25 (by decide) (fun h9 => absurd (by decide) h9) (fun _ => ?_)
      refine lv_aload_n hx hb dX2_seek_28 rfl (lv_at hl 0 rfl) ?_
      refine lv_iload_n hx hb dX2_seek_29 rfl (lv_at hl 1 rfl) ?_
      refine va_put (D := (dC, dI)) (ci := 2) (v := .int a1) (ty := .int) (C := RX2) (T := TX2) (N := 11) hx hb hts inn_X2_seek_X2 tyX2 tyX2_ok nmX2 hown hK hP hD hS 0 rfl rfl 3 (by decide) (hts (.fieldLink RX2 115 "SelfEndingCodesModel" "at" "I") (by decide +kernel)) (fun _ h9 => h9) rfl (by decide +kernel) rfl rfl (Nat.le_of_ble_eq_true rfl) dX2_seek_30 (fun H locs hP hD hS => ?_)
      have hP : va_P (dC, dI) vwCl (wM cI cJ g0 gr gl gw gs (0 : Int32) rw mn a1 ml md_l wd md sm fr no) H := hP
      have hD : va_D A (wM cI cJ g0 gr gl gw gs (0 : Int32) rw mn a1 ml md_l wd md sm fr no) := hD
      have hr9 : ((0 : Int32), a1) = r := Option.some.inj hj
      subst hr9
      exact W.vret hx hb hr (fun t ht hW => ⟨⟨(), rfl, trivial, by rw [ht]; exact hP, va_K.moved hW.alike hK, hD⟩, hS.F ht⟩) hS.2.2 dX2_seek_33
    · replace hj := ja_neg c3 hj
      refine lv_iconst (v := (1 : Int32)) hx hb dX2_seek_13 (by decide) ?_
      refine lv_goto (tgt := 18) hx hb dX2_seek_14 (by decide) ?_
      refine va_put (D := (dC, dI)) (ci := 2) (v := .int (1 : Int32)) (ty := .int) (C := RX2) (T := TX2) (N := 11) hx hb hts inn_X2_seek_X2 tyX2 tyX2_ok nmX2 hown hK hP hD hS 0 rfl rfl 0 (by decide) (hts (.fieldLink RX2 25 "SelfEndingCodesModel" "thrown" "I") (by decide +kernel)) (fun _ h9 => h9) rfl (by decide +kernel) rfl rfl (Nat.le_of_ble_eq_true rfl) dX2_seek_18 (fun H locs hP hD hS => ?_)
      have hP : va_P (dC, dI) vwCl (wM cI cJ g0 gr gl gw gs (1 : Int32) rw mn at_ ml md_l wd md sm fr no) H := hP
      have hD : va_D A (wM cI cJ g0 gr gl gw gs (1 : Int32) rw mn at_ ml md_l wd md sm fr no) := hD
      refine lv_aload_n hx hb dX2_seek_21 rfl (lv_at hl 0 rfl) ?_
      refine va_get (D := (dC, dI)) (ci := 2) (v := .int (1 : Int32)) (C := RX2) (T := TX2) (N := 11) hx hb hts inn_X2_seek_X2 hown hK hP 0 rfl rfl 0 (by decide) (hts (.fieldLink RX2 25 "SelfEndingCodesModel" "thrown" "I") (by decide +kernel)) (fun _ h9 => h9) rfl dX2_seek_22 ?_
      refine lv_if_ne (tgt := 33) hx hb dX2_seek_25 (by decide) (fun _ => ?_) (fun h9 => absurd h9 (by decide))
      have hr9 : ((1 : Int32), at_) = r := Option.some.inj hj
      subst hr9
      exact W.vret hx hb hr (fun t ht hW => ⟨⟨(), rfl, trivial, by rw [ht]; exact hP, va_K.moved hW.alike hK, hD⟩, hS.F ht⟩) hS.2.2 dX2_seek_33

set_option maxRecDepth 100000 in
theorem inn_X2_size_X2 : ∀ w ∈ u_ws RX2 TX2 11, w ∈ wsX2_size := by decide +kernel
def j_X2_size (th : Int32) (mn : Int32) : Option (Int32 × Int32) :=
  some (mn, (0 : Int32))
set_option maxHeartbeats 4000000 in
set_option maxRecDepth 100000 in
theorem c_X2_size (l : Launch) (dC : Nat → ClassId) (dI : Nat → Nat → Nat) (cI cJ : ClassId) (g0 : Nat) (gr : Nat) (gl : Nat) (gw : Nat) (gs : Nat) (sz : Nat) (th : Int32) (rw : Nat → Int32) (mn : Int32) (at_ : Int32) (ml : Nat → Int64) (md_l : Int32) (wd : Nat → Int32) (md : Int32) (sm : Nat → Int64) (fr : Int32) (no : Int32) (r : Int32 × Int32) (hj : j_X2_size th mn = some r) : Met l yX2_size wsX2_size ({ frames := 0, cells := 0, slots := 0, locals := 0 } : Room) (va_Pc [.ref g0] (fun U => jPr dC dI cI cJ (wM cI cJ g0 gr gl gw gs th rw mn at_ ml md_l wd md sm fr no) sz U)) (va_Qi (fun (v : Int32) (_ : Unit) => v = r.1) (fun (_ : Unit) t => jPo dC dI cI cJ (wM cI cJ g0 gr gl gw gs r.2 rw mn at_ ml md_l wd md sm fr no) (va_A (wM cI cJ g0 gr gl gw gs th rw mn at_ ml md_l wd md sm fr no) sz) t) (va_A (wM cI cJ g0 gr gl gw gs th rw mn at_ ml md_l wd md sm fr no) sz)) 0 0 (va_A (wM cI cJ g0 gr gl gw gs th rw mn at_ ml md_l wd md sm fr no) sz) := by
  refine Met.ofW (cc := cX2_size) (maxL := 1) (ret := (some .int)) (by decide) rfl ?_
  intro p e s m args below meth c s₁ B hml hv
  obtain ⟨rfl, ⟨hsz, hP, hK, hD0⟩⟩ := hv
  have hx := B.exec
  have hb := B.bytes
  have hr := B.returns
  have hts := atoms_spec (ws := wsX2_size) B.pre
  have hown : s.vm.findClass RX2 = some m.cls := findClass_of_methodNamed B.named
  have hlocks := B.notSynchronized
  have C0 := jCx.of hx hb hr hml hown hts hlocks
  subst hsz
  have hD := hD0.self (sz := s.heap.size)
  generalize hAe : va_A (wM cI cJ g0 gr gl gw gs th rw mn at_ ml md_l wd md sm fr no) s.heap.size = A at hD ⊢
  have hA : ∀ q : Nat, s.heap.size ≤ q → A q := fun q h => by rw [← hAe]; exact Or.inr h
  have hS : va_S A s.heap s.heap [] := va_S.rf
  have hP : va_P (dC, dI) vwCl (wM cI cJ g0 gr gl gw gs th rw mn at_ ml md_l wd md sm fr no) s.heap := hP
  have hl := lv_entry ([.ref g0]) (n := 1) (Nat.le_of_ble_eq_true rfl)
  rw [lg_entry_eq]
  generalize (lg_sl ([.ref g0]) ++ List.replicate (1 - (lg_sl ([.ref g0])).length) Slot.unset).toArray = ls at hl ⊢
  have hl : lv_has ls 1 [(0, .ref g0)] := hl
  clear hD0 hAe
  unfold j_X2_size at hj
  refine lv_aload_n hx hb dX2_size_0 rfl (lv_at hl 0 rfl) ?_
  refine lv_iconst (v := (0 : Int32)) hx hb dX2_size_1 (by decide) ?_
  refine va_put (D := (dC, dI)) (ci := 2) (v := .int (0 : Int32)) (ty := .int) (C := RX2) (T := TX2) (N := 11) hx hb hts inn_X2_size_X2 tyX2 tyX2_ok nmX2 hown hK hP hD hS 0 rfl rfl 0 (by decide) (hts (.fieldLink RX2 25 "SelfEndingCodesModel" "thrown" "I") (by decide +kernel)) (fun _ h9 => h9) rfl (by decide +kernel) rfl rfl (Nat.le_of_ble_eq_true rfl) dX2_size_2 (fun H locs hP hD hS => ?_)
  have hP : va_P (dC, dI) vwCl (wM cI cJ g0 gr gl gw gs (0 : Int32) rw mn at_ ml md_l wd md sm fr no) H := hP
  have hD : va_D A (wM cI cJ g0 gr gl gw gs (0 : Int32) rw mn at_ ml md_l wd md sm fr no) := hD
  refine lv_aload_n hx hb dX2_size_5 rfl (lv_at hl 0 rfl) ?_
  refine va_get (D := (dC, dI)) (ci := 2) (v := .int mn) (C := RX2) (T := TX2) (N := 11) hx hb hts inn_X2_size_X2 hown hK hP 0 rfl rfl 2 (by decide) (hts (.fieldLink RX2 82 "SelfEndingCodesModel" "many" "I") (by decide +kernel)) (fun _ h9 => h9) rfl dX2_size_6 ?_
  have hr9 : (mn, (0 : Int32)) = r := Option.some.inj hj
  subst hr9
  exact W.iret (v := mn) hx hb hr (fun t ht hW => ⟨⟨mn, (), rfl, rfl, by rw [ht]; exact hP, va_K.moved hW.alike hK, hD⟩, hS.F ht⟩) hS.2.2 dX2_size_9

set_option maxRecDepth 100000 in
theorem inn_X2_take_X2 : ∀ w ∈ u_ws RX2 TX2 11, w ∈ wsX2_take := by decide +kernel
def j_X2_take (th : Int32) (rw : Nat → Int32) (mn : Int32) (at_ : Int32) (sm : Nat → Int64) (fr : Int32) (no : Int32) (a1 : Int32) (a2 : Int32) : Option (Int64 × Int32 × Int32 × Int32 × Int32) :=
  (j_X2_noKind a1 a2).bind fun v1 => (if v1 = (0 : Int32) then ((j_X2_reads rw mn at_ sm fr no a1 a2).bind fun (v4, v5, v6, v7) => (some (v4, (0 : Int32), v5, v6, v7))) else (some ((0 : Int64), (1 : Int32), at_, fr, no)))
set_option maxHeartbeats 4000000 in
set_option maxRecDepth 100000 in
theorem c_X2_take (l : Launch) (dC : Nat → ClassId) (dI : Nat → Nat → Nat) (cI cJ : ClassId) (g0 : Nat) (gr : Nat) (gl : Nat) (gw : Nat) (gs : Nat) (sz : Nat) (th : Int32) (rw : Nat → Int32) (mn : Int32) (at_ : Int32) (ml : Nat → Int64) (md_l : Int32) (wd : Nat → Int32) (md : Int32) (sm : Nat → Int64) (fr : Int32) (no : Int32) (a1 : Int32) (a2 : Int32) (r : Int64 × Int32 × Int32 × Int32 × Int32) (hj : j_X2_take th rw mn at_ sm fr no a1 a2 = some r) : Met l yX2_take wsX2_take ({ frames := 5, cells := 0, slots := 0, locals := 118 } : Room) (va_Pc [.ref g0, .int a1, .int a2] (fun U => jPr dC dI cI cJ (wM cI cJ g0 gr gl gw gs th rw mn at_ ml md_l wd md sm fr no) sz U)) (va_Ql (fun (v : Int64) (_ : Unit) => v = r.1) (fun (_ : Unit) t => jPo dC dI cI cJ (wM cI cJ g0 gr gl gw gs r.2.1 rw mn r.2.2.1 ml md_l wd md sm r.2.2.2.1 r.2.2.2.2) (va_A (wM cI cJ g0 gr gl gw gs th rw mn at_ ml md_l wd md sm fr no) sz) t) (va_A (wM cI cJ g0 gr gl gw gs th rw mn at_ ml md_l wd md sm fr no) sz)) 0 0 (va_A (wM cI cJ g0 gr gl gw gs th rw mn at_ ml md_l wd md sm fr no) sz) := by
  refine Met.ofW (cc := cX2_take) (maxL := 3) (ret := (some .long)) (by decide) rfl ?_
  intro p e s m args below meth c s₁ B hml hv
  obtain ⟨rfl, ⟨hsz, hP, hK, hD0⟩⟩ := hv
  have hx := B.exec
  have hb := B.bytes
  have hr := B.returns
  have hts := atoms_spec (ws := wsX2_take) B.pre
  have hown : s.vm.findClass RX2 = some m.cls := findClass_of_methodNamed B.named
  have hlocks := B.notSynchronized
  have C0 := jCx.of hx hb hr hml hown hts hlocks
  subst hsz
  have hD := hD0.self (sz := s.heap.size)
  generalize hAe : va_A (wM cI cJ g0 gr gl gw gs th rw mn at_ ml md_l wd md sm fr no) s.heap.size = A at hD ⊢
  have hA : ∀ q : Nat, s.heap.size ≤ q → A q := fun q h => by rw [← hAe]; exact Or.inr h
  have hS : va_S A s.heap s.heap [] := va_S.rf
  have hP : va_P (dC, dI) vwCl (wM cI cJ g0 gr gl gw gs th rw mn at_ ml md_l wd md sm fr no) s.heap := hP
  have hl := lv_entry ([.ref g0, .int a1, .int a2]) (n := 3) (Nat.le_of_ble_eq_true rfl)
  rw [lg_entry_eq]
  generalize (lg_sl ([.ref g0, .int a1, .int a2]) ++ List.replicate (3 - (lg_sl ([.ref g0, .int a1, .int a2])).length) Slot.unset).toArray = ls at hl ⊢
  have hl : lv_has ls 3 [(0, .ref g0), (1, .int a1), (2, .int a2)] := hl
  clear hD0 hAe
  unfold j_X2_take at hj
  refine lv_aload_n hx hb dX2_take_0 rfl (lv_at hl 0 rfl) ?_
  refine lv_iload_n hx hb dX2_take_1 rfl (lv_at hl 1 rfl) ?_
  refine lv_iload_n hx hb dX2_take_2 rfl (lv_at hl 2 rfl) ?_
  obtain ⟨v1, hc, hj⟩ := ja_bd hj
  try dsimp only at hj
  have hPc := hP.sub (ws' := ([] : va_W)) [] rfl
  have hDc := hD.sub (ws' := ([] : va_W)) [] (by decide) rfl
  have hFc := va_free (wc := ([] : va_W)) hD hS hA [] rfl
  refine va_calli (va_runS (As := [.int a1, .int a2]) (rest := [.ref g0]) ⟨hx, hb, hml, hown, hts⟩ (c_X2_noKind l dC dI cI cJ s.heap.size a1 a2 _ hc) (va_cwS 2 hts gX2_take_X2_noKind rfl rfl rfl (by decide +kernel) ⟨Nat.le_of_ble_eq_true rfl, Nat.le_of_ble_eq_true rfl⟩) ⟨fun a U g mk q => ⟨q.1, jPr.blind q.2⟩, fun U hU hW => ⟨rfl, jPr.mk hU hW hPc hK hDc⟩⟩ rfl rfl hl.1 rfl (lv_room (Nat.le_of_ble_eq_true rfl)) dX2_take_3 ⟨Nat.le_of_ble_eq_true rfl, Nat.le_of_ble_eq_true rfl⟩) hS (fun q _ h => hFc q h) hFc (fun rr u t H1 locs ht hvm hw9 hB hz1 hk1 hS => ?_)
  have hw8 : v1 = rr := hw9.symm
  subst hw8
  obtain ⟨hP1, hK1, hD1⟩ := hB
  rw [ht] at hP1
  obtain ⟨hP, hD⟩ := va_join (wr := ([(g0, .inr (2, [.int th, .ref gr, .int mn, .int at_, .ref gl, .int md_l, .ref gw, .int md, .ref gs, .int fr, .int no])), (gr, .inl (cI, 4096, .inl rw)), (gl, .inl (cJ, 100, .inr (.inl ml))), (gw, .inl (cI, 4200, .inl wd)), (gs, .inl (cJ, 92, .inr (.inl sm)))] : va_W)) (w1 := ([] : va_W)) hP hD [] [0, 1, 2, 3, 4] rfl rfl (by decide) (by decide) hk1 hFc hP1 hD1
  clear hk1 hP1 hK1 hD1 hvm hz1 hPc hDc hFc
  generalize H1 = H at hP hS ⊢
  have hP : va_P (dC, dI) vwCl (wM cI cJ g0 gr gl gw gs th rw mn at_ ml md_l wd md sm fr no) H := hP
  have hD : va_D A (wM cI cJ g0 gr gl gw gs th rw mn at_ ml md_l wd md sm fr no) := hD
  refine lv_if_eq (tgt := 13) hx hb dX2_take_6 (by decide) (fun c2 => ?_) (fun c2 => ?_)
  · replace hj := ja_pos c2 hj
    refine lv_iconst (v := (0 : Int32)) hx hb dX2_take_13 (by decide) ?_
    refine va_put (D := (dC, dI)) (ci := 2) (v := .int (0 : Int32)) (ty := .int) (C := RX2) (T := TX2) (N := 11) hx hb hts inn_X2_take_X2 tyX2 tyX2_ok nmX2 hown hK hP hD hS 0 rfl rfl 0 (by decide) (hts (.fieldLink RX2 25 "SelfEndingCodesModel" "thrown" "I") (by decide +kernel)) (fun _ h9 => h9) rfl (by decide +kernel) rfl rfl (Nat.le_of_ble_eq_true rfl) dX2_take_14 (fun H locs hP hD hS => ?_)
    have hP : va_P (dC, dI) vwCl (wM cI cJ g0 gr gl gw gs (0 : Int32) rw mn at_ ml md_l wd md sm fr no) H := hP
    have hD : va_D A (wM cI cJ g0 gr gl gw gs (0 : Int32) rw mn at_ ml md_l wd md sm fr no) := hD
    refine lv_aload_n hx hb dX2_take_17 rfl (lv_at hl 0 rfl) ?_
    refine va_get (D := (dC, dI)) (ci := 2) (v := .int (0 : Int32)) (C := RX2) (T := TX2) (N := 11) hx hb hts inn_X2_take_X2 hown hK hP 0 rfl rfl 0 (by decide) (hts (.fieldLink RX2 25 "SelfEndingCodesModel" "thrown" "I") (by decide +kernel)) (fun _ h9 => h9) rfl dX2_take_18 ?_
    refine lv_if_le (tgt := 28) hx hb dX2_take_21 (by decide) (fun _ => ?_) (fun h9 => absurd (by decide) h9)
    refine lv_aload_n hx hb dX2_take_28 rfl (lv_at hl 0 rfl) ?_
    refine lv_iload_n hx hb dX2_take_29 rfl (lv_at hl 1 rfl) ?_
    refine lv_iload_n hx hb dX2_take_30 rfl (lv_at hl 2 rfl) ?_
    obtain ⟨⟨v4, v5, v6, v7⟩, hc, hj⟩ := ja_bd hj
    try dsimp only at hj
    have hPc := hP.sub (ws' := (wM cI cJ g0 gr gl gw gs (0 : Int32) rw mn at_ ml md_l wd md sm fr no)) [0, 1, 2, 3, 4] rfl
    have hDc := hD.sub (ws' := (wM cI cJ g0 gr gl gw gs (0 : Int32) rw mn at_ ml md_l wd md sm fr no)) [0, 1, 2, 3, 4] (by decide) rfl
    have hFc := va_free (wc := (wM cI cJ g0 gr gl gw gs (0 : Int32) rw mn at_ ml md_l wd md sm fr no)) hD hS hA [0, 1, 2, 3, 4] rfl
    refine va_calll (va_runV (As := [.int a1, .int a2]) (rest := []) ⟨hx, hb, hml, hown, hts⟩ (c_X2_reads l dC dI cI cJ g0 gr gl gw gs H.size (0 : Int32) rw mn at_ ml md_l wd md sm fr no a1 a2 _ hc) (cwV 2 hts gX2_take_X2_reads rfl rfl rfl (by decide +kernel) ⟨Nat.le_of_ble_eq_true rfl, Nat.le_of_ble_eq_true rfl⟩) ⟨fun a U g mk q => ⟨q.1, jPr.blind q.2⟩, va_recv hK hPc (ci := 2) (q0 := 0) rfl rfl, fun U hU hW => ⟨rfl, jPr.mk hU hW hPc hK hDc⟩⟩ rfl rfl hl.1 rfl (lv_room (Nat.le_of_ble_eq_true rfl)) dX2_take_31 ⟨Nat.le_of_ble_eq_true rfl, Nat.le_of_ble_eq_true rfl⟩) hS (fun q _ h => hFc q h) hFc (fun rr u t H1 locs ht hvm hw9 hB hz1 hk1 hS => ?_)
    have hw8 : v4 = rr := hw9.symm
    subst hw8
    obtain ⟨hP1, hK1, hD1⟩ := hB
    rw [ht] at hP1
    obtain ⟨hP, hD⟩ := va_join (wr := ([] : va_W)) (w1 := (wM cI cJ g0 gr gl gw gs (0 : Int32) rw mn v5 ml md_l wd md sm v6 v7)) hP hD [0, 1, 2, 3, 4] [] rfl rfl (by decide) (by decide) hk1 hFc hP1 hD1
    clear hk1 hP1 hK1 hD1 hvm hz1 hPc hDc hFc
    generalize H1 = H at hP hS ⊢
    have hP : va_P (dC, dI) vwCl (wM cI cJ g0 gr gl gw gs (0 : Int32) rw mn v5 ml md_l wd md sm v6 v7) H := hP
    have hD : va_D A (wM cI cJ g0 gr gl gw gs (0 : Int32) rw mn v5 ml md_l wd md sm v6 v7) := hD
    have hr9 : (v4, (0 : Int32), v5, v6, v7) = r := Option.some.inj hj
    subst hr9
    exact W.lret (v := v4) hx hb hr (fun t ht hW => ⟨⟨v4, (), rfl, rfl, by rw [ht]; exact hP, va_K.moved hW.alike hK, hD⟩, hS.F ht⟩) hS.2.2 dX2_take_34
  · replace hj := ja_neg c2 hj
    refine lv_iconst (v := (1 : Int32)) hx hb dX2_take_9 (by decide) ?_
    refine lv_goto (tgt := 14) hx hb dX2_take_10 (by decide) ?_
    refine va_put (D := (dC, dI)) (ci := 2) (v := .int (1 : Int32)) (ty := .int) (C := RX2) (T := TX2) (N := 11) hx hb hts inn_X2_take_X2 tyX2 tyX2_ok nmX2 hown hK hP hD hS 0 rfl rfl 0 (by decide) (hts (.fieldLink RX2 25 "SelfEndingCodesModel" "thrown" "I") (by decide +kernel)) (fun _ h9 => h9) rfl (by decide +kernel) rfl rfl (Nat.le_of_ble_eq_true rfl) dX2_take_14 (fun H locs hP hD hS => ?_)
    have hP : va_P (dC, dI) vwCl (wM cI cJ g0 gr gl gw gs (1 : Int32) rw mn at_ ml md_l wd md sm fr no) H := hP
    have hD : va_D A (wM cI cJ g0 gr gl gw gs (1 : Int32) rw mn at_ ml md_l wd md sm fr no) := hD
    refine lv_aload_n hx hb dX2_take_17 rfl (lv_at hl 0 rfl) ?_
    refine va_get (D := (dC, dI)) (ci := 2) (v := .int (1 : Int32)) (C := RX2) (T := TX2) (N := 11) hx hb hts inn_X2_take_X2 hown hK hP 0 rfl rfl 0 (by decide) (hts (.fieldLink RX2 25 "SelfEndingCodesModel" "thrown" "I") (by decide +kernel)) (fun _ h9 => h9) rfl dX2_take_18 ?_
    refine lv_if_le (tgt := 28) hx hb dX2_take_21 (by decide) (fun h9 => absurd h9 (by decide)) (fun _ => ?_)
    refine lv_lconst (v := (0 : Int64)) hx hb dX2_take_24 (by decide) ?_
    refine lv_goto (tgt := 34) hx hb dX2_take_25 (by decide) ?_
    have hr9 : ((0 : Int64), (1 : Int32), at_, fr, no) = r := Option.some.inj hj
    subst hr9
    exact W.lret (v := (0 : Int64)) hx hb hr (fun t ht hW => ⟨⟨(0 : Int64), (), rfl, rfl, by rw [ht]; exact hP, va_K.moved hW.alike hK, hD⟩, hS.F ht⟩) hS.2.2 dX2_take_34

set_option maxRecDepth 100000 in
theorem inn_X2_takeAll_X2 : ∀ w ∈ u_ws RX2 TX2 11, w ∈ wsX2_takeAll := by decide +kernel
def jL_X2_takeAll_33 (th : Int32) (rw : Nat → Int32) (mn : Int32) (sm : Nat → Int64) (x1 : Int32) (x2 : Int32) : Nat → Int32 → Int32 → (Nat → Int64) → Int32 → Int32 → Int32 → Option (Int32 × Int32 × Int32 × (Nat → Int64) × Int32 × Int32 × Int32)
  | 0, _, _, _, _, _, _ => none
  | n + 1, x3, at_, ml, md_l, fr, no => if x3 = (0 : Int32) then (some (md_l, th, at_, ml, md_l, fr, no)) else (if (100 : Int32) ≤ md_l then (some (md_l, th, at_, ml, md_l, fr, no)) else ((j_X2_reads rw mn at_ sm fr no x1 x2).bind fun (v3303, v3304, v3305, v3306) => (if v3303 = (-1 : Int64) then (jL_X2_takeAll_33 th rw mn sm x1 x2 n (0 : Int32) v3304 ml md_l v3305 v3306) else (jix md_l 100 (jL_X2_takeAll_33 th rw mn sm x1 x2 n (1 : Int32) v3304 (vp_updL ml md_l.toNatClampNeg v3303) (md_l + (1 : Int32)) v3305 v3306)))))
set_option maxHeartbeats 4000000 in
set_option maxRecDepth 100000 in
theorem s_X2_takeAll_33 {p : Program} {l : Launch} {e : Env} {s : State} {m : MethodId} {args : Array Value} {below : List Frame} {meth : Method} {c : Code} {dC : Nat → ClassId} {dI : Nat → Nat → Nat} {cI cJ : ClassId} {A : Nat → Prop} (C0 : jCx p s m args meth c RX2 cX2_takeAll 6 (some .int) wsX2_takeAll) (hK : va_K (dC, dI) vwCl (jTy cI cJ) s) (hA : ∀ q : Nat, s.heap.size ≤ q → A q) (g0 : Nat) (gr : Nat) (gl : Nat) (gw : Nat) (gs : Nat) (th : Int32) (rw : Nat → Int32) (mn : Int32) (wd : Nat → Int32) (md : Int32) (sm : Nat → Int64) (x1 : Int32) (x2 : Int32) :
    ∀ (n : Nat) (x3 : Int32) (at_ : Int32) (ml : Nat → Int64) (md_l : Int32) (fr : Int32) (no : Int32) (r : Int32 × Int32 × Int32 × (Nat → Int64) × Int32 × Int32 × Int32), jL_X2_takeAll_33 th rw mn sm x1 x2 n x3 at_ ml md_l fr no = some r → ∀ (H : Heap) (locs : List Loc) (ls : Array Slot), va_P (dC, dI) vwCl (wM cI cJ g0 gr gl gw gs th rw mn at_ ml md_l wd md sm fr no) H → va_D A (wM cI cJ g0 gr gl gw gs th rw mn at_ ml md_l wd md sm fr no) → va_S A s.heap H locs → lv_has ls 6 [(0, .ref g0), (1, .int x1), (2, .int x2), (3, .int x3)] → W p l e ({ frames := 5, cells := 0, slots := 0, locals := 118 } : Room) s m args below meth c H locs 0 0 (MQ below (va_Qi (fun (v : Int32) (_ : Unit) => v = r.1) (fun (_ : Unit) t => jPo dC dI cI cJ (wM cI cJ g0 gr gl gw gs r.2.1 rw mn r.2.2.1 r.2.2.2.1 r.2.2.2.2.1 wd md sm r.2.2.2.2.2.1 r.2.2.2.2.2.2) A t) A) args s 0 0 A) (F0 m 33 ls []) := by
  obtain ⟨hx, hb, hr, hml, hown, hts, hlocks⟩ := id C0
  intro n
  induction n with
  | zero =>
    intro x3 at_ ml md_l fr no r hj
    exact nomatch (show (none : Option (Int32 × Int32 × Int32 × (Nat → Int64) × Int32 × Int32 × Int32)) = some r from hj)
  | succ n ih =>
    intro x3 at_ ml md_l fr no r hj H locs ls hP hD hS hl
    replace hj : (if x3 = (0 : Int32) then (some (md_l, th, at_, ml, md_l, fr, no)) else (if (100 : Int32) ≤ md_l then (some (md_l, th, at_, ml, md_l, fr, no)) else ((j_X2_reads rw mn at_ sm fr no x1 x2).bind fun (v3303, v3304, v3305, v3306) => (if v3303 = (-1 : Int64) then (jL_X2_takeAll_33 th rw mn sm x1 x2 n (0 : Int32) v3304 ml md_l v3305 v3306) else (jix md_l 100 (jL_X2_takeAll_33 th rw mn sm x1 x2 n (1 : Int32) v3304 (vp_updL ml md_l.toNatClampNeg v3303) (md_l + (1 : Int32)) v3305 v3306)))))) = some r := hj
    refine lv_iload_n hx hb dX2_takeAll_33 rfl (lv_at hl 3 rfl) ?_
    refine lv_if_eq (tgt := 97) hx hb dX2_takeAll_34 (by decide) (fun c3301 => ?_) (fun c3301 => ?_)
    · replace hj := ja_pos c3301 hj
      refine lv_aload_n hx hb dX2_takeAll_97 rfl (lv_at hl 0 rfl) ?_
      refine va_get (D := (dC, dI)) (ci := 2) (v := .int md_l) (C := RX2) (T := TX2) (N := 11) hx hb hts inn_X2_takeAll_X2 hown hK hP 0 rfl rfl 5 (by decide) (hts (.fieldLink RX2 167 "SelfEndingCodesModel" "listed" "I") (by decide +kernel)) (fun _ h9 => h9) rfl dX2_takeAll_98 ?_
      have hr9 : (md_l, th, at_, ml, md_l, fr, no) = r := Option.some.inj hj
      subst hr9
      exact W.iret (v := md_l) hx hb hr (fun t ht hW => ⟨⟨md_l, (), rfl, rfl, by rw [ht]; exact hP, va_K.moved hW.alike hK, hD⟩, hS.F ht⟩) hS.2.2 dX2_takeAll_101
    · replace hj := ja_neg c3301 hj
      refine lv_aload_n hx hb dX2_takeAll_37 rfl (lv_at hl 0 rfl) ?_
      refine va_get (D := (dC, dI)) (ci := 2) (v := .int md_l) (C := RX2) (T := TX2) (N := 11) hx hb hts inn_X2_takeAll_X2 hown hK hP 0 rfl rfl 5 (by decide) (hts (.fieldLink RX2 167 "SelfEndingCodesModel" "listed" "I") (by decide +kernel)) (fun _ h9 => h9) rfl dX2_takeAll_38 ?_
      refine lv_bipush (v := (100 : Int32)) hx hb dX2_takeAll_41 (by decide) ?_
      refine lv_icmp_ge (tgt := 97) hx hb dX2_takeAll_43 (by decide) (fun c3302 => ?_) (fun c3302 => ?_)
      · replace hj := ja_pos c3302 hj
        refine lv_aload_n hx hb dX2_takeAll_97 rfl (lv_at hl 0 rfl) ?_
        refine va_get (D := (dC, dI)) (ci := 2) (v := .int md_l) (C := RX2) (T := TX2) (N := 11) hx hb hts inn_X2_takeAll_X2 hown hK hP 0 rfl rfl 5 (by decide) (hts (.fieldLink RX2 167 "SelfEndingCodesModel" "listed" "I") (by decide +kernel)) (fun _ h9 => h9) rfl dX2_takeAll_98 ?_
        have hr9 : (md_l, th, at_, ml, md_l, fr, no) = r := Option.some.inj hj
        subst hr9
        exact W.iret (v := md_l) hx hb hr (fun t ht hW => ⟨⟨md_l, (), rfl, rfl, by rw [ht]; exact hP, va_K.moved hW.alike hK, hD⟩, hS.F ht⟩) hS.2.2 dX2_takeAll_101
      · replace hj := ja_neg c3302 hj
        refine lv_aload_n hx hb dX2_takeAll_46 rfl (lv_at hl 0 rfl) ?_
        refine lv_iload_n hx hb dX2_takeAll_47 rfl (lv_at hl 1 rfl) ?_
        refine lv_iload_n hx hb dX2_takeAll_48 rfl (lv_at hl 2 rfl) ?_
        obtain ⟨⟨v3303, v3304, v3305, v3306⟩, hc, hj⟩ := ja_bd hj
        try dsimp only at hj
        have hPc := hP.sub (ws' := (wM cI cJ g0 gr gl gw gs th rw mn at_ ml md_l wd md sm fr no)) [0, 1, 2, 3, 4] rfl
        have hDc := hD.sub (ws' := (wM cI cJ g0 gr gl gw gs th rw mn at_ ml md_l wd md sm fr no)) [0, 1, 2, 3, 4] (by decide) rfl
        have hFc := va_free (wc := (wM cI cJ g0 gr gl gw gs th rw mn at_ ml md_l wd md sm fr no)) hD hS hA [0, 1, 2, 3, 4] rfl
        refine va_calll (va_runV (As := [.int x1, .int x2]) (rest := []) ⟨hx, hb, hml, hown, hts⟩ (c_X2_reads l dC dI cI cJ g0 gr gl gw gs H.size th rw mn at_ ml md_l wd md sm fr no x1 x2 _ hc) (cwV 2 hts gX2_takeAll_X2_reads rfl rfl rfl (by decide +kernel) ⟨Nat.le_of_ble_eq_true rfl, Nat.le_of_ble_eq_true rfl⟩) ⟨fun a U g mk q => ⟨q.1, jPr.blind q.2⟩, va_recv hK hPc (ci := 2) (q0 := 0) rfl rfl, fun U hU hW => ⟨rfl, jPr.mk hU hW hPc hK hDc⟩⟩ rfl rfl hl.1 rfl (lv_room (Nat.le_of_ble_eq_true rfl)) dX2_takeAll_49 ⟨Nat.le_of_ble_eq_true rfl, Nat.le_of_ble_eq_true rfl⟩) hS (fun q _ h => hFc q h) hFc (fun rr u t H1 locs ht hvm hw9 hB hz1 hk1 hS => ?_)
        have hw8 : v3303 = rr := hw9.symm
        subst hw8
        obtain ⟨hP1, hK1, hD1⟩ := hB
        rw [ht] at hP1
        obtain ⟨hP, hD⟩ := va_join (wr := ([] : va_W)) (w1 := (wM cI cJ g0 gr gl gw gs th rw mn v3304 ml md_l wd md sm v3305 v3306)) hP hD [0, 1, 2, 3, 4] [] rfl rfl (by decide) (by decide) hk1 hFc hP1 hD1
        clear hk1 hP1 hK1 hD1 hvm hz1 hPc hDc hFc
        generalize H1 = H at hP hS ⊢
        have hP : va_P (dC, dI) vwCl (wM cI cJ g0 gr gl gw gs th rw mn v3304 ml md_l wd md sm v3305 v3306) H := hP
        have hD : va_D A (wM cI cJ g0 gr gl gw gs th rw mn v3304 ml md_l wd md sm v3305 v3306) := hD
        refine lv_lstore (lv' := [(4, .long v3303), (0, .ref g0), (1, .int x1), (2, .int x2), (3, .int x3)]) hx hb dX2_takeAll_52 hl (by decide) rfl (fun ls hl => ?_)
        refine lv_lload hx hb dX2_takeAll_54 (lv_at hl 0 rfl) ?_
        refine lv_ldc2 (v := (-1 : Int64)) hx hb hown (hts (.constantLong RX2 135 (-1)) (by decide +kernel)) dX2_takeAll_56 ?_
        refine W.lcmp hx hb dX2_takeAll_59 ?_
        refine lv_if_eq (tgt := 67) hx hb dX2_takeAll_60 (by decide) (fun c3307 => ?_) (fun c3307 => ?_)
        · replace hj := ja_pos ((lg_cmp_eq v3303 (-1 : Int64)).mp c3307) hj
          refine lv_iconst (v := (0 : Int32)) hx hb dX2_takeAll_67 (by decide) ?_
          refine lv_istore_n (lv' := [(3, .int (0 : Int32)), (4, .long v3303), (0, .ref g0), (1, .int x1), (2, .int x2)]) hx hb dX2_takeAll_68 rfl hl (by decide) rfl (fun ls hl => ?_)
          refine lv_iload_n hx hb dX2_takeAll_69 rfl (lv_at hl 0 rfl) ?_
          refine lv_if_eq (tgt := 94) hx hb dX2_takeAll_70 (by decide) (fun _ => ?_) (fun h9 => absurd (by decide) h9)
          refine lv_goto (tgt := 33) hx hb dX2_takeAll_94 (by decide) ?_
          exact ih (0 : Int32) v3304 ml md_l v3305 v3306 _ hj _ _ _ (hP) (hD) hS (lv_sub hl [2, 3, 4, 0] rfl)
        · replace hj := ja_neg (fun h9 => c3307 ((lg_cmp_eq v3303 (-1 : Int64)).mpr h9)) hj
          refine lv_iconst (v := (1 : Int32)) hx hb dX2_takeAll_63 (by decide) ?_
          refine lv_goto (tgt := 68) hx hb dX2_takeAll_64 (by decide) ?_
          refine lv_istore_n (lv' := [(3, .int (1 : Int32)), (4, .long v3303), (0, .ref g0), (1, .int x1), (2, .int x2)]) hx hb dX2_takeAll_68 rfl hl (by decide) rfl (fun ls hl => ?_)
          refine lv_iload_n hx hb dX2_takeAll_69 rfl (lv_at hl 0 rfl) ?_
          refine lv_if_eq (tgt := 94) hx hb dX2_takeAll_70 (by decide) (fun h9 => absurd h9 (by decide)) (fun _ => ?_)
          refine lv_aload_n hx hb dX2_takeAll_73 rfl (lv_at hl 2 rfl) ?_
          refine va_get (D := (dC, dI)) (ci := 2) (v := .ref gl) (C := RX2) (T := TX2) (N := 11) hx hb hts inn_X2_takeAll_X2 hown hK hP 0 rfl rfl 4 (by decide) (hts (.fieldLink RX2 13 "SelfEndingCodesModel" "list" "[J") (by decide +kernel)) (fun _ h9 => h9) rfl dX2_takeAll_74 ?_
          refine lv_aload_n hx hb dX2_takeAll_77 rfl (lv_at hl 2 rfl) ?_
          refine va_get (D := (dC, dI)) (ci := 2) (v := .int md_l) (C := RX2) (T := TX2) (N := 11) hx hb hts inn_X2_takeAll_X2 hown hK hP 0 rfl rfl 5 (by decide) (hts (.fieldLink RX2 167 "SelfEndingCodesModel" "listed" "I") (by decide +kernel)) (fun _ h9 => h9) rfl dX2_takeAll_78 ?_
          refine lv_lload hx hb dX2_takeAll_81 (lv_at hl 1 rfl) ?_
          obtain ⟨hin, hj⟩ := ja_ix hj
          refine va_last hx hb hK hP hD hS 2 1 rfl rfl hin dX2_takeAll_83 (fun H locs hP hD hS => ?_)
          have hP : va_P (dC, dI) vwCl (wM cI cJ g0 gr gl gw gs th rw mn v3304 (vp_updL ml md_l.toNatClampNeg v3303) md_l wd md sm v3305 v3306) H := hP
          have hD : va_D A (wM cI cJ g0 gr gl gw gs th rw mn v3304 (vp_updL ml md_l.toNatClampNeg v3303) md_l wd md sm v3305 v3306) := hD
          refine lv_aload_n hx hb dX2_takeAll_84 rfl (lv_at hl 2 rfl) ?_
          refine lv_dup hx hb dX2_takeAll_85 rfl ?_
          refine va_get (D := (dC, dI)) (ci := 2) (v := .int md_l) (C := RX2) (T := TX2) (N := 11) hx hb hts inn_X2_takeAll_X2 hown hK hP 0 rfl rfl 5 (by decide) (hts (.fieldLink RX2 167 "SelfEndingCodesModel" "listed" "I") (by decide +kernel)) (fun _ h9 => h9) rfl dX2_takeAll_86 ?_
          refine lv_iconst (v := (1 : Int32)) hx hb dX2_takeAll_89 (by decide) ?_
          refine lv_iadd hx hb dX2_takeAll_90 ?_
          refine va_put (D := (dC, dI)) (ci := 2) (v := .int (md_l + (1 : Int32))) (ty := .int) (C := RX2) (T := TX2) (N := 11) hx hb hts inn_X2_takeAll_X2 tyX2 tyX2_ok nmX2 hown hK hP hD hS 0 rfl rfl 5 (by decide) (hts (.fieldLink RX2 167 "SelfEndingCodesModel" "listed" "I") (by decide +kernel)) (fun _ h9 => h9) rfl (by decide +kernel) rfl rfl (Nat.le_of_ble_eq_true rfl) dX2_takeAll_91 (fun H locs hP hD hS => ?_)
          have hP : va_P (dC, dI) vwCl (wM cI cJ g0 gr gl gw gs th rw mn v3304 (vp_updL ml md_l.toNatClampNeg v3303) (md_l + (1 : Int32)) wd md sm v3305 v3306) H := hP
          have hD : va_D A (wM cI cJ g0 gr gl gw gs th rw mn v3304 (vp_updL ml md_l.toNatClampNeg v3303) (md_l + (1 : Int32)) wd md sm v3305 v3306) := hD
          refine lv_goto (tgt := 33) hx hb dX2_takeAll_94 (by decide) ?_
          exact ih (1 : Int32) v3304 (vp_updL ml md_l.toNatClampNeg v3303) (md_l + (1 : Int32)) v3305 v3306 _ hj _ _ _ (hP) (hD) hS (lv_sub hl [2, 3, 4, 0] rfl)
def j_X2_takeAll (th : Int32) (rw : Nat → Int32) (mn : Int32) (at_ : Int32) (ml : Nat → Int64) (md_l : Int32) (sm : Nat → Int64) (fr : Int32) (no : Int32) (a1 : Int32) (a2 : Int32) : Option (Int32 × Int32 × Int32 × (Nat → Int64) × Int32 × Int32 × Int32) :=
  (j_X2_noKind a1 a2).bind fun v1 => (if v1 = (0 : Int32) then (jL_X2_takeAll_33 (0 : Int32) rw mn sm a1 a2 jF (1 : Int32) at_ ml (0 : Int32) fr no) else (some ((0 : Int32), (1 : Int32), at_, ml, md_l, fr, no)))
set_option maxHeartbeats 4000000 in
set_option maxRecDepth 100000 in
theorem c_X2_takeAll (l : Launch) (dC : Nat → ClassId) (dI : Nat → Nat → Nat) (cI cJ : ClassId) (g0 : Nat) (gr : Nat) (gl : Nat) (gw : Nat) (gs : Nat) (sz : Nat) (th : Int32) (rw : Nat → Int32) (mn : Int32) (at_ : Int32) (ml : Nat → Int64) (md_l : Int32) (wd : Nat → Int32) (md : Int32) (sm : Nat → Int64) (fr : Int32) (no : Int32) (a1 : Int32) (a2 : Int32) (r : Int32 × Int32 × Int32 × (Nat → Int64) × Int32 × Int32 × Int32) (hj : j_X2_takeAll th rw mn at_ ml md_l sm fr no a1 a2 = some r) : Met l yX2_takeAll wsX2_takeAll ({ frames := 5, cells := 0, slots := 0, locals := 118 } : Room) (va_Pc [.ref g0, .int a1, .int a2] (fun U => jPr dC dI cI cJ (wM cI cJ g0 gr gl gw gs th rw mn at_ ml md_l wd md sm fr no) sz U)) (va_Qi (fun (v : Int32) (_ : Unit) => v = r.1) (fun (_ : Unit) t => jPo dC dI cI cJ (wM cI cJ g0 gr gl gw gs r.2.1 rw mn r.2.2.1 r.2.2.2.1 r.2.2.2.2.1 wd md sm r.2.2.2.2.2.1 r.2.2.2.2.2.2) (va_A (wM cI cJ g0 gr gl gw gs th rw mn at_ ml md_l wd md sm fr no) sz) t) (va_A (wM cI cJ g0 gr gl gw gs th rw mn at_ ml md_l wd md sm fr no) sz)) 0 0 (va_A (wM cI cJ g0 gr gl gw gs th rw mn at_ ml md_l wd md sm fr no) sz) := by
  refine Met.ofW (cc := cX2_takeAll) (maxL := 6) (ret := (some .int)) (by decide) rfl ?_
  intro p e s m args below meth c s₁ B hml hv
  obtain ⟨rfl, ⟨hsz, hP, hK, hD0⟩⟩ := hv
  have hx := B.exec
  have hb := B.bytes
  have hr := B.returns
  have hts := atoms_spec (ws := wsX2_takeAll) B.pre
  have hown : s.vm.findClass RX2 = some m.cls := findClass_of_methodNamed B.named
  have hlocks := B.notSynchronized
  have C0 := jCx.of hx hb hr hml hown hts hlocks
  subst hsz
  have hD := hD0.self (sz := s.heap.size)
  generalize hAe : va_A (wM cI cJ g0 gr gl gw gs th rw mn at_ ml md_l wd md sm fr no) s.heap.size = A at hD ⊢
  have hA : ∀ q : Nat, s.heap.size ≤ q → A q := fun q h => by rw [← hAe]; exact Or.inr h
  have hS : va_S A s.heap s.heap [] := va_S.rf
  have hP : va_P (dC, dI) vwCl (wM cI cJ g0 gr gl gw gs th rw mn at_ ml md_l wd md sm fr no) s.heap := hP
  have hl := lv_entry ([.ref g0, .int a1, .int a2]) (n := 6) (Nat.le_of_ble_eq_true rfl)
  rw [lg_entry_eq]
  generalize (lg_sl ([.ref g0, .int a1, .int a2]) ++ List.replicate (6 - (lg_sl ([.ref g0, .int a1, .int a2])).length) Slot.unset).toArray = ls at hl ⊢
  have hl : lv_has ls 6 [(0, .ref g0), (1, .int a1), (2, .int a2)] := hl
  clear hD0 hAe
  unfold j_X2_takeAll at hj
  refine lv_aload_n hx hb dX2_takeAll_0 rfl (lv_at hl 0 rfl) ?_
  refine lv_iload_n hx hb dX2_takeAll_1 rfl (lv_at hl 1 rfl) ?_
  refine lv_iload_n hx hb dX2_takeAll_2 rfl (lv_at hl 2 rfl) ?_
  obtain ⟨v1, hc, hj⟩ := ja_bd hj
  try dsimp only at hj
  have hPc := hP.sub (ws' := ([] : va_W)) [] rfl
  have hDc := hD.sub (ws' := ([] : va_W)) [] (by decide) rfl
  have hFc := va_free (wc := ([] : va_W)) hD hS hA [] rfl
  refine va_calli (va_runS (As := [.int a1, .int a2]) (rest := [.ref g0]) ⟨hx, hb, hml, hown, hts⟩ (c_X2_noKind l dC dI cI cJ s.heap.size a1 a2 _ hc) (va_cwS 2 hts gX2_takeAll_X2_noKind rfl rfl rfl (by decide +kernel) ⟨Nat.le_of_ble_eq_true rfl, Nat.le_of_ble_eq_true rfl⟩) ⟨fun a U g mk q => ⟨q.1, jPr.blind q.2⟩, fun U hU hW => ⟨rfl, jPr.mk hU hW hPc hK hDc⟩⟩ rfl rfl hl.1 rfl (lv_room (Nat.le_of_ble_eq_true rfl)) dX2_takeAll_3 ⟨Nat.le_of_ble_eq_true rfl, Nat.le_of_ble_eq_true rfl⟩) hS (fun q _ h => hFc q h) hFc (fun rr u t H1 locs ht hvm hw9 hB hz1 hk1 hS => ?_)
  have hw8 : v1 = rr := hw9.symm
  subst hw8
  obtain ⟨hP1, hK1, hD1⟩ := hB
  rw [ht] at hP1
  obtain ⟨hP, hD⟩ := va_join (wr := ([(g0, .inr (2, [.int th, .ref gr, .int mn, .int at_, .ref gl, .int md_l, .ref gw, .int md, .ref gs, .int fr, .int no])), (gr, .inl (cI, 4096, .inl rw)), (gl, .inl (cJ, 100, .inr (.inl ml))), (gw, .inl (cI, 4200, .inl wd)), (gs, .inl (cJ, 92, .inr (.inl sm)))] : va_W)) (w1 := ([] : va_W)) hP hD [] [0, 1, 2, 3, 4] rfl rfl (by decide) (by decide) hk1 hFc hP1 hD1
  clear hk1 hP1 hK1 hD1 hvm hz1 hPc hDc hFc
  generalize H1 = H at hP hS ⊢
  have hP : va_P (dC, dI) vwCl (wM cI cJ g0 gr gl gw gs th rw mn at_ ml md_l wd md sm fr no) H := hP
  have hD : va_D A (wM cI cJ g0 gr gl gw gs th rw mn at_ ml md_l wd md sm fr no) := hD
  refine lv_if_eq (tgt := 13) hx hb dX2_takeAll_6 (by decide) (fun c2 => ?_) (fun c2 => ?_)
  · replace hj := ja_pos c2 hj
    refine lv_iconst (v := (0 : Int32)) hx hb dX2_takeAll_13 (by decide) ?_
    refine va_put (D := (dC, dI)) (ci := 2) (v := .int (0 : Int32)) (ty := .int) (C := RX2) (T := TX2) (N := 11) hx hb hts inn_X2_takeAll_X2 tyX2 tyX2_ok nmX2 hown hK hP hD hS 0 rfl rfl 0 (by decide) (hts (.fieldLink RX2 25 "SelfEndingCodesModel" "thrown" "I") (by decide +kernel)) (fun _ h9 => h9) rfl (by decide +kernel) rfl rfl (Nat.le_of_ble_eq_true rfl) dX2_takeAll_14 (fun H locs hP hD hS => ?_)
    have hP : va_P (dC, dI) vwCl (wM cI cJ g0 gr gl gw gs (0 : Int32) rw mn at_ ml md_l wd md sm fr no) H := hP
    have hD : va_D A (wM cI cJ g0 gr gl gw gs (0 : Int32) rw mn at_ ml md_l wd md sm fr no) := hD
    refine lv_aload_n hx hb dX2_takeAll_17 rfl (lv_at hl 0 rfl) ?_
    refine va_get (D := (dC, dI)) (ci := 2) (v := .int (0 : Int32)) (C := RX2) (T := TX2) (N := 11) hx hb hts inn_X2_takeAll_X2 hown hK hP 0 rfl rfl 0 (by decide) (hts (.fieldLink RX2 25 "SelfEndingCodesModel" "thrown" "I") (by decide +kernel)) (fun _ h9 => h9) rfl dX2_takeAll_18 ?_
    refine lv_if_le (tgt := 26) hx hb dX2_takeAll_21 (by decide) (fun _ => ?_) (fun h9 => absurd (by decide) h9)
    refine lv_aload_n hx hb dX2_takeAll_26 rfl (lv_at hl 0 rfl) ?_
    refine lv_iconst (v := (0 : Int32)) hx hb dX2_takeAll_27 (by decide) ?_
    refine va_put (D := (dC, dI)) (ci := 2) (v := .int (0 : Int32)) (ty := .int) (C := RX2) (T := TX2) (N := 11) hx hb hts inn_X2_takeAll_X2 tyX2 tyX2_ok nmX2 hown hK hP hD hS 0 rfl rfl 5 (by decide) (hts (.fieldLink RX2 167 "SelfEndingCodesModel" "listed" "I") (by decide +kernel)) (fun _ h9 => h9) rfl (by decide +kernel) rfl rfl (Nat.le_of_ble_eq_true rfl) dX2_takeAll_28 (fun H locs hP hD hS => ?_)
    have hP : va_P (dC, dI) vwCl (wM cI cJ g0 gr gl gw gs (0 : Int32) rw mn at_ ml (0 : Int32) wd md sm fr no) H := hP
    have hD : va_D A (wM cI cJ g0 gr gl gw gs (0 : Int32) rw mn at_ ml (0 : Int32) wd md sm fr no) := hD
    refine lv_iconst (v := (1 : Int32)) hx hb dX2_takeAll_31 (by decide) ?_
    refine lv_istore_n (lv' := [(3, .int (1 : Int32)), (0, .ref g0), (1, .int a1), (2, .int a2)]) hx hb dX2_takeAll_32 rfl hl (by decide) rfl (fun ls hl => ?_)
    exact s_X2_takeAll_33 C0 hK hA g0 gr gl gw gs (0 : Int32) rw mn wd md sm a1 a2 jF (1 : Int32) at_ ml (0 : Int32) fr no _ hj _ _ _ (hP) (hD) hS (lv_sub hl [1, 2, 3, 0] rfl)
  · replace hj := ja_neg c2 hj
    refine lv_iconst (v := (1 : Int32)) hx hb dX2_takeAll_9 (by decide) ?_
    refine lv_goto (tgt := 14) hx hb dX2_takeAll_10 (by decide) ?_
    refine va_put (D := (dC, dI)) (ci := 2) (v := .int (1 : Int32)) (ty := .int) (C := RX2) (T := TX2) (N := 11) hx hb hts inn_X2_takeAll_X2 tyX2 tyX2_ok nmX2 hown hK hP hD hS 0 rfl rfl 0 (by decide) (hts (.fieldLink RX2 25 "SelfEndingCodesModel" "thrown" "I") (by decide +kernel)) (fun _ h9 => h9) rfl (by decide +kernel) rfl rfl (Nat.le_of_ble_eq_true rfl) dX2_takeAll_14 (fun H locs hP hD hS => ?_)
    have hP : va_P (dC, dI) vwCl (wM cI cJ g0 gr gl gw gs (1 : Int32) rw mn at_ ml md_l wd md sm fr no) H := hP
    have hD : va_D A (wM cI cJ g0 gr gl gw gs (1 : Int32) rw mn at_ ml md_l wd md sm fr no) := hD
    refine lv_aload_n hx hb dX2_takeAll_17 rfl (lv_at hl 0 rfl) ?_
    refine va_get (D := (dC, dI)) (ci := 2) (v := .int (1 : Int32)) (C := RX2) (T := TX2) (N := 11) hx hb hts inn_X2_takeAll_X2 hown hK hP 0 rfl rfl 0 (by decide) (hts (.fieldLink RX2 25 "SelfEndingCodesModel" "thrown" "I") (by decide +kernel)) (fun _ h9 => h9) rfl dX2_takeAll_18 ?_
    refine lv_if_le (tgt := 26) hx hb dX2_takeAll_21 (by decide) (fun h9 => absurd h9 (by decide)) (fun _ => ?_)
    refine lv_iconst (v := (0 : Int32)) hx hb dX2_takeAll_24 (by decide) ?_
    have hr9 : ((0 : Int32), (1 : Int32), at_, ml, md_l, fr, no) = r := Option.some.inj hj
    subst hr9
    exact W.iret (v := (0 : Int32)) hx hb hr (fun t ht hW => ⟨⟨(0 : Int32), (), rfl, rfl, by rw [ht]; exact hP, va_K.moved hW.alike hK, hD⟩, hS.F ht⟩) hS.2.2 dX2_takeAll_25

set_option maxRecDepth 100000 in
theorem inn_X2_thrown_X2 : ∀ w ∈ u_ws RX2 TX2 11, w ∈ wsX2_thrown := by decide +kernel
def j_X2_thrown (th : Int32) : Option (Int32) :=
  some th
set_option maxHeartbeats 4000000 in
set_option maxRecDepth 100000 in
theorem c_X2_thrown (l : Launch) (dC : Nat → ClassId) (dI : Nat → Nat → Nat) (cI cJ : ClassId) (g0 : Nat) (gr : Nat) (gl : Nat) (gw : Nat) (gs : Nat) (sz : Nat) (th : Int32) (rw : Nat → Int32) (mn : Int32) (at_ : Int32) (ml : Nat → Int64) (md_l : Int32) (wd : Nat → Int32) (md : Int32) (sm : Nat → Int64) (fr : Int32) (no : Int32) (r : Int32) (hj : j_X2_thrown th = some r) : Met l yX2_thrown wsX2_thrown ({ frames := 0, cells := 0, slots := 0, locals := 0 } : Room) (va_Pc [.ref g0] (fun U => jPr dC dI cI cJ (wM cI cJ g0 gr gl gw gs th rw mn at_ ml md_l wd md sm fr no) sz U)) (va_Qi (fun (v : Int32) (_ : Unit) => v = r) (fun (_ : Unit) t => jPo dC dI cI cJ (wM cI cJ g0 gr gl gw gs th rw mn at_ ml md_l wd md sm fr no) (va_A (wM cI cJ g0 gr gl gw gs th rw mn at_ ml md_l wd md sm fr no) sz) t) (va_A (wM cI cJ g0 gr gl gw gs th rw mn at_ ml md_l wd md sm fr no) sz)) 0 0 (va_A (wM cI cJ g0 gr gl gw gs th rw mn at_ ml md_l wd md sm fr no) sz) := by
  refine Met.ofW (cc := cX2_thrown) (maxL := 1) (ret := (some .int)) (by decide) rfl ?_
  intro p e s m args below meth c s₁ B hml hv
  obtain ⟨rfl, ⟨hsz, hP, hK, hD0⟩⟩ := hv
  have hx := B.exec
  have hb := B.bytes
  have hr := B.returns
  have hts := atoms_spec (ws := wsX2_thrown) B.pre
  have hown : s.vm.findClass RX2 = some m.cls := findClass_of_methodNamed B.named
  have hlocks := B.notSynchronized
  have C0 := jCx.of hx hb hr hml hown hts hlocks
  subst hsz
  have hD := hD0.self (sz := s.heap.size)
  generalize hAe : va_A (wM cI cJ g0 gr gl gw gs th rw mn at_ ml md_l wd md sm fr no) s.heap.size = A at hD ⊢
  have hA : ∀ q : Nat, s.heap.size ≤ q → A q := fun q h => by rw [← hAe]; exact Or.inr h
  have hS : va_S A s.heap s.heap [] := va_S.rf
  have hP : va_P (dC, dI) vwCl (wM cI cJ g0 gr gl gw gs th rw mn at_ ml md_l wd md sm fr no) s.heap := hP
  have hl := lv_entry ([.ref g0]) (n := 1) (Nat.le_of_ble_eq_true rfl)
  rw [lg_entry_eq]
  generalize (lg_sl ([.ref g0]) ++ List.replicate (1 - (lg_sl ([.ref g0])).length) Slot.unset).toArray = ls at hl ⊢
  have hl : lv_has ls 1 [(0, .ref g0)] := hl
  clear hD0 hAe
  unfold j_X2_thrown at hj
  refine lv_aload_n hx hb dX2_thrown_0 rfl (lv_at hl 0 rfl) ?_
  refine va_get (D := (dC, dI)) (ci := 2) (v := .int th) (C := RX2) (T := TX2) (N := 11) hx hb hts inn_X2_thrown_X2 hown hK hP 0 rfl rfl 0 (by decide) (hts (.fieldLink RX2 25 "SelfEndingCodesModel" "thrown" "I") (by decide +kernel)) (fun _ h9 => h9) rfl dX2_thrown_1 ?_
  have hr9 : th = r := Option.some.inj hj
  subst hr9
  exact W.iret (v := th) hx hb hr (fun t ht hW => ⟨⟨th, (), rfl, rfl, by rw [ht]; exact hP, va_K.moved hW.alike hK, hD⟩, hS.F ht⟩) hS.2.2 dX2_thrown_4

set_option maxRecDepth 100000 in
theorem inn_X2_total_X2 : ∀ w ∈ u_ws RX2 TX2 11, w ∈ wsX2_total := by decide +kernel
def j_X2_total (th : Int32) (ml : Nat → Int64) (md_l : Int32) (sm : Nat → Int64) (a1 : Int32) (a2 : Int32) : Option (Int64 × Int32) :=
  (j_X2_noKind a1 a2).bind fun v1 => (if v1 = (0 : Int32) then ((j_X2_totalOf ml md_l sm a1 a2).bind fun v4 => (some (v4, (0 : Int32)))) else (some ((0 : Int64), (1 : Int32))))
set_option maxHeartbeats 4000000 in
set_option maxRecDepth 100000 in
theorem c_X2_total (l : Launch) (dC : Nat → ClassId) (dI : Nat → Nat → Nat) (cI cJ : ClassId) (g0 : Nat) (gr : Nat) (gl : Nat) (gw : Nat) (gs : Nat) (sz : Nat) (th : Int32) (rw : Nat → Int32) (mn : Int32) (at_ : Int32) (ml : Nat → Int64) (md_l : Int32) (wd : Nat → Int32) (md : Int32) (sm : Nat → Int64) (fr : Int32) (no : Int32) (a1 : Int32) (a2 : Int32) (r : Int64 × Int32) (hj : j_X2_total th ml md_l sm a1 a2 = some r) : Met l yX2_total wsX2_total ({ frames := 4, cells := 0, slots := 0, locals := 107 } : Room) (va_Pc [.ref g0, .int a1, .int a2] (fun U => jPr dC dI cI cJ (wM cI cJ g0 gr gl gw gs th rw mn at_ ml md_l wd md sm fr no) sz U)) (va_Ql (fun (v : Int64) (_ : Unit) => v = r.1) (fun (_ : Unit) t => jPo dC dI cI cJ (wM cI cJ g0 gr gl gw gs r.2 rw mn at_ ml md_l wd md sm fr no) (va_A (wM cI cJ g0 gr gl gw gs th rw mn at_ ml md_l wd md sm fr no) sz) t) (va_A (wM cI cJ g0 gr gl gw gs th rw mn at_ ml md_l wd md sm fr no) sz)) 0 0 (va_A (wM cI cJ g0 gr gl gw gs th rw mn at_ ml md_l wd md sm fr no) sz) := by
  refine Met.ofW (cc := cX2_total) (maxL := 3) (ret := (some .long)) (by decide) rfl ?_
  intro p e s m args below meth c s₁ B hml hv
  obtain ⟨rfl, ⟨hsz, hP, hK, hD0⟩⟩ := hv
  have hx := B.exec
  have hb := B.bytes
  have hr := B.returns
  have hts := atoms_spec (ws := wsX2_total) B.pre
  have hown : s.vm.findClass RX2 = some m.cls := findClass_of_methodNamed B.named
  have hlocks := B.notSynchronized
  have C0 := jCx.of hx hb hr hml hown hts hlocks
  subst hsz
  have hD := hD0.self (sz := s.heap.size)
  generalize hAe : va_A (wM cI cJ g0 gr gl gw gs th rw mn at_ ml md_l wd md sm fr no) s.heap.size = A at hD ⊢
  have hA : ∀ q : Nat, s.heap.size ≤ q → A q := fun q h => by rw [← hAe]; exact Or.inr h
  have hS : va_S A s.heap s.heap [] := va_S.rf
  have hP : va_P (dC, dI) vwCl (wM cI cJ g0 gr gl gw gs th rw mn at_ ml md_l wd md sm fr no) s.heap := hP
  have hl := lv_entry ([.ref g0, .int a1, .int a2]) (n := 3) (Nat.le_of_ble_eq_true rfl)
  rw [lg_entry_eq]
  generalize (lg_sl ([.ref g0, .int a1, .int a2]) ++ List.replicate (3 - (lg_sl ([.ref g0, .int a1, .int a2])).length) Slot.unset).toArray = ls at hl ⊢
  have hl : lv_has ls 3 [(0, .ref g0), (1, .int a1), (2, .int a2)] := hl
  clear hD0 hAe
  unfold j_X2_total at hj
  refine lv_aload_n hx hb dX2_total_0 rfl (lv_at hl 0 rfl) ?_
  refine lv_iload_n hx hb dX2_total_1 rfl (lv_at hl 1 rfl) ?_
  refine lv_iload_n hx hb dX2_total_2 rfl (lv_at hl 2 rfl) ?_
  obtain ⟨v1, hc, hj⟩ := ja_bd hj
  try dsimp only at hj
  have hPc := hP.sub (ws' := ([] : va_W)) [] rfl
  have hDc := hD.sub (ws' := ([] : va_W)) [] (by decide) rfl
  have hFc := va_free (wc := ([] : va_W)) hD hS hA [] rfl
  refine va_calli (va_runS (As := [.int a1, .int a2]) (rest := [.ref g0]) ⟨hx, hb, hml, hown, hts⟩ (c_X2_noKind l dC dI cI cJ s.heap.size a1 a2 _ hc) (va_cwS 2 hts gX2_total_X2_noKind rfl rfl rfl (by decide +kernel) ⟨Nat.le_of_ble_eq_true rfl, Nat.le_of_ble_eq_true rfl⟩) ⟨fun a U g mk q => ⟨q.1, jPr.blind q.2⟩, fun U hU hW => ⟨rfl, jPr.mk hU hW hPc hK hDc⟩⟩ rfl rfl hl.1 rfl (lv_room (Nat.le_of_ble_eq_true rfl)) dX2_total_3 ⟨Nat.le_of_ble_eq_true rfl, Nat.le_of_ble_eq_true rfl⟩) hS (fun q _ h => hFc q h) hFc (fun rr u t H1 locs ht hvm hw9 hB hz1 hk1 hS => ?_)
  have hw8 : v1 = rr := hw9.symm
  subst hw8
  obtain ⟨hP1, hK1, hD1⟩ := hB
  rw [ht] at hP1
  obtain ⟨hP, hD⟩ := va_join (wr := ([(g0, .inr (2, [.int th, .ref gr, .int mn, .int at_, .ref gl, .int md_l, .ref gw, .int md, .ref gs, .int fr, .int no])), (gr, .inl (cI, 4096, .inl rw)), (gl, .inl (cJ, 100, .inr (.inl ml))), (gw, .inl (cI, 4200, .inl wd)), (gs, .inl (cJ, 92, .inr (.inl sm)))] : va_W)) (w1 := ([] : va_W)) hP hD [] [0, 1, 2, 3, 4] rfl rfl (by decide) (by decide) hk1 hFc hP1 hD1
  clear hk1 hP1 hK1 hD1 hvm hz1 hPc hDc hFc
  generalize H1 = H at hP hS ⊢
  have hP : va_P (dC, dI) vwCl (wM cI cJ g0 gr gl gw gs th rw mn at_ ml md_l wd md sm fr no) H := hP
  have hD : va_D A (wM cI cJ g0 gr gl gw gs th rw mn at_ ml md_l wd md sm fr no) := hD
  refine lv_if_eq (tgt := 13) hx hb dX2_total_6 (by decide) (fun c2 => ?_) (fun c2 => ?_)
  · replace hj := ja_pos c2 hj
    refine lv_iconst (v := (0 : Int32)) hx hb dX2_total_13 (by decide) ?_
    refine va_put (D := (dC, dI)) (ci := 2) (v := .int (0 : Int32)) (ty := .int) (C := RX2) (T := TX2) (N := 11) hx hb hts inn_X2_total_X2 tyX2 tyX2_ok nmX2 hown hK hP hD hS 0 rfl rfl 0 (by decide) (hts (.fieldLink RX2 25 "SelfEndingCodesModel" "thrown" "I") (by decide +kernel)) (fun _ h9 => h9) rfl (by decide +kernel) rfl rfl (Nat.le_of_ble_eq_true rfl) dX2_total_14 (fun H locs hP hD hS => ?_)
    have hP : va_P (dC, dI) vwCl (wM cI cJ g0 gr gl gw gs (0 : Int32) rw mn at_ ml md_l wd md sm fr no) H := hP
    have hD : va_D A (wM cI cJ g0 gr gl gw gs (0 : Int32) rw mn at_ ml md_l wd md sm fr no) := hD
    refine lv_aload_n hx hb dX2_total_17 rfl (lv_at hl 0 rfl) ?_
    refine va_get (D := (dC, dI)) (ci := 2) (v := .int (0 : Int32)) (C := RX2) (T := TX2) (N := 11) hx hb hts inn_X2_total_X2 hown hK hP 0 rfl rfl 0 (by decide) (hts (.fieldLink RX2 25 "SelfEndingCodesModel" "thrown" "I") (by decide +kernel)) (fun _ h9 => h9) rfl dX2_total_18 ?_
    refine lv_if_le (tgt := 28) hx hb dX2_total_21 (by decide) (fun _ => ?_) (fun h9 => absurd (by decide) h9)
    refine lv_aload_n hx hb dX2_total_28 rfl (lv_at hl 0 rfl) ?_
    refine lv_iload_n hx hb dX2_total_29 rfl (lv_at hl 1 rfl) ?_
    refine lv_iload_n hx hb dX2_total_30 rfl (lv_at hl 2 rfl) ?_
    obtain ⟨v4, hc, hj⟩ := ja_bd hj
    try dsimp only at hj
    have hPc := hP.sub (ws' := (wM cI cJ g0 gr gl gw gs (0 : Int32) rw mn at_ ml md_l wd md sm fr no)) [0, 1, 2, 3, 4] rfl
    have hDc := hD.sub (ws' := (wM cI cJ g0 gr gl gw gs (0 : Int32) rw mn at_ ml md_l wd md sm fr no)) [0, 1, 2, 3, 4] (by decide) rfl
    have hFc := va_free (wc := (wM cI cJ g0 gr gl gw gs (0 : Int32) rw mn at_ ml md_l wd md sm fr no)) hD hS hA [0, 1, 2, 3, 4] rfl
    refine va_calll (va_runV (As := [.int a1, .int a2]) (rest := []) ⟨hx, hb, hml, hown, hts⟩ (c_X2_totalOf l dC dI cI cJ g0 gr gl gw gs H.size (0 : Int32) rw mn at_ ml md_l wd md sm fr no a1 a2 _ hc) (cwV 2 hts gX2_total_X2_totalOf rfl rfl rfl (by decide +kernel) ⟨Nat.le_of_ble_eq_true rfl, Nat.le_of_ble_eq_true rfl⟩) ⟨fun a U g mk q => ⟨q.1, jPr.blind q.2⟩, va_recv hK hPc (ci := 2) (q0 := 0) rfl rfl, fun U hU hW => ⟨rfl, jPr.mk hU hW hPc hK hDc⟩⟩ rfl rfl hl.1 rfl (lv_room (Nat.le_of_ble_eq_true rfl)) dX2_total_31 ⟨Nat.le_of_ble_eq_true rfl, Nat.le_of_ble_eq_true rfl⟩) hS (fun q _ h => hFc q h) hFc (fun rr u t H1 locs ht hvm hw9 hB hz1 hk1 hS => ?_)
    have hw8 : v4 = rr := hw9.symm
    subst hw8
    obtain ⟨hP1, hK1, hD1⟩ := hB
    rw [ht] at hP1
    obtain ⟨hP, hD⟩ := va_join (wr := ([] : va_W)) (w1 := (wM cI cJ g0 gr gl gw gs (0 : Int32) rw mn at_ ml md_l wd md sm fr no)) hP hD [0, 1, 2, 3, 4] [] rfl rfl (by decide) (by decide) hk1 hFc hP1 hD1
    clear hk1 hP1 hK1 hD1 hvm hz1 hPc hDc hFc
    generalize H1 = H at hP hS ⊢
    have hP : va_P (dC, dI) vwCl (wM cI cJ g0 gr gl gw gs (0 : Int32) rw mn at_ ml md_l wd md sm fr no) H := hP
    have hD : va_D A (wM cI cJ g0 gr gl gw gs (0 : Int32) rw mn at_ ml md_l wd md sm fr no) := hD
    have hr9 : (v4, (0 : Int32)) = r := Option.some.inj hj
    subst hr9
    exact W.lret (v := v4) hx hb hr (fun t ht hW => ⟨⟨v4, (), rfl, rfl, by rw [ht]; exact hP, va_K.moved hW.alike hK, hD⟩, hS.F ht⟩) hS.2.2 dX2_total_34
  · replace hj := ja_neg c2 hj
    refine lv_iconst (v := (1 : Int32)) hx hb dX2_total_9 (by decide) ?_
    refine lv_goto (tgt := 14) hx hb dX2_total_10 (by decide) ?_
    refine va_put (D := (dC, dI)) (ci := 2) (v := .int (1 : Int32)) (ty := .int) (C := RX2) (T := TX2) (N := 11) hx hb hts inn_X2_total_X2 tyX2 tyX2_ok nmX2 hown hK hP hD hS 0 rfl rfl 0 (by decide) (hts (.fieldLink RX2 25 "SelfEndingCodesModel" "thrown" "I") (by decide +kernel)) (fun _ h9 => h9) rfl (by decide +kernel) rfl rfl (Nat.le_of_ble_eq_true rfl) dX2_total_14 (fun H locs hP hD hS => ?_)
    have hP : va_P (dC, dI) vwCl (wM cI cJ g0 gr gl gw gs (1 : Int32) rw mn at_ ml md_l wd md sm fr no) H := hP
    have hD : va_D A (wM cI cJ g0 gr gl gw gs (1 : Int32) rw mn at_ ml md_l wd md sm fr no) := hD
    refine lv_aload_n hx hb dX2_total_17 rfl (lv_at hl 0 rfl) ?_
    refine va_get (D := (dC, dI)) (ci := 2) (v := .int (1 : Int32)) (C := RX2) (T := TX2) (N := 11) hx hb hts inn_X2_total_X2 hown hK hP 0 rfl rfl 0 (by decide) (hts (.fieldLink RX2 25 "SelfEndingCodesModel" "thrown" "I") (by decide +kernel)) (fun _ h9 => h9) rfl dX2_total_18 ?_
    refine lv_if_le (tgt := 28) hx hb dX2_total_21 (by decide) (fun h9 => absurd h9 (by decide)) (fun _ => ?_)
    refine lv_lconst (v := (0 : Int64)) hx hb dX2_total_24 (by decide) ?_
    refine lv_goto (tgt := 34) hx hb dX2_total_25 (by decide) ?_
    have hr9 : ((0 : Int64), (1 : Int32)) = r := Option.some.inj hj
    subst hr9
    exact W.lret (v := (0 : Int64)) hx hb hr (fun t ht hW => ⟨⟨(0 : Int64), (), rfl, rfl, by rw [ht]; exact hP, va_K.moved hW.alike hK, hD⟩, hS.F ht⟩) hS.2.2 dX2_total_34

set_option maxRecDepth 100000 in
theorem inn_X2_unfold_X2 : ∀ w ∈ u_ws RX2 TX2 11, w ∈ wsX2_unfold := by decide +kernel
def j_X2_unfold (th : Int32) (a1 : Int64) : Option (Int64 × Int32) :=
  (j_X2_noNumber a1).bind fun v1 => (if v1 = (0 : Int32) then (if (a1 - a1 / (2 : Int64) * (2 : Int64)) = (0 : Int64) then (some (a1 / (2 : Int64), (0 : Int32))) else (some (((1 : Int64) - a1) / (2 : Int64), (0 : Int32)))) else (some ((0 : Int64), (1 : Int32))))
set_option maxHeartbeats 4000000 in
set_option maxRecDepth 100000 in
theorem c_X2_unfold (l : Launch) (dC : Nat → ClassId) (dI : Nat → Nat → Nat) (cI cJ : ClassId) (g0 : Nat) (gr : Nat) (gl : Nat) (gw : Nat) (gs : Nat) (sz : Nat) (th : Int32) (rw : Nat → Int32) (mn : Int32) (at_ : Int32) (ml : Nat → Int64) (md_l : Int32) (wd : Nat → Int32) (md : Int32) (sm : Nat → Int64) (fr : Int32) (no : Int32) (a1 : Int64) (r : Int64 × Int32) (hj : j_X2_unfold th a1 = some r) : Met l yX2_unfold wsX2_unfold ({ frames := 1, cells := 0, slots := 0, locals := 21 } : Room) (va_Pc [.ref g0, .long a1] (fun U => jPr dC dI cI cJ (wM cI cJ g0 gr gl gw gs th rw mn at_ ml md_l wd md sm fr no) sz U)) (va_Ql (fun (v : Int64) (_ : Unit) => v = r.1) (fun (_ : Unit) t => jPo dC dI cI cJ (wM cI cJ g0 gr gl gw gs r.2 rw mn at_ ml md_l wd md sm fr no) (va_A (wM cI cJ g0 gr gl gw gs th rw mn at_ ml md_l wd md sm fr no) sz) t) (va_A (wM cI cJ g0 gr gl gw gs th rw mn at_ ml md_l wd md sm fr no) sz)) 0 0 (va_A (wM cI cJ g0 gr gl gw gs th rw mn at_ ml md_l wd md sm fr no) sz) := by
  refine Met.ofW (cc := cX2_unfold) (maxL := 3) (ret := (some .long)) (by decide) rfl ?_
  intro p e s m args below meth c s₁ B hml hv
  obtain ⟨rfl, ⟨hsz, hP, hK, hD0⟩⟩ := hv
  have hx := B.exec
  have hb := B.bytes
  have hr := B.returns
  have hts := atoms_spec (ws := wsX2_unfold) B.pre
  have hown : s.vm.findClass RX2 = some m.cls := findClass_of_methodNamed B.named
  have hlocks := B.notSynchronized
  have C0 := jCx.of hx hb hr hml hown hts hlocks
  subst hsz
  have hD := hD0.self (sz := s.heap.size)
  generalize hAe : va_A (wM cI cJ g0 gr gl gw gs th rw mn at_ ml md_l wd md sm fr no) s.heap.size = A at hD ⊢
  have hA : ∀ q : Nat, s.heap.size ≤ q → A q := fun q h => by rw [← hAe]; exact Or.inr h
  have hS : va_S A s.heap s.heap [] := va_S.rf
  have hP : va_P (dC, dI) vwCl (wM cI cJ g0 gr gl gw gs th rw mn at_ ml md_l wd md sm fr no) s.heap := hP
  have hl := lv_entry ([.ref g0, .long a1]) (n := 3) (Nat.le_of_ble_eq_true rfl)
  rw [lg_entry_eq]
  generalize (lg_sl ([.ref g0, .long a1]) ++ List.replicate (3 - (lg_sl ([.ref g0, .long a1])).length) Slot.unset).toArray = ls at hl ⊢
  have hl : lv_has ls 3 [(0, .ref g0), (1, .long a1)] := hl
  clear hD0 hAe
  unfold j_X2_unfold at hj
  refine lv_aload_n hx hb dX2_unfold_0 rfl (lv_at hl 0 rfl) ?_
  refine lv_lload_n hx hb dX2_unfold_1 rfl (lv_at hl 1 rfl) ?_
  obtain ⟨v1, hc, hj⟩ := ja_bd hj
  try dsimp only at hj
  have hPc := hP.sub (ws' := ([] : va_W)) [] rfl
  have hDc := hD.sub (ws' := ([] : va_W)) [] (by decide) rfl
  have hFc := va_free (wc := ([] : va_W)) hD hS hA [] rfl
  refine va_calli (va_runS (As := [.long a1]) (rest := [.ref g0]) ⟨hx, hb, hml, hown, hts⟩ (c_X2_noNumber l dC dI cI cJ s.heap.size a1 _ hc) (va_cwS 1 hts gX2_unfold_X2_noNumber rfl rfl rfl (by decide +kernel) ⟨Nat.le_of_ble_eq_true rfl, Nat.le_of_ble_eq_true rfl⟩) ⟨fun a U g mk q => ⟨q.1, jPr.blind q.2⟩, fun U hU hW => ⟨rfl, jPr.mk hU hW hPc hK hDc⟩⟩ rfl rfl hl.1 rfl (lv_room (Nat.le_of_ble_eq_true rfl)) dX2_unfold_2 ⟨Nat.le_of_ble_eq_true rfl, Nat.le_of_ble_eq_true rfl⟩) hS (fun q _ h => hFc q h) hFc (fun rr u t H1 locs ht hvm hw9 hB hz1 hk1 hS => ?_)
  have hw8 : v1 = rr := hw9.symm
  subst hw8
  obtain ⟨hP1, hK1, hD1⟩ := hB
  rw [ht] at hP1
  obtain ⟨hP, hD⟩ := va_join (wr := ([(g0, .inr (2, [.int th, .ref gr, .int mn, .int at_, .ref gl, .int md_l, .ref gw, .int md, .ref gs, .int fr, .int no])), (gr, .inl (cI, 4096, .inl rw)), (gl, .inl (cJ, 100, .inr (.inl ml))), (gw, .inl (cI, 4200, .inl wd)), (gs, .inl (cJ, 92, .inr (.inl sm)))] : va_W)) (w1 := ([] : va_W)) hP hD [] [0, 1, 2, 3, 4] rfl rfl (by decide) (by decide) hk1 hFc hP1 hD1
  clear hk1 hP1 hK1 hD1 hvm hz1 hPc hDc hFc
  generalize H1 = H at hP hS ⊢
  have hP : va_P (dC, dI) vwCl (wM cI cJ g0 gr gl gw gs th rw mn at_ ml md_l wd md sm fr no) H := hP
  have hD : va_D A (wM cI cJ g0 gr gl gw gs th rw mn at_ ml md_l wd md sm fr no) := hD
  refine lv_if_eq (tgt := 12) hx hb dX2_unfold_5 (by decide) (fun c2 => ?_) (fun c2 => ?_)
  · replace hj := ja_pos c2 hj
    refine lv_iconst (v := (0 : Int32)) hx hb dX2_unfold_12 (by decide) ?_
    refine va_put (D := (dC, dI)) (ci := 2) (v := .int (0 : Int32)) (ty := .int) (C := RX2) (T := TX2) (N := 11) hx hb hts inn_X2_unfold_X2 tyX2 tyX2_ok nmX2 hown hK hP hD hS 0 rfl rfl 0 (by decide) (hts (.fieldLink RX2 25 "SelfEndingCodesModel" "thrown" "I") (by decide +kernel)) (fun _ h9 => h9) rfl (by decide +kernel) rfl rfl (Nat.le_of_ble_eq_true rfl) dX2_unfold_13 (fun H locs hP hD hS => ?_)
    have hP : va_P (dC, dI) vwCl (wM cI cJ g0 gr gl gw gs (0 : Int32) rw mn at_ ml md_l wd md sm fr no) H := hP
    have hD : va_D A (wM cI cJ g0 gr gl gw gs (0 : Int32) rw mn at_ ml md_l wd md sm fr no) := hD
    refine lv_aload_n hx hb dX2_unfold_16 rfl (lv_at hl 0 rfl) ?_
    refine va_get (D := (dC, dI)) (ci := 2) (v := .int (0 : Int32)) (C := RX2) (T := TX2) (N := 11) hx hb hts inn_X2_unfold_X2 hown hK hP 0 rfl rfl 0 (by decide) (hts (.fieldLink RX2 25 "SelfEndingCodesModel" "thrown" "I") (by decide +kernel)) (fun _ h9 => h9) rfl dX2_unfold_17 ?_
    refine lv_if_le (tgt := 25) hx hb dX2_unfold_20 (by decide) (fun _ => ?_) (fun h9 => absurd (by decide) h9)
    refine lv_lload_n hx hb dX2_unfold_25 rfl (lv_at hl 1 rfl) ?_
    refine lv_ldc2 (v := (2 : Int64)) hx hb hown (hts (.constantLong RX2 23 (2)) (by decide +kernel)) dX2_unfold_26 ?_
    refine lv_lrem hx hb dX2_unfold_29 (by decide) ?_
    refine lv_lconst (v := (0 : Int64)) hx hb dX2_unfold_30 (by decide) ?_
    refine W.lcmp hx hb dX2_unfold_31 ?_
    refine lv_if_ne (tgt := 43) hx hb dX2_unfold_32 (by decide) (fun c4 => ?_) (fun c4 => ?_)
    · replace hj := ja_neg (fun h9 => c4 ((lg_cmp_eq (a1 - a1 / (2 : Int64) * (2 : Int64)) (0 : Int64)).mpr h9)) hj
      refine lv_lconst (v := (1 : Int64)) hx hb dX2_unfold_43 (by decide) ?_
      refine lv_lload_n hx hb dX2_unfold_44 rfl (lv_at hl 1 rfl) ?_
      refine lv_lsub hx hb dX2_unfold_45 ?_
      refine lv_ldc2 (v := (2 : Int64)) hx hb hown (hts (.constantLong RX2 23 (2)) (by decide +kernel)) dX2_unfold_46 ?_
      refine lv_ldiv hx hb dX2_unfold_49 (by decide) ?_
      have hr9 : (((1 : Int64) - a1) / (2 : Int64), (0 : Int32)) = r := Option.some.inj hj
      subst hr9
      exact W.lret (v := ((1 : Int64) - a1) / (2 : Int64)) hx hb hr (fun t ht hW => ⟨⟨((1 : Int64) - a1) / (2 : Int64), (), rfl, rfl, by rw [ht]; exact hP, va_K.moved hW.alike hK, hD⟩, hS.F ht⟩) hS.2.2 dX2_unfold_50
    · replace hj := ja_pos ((lg_cmp_eq (a1 - a1 / (2 : Int64) * (2 : Int64)) (0 : Int64)).mp c4) hj
      refine lv_lload_n hx hb dX2_unfold_35 rfl (lv_at hl 1 rfl) ?_
      refine lv_ldc2 (v := (2 : Int64)) hx hb hown (hts (.constantLong RX2 23 (2)) (by decide +kernel)) dX2_unfold_36 ?_
      refine lv_ldiv hx hb dX2_unfold_39 (by decide) ?_
      refine lv_goto (tgt := 50) hx hb dX2_unfold_40 (by decide) ?_
      have hr9 : (a1 / (2 : Int64), (0 : Int32)) = r := Option.some.inj hj
      subst hr9
      exact W.lret (v := a1 / (2 : Int64)) hx hb hr (fun t ht hW => ⟨⟨a1 / (2 : Int64), (), rfl, rfl, by rw [ht]; exact hP, va_K.moved hW.alike hK, hD⟩, hS.F ht⟩) hS.2.2 dX2_unfold_50
  · replace hj := ja_neg c2 hj
    refine lv_iconst (v := (1 : Int32)) hx hb dX2_unfold_8 (by decide) ?_
    refine lv_goto (tgt := 13) hx hb dX2_unfold_9 (by decide) ?_
    refine va_put (D := (dC, dI)) (ci := 2) (v := .int (1 : Int32)) (ty := .int) (C := RX2) (T := TX2) (N := 11) hx hb hts inn_X2_unfold_X2 tyX2 tyX2_ok nmX2 hown hK hP hD hS 0 rfl rfl 0 (by decide) (hts (.fieldLink RX2 25 "SelfEndingCodesModel" "thrown" "I") (by decide +kernel)) (fun _ h9 => h9) rfl (by decide +kernel) rfl rfl (Nat.le_of_ble_eq_true rfl) dX2_unfold_13 (fun H locs hP hD hS => ?_)
    have hP : va_P (dC, dI) vwCl (wM cI cJ g0 gr gl gw gs (1 : Int32) rw mn at_ ml md_l wd md sm fr no) H := hP
    have hD : va_D A (wM cI cJ g0 gr gl gw gs (1 : Int32) rw mn at_ ml md_l wd md sm fr no) := hD
    refine lv_aload_n hx hb dX2_unfold_16 rfl (lv_at hl 0 rfl) ?_
    refine va_get (D := (dC, dI)) (ci := 2) (v := .int (1 : Int32)) (C := RX2) (T := TX2) (N := 11) hx hb hts inn_X2_unfold_X2 hown hK hP 0 rfl rfl 0 (by decide) (hts (.fieldLink RX2 25 "SelfEndingCodesModel" "thrown" "I") (by decide +kernel)) (fun _ h9 => h9) rfl dX2_unfold_17 ?_
    refine lv_if_le (tgt := 25) hx hb dX2_unfold_20 (by decide) (fun h9 => absurd h9 (by decide)) (fun _ => ?_)
    refine lv_lconst (v := (0 : Int64)) hx hb dX2_unfold_23 (by decide) ?_
    have hr9 : ((0 : Int64), (1 : Int32)) = r := Option.some.inj hj
    subst hr9
    exact W.lret (v := (0 : Int64)) hx hb hr (fun t ht hW => ⟨⟨(0 : Int64), (), rfl, rfl, by rw [ht]; exact hP, va_K.moved hW.alike hK, hD⟩, hS.F ht⟩) hS.2.2 dX2_unfold_24

set_option maxRecDepth 100000 in
theorem inn_X2_wipe_X2 : ∀ w ∈ u_ws RX2 TX2 11, w ∈ wsX2_wipe := by decide +kernel
def j_X2_wipe (th : Int32) (mn : Int32) (at_ : Int32) : Option (Int32 × Int32 × Int32 × Int32) :=
  some (mn, (0 : Int32), (0 : Int32), (0 : Int32))
set_option maxHeartbeats 4000000 in
set_option maxRecDepth 100000 in
theorem c_X2_wipe (l : Launch) (dC : Nat → ClassId) (dI : Nat → Nat → Nat) (cI cJ : ClassId) (g0 : Nat) (gr : Nat) (gl : Nat) (gw : Nat) (gs : Nat) (sz : Nat) (th : Int32) (rw : Nat → Int32) (mn : Int32) (at_ : Int32) (ml : Nat → Int64) (md_l : Int32) (wd : Nat → Int32) (md : Int32) (sm : Nat → Int64) (fr : Int32) (no : Int32) (r : Int32 × Int32 × Int32 × Int32) (hj : j_X2_wipe th mn at_ = some r) : Met l yX2_wipe wsX2_wipe ({ frames := 0, cells := 0, slots := 0, locals := 0 } : Room) (va_Pc [.ref g0] (fun U => jPr dC dI cI cJ (wM cI cJ g0 gr gl gw gs th rw mn at_ ml md_l wd md sm fr no) sz U)) (va_Qi (fun (v : Int32) (_ : Unit) => v = r.1) (fun (_ : Unit) t => jPo dC dI cI cJ (wM cI cJ g0 gr gl gw gs r.2.1 rw r.2.2.1 r.2.2.2 ml md_l wd md sm fr no) (va_A (wM cI cJ g0 gr gl gw gs th rw mn at_ ml md_l wd md sm fr no) sz) t) (va_A (wM cI cJ g0 gr gl gw gs th rw mn at_ ml md_l wd md sm fr no) sz)) 0 0 (va_A (wM cI cJ g0 gr gl gw gs th rw mn at_ ml md_l wd md sm fr no) sz) := by
  refine Met.ofW (cc := cX2_wipe) (maxL := 2) (ret := (some .int)) (by decide) rfl ?_
  intro p e s m args below meth c s₁ B hml hv
  obtain ⟨rfl, ⟨hsz, hP, hK, hD0⟩⟩ := hv
  have hx := B.exec
  have hb := B.bytes
  have hr := B.returns
  have hts := atoms_spec (ws := wsX2_wipe) B.pre
  have hown : s.vm.findClass RX2 = some m.cls := findClass_of_methodNamed B.named
  have hlocks := B.notSynchronized
  have C0 := jCx.of hx hb hr hml hown hts hlocks
  subst hsz
  have hD := hD0.self (sz := s.heap.size)
  generalize hAe : va_A (wM cI cJ g0 gr gl gw gs th rw mn at_ ml md_l wd md sm fr no) s.heap.size = A at hD ⊢
  have hA : ∀ q : Nat, s.heap.size ≤ q → A q := fun q h => by rw [← hAe]; exact Or.inr h
  have hS : va_S A s.heap s.heap [] := va_S.rf
  have hP : va_P (dC, dI) vwCl (wM cI cJ g0 gr gl gw gs th rw mn at_ ml md_l wd md sm fr no) s.heap := hP
  have hl := lv_entry ([.ref g0]) (n := 2) (Nat.le_of_ble_eq_true rfl)
  rw [lg_entry_eq]
  generalize (lg_sl ([.ref g0]) ++ List.replicate (2 - (lg_sl ([.ref g0])).length) Slot.unset).toArray = ls at hl ⊢
  have hl : lv_has ls 2 [(0, .ref g0)] := hl
  clear hD0 hAe
  unfold j_X2_wipe at hj
  refine lv_aload_n hx hb dX2_wipe_0 rfl (lv_at hl 0 rfl) ?_
  refine lv_iconst (v := (0 : Int32)) hx hb dX2_wipe_1 (by decide) ?_
  refine va_put (D := (dC, dI)) (ci := 2) (v := .int (0 : Int32)) (ty := .int) (C := RX2) (T := TX2) (N := 11) hx hb hts inn_X2_wipe_X2 tyX2 tyX2_ok nmX2 hown hK hP hD hS 0 rfl rfl 0 (by decide) (hts (.fieldLink RX2 25 "SelfEndingCodesModel" "thrown" "I") (by decide +kernel)) (fun _ h9 => h9) rfl (by decide +kernel) rfl rfl (Nat.le_of_ble_eq_true rfl) dX2_wipe_2 (fun H locs hP hD hS => ?_)
  have hP : va_P (dC, dI) vwCl (wM cI cJ g0 gr gl gw gs (0 : Int32) rw mn at_ ml md_l wd md sm fr no) H := hP
  have hD : va_D A (wM cI cJ g0 gr gl gw gs (0 : Int32) rw mn at_ ml md_l wd md sm fr no) := hD
  refine lv_aload_n hx hb dX2_wipe_5 rfl (lv_at hl 0 rfl) ?_
  refine va_get (D := (dC, dI)) (ci := 2) (v := .int mn) (C := RX2) (T := TX2) (N := 11) hx hb hts inn_X2_wipe_X2 hown hK hP 0 rfl rfl 2 (by decide) (hts (.fieldLink RX2 82 "SelfEndingCodesModel" "many" "I") (by decide +kernel)) (fun _ h9 => h9) rfl dX2_wipe_6 ?_
  refine lv_istore_n (lv' := [(1, .int mn), (0, .ref g0)]) hx hb dX2_wipe_9 rfl hl (by decide) rfl (fun ls hl => ?_)
  refine lv_aload_n hx hb dX2_wipe_10 rfl (lv_at hl 1 rfl) ?_
  refine lv_iconst (v := (0 : Int32)) hx hb dX2_wipe_11 (by decide) ?_
  refine va_put (D := (dC, dI)) (ci := 2) (v := .int (0 : Int32)) (ty := .int) (C := RX2) (T := TX2) (N := 11) hx hb hts inn_X2_wipe_X2 tyX2 tyX2_ok nmX2 hown hK hP hD hS 0 rfl rfl 2 (by decide) (hts (.fieldLink RX2 82 "SelfEndingCodesModel" "many" "I") (by decide +kernel)) (fun _ h9 => h9) rfl (by decide +kernel) rfl rfl (Nat.le_of_ble_eq_true rfl) dX2_wipe_12 (fun H locs hP hD hS => ?_)
  have hP : va_P (dC, dI) vwCl (wM cI cJ g0 gr gl gw gs (0 : Int32) rw (0 : Int32) at_ ml md_l wd md sm fr no) H := hP
  have hD : va_D A (wM cI cJ g0 gr gl gw gs (0 : Int32) rw (0 : Int32) at_ ml md_l wd md sm fr no) := hD
  refine lv_aload_n hx hb dX2_wipe_15 rfl (lv_at hl 1 rfl) ?_
  refine lv_iconst (v := (0 : Int32)) hx hb dX2_wipe_16 (by decide) ?_
  refine va_put (D := (dC, dI)) (ci := 2) (v := .int (0 : Int32)) (ty := .int) (C := RX2) (T := TX2) (N := 11) hx hb hts inn_X2_wipe_X2 tyX2 tyX2_ok nmX2 hown hK hP hD hS 0 rfl rfl 3 (by decide) (hts (.fieldLink RX2 115 "SelfEndingCodesModel" "at" "I") (by decide +kernel)) (fun _ h9 => h9) rfl (by decide +kernel) rfl rfl (Nat.le_of_ble_eq_true rfl) dX2_wipe_17 (fun H locs hP hD hS => ?_)
  have hP : va_P (dC, dI) vwCl (wM cI cJ g0 gr gl gw gs (0 : Int32) rw (0 : Int32) (0 : Int32) ml md_l wd md sm fr no) H := hP
  have hD : va_D A (wM cI cJ g0 gr gl gw gs (0 : Int32) rw (0 : Int32) (0 : Int32) ml md_l wd md sm fr no) := hD
  refine lv_iload_n hx hb dX2_wipe_20 rfl (lv_at hl 0 rfl) ?_
  have hr9 : (mn, (0 : Int32), (0 : Int32), (0 : Int32)) = r := Option.some.inj hj
  subst hr9
  exact W.iret (v := mn) hx hb hr (fun t ht hW => ⟨⟨mn, (), rfl, rfl, by rw [ht]; exact hP, va_K.moved hW.alike hK, hD⟩, hS.F ht⟩) hS.2.2 dX2_wipe_21

