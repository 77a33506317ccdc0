def j_X2_noNumber (a1 : Int64) : Option (Int32) :=
  if a1 < (1 : Int64) then (some (1 : Int32)) else (if a1 ≤ (4611686018427387904 : Int64) then (some (0 : Int32)) else (some (1 : Int32)))
set_option maxHeartbeats 4000000 in
set_option maxRecDepth 100000 in
theorem c_X2_noNumber (l : Launch) (dC : Nat → ClassId) (dI : Nat → Nat → Nat) (cI cJ : ClassId) (sz : Nat) (a1 : Int64) (r : Int32) (hj : j_X2_noNumber a1 = some r) : Met l yX2_noNumber wsX2_noNumber ({ frames := 0, cells := 0, slots := 0, locals := 0 } : Room) (va_Pc [.long a1] (fun U => jPr dC dI cI cJ ([] : va_W) sz U)) (va_Qi (fun (v : Int32) (_ : Unit) => v = r) (fun (_ : Unit) t => jPo dC dI cI cJ [] (va_A ([] : va_W) sz) t) (va_A ([] : va_W) sz)) 0 0 (va_A ([] : va_W) sz) := by
  refine Met.ofW (cc := cX2_noNumber) (maxL := 2) (ret := (some .boolean)) (by decide) rfl ?_
  intro p e s m args below meth c s₁ B hml hv
  obtain ⟨rfl, ⟨hsz, hP, hK, hD0⟩⟩ := hv
  have hx := B.exec
  have hb := B.bytes
  have hr := B.returns
  have hts := atoms_spec (ws := wsX2_noNumber) B.pre
  have hown : s.vm.findClass RX2 = some m.cls := findClass_of_methodNamed B.named
  have hlocks := B.notSynchronized
  have C0 := jCx.of hx hb hr hml hown hts hlocks
  subst hsz
  have hD := hD0.self (sz := s.heap.size)
  generalize hAe : va_A ([] : va_W) s.heap.size = A at hD ⊢
  have hA : ∀ q : Nat, s.heap.size ≤ q → A q := fun q h => by rw [← hAe]; exact Or.inr h
  have hS : va_S A s.heap s.heap [] := va_S.rf
  have hP : va_P (dC, dI) vwCl ([] : va_W) s.heap := hP
  have hl := lv_entry ([.long a1]) (n := 2) (Nat.le_of_ble_eq_true rfl)
  rw [lg_entry_eq]
  generalize (lg_sl ([.long a1]) ++ List.replicate (2 - (lg_sl ([.long a1])).length) Slot.unset).toArray = ls at hl ⊢
  have hl : lv_has ls 2 [(0, .long a1)] := hl
  clear hD0 hAe
  unfold j_X2_noNumber at hj
  refine lv_lload_n hx hb dX2_noNumber_0 rfl (lv_at hl 0 rfl) ?_
  refine lv_lconst (v := (1 : Int64)) hx hb dX2_noNumber_1 (by decide) ?_
  refine W.lcmp hx hb dX2_noNumber_2 ?_
  refine lv_if_lt (tgt := 14) hx hb dX2_noNumber_3 (by decide) (fun c1 => ?_) (fun c1 => ?_)
  · replace hj := ja_pos ((lg_cmp_lt a1 (1 : Int64)).mp c1) hj
    refine lv_iconst (v := (1 : Int32)) hx hb dX2_noNumber_14 (by decide) ?_
    refine lv_goto (tgt := 19) hx hb dX2_noNumber_15 (by decide) ?_
    have hr9 : (1 : Int32) = r := Option.some.inj hj
    subst hr9
    exact W.zret (v := (1 : Int32)) hx hb hr (by decide) (fun t ht hW => ⟨⟨(1 : Int32), (), rfl, rfl, by rw [ht]; exact hP, va_K.moved hW.alike hK, hD⟩, hS.F ht⟩) hS.2.2 dX2_noNumber_19
  · replace hj := ja_neg (fun h9 => c1 ((lg_cmp_lt a1 (1 : Int64)).mpr h9)) hj
    refine lv_lload_n hx hb dX2_noNumber_6 rfl (lv_at hl 0 rfl) ?_
    refine lv_ldc2 (v := (4611686018427387904 : Int64)) hx hb hown (hts (.constantLong RX2 30 (4611686018427387904)) (by decide +kernel)) dX2_noNumber_7 ?_
    refine W.lcmp hx hb dX2_noNumber_10 ?_
    refine lv_if_le (tgt := 18) hx hb dX2_noNumber_11 (by decide) (fun c2 => ?_) (fun c2 => ?_)
    · replace hj := ja_pos ((lg_cmp_le a1 (4611686018427387904 : Int64)).mp c2) hj
      refine lv_iconst (v := (0 : Int32)) hx hb dX2_noNumber_18 (by decide) ?_
      have hr9 : (0 : Int32) = r := Option.some.inj hj
      subst hr9
      exact W.zret (v := (0 : Int32)) hx hb hr (by decide) (fun t ht hW => ⟨⟨(0 : Int32), (), rfl, rfl, by rw [ht]; exact hP, va_K.moved hW.alike hK, hD⟩, hS.F ht⟩) hS.2.2 dX2_noNumber_19
    · replace hj := ja_neg (fun h9 => c2 ((lg_cmp_le a1 (4611686018427387904 : Int64)).mpr h9)) hj
      refine lv_iconst (v := (1 : Int32)) hx hb dX2_noNumber_14 (by decide) ?_
      refine lv_goto (tgt := 19) hx hb dX2_noNumber_15 (by decide) ?_
      have hr9 : (1 : Int32) = r := Option.some.inj hj
      subst hr9
      exact W.zret (v := (1 : Int32)) hx hb hr (by decide) (fun t ht hW => ⟨⟨(1 : Int32), (), rfl, rfl, by rw [ht]; exact hP, va_K.moved hW.alike hK, hD⟩, hS.F ht⟩) hS.2.2 dX2_noNumber_19

def j_X2_noKind (a1 : Int32) (a2 : Int32) : Option (Int32) :=
  if a1 < (0 : Int32) then (some (1 : Int32)) else (if a1 ≤ (7 : Int32) then (if (5 : Int32) ≤ a1 then (if a1 = (5 : Int32) then (if a2 < (1 : Int32) then (some (1 : Int32)) else (if a2 ≤ (1000000 : Int32) then (some (0 : Int32)) else (some (1 : Int32)))) else (if a1 = (6 : Int32) then (if a2 < (0 : Int32) then (some (1 : Int32)) else (if a2 ≤ (40 : Int32) then (some (0 : Int32)) else (some (1 : Int32)))) else (if a2 < (1 : Int32) then (some (1 : Int32)) else (if a2 ≤ (16 : Int32) then (some (0 : Int32)) else (some (1 : Int32)))))) else (if a2 = (0 : Int32) then (some (0 : Int32)) else (some (1 : Int32)))) else (some (1 : Int32)))
set_option maxHeartbeats 4000000 in
set_option maxRecDepth 100000 in
theorem c_X2_noKind (l : Launch) (dC : Nat → ClassId) (dI : Nat → Nat → Nat) (cI cJ : ClassId) (sz : Nat) (a1 : Int32) (a2 : Int32) (r : Int32) (hj : j_X2_noKind a1 a2 = some r) : Met l yX2_noKind wsX2_noKind ({ frames := 0, cells := 0, slots := 0, locals := 0 } : Room) (va_Pc [.int a1, .int a2] (fun U => jPr dC dI cI cJ ([] : va_W) sz U)) (va_Qi (fun (v : Int32) (_ : Unit) => v = r) (fun (_ : Unit) t => jPo dC dI cI cJ [] (va_A ([] : va_W) sz) t) (va_A ([] : va_W) sz)) 0 0 (va_A ([] : va_W) sz) := by
  refine Met.ofW (cc := cX2_noKind) (maxL := 2) (ret := (some .boolean)) (by decide) rfl ?_
  intro p e s m args below meth c s₁ B hml hv
  obtain ⟨rfl, ⟨hsz, hP, hK, hD0⟩⟩ := hv
  have hx := B.exec
  have hb := B.bytes
  have hr := B.returns
  have hts := atoms_spec (ws := wsX2_noKind) B.pre
  have hown : s.vm.findClass RX2 = some m.cls := findClass_of_methodNamed B.named
  have hlocks := B.notSynchronized
  have C0 := jCx.of hx hb hr hml hown hts hlocks
  subst hsz
  have hD := hD0.self (sz := s.heap.size)
  generalize hAe : va_A ([] : va_W) s.heap.size = A at hD ⊢
  have hA : ∀ q : Nat, s.heap.size ≤ q → A q := fun q h => by rw [← hAe]; exact Or.inr h
  have hS : va_S A s.heap s.heap [] := va_S.rf
  have hP : va_P (dC, dI) vwCl ([] : va_W) s.heap := hP
  have hl := lv_entry ([.int a1, .int a2]) (n := 2) (Nat.le_of_ble_eq_true rfl)
  rw [lg_entry_eq]
  generalize (lg_sl ([.int a1, .int a2]) ++ List.replicate (2 - (lg_sl ([.int a1, .int a2])).length) Slot.unset).toArray = ls at hl ⊢
  have hl : lv_has ls 2 [(0, .int a1), (1, .int a2)] := hl
  clear hD0 hAe
  unfold j_X2_noKind at hj
  refine lv_iload_n hx hb dX2_noKind_0 rfl (lv_at hl 0 rfl) ?_
  refine lv_if_lt (tgt := 10) hx hb dX2_noKind_1 (by decide) (fun c1 => ?_) (fun c1 => ?_)
  · replace hj := ja_pos c1 hj
    refine lv_iconst (v := (1 : Int32)) hx hb dX2_noKind_10 (by decide) ?_
    have hr9 : (1 : Int32) = r := Option.some.inj hj
    subst hr9
    exact W.zret (v := (1 : Int32)) hx hb hr (by decide) (fun t ht hW => ⟨⟨(1 : Int32), (), rfl, rfl, by rw [ht]; exact hP, va_K.moved hW.alike hK, hD⟩, hS.F ht⟩) hS.2.2 dX2_noKind_11
  · replace hj := ja_neg c1 hj
    refine lv_iload_n hx hb dX2_noKind_4 rfl (lv_at hl 0 rfl) ?_
    refine lv_bipush (v := (7 : Int32)) hx hb dX2_noKind_5 (by decide) ?_
    refine lv_icmp_le (tgt := 12) hx hb dX2_noKind_7 (by decide) (fun c2 => ?_) (fun c2 => ?_)
    · replace hj := ja_pos c2 hj
      refine lv_iload_n hx hb dX2_noKind_12 rfl (lv_at hl 0 rfl) ?_
      refine lv_iconst (v := (5 : Int32)) hx hb dX2_noKind_13 (by decide) ?_
      refine lv_icmp_ge (tgt := 29) hx hb dX2_noKind_14 (by decide) (fun c3 => ?_) (fun c3 => ?_)
      · replace hj := ja_pos c3 hj
        refine lv_iload_n hx hb dX2_noKind_29 rfl (lv_at hl 0 rfl) ?_
        refine lv_iconst (v := (5 : Int32)) hx hb dX2_noKind_30 (by decide) ?_
        refine lv_icmp_ne (tgt := 53) hx hb dX2_noKind_31 (by decide) (fun c4 => ?_) (fun c4 => ?_)
        · replace hj := ja_neg c4 hj
          refine lv_iload_n hx hb dX2_noKind_53 rfl (lv_at hl 0 rfl) ?_
          refine lv_bipush (v := (6 : Int32)) hx hb dX2_noKind_54 (by decide) ?_
          refine lv_icmp_ne (tgt := 77) hx hb dX2_noKind_56 (by decide) (fun c5 => ?_) (fun c5 => ?_)
          · replace hj := ja_neg c5 hj
            refine lv_iload_n hx hb dX2_noKind_77 rfl (lv_at hl 1 rfl) ?_
            refine lv_iconst (v := (1 : Int32)) hx hb dX2_noKind_78 (by decide) ?_
            refine lv_icmp_lt (tgt := 88) hx hb dX2_noKind_79 (by decide) (fun c6 => ?_) (fun c6 => ?_)
            · replace hj := ja_pos c6 hj
              refine lv_iconst (v := (1 : Int32)) hx hb dX2_noKind_88 (by decide) ?_
              refine lv_goto (tgt := 93) hx hb dX2_noKind_89 (by decide) ?_
              have hr9 : (1 : Int32) = r := Option.some.inj hj
              subst hr9
              exact W.zret (v := (1 : Int32)) hx hb hr (by decide) (fun t ht hW => ⟨⟨(1 : Int32), (), rfl, rfl, by rw [ht]; exact hP, va_K.moved hW.alike hK, hD⟩, hS.F ht⟩) hS.2.2 dX2_noKind_93
            · replace hj := ja_neg c6 hj
              refine lv_iload_n hx hb dX2_noKind_82 rfl (lv_at hl 1 rfl) ?_
              refine lv_bipush (v := (16 : Int32)) hx hb dX2_noKind_83 (by decide) ?_
              refine lv_icmp_le (tgt := 92) hx hb dX2_noKind_85 (by decide) (fun c7 => ?_) (fun c7 => ?_)
              · replace hj := ja_pos c7 hj
                refine lv_iconst (v := (0 : Int32)) hx hb dX2_noKind_92 (by decide) ?_
                have hr9 : (0 : Int32) = r := Option.some.inj hj
                subst hr9
                exact W.zret (v := (0 : Int32)) hx hb hr (by decide) (fun t ht hW => ⟨⟨(0 : Int32), (), rfl, rfl, by rw [ht]; exact hP, va_K.moved hW.alike hK, hD⟩, hS.F ht⟩) hS.2.2 dX2_noKind_93
              · replace hj := ja_neg c7 hj
                refine lv_iconst (v := (1 : Int32)) hx hb dX2_noKind_88 (by decide) ?_
                refine lv_goto (tgt := 93) hx hb dX2_noKind_89 (by decide) ?_
                have hr9 : (1 : Int32) = r := Option.some.inj hj
                subst hr9
                exact W.zret (v := (1 : Int32)) hx hb hr (by decide) (fun t ht hW => ⟨⟨(1 : Int32), (), rfl, rfl, by rw [ht]; exact hP, va_K.moved hW.alike hK, hD⟩, hS.F ht⟩) hS.2.2 dX2_noKind_93
          · replace hj := ja_pos c5 hj
            refine lv_iload_n hx hb dX2_noKind_59 rfl (lv_at hl 1 rfl) ?_
            refine lv_if_lt (tgt := 69) hx hb dX2_noKind_60 (by decide) (fun c8 => ?_) (fun c8 => ?_)
            · replace hj := ja_pos c8 hj
              refine lv_iconst (v := (1 : Int32)) hx hb dX2_noKind_69 (by decide) ?_
              refine lv_goto (tgt := 93) hx hb dX2_noKind_70 (by decide) ?_
              have hr9 : (1 : Int32) = r := Option.some.inj hj
              subst hr9
              exact W.zret (v := (1 : Int32)) hx hb hr (by decide) (fun t ht hW => ⟨⟨(1 : Int32), (), rfl, rfl, by rw [ht]; exact hP, va_K.moved hW.alike hK, hD⟩, hS.F ht⟩) hS.2.2 dX2_noKind_93
            · replace hj := ja_neg c8 hj
              refine lv_iload_n hx hb dX2_noKind_63 rfl (lv_at hl 1 rfl) ?_
              refine lv_bipush (v := (40 : Int32)) hx hb dX2_noKind_64 (by decide) ?_
              refine lv_icmp_le (tgt := 73) hx hb dX2_noKind_66 (by decide) (fun c9 => ?_) (fun c9 => ?_)
              · replace hj := ja_pos c9 hj
                refine lv_iconst (v := (0 : Int32)) hx hb dX2_noKind_73 (by decide) ?_
                refine lv_goto (tgt := 93) hx hb dX2_noKind_74 (by decide) ?_
                have hr9 : (0 : Int32) = r := Option.some.inj hj
                subst hr9
                exact W.zret (v := (0 : Int32)) hx hb hr (by decide) (fun t ht hW => ⟨⟨(0 : Int32), (), rfl, rfl, by rw [ht]; exact hP, va_K.moved hW.alike hK, hD⟩, hS.F ht⟩) hS.2.2 dX2_noKind_93
              · replace hj := ja_neg c9 hj
                refine lv_iconst (v := (1 : Int32)) hx hb dX2_noKind_69 (by decide) ?_
                refine lv_goto (tgt := 93) hx hb dX2_noKind_70 (by decide) ?_
                have hr9 : (1 : Int32) = r := Option.some.inj hj
                subst hr9
                exact W.zret (v := (1 : Int32)) hx hb hr (by decide) (fun t ht hW => ⟨⟨(1 : Int32), (), rfl, rfl, by rw [ht]; exact hP, va_K.moved hW.alike hK, hD⟩, hS.F ht⟩) hS.2.2 dX2_noKind_93
        · replace hj := ja_pos c4 hj
          refine lv_iload_n hx hb dX2_noKind_34 rfl (lv_at hl 1 rfl) ?_
          refine lv_iconst (v := (1 : Int32)) hx hb dX2_noKind_35 (by decide) ?_
          refine lv_icmp_lt (tgt := 45) hx hb dX2_noKind_36 (by decide) (fun c10 => ?_) (fun c10 => ?_)
          · replace hj := ja_pos c10 hj
            refine lv_iconst (v := (1 : Int32)) hx hb dX2_noKind_45 (by decide) ?_
            refine lv_goto (tgt := 93) hx hb dX2_noKind_46 (by decide) ?_
            have hr9 : (1 : Int32) = r := Option.some.inj hj
            subst hr9
            exact W.zret (v := (1 : Int32)) hx hb hr (by decide) (fun t ht hW => ⟨⟨(1 : Int32), (), rfl, rfl, by rw [ht]; exact hP, va_K.moved hW.alike hK, hD⟩, hS.F ht⟩) hS.2.2 dX2_noKind_93
          · replace hj := ja_neg c10 hj
            refine lv_iload_n hx hb dX2_noKind_39 rfl (lv_at hl 1 rfl) ?_
            refine lv_ldc (v := (1000000 : Int32)) hx hb hown (hts (.constant RX2 29 (1000000)) (by decide +kernel)) dX2_noKind_40 ?_
            refine lv_icmp_le (tgt := 49) hx hb dX2_noKind_42 (by decide) (fun c11 => ?_) (fun c11 => ?_)
            · replace hj := ja_pos c11 hj
              refine lv_iconst (v := (0 : Int32)) hx hb dX2_noKind_49 (by decide) ?_
              refine lv_goto (tgt := 93) hx hb dX2_noKind_50 (by decide) ?_
              have hr9 : (0 : Int32) = r := Option.some.inj hj
              subst hr9
              exact W.zret (v := (0 : Int32)) hx hb hr (by decide) (fun t ht hW => ⟨⟨(0 : Int32), (), rfl, rfl, by rw [ht]; exact hP, va_K.moved hW.alike hK, hD⟩, hS.F ht⟩) hS.2.2 dX2_noKind_93
            · replace hj := ja_neg c11 hj
              refine lv_iconst (v := (1 : Int32)) hx hb dX2_noKind_45 (by decide) ?_
              refine lv_goto (tgt := 93) hx hb dX2_noKind_46 (by decide) ?_
              have hr9 : (1 : Int32) = r := Option.some.inj hj
              subst hr9
              exact W.zret (v := (1 : Int32)) hx hb hr (by decide) (fun t ht hW => ⟨⟨(1 : Int32), (), rfl, rfl, by rw [ht]; exact hP, va_K.moved hW.alike hK, hD⟩, hS.F ht⟩) hS.2.2 dX2_noKind_93
      · replace hj := ja_neg c3 hj
        refine lv_iload_n hx hb dX2_noKind_17 rfl (lv_at hl 1 rfl) ?_
        refine lv_if_eq (tgt := 25) hx hb dX2_noKind_18 (by decide) (fun c12 => ?_) (fun c12 => ?_)
        · replace hj := ja_pos c12 hj
          refine lv_iconst (v := (0 : Int32)) hx hb dX2_noKind_25 (by decide) ?_
          refine lv_goto (tgt := 93) hx hb dX2_noKind_26 (by decide) ?_
          have hr9 : (0 : Int32) = r := Option.some.inj hj
          subst hr9
          exact W.zret (v := (0 : Int32)) hx hb hr (by decide) (fun t ht hW => ⟨⟨(0 : Int32), (), rfl, rfl, by rw [ht]; exact hP, va_K.moved hW.alike hK, hD⟩, hS.F ht⟩) hS.2.2 dX2_noKind_93
        · replace hj := ja_neg c12 hj
          refine lv_iconst (v := (1 : Int32)) hx hb dX2_noKind_21 (by decide) ?_
          refine lv_goto (tgt := 93) hx hb dX2_noKind_22 (by decide) ?_
          have hr9 : (1 : Int32) = r := Option.some.inj hj
          subst hr9
          exact W.zret (v := (1 : Int32)) hx hb hr (by decide) (fun t ht hW => ⟨⟨(1 : Int32), (), rfl, rfl, by rw [ht]; exact hP, va_K.moved hW.alike hK, hD⟩, hS.F ht⟩) hS.2.2 dX2_noKind_93
    · replace hj := ja_neg c2 hj
      refine lv_iconst (v := (1 : Int32)) hx hb dX2_noKind_10 (by decide) ?_
      have hr9 : (1 : Int32) = r := Option.some.inj hj
      subst hr9
      exact W.zret (v := (1 : Int32)) hx hb hr (by decide) (fun t ht hW => ⟨⟨(1 : Int32), (), rfl, rfl, by rw [ht]; exact hP, va_K.moved hW.alike hK, hD⟩, hS.F ht⟩) hS.2.2 dX2_noKind_11

def jL_X2_bitsOf_4 : Nat → Int32 → Int64 → Option (Int32)
  | 0, _, _ => none
  | n + 1, x2, x3 => if x3 ≤ (0 : Int64) then (some x2) else (jL_X2_bitsOf_4 n (x2 + (1 : Int32)) (x3 / (2 : Int64)))
set_option maxHeartbeats 4000000 in
set_option maxRecDepth 100000 in
theorem s_X2_bitsOf_4 {p : Program} {l : Launch} {e : Env} {s : State} {m : MethodId} {args : Array Value} {below : List Frame} {meth : Method} {c : Code} {dC : Nat → ClassId} {dI : Nat → Nat → Nat} {cI cJ : ClassId} {A : Nat → Prop} (C0 : jCx p s m args meth c RX2 cX2_bitsOf 5 (some .int) wsX2_bitsOf) (hK : va_K (dC, dI) vwCl (jTy cI cJ) s) (hA : ∀ q : Nat, s.heap.size ≤ q → A q) :
    ∀ (n : Nat) (x2 : Int32) (x3 : Int64) (r : Int32), jL_X2_bitsOf_4 n x2 x3 = some r → ∀ (H : Heap) (locs : List Loc) (ls : Array Slot), va_P (dC, dI) vwCl [] H → va_D A [] → va_S A s.heap H locs → lv_has ls 5 [(2, .int x2), (3, .long x3)] → W p l e ({ frames := 0, cells := 0, slots := 0, locals := 0 } : Room) s m args below meth c H locs 0 0 (MQ below (va_Qi (fun (v : Int32) (_ : Unit) => v = r) (fun (_ : Unit) t => jPo dC dI cI cJ [] A t) A) args s 0 0 A) (F0 m 4 ls []) := by
  obtain ⟨hx, hb, hr, hml, hown, hts, hlocks⟩ := id C0
  intro n
  induction n with
  | zero =>
    intro x2 x3 r hj
    exact nomatch (show (none : Option (Int32)) = some r from hj)
  | succ n ih =>
    intro x2 x3 r hj H locs ls hP hD hS hl
    replace hj : (if x3 ≤ (0 : Int64) then (some x2) else (jL_X2_bitsOf_4 n (x2 + (1 : Int32)) (x3 / (2 : Int64)))) = some r := hj
    refine lv_lload_n hx hb dX2_bitsOf_4 rfl (lv_at hl 1 rfl) ?_
    refine lv_lconst (v := (0 : Int64)) hx hb dX2_bitsOf_5 (by decide) ?_
    refine W.lcmp hx hb dX2_bitsOf_6 ?_
    refine lv_if_le (tgt := 22) hx hb dX2_bitsOf_7 (by decide) (fun c401 => ?_) (fun c401 => ?_)
    · replace hj := ja_pos ((lg_cmp_le x3 (0 : Int64)).mp c401) hj
      refine lv_iload_n hx hb dX2_bitsOf_22 rfl (lv_at hl 0 rfl) ?_
      have hr9 : x2 = r := Option.some.inj hj
      subst hr9
      exact W.iret (v := x2) hx hb hr (fun t ht hW => ⟨⟨x2, (), rfl, rfl, by rw [ht]; exact hP, va_K.moved hW.alike hK, hD⟩, hS.F ht⟩) hS.2.2 dX2_bitsOf_23
    · replace hj := ja_neg (fun h9 => c401 ((lg_cmp_le x3 (0 : Int64)).mpr h9)) hj
      refine lv_iinc (v := x2 + (1 : Int32)) (lv' := [(2, .int (x2 + (1 : Int32))), (3, .long x3)]) hx hb dX2_bitsOf_10 hl (k := 0) rfl (congrArg (fun z => x2 + z) (by decide)) (by decide) rfl (fun ls hl => ?_)
      refine lv_lload_n hx hb dX2_bitsOf_13 rfl (lv_at hl 1 rfl) ?_
      refine lv_ldc2 (v := (2 : Int64)) hx hb hown (hts (.constantLong RX2 23 (2)) (by decide +kernel)) dX2_bitsOf_14 ?_
      refine lv_ldiv hx hb dX2_bitsOf_17 (by decide) ?_
      refine lv_lstore_n (lv' := [(3, .long (x3 / (2 : Int64))), (2, .int (x2 + (1 : Int32)))]) hx hb dX2_bitsOf_18 rfl hl (by decide) rfl (fun ls hl => ?_)
      refine lv_goto (tgt := 4) hx hb dX2_bitsOf_19 (by decide) ?_
      exact ih (x2 + (1 : Int32)) (x3 / (2 : Int64)) _ hj _ _ _ (hP) (hD) hS (lv_sub hl [1, 0] rfl)
def j_X2_bitsOf (a1 : Int64) : Option (Int32) :=
  jL_X2_bitsOf_4 jF (0 : Int32) a1
set_option maxHeartbeats 4000000 in
set_option maxRecDepth 100000 in
theorem c_X2_bitsOf (l : Launch) (dC : Nat → ClassId) (dI : Nat → Nat → Nat) (cI cJ : ClassId) (sz : Nat) (a1 : Int64) (r : Int32) (hj : j_X2_bitsOf a1 = some r) : Met l yX2_bitsOf wsX2_bitsOf ({ frames := 0, cells := 0, slots := 0, locals := 0 } : Room) (va_Pc [.long a1] (fun U => jPr dC dI cI cJ ([] : va_W) sz U)) (va_Qi (fun (v : Int32) (_ : Unit) => v = r) (fun (_ : Unit) t => jPo dC dI cI cJ [] (va_A ([] : va_W) sz) t) (va_A ([] : va_W) sz)) 0 0 (va_A ([] : va_W) sz) := by
  refine Met.ofW (cc := cX2_bitsOf) (maxL := 5) (ret := (some .int)) (by decide) rfl ?_
  intro p e s m args below meth c s₁ B hml hv
  obtain ⟨rfl, ⟨hsz, hP, hK, hD0⟩⟩ := hv
  have hx := B.exec
  have hb := B.bytes
  have hr := B.returns
  have hts := atoms_spec (ws := wsX2_bitsOf) B.pre
  have hown : s.vm.findClass RX2 = some m.cls := findClass_of_methodNamed B.named
  have hlocks := B.notSynchronized
  have C0 := jCx.of hx hb hr hml hown hts hlocks
  subst hsz
  have hD := hD0.self (sz := s.heap.size)
  generalize hAe : va_A ([] : va_W) s.heap.size = A at hD ⊢
  have hA : ∀ q : Nat, s.heap.size ≤ q → A q := fun q h => by rw [← hAe]; exact Or.inr h
  have hS : va_S A s.heap s.heap [] := va_S.rf
  have hP : va_P (dC, dI) vwCl ([] : va_W) s.heap := hP
  have hl := lv_entry ([.long a1]) (n := 5) (Nat.le_of_ble_eq_true rfl)
  rw [lg_entry_eq]
  generalize (lg_sl ([.long a1]) ++ List.replicate (5 - (lg_sl ([.long a1])).length) Slot.unset).toArray = ls at hl ⊢
  have hl : lv_has ls 5 [(0, .long a1)] := hl
  clear hD0 hAe
  unfold j_X2_bitsOf at hj
  refine lv_iconst (v := (0 : Int32)) hx hb dX2_bitsOf_0 (by decide) ?_
  refine lv_istore_n (lv' := [(2, .int (0 : Int32)), (0, .long a1)]) hx hb dX2_bitsOf_1 rfl hl (by decide) rfl (fun ls hl => ?_)
  refine lv_lload_n hx hb dX2_bitsOf_2 rfl (lv_at hl 1 rfl) ?_
  refine lv_lstore_n (lv' := [(3, .long a1), (2, .int (0 : Int32)), (0, .long a1)]) hx hb dX2_bitsOf_3 rfl hl (by decide) rfl (fun ls hl => ?_)
  exact s_X2_bitsOf_4 C0 hK hA  jF (0 : Int32) a1 _ hj _ _ _ (hP) (hD) hS (lv_sub hl [1, 0] rfl)

def jL_X2_byChain_5 : Nat → Int64 → Int64 → Option (Int64)
  | 0, _, _ => none
  | n + 1, x2, x4 => if x4 = (1 : Int64) then (some x2) else ((j_X2_bitsOf x4).bind fun v502 => (jL_X2_byChain_5 n (x2 + v502.toInt64) ((v502 - (1 : Int32)).toInt64)))
set_option maxHeartbeats 4000000 in
set_option maxRecDepth 100000 in
theorem s_X2_byChain_5 {p : Program} {l : Launch} {e : Env} {s : State} {m : MethodId} {args : Array Value} {below : List Frame} {meth : Method} {c : Code} {dC : Nat → ClassId} {dI : Nat → Nat → Nat} {cI cJ : ClassId} {A : Nat → Prop} (C0 : jCx p s m args meth c RX2 cX2_byChain 7 (some .long) wsX2_byChain) (hK : va_K (dC, dI) vwCl (jTy cI cJ) s) (hA : ∀ q : Nat, s.heap.size ≤ q → A q) :
    ∀ (n : Nat) (x2 : Int64) (x4 : Int64) (r : Int64), jL_X2_byChain_5 n x2 x4 = some r → ∀ (H : Heap) (locs : List Loc) (ls : Array Slot), va_P (dC, dI) vwCl [] H → va_D A [] → va_S A s.heap H locs → lv_has ls 7 [(2, .long x2), (4, .long x4)] → W p l e ({ frames := 1, cells := 0, slots := 0, locals := 24 } : Room) s m args below meth c H locs 0 0 (MQ below (va_Ql (fun (v : Int64) (_ : Unit) => v = r) (fun (_ : Unit) t => jPo dC dI cI cJ [] A t) A) args s 0 0 A) (F0 m 5 ls []) := by
  obtain ⟨hx, hb, hr, hml, hown, hts, hlocks⟩ := id C0
  intro n
  induction n with
  | zero =>
    intro x2 x4 r hj
    exact nomatch (show (none : Option (Int64)) = some r from hj)
  | succ n ih =>
    intro x2 x4 r hj H locs ls hP hD hS hl
    replace hj : (if x4 = (1 : Int64) then (some x2) else ((j_X2_bitsOf x4).bind fun v502 => (jL_X2_byChain_5 n (x2 + v502.toInt64) ((v502 - (1 : Int32)).toInt64)))) = some r := hj
    refine lv_lload hx hb dX2_byChain_5 (lv_at hl 1 rfl) ?_
    refine lv_lconst (v := (1 : Int64)) hx hb dX2_byChain_7 (by decide) ?_
    refine W.lcmp hx hb dX2_byChain_8 ?_
    refine lv_if_eq (tgt := 35) hx hb dX2_byChain_9 (by decide) (fun c501 => ?_) (fun c501 => ?_)
    · replace hj := ja_pos ((lg_cmp_eq x4 (1 : Int64)).mp c501) hj
      refine lv_lload_n hx hb dX2_byChain_35 rfl (lv_at hl 0 rfl) ?_
      have hr9 : x2 = r := Option.some.inj hj
      subst hr9
      exact W.lret (v := x2) hx hb hr (fun t ht hW => ⟨⟨x2, (), rfl, rfl, by rw [ht]; exact hP, va_K.moved hW.alike hK, hD⟩, hS.F ht⟩) hS.2.2 dX2_byChain_36
    · replace hj := ja_neg (fun h9 => c501 ((lg_cmp_eq x4 (1 : Int64)).mpr h9)) hj
      refine lv_lload hx hb dX2_byChain_12 (lv_at hl 1 rfl) ?_
      obtain ⟨v502, hc, hj⟩ := ja_bd hj
      try dsimp only at hj
      have hPc := hP.sub (ws' := ([] : va_W)) [] rfl
      have hDc := hD.sub (ws' := ([] : va_W)) [] (by decide) rfl
      have hFc := va_free (wc := ([] : va_W)) hD hS hA [] rfl
      refine va_calli (va_runS (As := [.long x4]) (rest := []) ⟨hx, hb, hml, hown, hts⟩ (c_X2_bitsOf l dC dI cI cJ H.size x4 _ hc) (va_cwS 1 hts gX2_byChain_X2_bitsOf rfl rfl rfl (by decide +kernel) ⟨Nat.le_of_ble_eq_true rfl, Nat.le_of_ble_eq_true rfl⟩) ⟨fun a U g mk q => ⟨q.1, jPr.blind q.2⟩, fun U hU hW => ⟨rfl, jPr.mk hU hW hPc hK hDc⟩⟩ rfl rfl hl.1 rfl (lv_room (Nat.le_of_ble_eq_true rfl)) dX2_byChain_14 ⟨Nat.le_of_ble_eq_true rfl, Nat.le_of_ble_eq_true rfl⟩) hS (fun q _ h => hFc q h) hFc (fun rr u t H1 locs ht hvm hw9 hB hz1 hk1 hS => ?_)
      have hw8 : v502 = rr := hw9.symm
      subst hw8
      obtain ⟨hP1, hK1, hD1⟩ := hB
      rw [ht] at hP1
      obtain ⟨hP, hD⟩ := va_join (wr := ([] : va_W)) (w1 := ([] : va_W)) hP hD [] [] rfl rfl (by decide) (by decide) hk1 hFc hP1 hD1
      clear hk1 hP1 hK1 hD1 hvm hz1 hPc hDc hFc
      generalize H1 = H at hP hS ⊢
      have hP : va_P (dC, dI) vwCl [] H := hP
      have hD : va_D A [] := hD
      refine lv_istore (lv' := [(6, .int v502), (2, .long x2), (4, .long x4)]) hx hb dX2_byChain_17 hl (by decide) rfl (fun ls hl => ?_)
      refine lv_lload_n hx hb dX2_byChain_19 rfl (lv_at hl 1 rfl) ?_
      refine lv_iload hx hb dX2_byChain_20 (lv_at hl 0 rfl) ?_
      refine lv_i2l hx hb dX2_byChain_22 rfl ?_
      refine lv_ladd hx hb dX2_byChain_23 ?_
      refine lv_lstore_n (lv' := [(2, .long (x2 + v502.toInt64)), (6, .int v502), (4, .long x4)]) hx hb dX2_byChain_24 rfl hl (by decide) rfl (fun ls hl => ?_)
      refine lv_iload hx hb dX2_byChain_25 (lv_at hl 1 rfl) ?_
      refine lv_iconst (v := (1 : Int32)) hx hb dX2_byChain_27 (by decide) ?_
      refine lv_isub hx hb dX2_byChain_28 ?_
      refine lv_i2l hx hb dX2_byChain_29 rfl ?_
      refine lv_lstore (lv' := [(4, .long ((v502 - (1 : Int32)).toInt64)), (2, .long (x2 + v502.toInt64)), (6, .int v502)]) hx hb dX2_byChain_30 hl (by decide) rfl (fun ls hl => ?_)
      refine lv_goto (tgt := 5) hx hb dX2_byChain_32 (by decide) ?_
      exact ih (x2 + v502.toInt64) ((v502 - (1 : Int32)).toInt64) _ hj _ _ _ (hP) (hD) hS (lv_sub hl [1, 0] rfl)
def j_X2_byChain (a1 : Int64) : Option (Int64) :=
  jL_X2_byChain_5 jF (1 : Int64) a1
set_option maxHeartbeats 4000000 in
set_option maxRecDepth 100000 in
theorem c_X2_byChain (l : Launch) (dC : Nat → ClassId) (dI : Nat → Nat → Nat) (cI cJ : ClassId) (sz : Nat) (a1 : Int64) (r : Int64) (hj : j_X2_byChain a1 = some r) : Met l yX2_byChain wsX2_byChain ({ frames := 1, cells := 0, slots := 0, locals := 24 } : Room) (va_Pc [.long a1] (fun U => jPr dC dI cI cJ ([] : va_W) sz U)) (va_Ql (fun (v : Int64) (_ : Unit) => v = r) (fun (_ : Unit) t => jPo dC dI cI cJ [] (va_A ([] : va_W) sz) t) (va_A ([] : va_W) sz)) 0 0 (va_A ([] : va_W) sz) := by
  refine Met.ofW (cc := cX2_byChain) (maxL := 7) (ret := (some .long)) (by decide) rfl ?_
  intro p e s m args below meth c s₁ B hml hv
  obtain ⟨rfl, ⟨hsz, hP, hK, hD0⟩⟩ := hv
  have hx := B.exec
  have hb := B.bytes
  have hr := B.returns
  have hts := atoms_spec (ws := wsX2_byChain) B.pre
  have hown : s.vm.findClass RX2 = some m.cls := findClass_of_methodNamed B.named
  have hlocks := B.notSynchronized
  have C0 := jCx.of hx hb hr hml hown hts hlocks
  subst hsz
  have hD := hD0.self (sz := s.heap.size)
  generalize hAe : va_A ([] : va_W) s.heap.size = A at hD ⊢
  have hA : ∀ q : Nat, s.heap.size ≤ q → A q := fun q h => by rw [← hAe]; exact Or.inr h
  have hS : va_S A s.heap s.heap [] := va_S.rf
  have hP : va_P (dC, dI) vwCl ([] : va_W) s.heap := hP
  have hl := lv_entry ([.long a1]) (n := 7) (Nat.le_of_ble_eq_true rfl)
  rw [lg_entry_eq]
  generalize (lg_sl ([.long a1]) ++ List.replicate (7 - (lg_sl ([.long a1])).length) Slot.unset).toArray = ls at hl ⊢
  have hl : lv_has ls 7 [(0, .long a1)] := hl
  clear hD0 hAe
  unfold j_X2_byChain at hj
  refine lv_lconst (v := (1 : Int64)) hx hb dX2_byChain_0 (by decide) ?_
  refine lv_lstore_n (lv' := [(2, .long (1 : Int64)), (0, .long a1)]) hx hb dX2_byChain_1 rfl hl (by decide) rfl (fun ls hl => ?_)
  refine lv_lload_n hx hb dX2_byChain_2 rfl (lv_at hl 1 rfl) ?_
  refine lv_lstore (lv' := [(4, .long a1), (2, .long (1 : Int64)), (0, .long a1)]) hx hb dX2_byChain_3 hl (by decide) rfl (fun ls hl => ?_)
  exact s_X2_byChain_5 C0 hK hA  jF (1 : Int64) a1 _ hj _ _ _ (hP) (hD) hS (lv_sub hl [1, 0] rfl)

set_option maxRecDepth 100000 in
theorem inn_X2_greatest_X2 : ∀ w ∈ u_ws RX2 TX2 11, w ∈ wsX2_greatest := by decide +kernel
def jL_X2_greatest_2 (sm : Nat → Int64) (x1 : Int64) : Nat → Int32 → Option (Int32)
  | 0, _ => none
  | n + 1, x3 => if (90 : Int32) ≤ x3 then (some x3) else (jix (x3 + (1 : Int32)) 92 (if x1 < (sm (x3 + (1 : Int32)).toNatClampNeg) then (some x3) else (jL_X2_greatest_2 sm x1 n (x3 + (1 : Int32)))))
set_option maxHeartbeats 4000000 in
set_option maxRecDepth 100000 in
theorem s_X2_greatest_2 {p : Program} {l : Launch} {e : Env} {s : State} {m : MethodId} {args : Array Value} {below : List Frame} {meth : Method} {c : Code} {dC : Nat → ClassId} {dI : Nat → Nat → Nat} {cI cJ : ClassId} {A : Nat → Prop} (C0 : jCx p s m args meth c RX2 cX2_greatest 4 (some .int) wsX2_greatest) (hK : va_K (dC, dI) vwCl (jTy cI cJ) s) (hA : ∀ q : Nat, s.heap.size ≤ q → A q) (g0 : Nat) (gr : Nat) (gl : Nat) (gw : Nat) (gs : Nat) (th : Int32) (rw : Nat → Int32) (mn : Int32) (at_ : Int32) (ml : Nat → Int64) (md_l : Int32) (wd : Nat → Int32) (md : Int32) (sm : Nat → Int64) (fr : Int32) (no : Int32) (x1 : Int64) :
    ∀ (n : Nat) (x3 : Int32) (r : Int32), jL_X2_greatest_2 sm x1 n x3 = some r → ∀ (H : Heap) (locs : List Loc) (ls : Array Slot), va_P (dC, dI) vwCl (wM cI cJ g0 gr gl gw gs th rw mn at_ ml md_l wd md sm fr no) H → va_D A (wM cI cJ g0 gr gl gw gs th rw mn at_ ml md_l wd md sm fr no) → va_S A s.heap H locs → lv_has ls 4 [(0, .ref g0), (1, .long x1), (3, .int x3)] → W p l e ({ frames := 0, cells := 0, slots := 0, locals := 0 } : Room) s m args below meth c H locs 0 0 (MQ below (va_Qi (fun (v : Int32) (_ : Unit) => v = r) (fun (_ : Unit) t => jPo dC dI cI cJ (wM cI cJ g0 gr gl gw gs th rw mn at_ ml md_l wd md sm fr no) A t) A) args s 0 0 A) (F0 m 2 ls []) := by
  obtain ⟨hx, hb, hr, hml, hown, hts, hlocks⟩ := id C0
  intro n
  induction n with
  | zero =>
    intro x3 r hj
    exact nomatch (show (none : Option (Int32)) = some r from hj)
  | succ n ih =>
    intro x3 r hj H locs ls hP hD hS hl
    replace hj : (if (90 : Int32) ≤ x3 then (some x3) else (jix (x3 + (1 : Int32)) 92 (if x1 < (sm (x3 + (1 : Int32)).toNatClampNeg) then (some x3) else (jL_X2_greatest_2 sm x1 n (x3 + (1 : Int32)))))) = some r := hj
    refine lv_iload_n hx hb dX2_greatest_2 rfl (lv_at hl 2 rfl) ?_
    refine lv_bipush (v := (90 : Int32)) hx hb dX2_greatest_3 (by decide) ?_
    refine lv_icmp_ge (tgt := 27) hx hb dX2_greatest_5 (by decide) (fun c201 => ?_) (fun c201 => ?_)
    · replace hj := ja_pos c201 hj
      refine lv_iload_n hx hb dX2_greatest_27 rfl (lv_at hl 2 rfl) ?_
      have hr9 : x3 = r := Option.some.inj hj
      subst hr9
      exact W.iret (v := x3) hx hb hr (fun t ht hW => ⟨⟨x3, (), rfl, rfl, by rw [ht]; exact hP, va_K.moved hW.alike hK, hD⟩, hS.F ht⟩) hS.2.2 dX2_greatest_28
    · replace hj := ja_neg c201 hj
      refine lv_aload_n hx hb dX2_greatest_8 rfl (lv_at hl 0 rfl) ?_
      refine va_get (D := (dC, dI)) (ci := 2) (v := .ref gs) (C := RX2) (T := TX2) (N := 11) hx hb hts inn_X2_greatest_X2 hown hK hP 0 rfl rfl 8 (by decide) (hts (.fieldLink RX2 20 "SelfEndingCodesModel" "sums" "[J") (by decide +kernel)) (fun _ h9 => h9) rfl dX2_greatest_9 ?_
      refine lv_iload_n hx hb dX2_greatest_12 rfl (lv_at hl 2 rfl) ?_
      refine lv_iconst (v := (1 : Int32)) hx hb dX2_greatest_13 (by decide) ?_
      refine lv_iadd hx hb dX2_greatest_14 ?_
      obtain ⟨hin, hj⟩ := ja_ix hj
      refine va_lald hx hb hK hP 4 1 rfl rfl hin dX2_greatest_15 ?_
      refine lv_lload_n hx hb dX2_greatest_16 rfl (lv_at hl 1 rfl) ?_
      refine W.lcmp hx hb dX2_greatest_17 ?_
      refine lv_if_gt (tgt := 27) hx hb dX2_greatest_18 (by decide) (fun c202 => ?_) (fun c202 => ?_)
      · replace hj := ja_pos ((lg_cmp_gt (sm (x3 + (1 : Int32)).toNatClampNeg) x1).mp c202) hj
        refine lv_iload_n hx hb dX2_greatest_27 rfl (lv_at hl 2 rfl) ?_
        have hr9 : x3 = r := Option.some.inj hj
        subst hr9
        exact W.iret (v := x3) hx hb hr (fun t ht hW => ⟨⟨x3, (), rfl, rfl, by rw [ht]; exact hP, va_K.moved hW.alike hK, hD⟩, hS.F ht⟩) hS.2.2 dX2_greatest_28
      · replace hj := ja_neg (fun h9 => c202 ((lg_cmp_gt (sm (x3 + (1 : Int32)).toNatClampNeg) x1).mpr h9)) hj
        refine lv_iinc (v := x3 + (1 : Int32)) (lv' := [(3, .int (x3 + (1 : Int32))), (0, .ref g0), (1, .long x1)]) hx hb dX2_greatest_21 hl (k := 2) rfl (congrArg (fun z => x3 + z) (by decide)) (by decide) rfl (fun ls hl => ?_)
        refine lv_goto (tgt := 2) hx hb dX2_greatest_24 (by decide) ?_
        exact ih (x3 + (1 : Int32)) _ hj _ _ _ (hP) (hD) hS (lv_sub hl [1, 2, 0] rfl)
def j_X2_greatest (sm : Nat → Int64) (a1 : Int64) : Option (Int32) :=
  jL_X2_greatest_2 sm a1 jF (1 : Int32)
set_option maxHeartbeats 4000000 in
set_option maxRecDepth 100000 in
theorem c_X2_greatest (l : Launch) (dC : Nat → ClassId) (dI : Nat → Nat → Nat) (cI cJ : ClassId) (g0 : Nat) (gr : Nat) (gl : Nat) (gw : Nat) (gs : Nat) (sz : Nat) (th : Int32) (rw : Nat → Int32) (mn : Int32) (at_ : Int32) (ml : Nat → Int64) (md_l : Int32) (wd : Nat → Int32) (md : Int32) (sm : Nat → Int64) (fr : Int32) (no : Int32) (a1 : Int64) (r : Int32) (hj : j_X2_greatest sm a1 = some r) : Met l yX2_greatest wsX2_greatest ({ frames := 0, cells := 0, slots := 0, locals := 0 } : Room) (va_Pc [.ref g0, .long a1] (fun U => jPr dC dI cI cJ (wM cI cJ g0 gr gl gw gs th rw mn at_ ml md_l wd md sm fr no) sz U)) (va_Qi (fun (v : Int32) (_ : Unit) => v = r) (fun (_ : Unit) t => jPo dC dI cI cJ (wM cI cJ g0 gr gl gw gs th rw mn at_ ml md_l wd md sm fr no) (va_A (wM cI cJ g0 gr gl gw gs th rw mn at_ ml md_l wd md sm fr no) sz) t) (va_A (wM cI cJ g0 gr gl gw gs th rw mn at_ ml md_l wd md sm fr no) sz)) 0 0 (va_A (wM cI cJ g0 gr gl gw gs th rw mn at_ ml md_l wd md sm fr no) sz) := by
  refine Met.ofW (cc := cX2_greatest) (maxL := 4) (ret := (some .int)) (by decide) rfl ?_
  intro p e s m args below meth c s₁ B hml hv
  obtain ⟨rfl, ⟨hsz, hP, hK, hD0⟩⟩ := hv
  have hx := B.exec
  have hb := B.bytes
  have hr := B.returns
  have hts := atoms_spec (ws := wsX2_greatest) B.pre
  have hown : s.vm.findClass RX2 = some m.cls := findClass_of_methodNamed B.named
  have hlocks := B.notSynchronized
  have C0 := jCx.of hx hb hr hml hown hts hlocks
  subst hsz
  have hD := hD0.self (sz := s.heap.size)
  generalize hAe : va_A (wM cI cJ g0 gr gl gw gs th rw mn at_ ml md_l wd md sm fr no) s.heap.size = A at hD ⊢
  have hA : ∀ q : Nat, s.heap.size ≤ q → A q := fun q h => by rw [← hAe]; exact Or.inr h
  have hS : va_S A s.heap s.heap [] := va_S.rf
  have hP : va_P (dC, dI) vwCl (wM cI cJ g0 gr gl gw gs th rw mn at_ ml md_l wd md sm fr no) s.heap := hP
  have hl := lv_entry ([.ref g0, .long a1]) (n := 4) (Nat.le_of_ble_eq_true rfl)
  rw [lg_entry_eq]
  generalize (lg_sl ([.ref g0, .long a1]) ++ List.replicate (4 - (lg_sl ([.ref g0, .long a1])).length) Slot.unset).toArray = ls at hl ⊢
  have hl : lv_has ls 4 [(0, .ref g0), (1, .long a1)] := hl
  clear hD0 hAe
  unfold j_X2_greatest at hj
  refine lv_iconst (v := (1 : Int32)) hx hb dX2_greatest_0 (by decide) ?_
  refine lv_istore_n (lv' := [(3, .int (1 : Int32)), (0, .ref g0), (1, .long a1)]) hx hb dX2_greatest_1 rfl hl (by decide) rfl (fun ls hl => ?_)
  exact s_X2_greatest_2 C0 hK hA g0 gr gl gw gs th rw mn at_ ml md_l wd md sm fr no a1 jF (1 : Int32) _ hj _ _ _ (hP) (hD) hS (lv_sub hl [1, 2, 0] rfl)

def jL_X2_powerFor_2 (x0 : Int32) : Nat → Int32 → Option (Int32)
  | 0, _ => none
  | n + 1, x1 => if x0 ≤ ((1 : Int32) <<< (x1 &&& 31)) then (some x1) else (jL_X2_powerFor_2 x0 n (x1 + (1 : Int32)))
set_option maxHeartbeats 4000000 in
set_option maxRecDepth 100000 in
theorem s_X2_powerFor_2 {p : Program} {l : Launch} {e : Env} {s : State} {m : MethodId} {args : Array Value} {below : List Frame} {meth : Method} {c : Code} {dC : Nat → ClassId} {dI : Nat → Nat → Nat} {cI cJ : ClassId} {A : Nat → Prop} (C0 : jCx p s m args meth c RX2 cX2_powerFor 2 (some .int) wsX2_powerFor) (hK : va_K (dC, dI) vwCl (jTy cI cJ) s) (hA : ∀ q : Nat, s.heap.size ≤ q → A q) (x0 : Int32) :
    ∀ (n : Nat) (x1 : Int32) (r : Int32), jL_X2_powerFor_2 x0 n x1 = some r → ∀ (H : Heap) (locs : List Loc) (ls : Array Slot), va_P (dC, dI) vwCl [] H → va_D A [] → va_S A s.heap H locs → lv_has ls 2 [(0, .int x0), (1, .int x1)] → W p l e ({ frames := 0, cells := 0, slots := 0, locals := 0 } : Room) s m args below meth c H locs 0 0 (MQ below (va_Qi (fun (v : Int32) (_ : Unit) => v = r) (fun (_ : Unit) t => jPo dC dI cI cJ [] A t) A) args s 0 0 A) (F0 m 2 ls []) := by
  obtain ⟨hx, hb, hr, hml, hown, hts, hlocks⟩ := id C0
  intro n
  induction n with
  | zero =>
    intro x1 r hj
    exact nomatch (show (none : Option (Int32)) = some r from hj)
  | succ n ih =>
    intro x1 r hj H locs ls hP hD hS hl
    replace hj : (if x0 ≤ ((1 : Int32) <<< (x1 &&& 31)) then (some x1) else (jL_X2_powerFor_2 x0 n (x1 + (1 : Int32)))) = some r := hj
    refine lv_iconst (v := (1 : Int32)) hx hb dX2_powerFor_2 (by decide) ?_
    refine lv_iload_n hx hb dX2_powerFor_3 rfl (lv_at hl 1 rfl) ?_
    refine lv_ishl hx hb dX2_powerFor_4 ?_
    refine lv_iload_n hx hb dX2_powerFor_5 rfl (lv_at hl 0 rfl) ?_
    refine lv_icmp_ge (tgt := 15) hx hb dX2_powerFor_6 (by decide) (fun c201 => ?_) (fun c201 => ?_)
    · replace hj := ja_pos c201 hj
      refine lv_iload_n hx hb dX2_powerFor_15 rfl (lv_at hl 1 rfl) ?_
      have hr9 : x1 = r := Option.some.inj hj
      subst hr9
      exact W.iret (v := x1) hx hb hr (fun t ht hW => ⟨⟨x1, (), rfl, rfl, by rw [ht]; exact hP, va_K.moved hW.alike hK, hD⟩, hS.F ht⟩) hS.2.2 dX2_powerFor_16
    · replace hj := ja_neg c201 hj
      refine lv_iinc (v := x1 + (1 : Int32)) (lv' := [(1, .int (x1 + (1 : Int32))), (0, .int x0)]) hx hb dX2_powerFor_9 hl (k := 1) rfl (congrArg (fun z => x1 + z) (by decide)) (by decide) rfl (fun ls hl => ?_)
      refine lv_goto (tgt := 2) hx hb dX2_powerFor_12 (by decide) ?_
      exact ih (x1 + (1 : Int32)) _ hj _ _ _ (hP) (hD) hS (lv_sub hl [1, 0] rfl)
def j_X2_powerFor (a1 : Int32) : Option (Int32) :=
  jL_X2_powerFor_2 a1 jF (0 : Int32)
set_option maxHeartbeats 4000000 in
set_option maxRecDepth 100000 in
theorem c_X2_powerFor (l : Launch) (dC : Nat → ClassId) (dI : Nat → Nat → Nat) (cI cJ : ClassId) (sz : Nat) (a1 : Int32) (r : Int32) (hj : j_X2_powerFor a1 = some r) : Met l yX2_powerFor wsX2_powerFor ({ frames := 0, cells := 0, slots := 0, locals := 0 } : Room) (va_Pc [.int a1] (fun U => jPr dC dI cI cJ ([] : va_W) sz U)) (va_Qi (fun (v : Int32) (_ : Unit) => v = r) (fun (_ : Unit) t => jPo dC dI cI cJ [] (va_A ([] : va_W) sz) t) (va_A ([] : va_W) sz)) 0 0 (va_A ([] : va_W) sz) := by
  refine Met.ofW (cc := cX2_powerFor) (maxL := 2) (ret := (some .int)) (by decide) rfl ?_
  intro p e s m args below meth c s₁ B hml hv
  obtain ⟨rfl, ⟨hsz, hP, hK, hD0⟩⟩ := hv
  have hx := B.exec
  have hb := B.bytes
  have hr := B.returns
  have hts := atoms_spec (ws := wsX2_powerFor) B.pre
  have hown : s.vm.findClass RX2 = some m.cls := findClass_of_methodNamed B.named
  have hlocks := B.notSynchronized
  have C0 := jCx.of hx hb hr hml hown hts hlocks
  subst hsz
  have hD := hD0.self (sz := s.heap.size)
  generalize hAe : va_A ([] : va_W) s.heap.size = A at hD ⊢
  have hA : ∀ q : Nat, s.heap.size ≤ q → A q := fun q h => by rw [← hAe]; exact Or.inr h
  have hS : va_S A s.heap s.heap [] := va_S.rf
  have hP : va_P (dC, dI) vwCl ([] : va_W) s.heap := hP
  have hl := lv_entry ([.int a1]) (n := 2) (Nat.le_of_ble_eq_true rfl)
  rw [lg_entry_eq]
  generalize (lg_sl ([.int a1]) ++ List.replicate (2 - (lg_sl ([.int a1])).length) Slot.unset).toArray = ls at hl ⊢
  have hl : lv_has ls 2 [(0, .int a1)] := hl
  clear hD0 hAe
  unfold j_X2_powerFor at hj
  refine lv_iconst (v := (0 : Int32)) hx hb dX2_powerFor_0 (by decide) ?_
  refine lv_istore_n (lv' := [(1, .int (0 : Int32)), (0, .int a1)]) hx hb dX2_powerFor_1 rfl hl (by decide) rfl (fun ls hl => ?_)
  exact s_X2_powerFor_2 C0 hK hA a1 jF (0 : Int32) _ hj _ _ _ (hP) (hD) hS (lv_sub hl [1, 0] rfl)

def j_X2_lengthOf (sm : Nat → Int64) (a1 : Int32) (a2 : Int32) (a3 : Int64) : Option (Int64) :=
  (j_X2_bitsOf a3).bind fun v1 => (if a1 = (0 : Int32) then (some a3) else (if a1 = (1 : Int32) then (some (((2 : Int64) * v1.toInt64) - (1 : Int64))) else (if a1 = (2 : Int32) then ((j_X2_bitsOf v1.toInt64).bind fun v4 => (some (((((2 : Int64) * v4.toInt64) - (1 : Int64)) + v1.toInt64) - (1 : Int64)))) else (if a1 = (3 : Int32) then ((j_X2_byChain a3).bind fun v5 => (some v5)) else (if a1 = (4 : Int32) then ((j_X2_greatest sm a3).bind fun v6 => (some (v6.toInt64 + (1 : Int64)))) else (if a1 = (5 : Int32) then (jdvJ a2.toInt64 ((j_X2_powerFor a2).bind fun v7 => (jdvJ a2.toInt64 (if (((1 : Int64) <<< (v7.toInt64 &&& 63)) - a2.toInt64) ≤ ((a3 - (1 : Int64)) - (a3 - (1 : Int64)) / a2.toInt64 * a2.toInt64) then (some ((((a3 - (1 : Int64)) / a2.toInt64) + (1 : Int64)) + v7.toInt64)) else (some ((((a3 - (1 : Int64)) / a2.toInt64) + (1 : Int64)) + ((v7 - (1 : Int32)).toInt64))))))) else (if a1 = (6 : Int32) then ((j_X2_bitsOf (((a3 - (1 : Int64)) >>> (a2.toInt64 &&& 63)) + (1 : Int64))).bind fun v9 => (some ((((2 : Int64) * v9.toInt64) - (1 : Int64)) + a2.toInt64))) else ((j_X2_bitsOf (a3 - (1 : Int64))).bind fun v2 => (jdvI a2 (if (1 : Int64) ≤ ((((v2 + a2) - (1 : Int32)) / a2).toInt64) then (some (((((v2 + a2) - (1 : Int32)) / a2).toInt64) * ((a2 + (1 : Int32)).toInt64))) else (some ((1 : Int64) * ((a2 + (1 : Int32)).toInt64)))))))))))))
set_option maxHeartbeats 4000000 in
set_option maxRecDepth 100000 in
theorem c_X2_lengthOf (l : Launch) (dC : Nat → ClassId) (dI : Nat → Nat → Nat) (cI cJ : ClassId) (g0 : Nat) (gr : Nat) (gl : Nat) (gw : Nat) (gs : Nat) (sz : Nat) (th : Int32) (rw : Nat → Int32) (mn : Int32) (at_ : Int32) (ml : Nat → Int64) (md_l : Int32) (wd : Nat → Int32) (md : Int32) (sm : Nat → Int64) (fr : Int32) (no : Int32) (a1 : Int32) (a2 : Int32) (a3 : Int64) (r : Int64) (hj : j_X2_lengthOf sm a1 a2 a3 = some r) : Met l yX2_lengthOf wsX2_lengthOf ({ frames := 2, cells := 0, slots := 0, locals := 50 } : Room) (va_Pc [.ref g0, .int a1, .int a2, .long a3] (fun U => jPr dC dI cI cJ (wM cI cJ g0 gr gl gw gs th rw mn at_ ml md_l wd md sm fr no) sz U)) (va_Ql (fun (v : Int64) (_ : Unit) => v = r) (fun (_ : Unit) t => jPo dC dI cI cJ (wM cI cJ g0 gr gl gw gs th rw mn at_ ml md_l wd md sm fr no) (va_A (wM cI cJ g0 gr gl gw gs th rw mn at_ ml md_l wd md sm fr no) sz) t) (va_A (wM cI cJ g0 gr gl gw gs th rw mn at_ ml md_l wd md sm fr no) sz)) 0 0 (va_A (wM cI cJ g0 gr gl gw gs th rw mn at_ ml md_l wd md sm fr no) sz) := by
  refine Met.ofW (cc := cX2_lengthOf) (maxL := 11) (ret := (some .long)) (by decide) rfl ?_
  intro p e s m args below meth c s₁ B hml hv
  obtain ⟨rfl, ⟨hsz, hP, hK, hD0⟩⟩ := hv
  have hx := B.exec
  have hb := B.bytes
  have hr := B.returns
  have hts := atoms_spec (ws := wsX2_lengthOf) B.pre
  have hown : s.vm.findClass RX2 = some m.cls := findClass_of_methodNamed B.named
  have hlocks := B.notSynchronized
  have C0 := jCx.of hx hb hr hml hown hts hlocks
  subst hsz
  have hD := hD0.self (sz := s.heap.size)
  generalize hAe : va_A (wM cI cJ g0 gr gl gw gs th rw mn at_ ml md_l wd md sm fr no) s.heap.size = A at hD ⊢
  have hA : ∀ q : Nat, s.heap.size ≤ q → A q := fun q h => by rw [← hAe]; exact Or.inr h
  have hS : va_S A s.heap s.heap [] := va_S.rf
  have hP : va_P (dC, dI) vwCl (wM cI cJ g0 gr gl gw gs th rw mn at_ ml md_l wd md sm fr no) s.heap := hP
  have hl := lv_entry ([.ref g0, .int a1, .int a2, .long a3]) (n := 11) (Nat.le_of_ble_eq_true rfl)
  rw [lg_entry_eq]
  generalize (lg_sl ([.ref g0, .int a1, .int a2, .long a3]) ++ List.replicate (11 - (lg_sl ([.ref g0, .int a1, .int a2, .long a3])).length) Slot.unset).toArray = ls at hl ⊢
  have hl : lv_has ls 11 [(0, .ref g0), (1, .int a1), (2, .int a2), (3, .long a3)] := hl
  clear hD0 hAe
  unfold j_X2_lengthOf at hj
  refine lv_lload_n hx hb dX2_lengthOf_0 rfl (lv_at hl 3 rfl) ?_
  obtain ⟨v1, hc, hj⟩ := ja_bd hj
  try dsimp only at hj
  have hPc := hP.sub (ws' := ([] : va_W)) [] rfl
  have hDc := hD.sub (ws' := ([] : va_W)) [] (by decide) rfl
  have hFc := va_free (wc := ([] : va_W)) hD hS hA [] rfl
  refine va_calli (va_runS (As := [.long a3]) (rest := []) ⟨hx, hb, hml, hown, hts⟩ (c_X2_bitsOf l dC dI cI cJ s.heap.size a3 _ hc) (va_cwS 1 hts gX2_lengthOf_X2_bitsOf rfl rfl rfl (by decide +kernel) ⟨Nat.le_of_ble_eq_true rfl, Nat.le_of_ble_eq_true rfl⟩) ⟨fun a U g mk q => ⟨q.1, jPr.blind q.2⟩, fun U hU hW => ⟨rfl, jPr.mk hU hW hPc hK hDc⟩⟩ rfl rfl hl.1 rfl (lv_room (Nat.le_of_ble_eq_true rfl)) dX2_lengthOf_1 ⟨Nat.le_of_ble_eq_true rfl, Nat.le_of_ble_eq_true rfl⟩) hS (fun q _ h => hFc q h) hFc (fun rr u t H1 locs ht hvm hw9 hB hz1 hk1 hS => ?_)
  have hw8 : v1 = rr := hw9.symm
  subst hw8
  obtain ⟨hP1, hK1, hD1⟩ := hB
  rw [ht] at hP1
  obtain ⟨hP, hD⟩ := va_join (wr := ([(g0, .inr (2, [.int th, .ref gr, .int mn, .int at_, .ref gl, .int md_l, .ref gw, .int md, .ref gs, .int fr, .int no])), (gr, .inl (cI, 4096, .inl rw)), (gl, .inl (cJ, 100, .inr (.inl ml))), (gw, .inl (cI, 4200, .inl wd)), (gs, .inl (cJ, 92, .inr (.inl sm)))] : va_W)) (w1 := ([] : va_W)) hP hD [] [0, 1, 2, 3, 4] rfl rfl (by decide) (by decide) hk1 hFc hP1 hD1
  clear hk1 hP1 hK1 hD1 hvm hz1 hPc hDc hFc
  generalize H1 = H at hP hS ⊢
  have hP : va_P (dC, dI) vwCl (wM cI cJ g0 gr gl gw gs th rw mn at_ ml md_l wd md sm fr no) H := hP
  have hD : va_D A (wM cI cJ g0 gr gl gw gs th rw mn at_ ml md_l wd md sm fr no) := hD
  refine lv_istore (lv' := [(5, .int v1), (0, .ref g0), (1, .int a1), (2, .int a2), (3, .long a3)]) hx hb dX2_lengthOf_4 hl (by decide) rfl (fun ls hl => ?_)
  refine lv_iload_n hx hb dX2_lengthOf_6 rfl (lv_at hl 2 rfl) ?_
  by_cases q0 : a1 = (0 : Int32)
  · replace hj := ja_pos q0 hj
    refine lv_tableIn (tgt := 48) hx hb dX2_lengthOf_7 (by rw [q0]; decide) (by rw [q0]; decide) (by rw [q0]; rfl) (by decide) ?_
    refine lv_lload_n hx hb dX2_lengthOf_48 rfl (lv_at hl 4 rfl) ?_
    have hr9 : a3 = r := Option.some.inj hj
    subst hr9
    exact W.lret (v := a3) hx hb hr (fun t ht hW => ⟨⟨a3, (), rfl, rfl, by rw [ht]; exact hP, va_K.moved hW.alike hK, hD⟩, hS.F ht⟩) hS.2.2 dX2_lengthOf_49
  · replace hj := ja_neg q0 hj
    by_cases q1 : a1 = (1 : Int32)
    · replace hj := ja_pos q1 hj
      refine lv_tableIn (tgt := 50) hx hb dX2_lengthOf_7 (by rw [q1]; decide) (by rw [q1]; decide) (by rw [q1]; rfl) (by decide) ?_
      refine lv_ldc2 (v := (2 : Int64)) hx hb hown (hts (.constantLong RX2 23 (2)) (by decide +kernel)) dX2_lengthOf_50 ?_
      refine lv_iload hx hb dX2_lengthOf_53 (lv_at hl 0 rfl) ?_
      refine lv_i2l hx hb dX2_lengthOf_55 rfl ?_
      refine lv_lmul hx hb dX2_lengthOf_56 ?_
      refine lv_lconst (v := (1 : Int64)) hx hb dX2_lengthOf_57 (by decide) ?_
      refine lv_lsub hx hb dX2_lengthOf_58 ?_
      have hr9 : (((2 : Int64) * v1.toInt64) - (1 : Int64)) = r := Option.some.inj hj
      subst hr9
      exact W.lret (v := ((2 : Int64) * v1.toInt64) - (1 : Int64)) hx hb hr (fun t ht hW => ⟨⟨((2 : Int64) * v1.toInt64) - (1 : Int64), (), rfl, rfl, by rw [ht]; exact hP, va_K.moved hW.alike hK, hD⟩, hS.F ht⟩) hS.2.2 dX2_lengthOf_59
    · replace hj := ja_neg q1 hj
      by_cases q2 : a1 = (2 : Int32)
      · replace hj := ja_pos q2 hj
        refine lv_tableIn (tgt := 60) hx hb dX2_lengthOf_7 (by rw [q2]; decide) (by rw [q2]; decide) (by rw [q2]; rfl) (by decide) ?_
        refine lv_ldc2 (v := (2 : Int64)) hx hb hown (hts (.constantLong RX2 23 (2)) (by decide +kernel)) dX2_lengthOf_60 ?_
        refine lv_iload hx hb dX2_lengthOf_63 (lv_at hl 0 rfl) ?_
        refine lv_i2l hx hb dX2_lengthOf_65 rfl ?_
        obtain ⟨v4, hc, hj⟩ := ja_bd hj
        try dsimp only at hj
        have hPc := hP.sub (ws' := ([] : va_W)) [] rfl
        have hDc := hD.sub (ws' := ([] : va_W)) [] (by decide) rfl
        have hFc := va_free (wc := ([] : va_W)) hD hS hA [] rfl
        refine va_calli (va_runS (As := [.long v1.toInt64]) (rest := [.long (2 : Int64)]) ⟨hx, hb, hml, hown, hts⟩ (c_X2_bitsOf l dC dI cI cJ H.size v1.toInt64 _ hc) (va_cwS 1 hts gX2_lengthOf_X2_bitsOf rfl rfl rfl (by decide +kernel) ⟨Nat.le_of_ble_eq_true rfl, Nat.le_of_ble_eq_true rfl⟩) ⟨fun a U g mk q => ⟨q.1, jPr.blind q.2⟩, fun U hU hW => ⟨rfl, jPr.mk hU hW hPc hK hDc⟩⟩ rfl rfl hl.1 rfl (lv_room (Nat.le_of_ble_eq_true rfl)) dX2_lengthOf_66 ⟨Nat.le_of_ble_eq_true rfl, Nat.le_of_ble_eq_true rfl⟩) hS (fun q _ h => hFc q h) hFc (fun rr u t H1 locs ht hvm hw9 hB hz1 hk1 hS => ?_)
        have hw8 : v4 = rr := hw9.symm
        subst hw8
        obtain ⟨hP1, hK1, hD1⟩ := hB
        rw [ht] at hP1
        obtain ⟨hP, hD⟩ := va_join (wr := ([(g0, .inr (2, [.int th, .ref gr, .int mn, .int at_, .ref gl, .int md_l, .ref gw, .int md, .ref gs, .int fr, .int no])), (gr, .inl (cI, 4096, .inl rw)), (gl, .inl (cJ, 100, .inr (.inl ml))), (gw, .inl (cI, 4200, .inl wd)), (gs, .inl (cJ, 92, .inr (.inl sm)))] : va_W)) (w1 := ([] : va_W)) hP hD [] [0, 1, 2, 3, 4] rfl rfl (by decide) (by decide) hk1 hFc hP1 hD1
        clear hk1 hP1 hK1 hD1 hvm hz1 hPc hDc hFc
        generalize H1 = H at hP hS ⊢
        have hP : va_P (dC, dI) vwCl (wM cI cJ g0 gr gl gw gs th rw mn at_ ml md_l wd md sm fr no) H := hP
        have hD : va_D A (wM cI cJ g0 gr gl gw gs th rw mn at_ ml md_l wd md sm fr no) := hD
        refine lv_i2l hx hb dX2_lengthOf_69 rfl ?_
        refine lv_lmul hx hb dX2_lengthOf_70 ?_
        refine lv_lconst (v := (1 : Int64)) hx hb dX2_lengthOf_71 (by decide) ?_
        refine lv_lsub hx hb dX2_lengthOf_72 ?_
        refine lv_iload hx hb dX2_lengthOf_73 (lv_at hl 0 rfl) ?_
        refine lv_i2l hx hb dX2_lengthOf_75 rfl ?_
        refine lv_ladd hx hb dX2_lengthOf_76 ?_
        refine lv_lconst (v := (1 : Int64)) hx hb dX2_lengthOf_77 (by decide) ?_
        refine lv_lsub hx hb dX2_lengthOf_78 ?_
        have hr9 : (((((2 : Int64) * v4.toInt64) - (1 : Int64)) + v1.toInt64) - (1 : Int64)) = r := Option.some.inj hj
        subst hr9
        exact W.lret (v := ((((2 : Int64) * v4.toInt64) - (1 : Int64)) + v1.toInt64) - (1 : Int64)) hx hb hr (fun t ht hW => ⟨⟨((((2 : Int64) * v4.toInt64) - (1 : Int64)) + v1.toInt64) - (1 : Int64), (), rfl, rfl, by rw [ht]; exact hP, va_K.moved hW.alike hK, hD⟩, hS.F ht⟩) hS.2.2 dX2_lengthOf_79
      · replace hj := ja_neg q2 hj
        by_cases q3 : a1 = (3 : Int32)
        · replace hj := ja_pos q3 hj
          refine lv_tableIn (tgt := 80) hx hb dX2_lengthOf_7 (by rw [q3]; decide) (by rw [q3]; decide) (by rw [q3]; rfl) (by decide) ?_
          refine lv_lload_n hx hb dX2_lengthOf_80 rfl (lv_at hl 4 rfl) ?_
          obtain ⟨v5, hc, hj⟩ := ja_bd hj
          try dsimp only at hj
          have hPc := hP.sub (ws' := ([] : va_W)) [] rfl
          have hDc := hD.sub (ws' := ([] : va_W)) [] (by decide) rfl
          have hFc := va_free (wc := ([] : va_W)) hD hS hA [] rfl
          refine va_calll (va_runS (As := [.long a3]) (rest := []) ⟨hx, hb, hml, hown, hts⟩ (c_X2_byChain l dC dI cI cJ H.size a3 _ hc) (va_cwS 1 hts gX2_lengthOf_X2_byChain rfl rfl rfl (by decide +kernel) ⟨Nat.le_of_ble_eq_true rfl, Nat.le_of_ble_eq_true rfl⟩) ⟨fun a U g mk q => ⟨q.1, jPr.blind q.2⟩, fun U hU hW => ⟨rfl, jPr.mk hU hW hPc hK hDc⟩⟩ rfl rfl hl.1 rfl (lv_room (Nat.le_of_ble_eq_true rfl)) dX2_lengthOf_81 ⟨Nat.le_of_ble_eq_true rfl, Nat.le_of_ble_eq_true rfl⟩) hS (fun q _ h => hFc q h) hFc (fun rr u t H1 locs ht hvm hw9 hB hz1 hk1 hS => ?_)
          have hw8 : v5 = rr := hw9.symm
          subst hw8
          obtain ⟨hP1, hK1, hD1⟩ := hB
          rw [ht] at hP1
          obtain ⟨hP, hD⟩ := va_join (wr := ([(g0, .inr (2, [.int th, .ref gr, .int mn, .int at_, .ref gl, .int md_l, .ref gw, .int md, .ref gs, .int fr, .int no])), (gr, .inl (cI, 4096, .inl rw)), (gl, .inl (cJ, 100, .inr (.inl ml))), (gw, .inl (cI, 4200, .inl wd)), (gs, .inl (cJ, 92, .inr (.inl sm)))] : va_W)) (w1 := ([] : va_W)) hP hD [] [0, 1, 2, 3, 4] rfl rfl (by decide) (by decide) hk1 hFc hP1 hD1
          clear hk1 hP1 hK1 hD1 hvm hz1 hPc hDc hFc
          generalize H1 = H at hP hS ⊢
          have hP : va_P (dC, dI) vwCl (wM cI cJ g0 gr gl gw gs th rw mn at_ ml md_l wd md sm fr no) H := hP
          have hD : va_D A (wM cI cJ g0 gr gl gw gs th rw mn at_ ml md_l wd md sm fr no) := hD
          have hr9 : v5 = r := Option.some.inj hj
          subst hr9
          exact W.lret (v := v5) hx hb hr (fun t ht hW => ⟨⟨v5, (), rfl, rfl, by rw [ht]; exact hP, va_K.moved hW.alike hK, hD⟩, hS.F ht⟩) hS.2.2 dX2_lengthOf_84
        · replace hj := ja_neg q3 hj
          by_cases q4 : a1 = (4 : Int32)
          · replace hj := ja_pos q4 hj
            refine lv_tableIn (tgt := 85) hx hb dX2_lengthOf_7 (by rw [q4]; decide) (by rw [q4]; decide) (by rw [q4]; rfl) (by decide) ?_
            refine lv_aload_n hx hb dX2_lengthOf_85 rfl (lv_at hl 1 rfl) ?_
            refine lv_lload_n hx hb dX2_lengthOf_86 rfl (lv_at hl 4 rfl) ?_
            obtain ⟨v6, hc, hj⟩ := ja_bd hj
            try dsimp only at hj
            have hPc := hP.sub (ws' := (wM cI cJ g0 gr gl gw gs th rw mn at_ ml md_l wd md sm fr no)) [0, 1, 2, 3, 4] rfl
            have hDc := hD.sub (ws' := (wM cI cJ g0 gr gl gw gs th rw mn at_ ml md_l wd md sm fr no)) [0, 1, 2, 3, 4] (by decide) rfl
            have hFc := va_free (wc := (wM cI cJ g0 gr gl gw gs th rw mn at_ ml md_l wd md sm fr no)) hD hS hA [0, 1, 2, 3, 4] rfl
            refine va_calli (va_runV (As := [.long a3]) (rest := []) ⟨hx, hb, hml, hown, hts⟩ (c_X2_greatest l dC dI cI cJ g0 gr gl gw gs H.size th rw mn at_ ml md_l wd md sm fr no a3 _ hc) (cwV 1 hts gX2_lengthOf_X2_greatest rfl rfl rfl (by decide +kernel) ⟨Nat.le_of_ble_eq_true rfl, Nat.le_of_ble_eq_true rfl⟩) ⟨fun a U g mk q => ⟨q.1, jPr.blind q.2⟩, va_recv hK hPc (ci := 2) (q0 := 0) rfl rfl, fun U hU hW => ⟨rfl, jPr.mk hU hW hPc hK hDc⟩⟩ rfl rfl hl.1 rfl (lv_room (Nat.le_of_ble_eq_true rfl)) dX2_lengthOf_87 ⟨Nat.le_of_ble_eq_true rfl, Nat.le_of_ble_eq_true rfl⟩) hS (fun q _ h => hFc q h) hFc (fun rr u t H1 locs ht hvm hw9 hB hz1 hk1 hS => ?_)
            have hw8 : v6 = rr := hw9.symm
            subst hw8
            obtain ⟨hP1, hK1, hD1⟩ := hB
            rw [ht] at hP1
            obtain ⟨hP, hD⟩ := va_join (wr := ([] : va_W)) (w1 := (wM cI cJ g0 gr gl gw gs th rw mn at_ ml md_l wd md sm fr no)) hP hD [0, 1, 2, 3, 4] [] rfl rfl (by decide) (by decide) hk1 hFc hP1 hD1
            clear hk1 hP1 hK1 hD1 hvm hz1 hPc hDc hFc
            generalize H1 = H at hP hS ⊢
            have hP : va_P (dC, dI) vwCl (wM cI cJ g0 gr gl gw gs th rw mn at_ ml md_l wd md sm fr no) H := hP
            have hD : va_D A (wM cI cJ g0 gr gl gw gs th rw mn at_ ml md_l wd md sm fr no) := hD
            refine lv_i2l hx hb dX2_lengthOf_90 rfl ?_
            refine lv_lconst (v := (1 : Int64)) hx hb dX2_lengthOf_91 (by decide) ?_
            refine lv_ladd hx hb dX2_lengthOf_92 ?_
            have hr9 : (v6.toInt64 + (1 : Int64)) = r := Option.some.inj hj
            subst hr9
            exact W.lret (v := v6.toInt64 + (1 : Int64)) hx hb hr (fun t ht hW => ⟨⟨v6.toInt64 + (1 : Int64), (), rfl, rfl, by rw [ht]; exact hP, va_K.moved hW.alike hK, hD⟩, hS.F ht⟩) hS.2.2 dX2_lengthOf_93
          · replace hj := ja_neg q4 hj
            by_cases q5 : a1 = (5 : Int32)
            · replace hj := ja_pos q5 hj
              refine lv_tableIn (tgt := 94) hx hb dX2_lengthOf_7 (by rw [q5]; decide) (by rw [q5]; decide) (by rw [q5]; rfl) (by decide) ?_
              refine lv_lload_n hx hb dX2_lengthOf_94 rfl (lv_at hl 4 rfl) ?_
              refine lv_lconst (v := (1 : Int64)) hx hb dX2_lengthOf_95 (by decide) ?_
              refine lv_lsub hx hb dX2_lengthOf_96 ?_
              refine lv_iload_n hx hb dX2_lengthOf_97 rfl (lv_at hl 3 rfl) ?_
              refine lv_i2l hx hb dX2_lengthOf_98 rfl ?_
              obtain ⟨hne, hj⟩ := ja_dvJ hj
              refine lv_lrem hx hb dX2_lengthOf_99 hne ?_
              refine lv_lstore (lv' := [(6, .long ((a3 - (1 : Int64)) - (a3 - (1 : Int64)) / a2.toInt64 * a2.toInt64)), (5, .int v1), (0, .ref g0), (1, .int a1), (2, .int a2), (3, .long a3)]) hx hb dX2_lengthOf_100 hl (by decide) rfl (fun ls hl => ?_)
              refine lv_iload_n hx hb dX2_lengthOf_102 rfl (lv_at hl 4 rfl) ?_
              obtain ⟨v7, hc, hj⟩ := ja_bd hj
              try dsimp only at hj
              have hPc := hP.sub (ws' := ([] : va_W)) [] rfl
              have hDc := hD.sub (ws' := ([] : va_W)) [] (by decide) rfl
              have hFc := va_free (wc := ([] : va_W)) hD hS hA [] rfl
              refine va_calli (va_runS (As := [.int a2]) (rest := []) ⟨hx, hb, hml, hown, hts⟩ (c_X2_powerFor l dC dI cI cJ H.size a2 _ hc) (va_cwS 1 hts gX2_lengthOf_X2_powerFor rfl rfl rfl (by decide +kernel) ⟨Nat.le_of_ble_eq_true rfl, Nat.le_of_ble_eq_true rfl⟩) ⟨fun a U g mk q => ⟨q.1, jPr.blind q.2⟩, fun U hU hW => ⟨rfl, jPr.mk hU hW hPc hK hDc⟩⟩ rfl rfl hl.1 rfl (lv_room (Nat.le_of_ble_eq_true rfl)) dX2_lengthOf_103 ⟨Nat.le_of_ble_eq_true rfl, Nat.le_of_ble_eq_true rfl⟩) hS (fun q _ h => hFc q h) hFc (fun rr u t H1 locs ht hvm hw9 hB hz1 hk1 hS => ?_)
              have hw8 : v7 = rr := hw9.symm
              subst hw8
              obtain ⟨hP1, hK1, hD1⟩ := hB
              rw [ht] at hP1
              obtain ⟨hP, hD⟩ := va_join (wr := ([(g0, .inr (2, [.int th, .ref gr, .int mn, .int at_, .ref gl, .int md_l, .ref gw, .int md, .ref gs, .int fr, .int no])), (gr, .inl (cI, 4096, .inl rw)), (gl, .inl (cJ, 100, .inr (.inl ml))), (gw, .inl (cI, 4200, .inl wd)), (gs, .inl (cJ, 92, .inr (.inl sm)))] : va_W)) (w1 := ([] : va_W)) hP hD [] [0, 1, 2, 3, 4] rfl rfl (by decide) (by decide) hk1 hFc hP1 hD1
              clear hk1 hP1 hK1 hD1 hvm hz1 hPc hDc hFc
              generalize H1 = H at hP hS ⊢
              have hP : va_P (dC, dI) vwCl (wM cI cJ g0 gr gl gw gs th rw mn at_ ml md_l wd md sm fr no) H := hP
              have hD : va_D A (wM cI cJ g0 gr gl gw gs th rw mn at_ ml md_l wd md sm fr no) := hD
              refine lv_istore (lv' := [(8, .int v7), (6, .long ((a3 - (1 : Int64)) - (a3 - (1 : Int64)) / a2.toInt64 * a2.toInt64)), (5, .int v1), (0, .ref g0), (1, .int a1), (2, .int a2), (3, .long a3)]) hx hb dX2_lengthOf_106 hl (by decide) rfl (fun ls hl => ?_)
              refine lv_lload_n hx hb dX2_lengthOf_108 rfl (lv_at hl 6 rfl) ?_
              refine lv_lconst (v := (1 : Int64)) hx hb dX2_lengthOf_109 (by decide) ?_
              refine lv_lsub hx hb dX2_lengthOf_110 ?_
              refine lv_iload_n hx hb dX2_lengthOf_111 rfl (lv_at hl 5 rfl) ?_
              refine lv_i2l hx hb dX2_lengthOf_112 rfl ?_
              obtain ⟨hne, hj⟩ := ja_dvJ hj
              refine lv_ldiv hx hb dX2_lengthOf_113 hne ?_
              refine lv_lconst (v := (1 : Int64)) hx hb dX2_lengthOf_114 (by decide) ?_
              refine lv_ladd hx hb dX2_lengthOf_115 ?_
              refine lv_lload hx hb dX2_lengthOf_116 (lv_at hl 1 rfl) ?_
              refine lv_lconst (v := (1 : Int64)) hx hb dX2_lengthOf_118 (by decide) ?_
              refine lv_iload hx hb dX2_lengthOf_119 (lv_at hl 0 rfl) ?_
              refine lv_lshl hx hb dX2_lengthOf_121 rfl ?_
              refine lv_iload_n hx hb dX2_lengthOf_122 rfl (lv_at hl 5 rfl) ?_
              refine lv_i2l hx hb dX2_lengthOf_123 rfl ?_
              refine lv_lsub hx hb dX2_lengthOf_124 ?_
              refine W.lcmp hx hb dX2_lengthOf_125 ?_
              refine lv_if_ge (tgt := 136) hx hb dX2_lengthOf_126 (by decide) (fun c8 => ?_) (fun c8 => ?_)
              · replace hj := ja_pos ((lg_cmp_ge ((a3 - (1 : Int64)) - (a3 - (1 : Int64)) / a2.toInt64 * a2.toInt64) (((1 : Int64) <<< (v7.toInt64 &&& 63)) - a2.toInt64)).mp c8) hj
                refine lv_iload hx hb dX2_lengthOf_136 (lv_at hl 0 rfl) ?_
                refine lv_i2l hx hb dX2_lengthOf_138 rfl ?_
                refine lv_ladd hx hb dX2_lengthOf_139 ?_
                have hr9 : ((((a3 - (1 : Int64)) / a2.toInt64) + (1 : Int64)) + v7.toInt64) = r := Option.some.inj hj
                subst hr9
                exact W.lret (v := (((a3 - (1 : Int64)) / a2.toInt64) + (1 : Int64)) + v7.toInt64) hx hb hr (fun t ht hW => ⟨⟨(((a3 - (1 : Int64)) / a2.toInt64) + (1 : Int64)) + v7.toInt64, (), rfl, rfl, by rw [ht]; exact hP, va_K.moved hW.alike hK, hD⟩, hS.F ht⟩) hS.2.2 dX2_lengthOf_140
              · replace hj := ja_neg (fun h9 => c8 ((lg_cmp_ge ((a3 - (1 : Int64)) - (a3 - (1 : Int64)) / a2.toInt64 * a2.toInt64) (((1 : Int64) <<< (v7.toInt64 &&& 63)) - a2.toInt64)).mpr h9)) hj
                refine lv_iload hx hb dX2_lengthOf_129 (lv_at hl 0 rfl) ?_
                refine lv_iconst (v := (1 : Int32)) hx hb dX2_lengthOf_131 (by decide) ?_
                refine lv_isub hx hb dX2_lengthOf_132 ?_
                refine lv_goto (tgt := 138) hx hb dX2_lengthOf_133 (by decide) ?_
                refine lv_i2l hx hb dX2_lengthOf_138 rfl ?_
                refine lv_ladd hx hb dX2_lengthOf_139 ?_
                have hr9 : ((((a3 - (1 : Int64)) / a2.toInt64) + (1 : Int64)) + ((v7 - (1 : Int32)).toInt64)) = r := Option.some.inj hj
                subst hr9
                exact W.lret (v := (((a3 - (1 : Int64)) / a2.toInt64) + (1 : Int64)) + ((v7 - (1 : Int32)).toInt64)) hx hb hr (fun t ht hW => ⟨⟨(((a3 - (1 : Int64)) / a2.toInt64) + (1 : Int64)) + ((v7 - (1 : Int32)).toInt64), (), rfl, rfl, by rw [ht]; exact hP, va_K.moved hW.alike hK, hD⟩, hS.F ht⟩) hS.2.2 dX2_lengthOf_140
            · replace hj := ja_neg q5 hj
              by_cases q6 : a1 = (6 : Int32)
              · replace hj := ja_pos q6 hj
                refine lv_tableIn (tgt := 141) hx hb dX2_lengthOf_7 (by rw [q6]; decide) (by rw [q6]; decide) (by rw [q6]; rfl) (by decide) ?_
                refine lv_ldc2 (v := (2 : Int64)) hx hb hown (hts (.constantLong RX2 23 (2)) (by decide +kernel)) dX2_lengthOf_141 ?_
                refine lv_lload_n hx hb dX2_lengthOf_144 rfl (lv_at hl 4 rfl) ?_
                refine lv_lconst (v := (1 : Int64)) hx hb dX2_lengthOf_145 (by decide) ?_
                refine lv_lsub hx hb dX2_lengthOf_146 ?_
                refine lv_iload_n hx hb dX2_lengthOf_147 rfl (lv_at hl 3 rfl) ?_
                refine lv_lshr hx hb dX2_lengthOf_148 rfl ?_
                refine lv_lconst (v := (1 : Int64)) hx hb dX2_lengthOf_149 (by decide) ?_
                refine lv_ladd hx hb dX2_lengthOf_150 ?_
                obtain ⟨v9, hc, hj⟩ := ja_bd hj
                try dsimp only at hj
                have hPc := hP.sub (ws' := ([] : va_W)) [] rfl
                have hDc := hD.sub (ws' := ([] : va_W)) [] (by decide) rfl
                have hFc := va_free (wc := ([] : va_W)) hD hS hA [] rfl
                refine va_calli (va_runS (As := [.long (((a3 - (1 : Int64)) >>> (a2.toInt64 &&& 63)) + (1 : Int64))]) (rest := [.long (2 : Int64)]) ⟨hx, hb, hml, hown, hts⟩ (c_X2_bitsOf l dC dI cI cJ H.size (((a3 - (1 : Int64)) >>> (a2.toInt64 &&& 63)) + (1 : Int64)) _ hc) (va_cwS 1 hts gX2_lengthOf_X2_bitsOf rfl rfl rfl (by decide +kernel) ⟨Nat.le_of_ble_eq_true rfl, Nat.le_of_ble_eq_true rfl⟩) ⟨fun a U g mk q => ⟨q.1, jPr.blind q.2⟩, fun U hU hW => ⟨rfl, jPr.mk hU hW hPc hK hDc⟩⟩ rfl rfl hl.1 rfl (lv_room (Nat.le_of_ble_eq_true rfl)) dX2_lengthOf_151 ⟨Nat.le_of_ble_eq_true rfl, Nat.le_of_ble_eq_true rfl⟩) hS (fun q _ h => hFc q h) hFc (fun rr u t H1 locs ht hvm hw9 hB hz1 hk1 hS => ?_)
                have hw8 : v9 = rr := hw9.symm
                subst hw8
                obtain ⟨hP1, hK1, hD1⟩ := hB
                rw [ht] at hP1
                obtain ⟨hP, hD⟩ := va_join (wr := ([(g0, .inr (2, [.int th, .ref gr, .int mn, .int at_, .ref gl, .int md_l, .ref gw, .int md, .ref gs, .int fr, .int no])), (gr, .inl (cI, 4096, .inl rw)), (gl, .inl (cJ, 100, .inr (.inl ml))), (gw, .inl (cI, 4200, .inl wd)), (gs, .inl (cJ, 92, .inr (.inl sm)))] : va_W)) (w1 := ([] : va_W)) hP hD [] [0, 1, 2, 3, 4] rfl rfl (by decide) (by decide) hk1 hFc hP1 hD1
                clear hk1 hP1 hK1 hD1 hvm hz1 hPc hDc hFc
                generalize H1 = H at hP hS ⊢
                have hP : va_P (dC, dI) vwCl (wM cI cJ g0 gr gl gw gs th rw mn at_ ml md_l wd md sm fr no) H := hP
                have hD : va_D A (wM cI cJ g0 gr gl gw gs th rw mn at_ ml md_l wd md sm fr no) := hD
                refine lv_i2l hx hb dX2_lengthOf_154 rfl ?_
                refine lv_lmul hx hb dX2_lengthOf_155 ?_
                refine lv_lconst (v := (1 : Int64)) hx hb dX2_lengthOf_156 (by decide) ?_
                refine lv_lsub hx hb dX2_lengthOf_157 ?_
                refine lv_iload_n hx hb dX2_lengthOf_158 rfl (lv_at hl 3 rfl) ?_
                refine lv_i2l hx hb dX2_lengthOf_159 rfl ?_
                refine lv_ladd hx hb dX2_lengthOf_160 ?_
                have hr9 : ((((2 : Int64) * v9.toInt64) - (1 : Int64)) + a2.toInt64) = r := Option.some.inj hj
                subst hr9
                exact W.lret (v := (((2 : Int64) * v9.toInt64) - (1 : Int64)) + a2.toInt64) hx hb hr (fun t ht hW => ⟨⟨(((2 : Int64) * v9.toInt64) - (1 : Int64)) + a2.toInt64, (), rfl, rfl, by rw [ht]; exact hP, va_K.moved hW.alike hK, hD⟩, hS.F ht⟩) hS.2.2 dX2_lengthOf_161
              · replace hj := ja_neg q6 hj
                have n0 := ja_sw (z := 0) (by decide) q0
                have n1 := ja_sw (z := 1) (by decide) q1
                have n2 := ja_sw (z := 2) (by decide) q2
                have n3 := ja_sw (z := 3) (by decide) q3
                have n4 := ja_sw (z := 4) (by decide) q4
                have n5 := ja_sw (z := 5) (by decide) q5
                have n6 := ja_sw (z := 6) (by decide) q6
                refine lv_tableOut (tgt := 162) hx hb dX2_lengthOf_7 (by omega) (by decide) ?_
                refine lv_lload_n hx hb dX2_lengthOf_162 rfl (lv_at hl 4 rfl) ?_
                refine lv_lconst (v := (1 : Int64)) hx hb dX2_lengthOf_163 (by decide) ?_
                refine lv_lsub hx hb dX2_lengthOf_164 ?_
                obtain ⟨v2, hc, hj⟩ := ja_bd hj
                try dsimp only at hj
                have hPc := hP.sub (ws' := ([] : va_W)) [] rfl
                have hDc := hD.sub (ws' := ([] : va_W)) [] (by decide) rfl
                have hFc := va_free (wc := ([] : va_W)) hD hS hA [] rfl
                refine va_calli (va_runS (As := [.long (a3 - (1 : Int64))]) (rest := []) ⟨hx, hb, hml, hown, hts⟩ (c_X2_bitsOf l dC dI cI cJ H.size (a3 - (1 : Int64)) _ hc) (va_cwS 1 hts gX2_lengthOf_X2_bitsOf rfl rfl rfl (by decide +kernel) ⟨Nat.le_of_ble_eq_true rfl, Nat.le_of_ble_eq_true rfl⟩) ⟨fun a U g mk q => ⟨q.1, jPr.blind q.2⟩, fun U hU hW => ⟨rfl, jPr.mk hU hW hPc hK hDc⟩⟩ rfl rfl hl.1 rfl (lv_room (Nat.le_of_ble_eq_true rfl)) dX2_lengthOf_165 ⟨Nat.le_of_ble_eq_true rfl, Nat.le_of_ble_eq_true rfl⟩) hS (fun q _ h => hFc q h) hFc (fun rr u t H1 locs ht hvm hw9 hB hz1 hk1 hS => ?_)
                have hw8 : v2 = rr := hw9.symm
                subst hw8
                obtain ⟨hP1, hK1, hD1⟩ := hB
                rw [ht] at hP1
                obtain ⟨hP, hD⟩ := va_join (wr := ([(g0, .inr (2, [.int th, .ref gr, .int mn, .int at_, .ref gl, .int md_l, .ref gw, .int md, .ref gs, .int fr, .int no])), (gr, .inl (cI, 4096, .inl rw)), (gl, .inl (cJ, 100, .inr (.inl ml))), (gw, .inl (cI, 4200, .inl wd)), (gs, .inl (cJ, 92, .inr (.inl sm)))] : va_W)) (w1 := ([] : va_W)) hP hD [] [0, 1, 2, 3, 4] rfl rfl (by decide) (by decide) hk1 hFc hP1 hD1
                clear hk1 hP1 hK1 hD1 hvm hz1 hPc hDc hFc
                generalize H1 = H at hP hS ⊢
                have hP : va_P (dC, dI) vwCl (wM cI cJ g0 gr gl gw gs th rw mn at_ ml md_l wd md sm fr no) H := hP
                have hD : va_D A (wM cI cJ g0 gr gl gw gs th rw mn at_ ml md_l wd md sm fr no) := hD
                refine lv_iload_n hx hb dX2_lengthOf_168 rfl (lv_at hl 3 rfl) ?_
                refine lv_iadd hx hb dX2_lengthOf_169 ?_
                refine lv_iconst (v := (1 : Int32)) hx hb dX2_lengthOf_170 (by decide) ?_
                refine lv_isub hx hb dX2_lengthOf_171 ?_
                refine lv_iload_n hx hb dX2_lengthOf_172 rfl (lv_at hl 3 rfl) ?_
                obtain ⟨hne, hj⟩ := ja_dvI hj
                refine lv_idiv hx hb dX2_lengthOf_173 hne ?_
                refine lv_i2l hx hb dX2_lengthOf_174 rfl ?_
                refine lv_lstore (lv' := [(9, .long ((((v2 + a2) - (1 : Int32)) / a2).toInt64)), (5, .int v1), (0, .ref g0), (1, .int a1), (2, .int a2), (3, .long a3)]) hx hb dX2_lengthOf_175 hl (by decide) rfl (fun ls hl => ?_)
                refine lv_lload hx hb dX2_lengthOf_177 (lv_at hl 0 rfl) ?_
                refine lv_lconst (v := (1 : Int64)) hx hb dX2_lengthOf_179 (by decide) ?_
                refine W.lcmp hx hb dX2_lengthOf_180 ?_
                refine lv_if_ge (tgt := 188) hx hb dX2_lengthOf_181 (by decide) (fun c3 => ?_) (fun c3 => ?_)
                · replace hj := ja_pos ((lg_cmp_ge ((((v2 + a2) - (1 : Int32)) / a2).toInt64) (1 : Int64)).mp c3) hj
                  refine lv_lload hx hb dX2_lengthOf_188 (lv_at hl 0 rfl) ?_
                  refine lv_iload_n hx hb dX2_lengthOf_190 rfl (lv_at hl 4 rfl) ?_
                  refine lv_iconst (v := (1 : Int32)) hx hb dX2_lengthOf_191 (by decide) ?_
                  refine lv_iadd hx hb dX2_lengthOf_192 ?_
                  refine lv_i2l hx hb dX2_lengthOf_193 rfl ?_
                  refine lv_lmul hx hb dX2_lengthOf_194 ?_
                  have hr9 : (((((v2 + a2) - (1 : Int32)) / a2).toInt64) * ((a2 + (1 : Int32)).toInt64)) = r := Option.some.inj hj
                  subst hr9
                  exact W.lret (v := ((((v2 + a2) - (1 : Int32)) / a2).toInt64) * ((a2 + (1 : Int32)).toInt64)) hx hb hr (fun t ht hW => ⟨⟨((((v2 + a2) - (1 : Int32)) / a2).toInt64) * ((a2 + (1 : Int32)).toInt64), (), rfl, rfl, by rw [ht]; exact hP, va_K.moved hW.alike hK, hD⟩, hS.F ht⟩) hS.2.2 dX2_lengthOf_195
                · replace hj := ja_neg (fun h9 => c3 ((lg_cmp_ge ((((v2 + a2) - (1 : Int32)) / a2).toInt64) (1 : Int64)).mpr h9)) hj
                  refine lv_lconst (v := (1 : Int64)) hx hb dX2_lengthOf_184 (by decide) ?_
                  refine lv_goto (tgt := 190) hx hb dX2_lengthOf_185 (by decide) ?_
                  refine lv_iload_n hx hb dX2_lengthOf_190 rfl (lv_at hl 4 rfl) ?_
                  refine lv_iconst (v := (1 : Int32)) hx hb dX2_lengthOf_191 (by decide) ?_
                  refine lv_iadd hx hb dX2_lengthOf_192 ?_
                  refine lv_i2l hx hb dX2_lengthOf_193 rfl ?_
                  refine lv_lmul hx hb dX2_lengthOf_194 ?_
                  have hr9 : ((1 : Int64) * ((a2 + (1 : Int32)).toInt64)) = r := Option.some.inj hj
                  subst hr9
                  exact W.lret (v := (1 : Int64) * ((a2 + (1 : Int32)).toInt64)) hx hb hr (fun t ht hW => ⟨⟨(1 : Int64) * ((a2 + (1 : Int32)).toInt64), (), rfl, rfl, by rw [ht]; exact hP, va_K.moved hW.alike hK, hD⟩, hS.F ht⟩) hS.2.2 dX2_lengthOf_195

set_option maxRecDepth 100000 in
theorem inn_X2_bit_X2 : ∀ w ∈ u_ws RX2 TX2 11, w ∈ wsX2_bit := by decide +kernel
def j_X2_bit (wd : Nat → Int32) (md : Int32) (a1 : Int32) : Option ((Nat → Int32) × Int32) :=
  jix md 4200 (some (upd wd md.toNatClampNeg a1, md + (1 : Int32)))
set_option maxHeartbeats 4000000 in
set_option maxRecDepth 100000 in
theorem c_X2_bit (l : Launch) (dC : Nat → ClassId) (dI : Nat → Nat → Nat) (cI cJ : ClassId) (g0 : Nat) (gr : Nat) (gl : Nat) (gw : Nat) (gs : Nat) (sz : Nat) (th : Int32) (rw : Nat → Int32) (mn : Int32) (at_ : Int32) (ml : Nat → Int64) (md_l : Int32) (wd : Nat → Int32) (md : Int32) (sm : Nat → Int64) (fr : Int32) (no : Int32) (a1 : Int32) (r : (Nat → Int32) × Int32) (hj : j_X2_bit wd md a1 = some r) : Met l yX2_bit wsX2_bit ({ frames := 0, cells := 0, slots := 0, locals := 0 } : Room) (va_Pc [.ref g0, .int a1] (fun U => jPr dC dI cI cJ (wM cI cJ g0 gr gl gw gs th rw mn at_ ml md_l wd md sm fr no) sz U)) (va_Qv (fun _ : Unit => True) (fun (_ : Unit) t => jPo dC dI cI cJ (wM cI cJ g0 gr gl gw gs th rw mn at_ ml md_l r.1 r.2 sm fr no) (va_A (wM cI cJ g0 gr gl gw gs th rw mn at_ ml md_l wd md sm fr no) sz) t) (va_A (wM cI cJ g0 gr gl gw gs th rw mn at_ ml md_l wd md sm fr no) sz)) 0 0 (va_A (wM cI cJ g0 gr gl gw gs th rw mn at_ ml md_l wd md sm fr no) sz) := by
  refine Met.ofW (cc := cX2_bit) (maxL := 2) (ret := none) (by decide) rfl ?_
  intro p e s m args below meth c s₁ B hml hv
  obtain ⟨rfl, ⟨hsz, hP, hK, hD0⟩⟩ := hv
  have hx := B.exec
  have hb := B.bytes
  have hr := B.returns
  have hts := atoms_spec (ws := wsX2_bit) B.pre
  have hown : s.vm.findClass RX2 = some m.cls := findClass_of_methodNamed B.named
  have hlocks := B.notSynchronized
  have C0 := jCx.of hx hb hr hml hown hts hlocks
  subst hsz
  have hD := hD0.self (sz := s.heap.size)
  generalize hAe : va_A (wM cI cJ g0 gr gl gw gs th rw mn at_ ml md_l wd md sm fr no) s.heap.size = A at hD ⊢
  have hA : ∀ q : Nat, s.heap.size ≤ q → A q := fun q h => by rw [← hAe]; exact Or.inr h
  have hS : va_S A s.heap s.heap [] := va_S.rf
  have hP : va_P (dC, dI) vwCl (wM cI cJ g0 gr gl gw gs th rw mn at_ ml md_l wd md sm fr no) s.heap := hP
  have hl := lv_entry ([.ref g0, .int a1]) (n := 2) (Nat.le_of_ble_eq_true rfl)
  rw [lg_entry_eq]
  generalize (lg_sl ([.ref g0, .int a1]) ++ List.replicate (2 - (lg_sl ([.ref g0, .int a1])).length) Slot.unset).toArray = ls at hl ⊢
  have hl : lv_has ls 2 [(0, .ref g0), (1, .int a1)] := hl
  clear hD0 hAe
  unfold j_X2_bit at hj
  refine lv_aload_n hx hb dX2_bit_0 rfl (lv_at hl 0 rfl) ?_
  refine va_get (D := (dC, dI)) (ci := 2) (v := .ref gw) (C := RX2) (T := TX2) (N := 11) hx hb hts inn_X2_bit_X2 hown hK hP 0 rfl rfl 6 (by decide) (hts (.fieldLink RX2 17 "SelfEndingCodesModel" "word" "[I") (by decide +kernel)) (fun _ h9 => h9) rfl dX2_bit_1 ?_
  refine lv_aload_n hx hb dX2_bit_4 rfl (lv_at hl 0 rfl) ?_
  refine va_get (D := (dC, dI)) (ci := 2) (v := .int md) (C := RX2) (T := TX2) (N := 11) hx hb hts inn_X2_bit_X2 hown hK hP 0 rfl rfl 7 (by decide) (hts (.fieldLink RX2 47 "SelfEndingCodesModel" "made" "I") (by decide +kernel)) (fun _ h9 => h9) rfl dX2_bit_5 ?_
  refine lv_iload_n hx hb dX2_bit_8 rfl (lv_at hl 1 rfl) ?_
  obtain ⟨hin, hj⟩ := ja_ix hj
  refine va_iast hx hb hK hP hD hS 3 0 rfl rfl hin dX2_bit_9 (fun H locs hP hD hS => ?_)
  have hP : va_P (dC, dI) vwCl (wM cI cJ g0 gr gl gw gs th rw mn at_ ml md_l (upd wd md.toNatClampNeg a1) md sm fr no) H := hP
  have hD : va_D A (wM cI cJ g0 gr gl gw gs th rw mn at_ ml md_l (upd wd md.toNatClampNeg a1) md sm fr no) := hD
  refine lv_aload_n hx hb dX2_bit_10 rfl (lv_at hl 0 rfl) ?_
  refine lv_dup hx hb dX2_bit_11 rfl ?_
  refine va_get (D := (dC, dI)) (ci := 2) (v := .int md) (C := RX2) (T := TX2) (N := 11) hx hb hts inn_X2_bit_X2 hown hK hP 0 rfl rfl 7 (by decide) (hts (.fieldLink RX2 47 "SelfEndingCodesModel" "made" "I") (by decide +kernel)) (fun _ h9 => h9) rfl dX2_bit_12 ?_
  refine lv_iconst (v := (1 : Int32)) hx hb dX2_bit_15 (by decide) ?_
  refine lv_iadd hx hb dX2_bit_16 ?_
  refine va_put (D := (dC, dI)) (ci := 2) (v := .int (md + (1 : Int32))) (ty := .int) (C := RX2) (T := TX2) (N := 11) hx hb hts inn_X2_bit_X2 tyX2 tyX2_ok nmX2 hown hK hP hD hS 0 rfl rfl 7 (by decide) (hts (.fieldLink RX2 47 "SelfEndingCodesModel" "made" "I") (by decide +kernel)) (fun _ h9 => h9) rfl (by decide +kernel) rfl rfl (Nat.le_of_ble_eq_true rfl) dX2_bit_17 (fun H locs hP hD hS => ?_)
  have hP : va_P (dC, dI) vwCl (wM cI cJ g0 gr gl gw gs th rw mn at_ ml md_l (upd wd md.toNatClampNeg a1) (md + (1 : Int32)) sm fr no) H := hP
  have hD : va_D A (wM cI cJ g0 gr gl gw gs th rw mn at_ ml md_l (upd wd md.toNatClampNeg a1) (md + (1 : Int32)) sm fr no) := hD
  have hr9 : (upd wd md.toNatClampNeg a1, md + (1 : Int32)) = r := Option.some.inj hj
  subst hr9
  exact W.vret hx hb hr (fun t ht hW => ⟨⟨(), rfl, trivial, by rw [ht]; exact hP, va_K.moved hW.alike hK, hD⟩, hS.F ht⟩) hS.2.2 dX2_bit_20

def jL_X2_low_5 (x1 : Int64) : Nat → Int32 → (Nat → Int32) → Int32 → Option ((Nat → Int32) × Int32)
  | 0, _, _, _ => none
  | n + 1, x4, wd, md => if x4 < (0 : Int32) then (some (wd, md)) else ((j_X2_bit wd md (((x1 >>> (x4.toInt64 &&& 63)) &&& (1 : Int64)).toInt32)).bind fun (v502, v503) => (jL_X2_low_5 x1 n (x4 + (-1 : Int32)) v502 v503))
set_option maxHeartbeats 4000000 in
set_option maxRecDepth 100000 in
theorem s_X2_low_5 {p : Program} {l : Launch} {e : Env} {s : State} {m : MethodId} {args : Array Value} {below : List Frame} {meth : Method} {c : Code} {dC : Nat → ClassId} {dI : Nat → Nat → Nat} {cI cJ : ClassId} {A : Nat → Prop} (C0 : jCx p s m args meth c RX2 cX2_low 5 none wsX2_low) (hK : va_K (dC, dI) vwCl (jTy cI cJ) s) (hA : ∀ q : Nat, s.heap.size ≤ q → A q) (g0 : Nat) (gr : Nat) (gl : Nat) (gw : Nat) (gs : Nat) (th : Int32) (rw : Nat → Int32) (mn : Int32) (at_ : Int32) (ml : Nat → Int64) (md_l : Int32) (sm : Nat → Int64) (fr : Int32) (no : Int32) (x1 : Int64) :
    ∀ (n : Nat) (x4 : Int32) (wd : Nat → Int32) (md : Int32) (r : (Nat → Int32) × Int32), jL_X2_low_5 x1 n x4 wd md = some r → ∀ (H : Heap) (locs : List Loc) (ls : Array Slot), va_P (dC, dI) vwCl (wM cI cJ g0 gr gl gw gs th rw mn at_ ml md_l wd md sm fr no) H → va_D A (wM cI cJ g0 gr gl gw gs th rw mn at_ ml md_l wd md sm fr no) → va_S A s.heap H locs → lv_has ls 5 [(0, .ref g0), (1, .long x1), (4, .int x4)] → W p l e ({ frames := 1, cells := 0, slots := 0, locals := 21 } : Room) s m args below meth c H locs 0 0 (MQ below (va_Qv (fun _ : Unit => True) (fun (_ : Unit) t => jPo dC dI cI cJ (wM cI cJ g0 gr gl gw gs th rw mn at_ ml md_l r.1 r.2 sm fr no) A t) A) args s 0 0 A) (F0 m 5 ls []) := by
  obtain ⟨hx, hb, hr, hml, hown, hts, hlocks⟩ := id C0
  intro n
  induction n with
  | zero =>
    intro x4 wd md r hj
    exact nomatch (show (none : Option ((Nat → Int32) × Int32)) = some r from hj)
  | succ n ih =>
    intro x4 wd md r hj H locs ls hP hD hS hl
    replace hj : (if x4 < (0 : Int32) then (some (wd, md)) else ((j_X2_bit wd md (((x1 >>> (x4.toInt64 &&& 63)) &&& (1 : Int64)).toInt32)).bind fun (v502, v503) => (jL_X2_low_5 x1 n (x4 + (-1 : Int32)) v502 v503))) = some r := hj
    refine lv_iload hx hb dX2_low_5 (lv_at hl 2 rfl) ?_
    refine lv_if_lt (tgt := 27) hx hb dX2_low_7 (by decide) (fun c501 => ?_) (fun c501 => ?_)
    · replace hj := ja_pos c501 hj
      have hr9 : (wd, md) = r := Option.some.inj hj
      subst hr9
      exact W.vret hx hb hr (fun t ht hW => ⟨⟨(), rfl, trivial, by rw [ht]; exact hP, va_K.moved hW.alike hK, hD⟩, hS.F ht⟩) hS.2.2 dX2_low_27
    · replace hj := ja_neg c501 hj
      refine lv_aload_n hx hb dX2_low_10 rfl (lv_at hl 0 rfl) ?_
      refine lv_lload_n hx hb dX2_low_11 rfl (lv_at hl 1 rfl) ?_
      refine lv_iload hx hb dX2_low_12 (lv_at hl 2 rfl) ?_
      refine lv_lshr hx hb dX2_low_14 rfl ?_
      refine lv_lconst (v := (1 : Int64)) hx hb dX2_low_15 (by decide) ?_
      refine lv_land hx hb dX2_low_16 ?_
      refine lv_l2i hx hb dX2_low_17 rfl ?_
      obtain ⟨⟨v502, v503⟩, hc, hj⟩ := ja_bd hj
      try dsimp only at hj
      have hPc := hP.sub (ws' := (wM cI cJ g0 gr gl gw gs th rw mn at_ ml md_l wd md sm fr no)) [0, 1, 2, 3, 4] rfl
      have hDc := hD.sub (ws' := (wM cI cJ g0 gr gl gw gs th rw mn at_ ml md_l wd md sm fr no)) [0, 1, 2, 3, 4] (by decide) rfl
      have hFc := va_free (wc := (wM cI cJ g0 gr gl gw gs th rw mn at_ ml md_l wd md sm fr no)) hD hS hA [0, 1, 2, 3, 4] rfl
      refine va_callv (va_runV (As := [.int (((x1 >>> (x4.toInt64 &&& 63)) &&& (1 : Int64)).toInt32)]) (rest := []) ⟨hx, hb, hml, hown, hts⟩ (c_X2_bit l dC dI cI cJ g0 gr gl gw gs H.size th rw mn at_ ml md_l wd md sm fr no (((x1 >>> (x4.toInt64 &&& 63)) &&& (1 : Int64)).toInt32) _ hc) (cwV 1 hts gX2_low_X2_bit rfl rfl rfl (by decide +kernel) ⟨Nat.le_of_ble_eq_true rfl, Nat.le_of_ble_eq_true rfl⟩) ⟨fun a U g mk q => ⟨q.1, jPr.blind q.2⟩, va_recv hK hPc (ci := 2) (q0 := 0) rfl rfl, fun U hU hW => ⟨rfl, jPr.mk hU hW hPc hK hDc⟩⟩ rfl rfl hl.1 rfl (lv_room (Nat.le_of_ble_eq_true rfl)) dX2_low_18 ⟨Nat.le_of_ble_eq_true rfl, Nat.le_of_ble_eq_true rfl⟩) hS (fun q _ h => hFc q h) hFc (fun u t H1 locs ht hvm hw9 hB hz1 hk1 hS => ?_)
      obtain ⟨hP1, hK1, hD1⟩ := hB
      rw [ht] at hP1
      obtain ⟨hP, hD⟩ := va_join (wr := ([] : va_W)) (w1 := (wM cI cJ g0 gr gl gw gs th rw mn at_ ml md_l v502 v503 sm fr no)) hP hD [0, 1, 2, 3, 4] [] rfl rfl (by decide) (by decide) hk1 hFc hP1 hD1
      clear hk1 hP1 hK1 hD1 hvm hz1 hPc hDc hFc
      generalize H1 = H at hP hS ⊢
      have hP : va_P (dC, dI) vwCl (wM cI cJ g0 gr gl gw gs th rw mn at_ ml md_l v502 v503 sm fr no) H := hP
      have hD : va_D A (wM cI cJ g0 gr gl gw gs th rw mn at_ ml md_l v502 v503 sm fr no) := hD
      refine lv_iinc (v := x4 + (-1 : Int32)) (lv' := [(4, .int (x4 + (-1 : Int32))), (0, .ref g0), (1, .long x1)]) hx hb dX2_low_21 hl (k := 2) rfl (congrArg (fun z => x4 + z) (by decide)) (by decide) rfl (fun ls hl => ?_)
      refine lv_goto (tgt := 5) hx hb dX2_low_24 (by decide) ?_
      exact ih (x4 + (-1 : Int32)) v502 v503 _ hj _ _ _ (hP) (hD) hS (lv_sub hl [1, 2, 0] rfl)
def j_X2_low (wd : Nat → Int32) (md : Int32) (a1 : Int64) (a2 : Int32) : Option ((Nat → Int32) × Int32) :=
  jL_X2_low_5 a1 jF (a2 - (1 : Int32)) wd md
set_option maxHeartbeats 4000000 in
set_option maxRecDepth 100000 in
theorem c_X2_low (l : Launch) (dC : Nat → ClassId) (dI : Nat → Nat → Nat) (cI cJ : ClassId) (g0 : Nat) (gr : Nat) (gl : Nat) (gw : Nat) (gs : Nat) (sz : Nat) (th : Int32) (rw : Nat → Int32) (mn : Int32) (at_ : Int32) (ml : Nat → Int64) (md_l : Int32) (wd : Nat → Int32) (md : Int32) (sm : Nat → Int64) (fr : Int32) (no : Int32) (a1 : Int64) (a2 : Int32) (r : (Nat → Int32) × Int32) (hj : j_X2_low wd md a1 a2 = some r) : Met l yX2_low wsX2_low ({ frames := 1, cells := 0, slots := 0, locals := 21 } : Room) (va_Pc [.ref g0, .long a1, .int a2] (fun U => jPr dC dI cI cJ (wM cI cJ g0 gr gl gw gs th rw mn at_ ml md_l wd md sm fr no) sz U)) (va_Qv (fun _ : Unit => True) (fun (_ : Unit) t => jPo dC dI cI cJ (wM cI cJ g0 gr gl gw gs th rw mn at_ ml md_l r.1 r.2 sm fr no) (va_A (wM cI cJ g0 gr gl gw gs th rw mn at_ ml md_l wd md sm fr no) sz) t) (va_A (wM cI cJ g0 gr gl gw gs th rw mn at_ ml md_l wd md sm fr no) sz)) 0 0 (va_A (wM cI cJ g0 gr gl gw gs th rw mn at_ ml md_l wd md sm fr no) sz) := by
  refine Met.ofW (cc := cX2_low) (maxL := 5) (ret := none) (by decide) rfl ?_
  intro p e s m args below meth c s₁ B hml hv
  obtain ⟨rfl, ⟨hsz, hP, hK, hD0⟩⟩ := hv
  have hx := B.exec
  have hb := B.bytes
  have hr := B.returns
  have hts := atoms_spec (ws := wsX2_low) B.pre
  have hown : s.vm.findClass RX2 = some m.cls := findClass_of_methodNamed B.named
  have hlocks := B.notSynchronized
  have C0 := jCx.of hx hb hr hml hown hts hlocks
  subst hsz
  have hD := hD0.self (sz := s.heap.size)
  generalize hAe : va_A (wM cI cJ g0 gr gl gw gs th rw mn at_ ml md_l wd md sm fr no) s.heap.size = A at hD ⊢
  have hA : ∀ q : Nat, s.heap.size ≤ q → A q := fun q h => by rw [← hAe]; exact Or.inr h
  have hS : va_S A s.heap s.heap [] := va_S.rf
  have hP : va_P (dC, dI) vwCl (wM cI cJ g0 gr gl gw gs th rw mn at_ ml md_l wd md sm fr no) s.heap := hP
  have hl := lv_entry ([.ref g0, .long a1, .int a2]) (n := 5) (Nat.le_of_ble_eq_true rfl)
  rw [lg_entry_eq]
  generalize (lg_sl ([.ref g0, .long a1, .int a2]) ++ List.replicate (5 - (lg_sl ([.ref g0, .long a1, .int a2])).length) Slot.unset).toArray = ls at hl ⊢
  have hl : lv_has ls 5 [(0, .ref g0), (1, .long a1), (3, .int a2)] := hl
  clear hD0 hAe
  unfold j_X2_low at hj
  refine lv_iload_n hx hb dX2_low_0 rfl (lv_at hl 2 rfl) ?_
  refine lv_iconst (v := (1 : Int32)) hx hb dX2_low_1 (by decide) ?_
  refine lv_isub hx hb dX2_low_2 ?_
  refine lv_istore (lv' := [(4, .int (a2 - (1 : Int32))), (0, .ref g0), (1, .long a1), (3, .int a2)]) hx hb dX2_low_3 hl (by decide) rfl (fun ls hl => ?_)
  exact s_X2_low_5 C0 hK hA g0 gr gl gw gs th rw mn at_ ml md_l sm fr no a1 jF (a2 - (1 : Int32)) wd md _ hj _ _ _ (hP) (hD) hS (lv_sub hl [1, 2, 0] rfl)

def jL_X2_byGroups_8 (x1 : Int32) : Nat → Int64 → Int32 → (Nat → Int32) → Int32 → Option ((Nat → Int32) × Int32)
  | 0, _, _, _, _ => none
  | n + 1, x4, x6, wd, md => if x6 = (0 : Int32) then (some (wd, md)) else (if (x4 >>> (x1.toInt64 &&& 63)) = (0 : Int64) then ((j_X2_bit wd md (0 : Int32)).bind fun (v804, v805) => ((j_X2_low v804 v805 x4 x1).bind fun (v806, v807) => (jL_X2_byGroups_8 x1 n (x4 >>> (x1.toInt64 &&& 63)) (0 : Int32) v806 v807))) else ((j_X2_bit wd md (1 : Int32)).bind fun (v809, v810) => ((j_X2_low v809 v810 x4 x1).bind fun (v811, v812) => (jL_X2_byGroups_8 x1 n (x4 >>> (x1.toInt64 &&& 63)) (1 : Int32) v811 v812))))
set_option maxHeartbeats 4000000 in
set_option maxRecDepth 100000 in
theorem s_X2_byGroups_8 {p : Program} {l : Launch} {e : Env} {s : State} {m : MethodId} {args : Array Value} {below : List Frame} {meth : Method} {c : Code} {dC : Nat → ClassId} {dI : Nat → Nat → Nat} {cI cJ : ClassId} {A : Nat → Prop} (C0 : jCx p s m args meth c RX2 cX2_byGroups 9 none wsX2_byGroups) (hK : va_K (dC, dI) vwCl (jTy cI cJ) s) (hA : ∀ q : Nat, s.heap.size ≤ q → A q) (g0 : Nat) (gr : Nat) (gl : Nat) (gw : Nat) (gs : Nat) (th : Int32) (rw : Nat → Int32) (mn : Int32) (at_ : Int32) (ml : Nat → Int64) (md_l : Int32) (sm : Nat → Int64) (fr : Int32) (no : Int32) (x1 : Int32) :
    ∀ (n : Nat) (x4 : Int64) (x6 : Int32) (wd : Nat → Int32) (md : Int32) (r : (Nat → Int32) × Int32), jL_X2_byGroups_8 x1 n x4 x6 wd md = some r → ∀ (H : Heap) (locs : List Loc) (ls : Array Slot), va_P (dC, dI) vwCl (wM cI cJ g0 gr gl gw gs th rw mn at_ ml md_l wd md sm fr no) H → va_D A (wM cI cJ g0 gr gl gw gs th rw mn at_ ml md_l wd md sm fr no) → va_S A s.heap H locs → lv_has ls 9 [(0, .ref g0), (1, .int x1), (4, .long x4), (6, .int x6)] → W p l e ({ frames := 2, cells := 0, slots := 0, locals := 45 } : Room) s m args below meth c H locs 0 0 (MQ below (va_Qv (fun _ : Unit => True) (fun (_ : Unit) t => jPo dC dI cI cJ (wM cI cJ g0 gr gl gw gs th rw mn at_ ml md_l r.1 r.2 sm fr no) A t) A) args s 0 0 A) (F0 m 8 ls []) := by
  obtain ⟨hx, hb, hr, hml, hown, hts, hlocks⟩ := id C0
  intro n
  induction n with
  | zero =>
    intro x4 x6 wd md r hj
    exact nomatch (show (none : Option ((Nat → Int32) × Int32)) = some r from hj)
  | succ n ih =>
    intro x4 x6 wd md r hj H locs ls hP hD hS hl
    replace hj : (if x6 = (0 : Int32) then (some (wd, md)) else (if (x4 >>> (x1.toInt64 &&& 63)) = (0 : Int64) then ((j_X2_bit wd md (0 : Int32)).bind fun (v804, v805) => ((j_X2_low v804 v805 x4 x1).bind fun (v806, v807) => (jL_X2_byGroups_8 x1 n (x4 >>> (x1.toInt64 &&& 63)) (0 : Int32) v806 v807))) else ((j_X2_bit wd md (1 : Int32)).bind fun (v809, v810) => ((j_X2_low v809 v810 x4 x1).bind fun (v811, v812) => (jL_X2_byGroups_8 x1 n (x4 >>> (x1.toInt64 &&& 63)) (1 : Int32) v811 v812))))) = some r := hj
    refine lv_iload hx hb dX2_byGroups_8 (lv_at hl 3 rfl) ?_
    refine lv_if_eq (tgt := 61) hx hb dX2_byGroups_10 (by decide) (fun c801 => ?_) (fun c801 => ?_)
    · replace hj := ja_pos c801 hj
      have hr9 : (wd, md) = r := Option.some.inj hj
      subst hr9
      exact W.vret hx hb hr (fun t ht hW => ⟨⟨(), rfl, trivial, by rw [ht]; exact hP, va_K.moved hW.alike hK, hD⟩, hS.F ht⟩) hS.2.2 dX2_byGroups_61
    · replace hj := ja_neg c801 hj
      refine lv_lload hx hb dX2_byGroups_13 (lv_at hl 2 rfl) ?_
      refine lv_iload_n hx hb dX2_byGroups_15 rfl (lv_at hl 1 rfl) ?_
      refine lv_lshr hx hb dX2_byGroups_16 rfl ?_
      refine lv_lstore (lv' := [(7, .long (x4 >>> (x1.toInt64 &&& 63))), (0, .ref g0), (1, .int x1), (4, .long x4), (6, .int x6)]) hx hb dX2_byGroups_17 hl (by decide) rfl (fun ls hl => ?_)
      refine lv_lload hx hb dX2_byGroups_19 (lv_at hl 0 rfl) ?_
      refine lv_lconst (v := (0 : Int64)) hx hb dX2_byGroups_21 (by decide) ?_
      refine W.lcmp hx hb dX2_byGroups_22 ?_
      refine lv_if_eq (tgt := 30) hx hb dX2_byGroups_23 (by decide) (fun c802 => ?_) (fun c802 => ?_)
      · replace hj := ja_pos ((lg_cmp_eq (x4 >>> (x1.toInt64 &&& 63)) (0 : Int64)).mp c802) hj
        refine lv_iconst (v := (0 : Int32)) hx hb dX2_byGroups_30 (by decide) ?_
        refine lv_istore (lv' := [(6, .int (0 : Int32)), (7, .long (x4 >>> (x1.toInt64 &&& 63))), (0, .ref g0), (1, .int x1), (4, .long x4)]) hx hb dX2_byGroups_31 hl (by decide) rfl (fun ls hl => ?_)
        refine lv_aload_n hx hb dX2_byGroups_33 rfl (lv_at hl 2 rfl) ?_
        refine lv_iload hx hb dX2_byGroups_34 (lv_at hl 0 rfl) ?_
        refine lv_if_eq (tgt := 43) hx hb dX2_byGroups_36 (by decide) (fun _ => ?_) (fun h9 => absurd (by decide) h9)
        refine lv_iconst (v := (0 : Int32)) hx hb dX2_byGroups_43 (by decide) ?_
        obtain ⟨⟨v804, v805⟩, hc, hj⟩ := ja_bd hj
        try dsimp only at hj
        have hPc := hP.sub (ws' := (wM cI cJ g0 gr gl gw gs th rw mn at_ ml md_l wd md sm fr no)) [0, 1, 2, 3, 4] rfl
        have hDc := hD.sub (ws' := (wM cI cJ g0 gr gl gw gs th rw mn at_ ml md_l wd md sm fr no)) [0, 1, 2, 3, 4] (by decide) rfl
        have hFc := va_free (wc := (wM cI cJ g0 gr gl gw gs th rw mn at_ ml md_l wd md sm fr no)) hD hS hA [0, 1, 2, 3, 4] rfl
        refine va_callv (va_runV (As := [.int (0 : Int32)]) (rest := []) ⟨hx, hb, hml, hown, hts⟩ (c_X2_bit l dC dI cI cJ g0 gr gl gw gs H.size th rw mn at_ ml md_l wd md sm fr no (0 : Int32) _ hc) (cwV 1 hts gX2_byGroups_X2_bit rfl rfl rfl (by decide +kernel) ⟨Nat.le_of_ble_eq_true rfl, Nat.le_of_ble_eq_true rfl⟩) ⟨fun a U g mk q => ⟨q.1, jPr.blind q.2⟩, va_recv hK hPc (ci := 2) (q0 := 0) rfl rfl, fun U hU hW => ⟨rfl, jPr.mk hU hW hPc hK hDc⟩⟩ rfl rfl hl.1 rfl (lv_room (Nat.le_of_ble_eq_true rfl)) dX2_byGroups_44 ⟨Nat.le_of_ble_eq_true rfl, Nat.le_of_ble_eq_true rfl⟩) hS (fun q _ h => hFc q h) hFc (fun u t H1 locs ht hvm hw9 hB hz1 hk1 hS => ?_)
        obtain ⟨hP1, hK1, hD1⟩ := hB
        rw [ht] at hP1
        obtain ⟨hP, hD⟩ := va_join (wr := ([] : va_W)) (w1 := (wM cI cJ g0 gr gl gw gs th rw mn at_ ml md_l v804 v805 sm fr no)) hP hD [0, 1, 2, 3, 4] [] rfl rfl (by decide) (by decide) hk1 hFc hP1 hD1
        clear hk1 hP1 hK1 hD1 hvm hz1 hPc hDc hFc
        generalize H1 = H at hP hS ⊢
        have hP : va_P (dC, dI) vwCl (wM cI cJ g0 gr gl gw gs th rw mn at_ ml md_l v804 v805 sm fr no) H := hP
        have hD : va_D A (wM cI cJ g0 gr gl gw gs th rw mn at_ ml md_l v804 v805 sm fr no) := hD
        refine lv_aload_n hx hb dX2_byGroups_47 rfl (lv_at hl 2 rfl) ?_
        refine lv_lload hx hb dX2_byGroups_48 (lv_at hl 4 rfl) ?_
        refine lv_iload_n hx hb dX2_byGroups_50 rfl (lv_at hl 3 rfl) ?_
        obtain ⟨⟨v806, v807⟩, hc, hj⟩ := ja_bd hj
        try dsimp only at hj
        have hPc := hP.sub (ws' := (wM cI cJ g0 gr gl gw gs th rw mn at_ ml md_l v804 v805 sm fr no)) [0, 1, 2, 3, 4] rfl
        have hDc := hD.sub (ws' := (wM cI cJ g0 gr gl gw gs th rw mn at_ ml md_l v804 v805 sm fr no)) [0, 1, 2, 3, 4] (by decide) rfl
        have hFc := va_free (wc := (wM cI cJ g0 gr gl gw gs th rw mn at_ ml md_l v804 v805 sm fr no)) hD hS hA [0, 1, 2, 3, 4] rfl
        refine va_callv (va_runV (As := [.long x4, .int x1]) (rest := []) ⟨hx, hb, hml, hown, hts⟩ (c_X2_low l dC dI cI cJ g0 gr gl gw gs H.size th rw mn at_ ml md_l v804 v805 sm fr no x4 x1 _ hc) (cwV 2 hts gX2_byGroups_X2_low rfl rfl rfl (by decide +kernel) ⟨Nat.le_of_ble_eq_true rfl, Nat.le_of_ble_eq_true rfl⟩) ⟨fun a U g mk q => ⟨q.1, jPr.blind q.2⟩, va_recv hK hPc (ci := 2) (q0 := 0) rfl rfl, fun U hU hW => ⟨rfl, jPr.mk hU hW hPc hK hDc⟩⟩ rfl rfl hl.1 rfl (lv_room (Nat.le_of_ble_eq_true rfl)) dX2_byGroups_51 ⟨Nat.le_of_ble_eq_true rfl, Nat.le_of_ble_eq_true rfl⟩) hS (fun q _ h => hFc q h) hFc (fun u t H1 locs ht hvm hw9 hB hz1 hk1 hS => ?_)
        obtain ⟨hP1, hK1, hD1⟩ := hB
        rw [ht] at hP1
        obtain ⟨hP, hD⟩ := va_join (wr := ([] : va_W)) (w1 := (wM cI cJ g0 gr gl gw gs th rw mn at_ ml md_l v806 v807 sm fr no)) hP hD [0, 1, 2, 3, 4] [] rfl rfl (by decide) (by decide) hk1 hFc hP1 hD1
        clear hk1 hP1 hK1 hD1 hvm hz1 hPc hDc hFc
        generalize H1 = H at hP hS ⊢
        have hP : va_P (dC, dI) vwCl (wM cI cJ g0 gr gl gw gs th rw mn at_ ml md_l v806 v807 sm fr no) H := hP
        have hD : va_D A (wM cI cJ g0 gr gl gw gs th rw mn at_ ml md_l v806 v807 sm fr no) := hD
        refine lv_lload hx hb dX2_byGroups_54 (lv_at hl 1 rfl) ?_
        refine lv_lstore (lv' := [(4, .long (x4 >>> (x1.toInt64 &&& 63))), (6, .int (0 : Int32)), (7, .long (x4 >>> (x1.toInt64 &&& 63))), (0, .ref g0), (1, .int x1)]) hx hb dX2_byGroups_56 hl (by decide) rfl (fun ls hl => ?_)
        refine lv_goto (tgt := 8) hx hb dX2_byGroups_58 (by decide) ?_
        exact ih (x4 >>> (x1.toInt64 &&& 63)) (0 : Int32) v806 v807 _ hj _ _ _ (hP) (hD) hS (lv_sub hl [3, 4, 0, 1] rfl)
      · replace hj := ja_neg (fun h9 => c802 ((lg_cmp_eq (x4 >>> (x1.toInt64 &&& 63)) (0 : Int64)).mpr h9)) hj
        refine lv_iconst (v := (1 : Int32)) hx hb dX2_byGroups_26 (by decide) ?_
        refine lv_goto (tgt := 31) hx hb dX2_byGroups_27 (by decide) ?_
        refine lv_istore (lv' := [(6, .int (1 : Int32)), (7, .long (x4 >>> (x1.toInt64 &&& 63))), (0, .ref g0), (1, .int x1), (4, .long x4)]) hx hb dX2_byGroups_31 hl (by decide) rfl (fun ls hl => ?_)
        refine lv_aload_n hx hb dX2_byGroups_33 rfl (lv_at hl 2 rfl) ?_
        refine lv_iload hx hb dX2_byGroups_34 (lv_at hl 0 rfl) ?_
        refine lv_if_eq (tgt := 43) hx hb dX2_byGroups_36 (by decide) (fun h9 => absurd h9 (by decide)) (fun _ => ?_)
        refine lv_iconst (v := (1 : Int32)) hx hb dX2_byGroups_39 (by decide) ?_
        refine lv_goto (tgt := 44) hx hb dX2_byGroups_40 (by decide) ?_
        obtain ⟨⟨v809, v810⟩, hc, hj⟩ := ja_bd hj
        try dsimp only at hj
        have hPc := hP.sub (ws' := (wM cI cJ g0 gr gl gw gs th rw mn at_ ml md_l wd md sm fr no)) [0, 1, 2, 3, 4] rfl
        have hDc := hD.sub (ws' := (wM cI cJ g0 gr gl gw gs th rw mn at_ ml md_l wd md sm fr no)) [0, 1, 2, 3, 4] (by decide) rfl
        have hFc := va_free (wc := (wM cI cJ g0 gr gl gw gs th rw mn at_ ml md_l wd md sm fr no)) hD hS hA [0, 1, 2, 3, 4] rfl
        refine va_callv (va_runV (As := [.int (1 : Int32)]) (rest := []) ⟨hx, hb, hml, hown, hts⟩ (c_X2_bit l dC dI cI cJ g0 gr gl gw gs H.size th rw mn at_ ml md_l wd md sm fr no (1 : Int32) _ hc) (cwV 1 hts gX2_byGroups_X2_bit rfl rfl rfl (by decide +kernel) ⟨Nat.le_of_ble_eq_true rfl, Nat.le_of_ble_eq_true rfl⟩) ⟨fun a U g mk q => ⟨q.1, jPr.blind q.2⟩, va_recv hK hPc (ci := 2) (q0 := 0) rfl rfl, fun U hU hW => ⟨rfl, jPr.mk hU hW hPc hK hDc⟩⟩ rfl rfl hl.1 rfl (lv_room (Nat.le_of_ble_eq_true rfl)) dX2_byGroups_44 ⟨Nat.le_of_ble_eq_true rfl, Nat.le_of_ble_eq_true rfl⟩) hS (fun q _ h => hFc q h) hFc (fun u t H1 locs ht hvm hw9 hB hz1 hk1 hS => ?_)
        obtain ⟨hP1, hK1, hD1⟩ := hB
        rw [ht] at hP1
        obtain ⟨hP, hD⟩ := va_join (wr := ([] : va_W)) (w1 := (wM cI cJ g0 gr gl gw gs th rw mn at_ ml md_l v809 v810 sm fr no)) hP hD [0, 1, 2, 3, 4] [] rfl rfl (by decide) (by decide) hk1 hFc hP1 hD1
        clear hk1 hP1 hK1 hD1 hvm hz1 hPc hDc hFc
        generalize H1 = H at hP hS ⊢
        have hP : va_P (dC, dI) vwCl (wM cI cJ g0 gr gl gw gs th rw mn at_ ml md_l v809 v810 sm fr no) H := hP
        have hD : va_D A (wM cI cJ g0 gr gl gw gs th rw mn at_ ml md_l v809 v810 sm fr no) := hD
        refine lv_aload_n hx hb dX2_byGroups_47 rfl (lv_at hl 2 rfl) ?_
        refine lv_lload hx hb dX2_byGroups_48 (lv_at hl 4 rfl) ?_
        refine lv_iload_n hx hb dX2_byGroups_50 rfl (lv_at hl 3 rfl) ?_
        obtain ⟨⟨v811, v812⟩, hc, hj⟩ := ja_bd hj
        try dsimp only at hj
        have hPc := hP.sub (ws' := (wM cI cJ g0 gr gl gw gs th rw mn at_ ml md_l v809 v810 sm fr no)) [0, 1, 2, 3, 4] rfl
        have hDc := hD.sub (ws' := (wM cI cJ g0 gr gl gw gs th rw mn at_ ml md_l v809 v810 sm fr no)) [0, 1, 2, 3, 4] (by decide) rfl
        have hFc := va_free (wc := (wM cI cJ g0 gr gl gw gs th rw mn at_ ml md_l v809 v810 sm fr no)) hD hS hA [0, 1, 2, 3, 4] rfl
        refine va_callv (va_runV (As := [.long x4, .int x1]) (rest := []) ⟨hx, hb, hml, hown, hts⟩ (c_X2_low l dC dI cI cJ g0 gr gl gw gs H.size th rw mn at_ ml md_l v809 v810 sm fr no x4 x1 _ hc) (cwV 2 hts gX2_byGroups_X2_low rfl rfl rfl (by decide +kernel) ⟨Nat.le_of_ble_eq_true rfl, Nat.le_of_ble_eq_true rfl⟩) ⟨fun a U g mk q => ⟨q.1, jPr.blind q.2⟩, va_recv hK hPc (ci := 2) (q0 := 0) rfl rfl, fun U hU hW => ⟨rfl, jPr.mk hU hW hPc hK hDc⟩⟩ rfl rfl hl.1 rfl (lv_room (Nat.le_of_ble_eq_true rfl)) dX2_byGroups_51 ⟨Nat.le_of_ble_eq_true rfl, Nat.le_of_ble_eq_true rfl⟩) hS (fun q _ h => hFc q h) hFc (fun u t H1 locs ht hvm hw9 hB hz1 hk1 hS => ?_)
        obtain ⟨hP1, hK1, hD1⟩ := hB
        rw [ht] at hP1
        obtain ⟨hP, hD⟩ := va_join (wr := ([] : va_W)) (w1 := (wM cI cJ g0 gr gl gw gs th rw mn at_ ml md_l v811 v812 sm fr no)) hP hD [0, 1, 2, 3, 4] [] rfl rfl (by decide) (by decide) hk1 hFc hP1 hD1
        clear hk1 hP1 hK1 hD1 hvm hz1 hPc hDc hFc
        generalize H1 = H at hP hS ⊢
        have hP : va_P (dC, dI) vwCl (wM cI cJ g0 gr gl gw gs th rw mn at_ ml md_l v811 v812 sm fr no) H := hP
        have hD : va_D A (wM cI cJ g0 gr gl gw gs th rw mn at_ ml md_l v811 v812 sm fr no) := hD
        refine lv_lload hx hb dX2_byGroups_54 (lv_at hl 1 rfl) ?_
        refine lv_lstore (lv' := [(4, .long (x4 >>> (x1.toInt64 &&& 63))), (6, .int (1 : Int32)), (7, .long (x4 >>> (x1.toInt64 &&& 63))), (0, .ref g0), (1, .int x1)]) hx hb dX2_byGroups_56 hl (by decide) rfl (fun ls hl => ?_)
        refine lv_goto (tgt := 8) hx hb dX2_byGroups_58 (by decide) ?_
        exact ih (x4 >>> (x1.toInt64 &&& 63)) (1 : Int32) v811 v812 _ hj _ _ _ (hP) (hD) hS (lv_sub hl [3, 4, 0, 1] rfl)
def j_X2_byGroups (wd : Nat → Int32) (md : Int32) (a1 : Int32) (a2 : Int64) : Option ((Nat → Int32) × Int32) :=
  jL_X2_byGroups_8 a1 jF (a2 - (1 : Int64)) (1 : Int32) wd md
set_option maxHeartbeats 4000000 in
set_option maxRecDepth 100000 in
theorem c_X2_byGroups (l : Launch) (dC : Nat → ClassId) (dI : Nat → Nat → Nat) (cI cJ : ClassId) (g0 : Nat) (gr : Nat) (gl : Nat) (gw : Nat) (gs : Nat) (sz : Nat) (th : Int32) (rw : Nat → Int32) (mn : Int32) (at_ : Int32) (ml : Nat → Int64) (md_l : Int32) (wd : Nat → Int32) (md : Int32) (sm : Nat → Int64) (fr : Int32) (no : Int32) (a1 : Int32) (a2 : Int64) (r : (Nat → Int32) × Int32) (hj : j_X2_byGroups wd md a1 a2 = some r) : Met l yX2_byGroups wsX2_byGroups ({ frames := 2, cells := 0, slots := 0, locals := 45 } : Room) (va_Pc [.ref g0, .int a1, .long a2] (fun U => jPr dC dI cI cJ (wM cI cJ g0 gr gl gw gs th rw mn at_ ml md_l wd md sm fr no) sz U)) (va_Qv (fun _ : Unit => True) (fun (_ : Unit) t => jPo dC dI cI cJ (wM cI cJ g0 gr gl gw gs th rw mn at_ ml md_l r.1 r.2 sm fr no) (va_A (wM cI cJ g0 gr gl gw gs th rw mn at_ ml md_l wd md sm fr no) sz) t) (va_A (wM cI cJ g0 gr gl gw gs th rw mn at_ ml md_l wd md sm fr no) sz)) 0 0 (va_A (wM cI cJ g0 gr gl gw gs th rw mn at_ ml md_l wd md sm fr no) sz) := by
  refine Met.ofW (cc := cX2_byGroups) (maxL := 9) (ret := none) (by decide) rfl ?_
  intro p e s m args below meth c s₁ B hml hv
  obtain ⟨rfl, ⟨hsz, hP, hK, hD0⟩⟩ := hv
  have hx := B.exec
  have hb := B.bytes
  have hr := B.returns
  have hts := atoms_spec (ws := wsX2_byGroups) B.pre
  have hown : s.vm.findClass RX2 = some m.cls := findClass_of_methodNamed B.named
  have hlocks := B.notSynchronized
  have C0 := jCx.of hx hb hr hml hown hts hlocks
  subst hsz
  have hD := hD0.self (sz := s.heap.size)
  generalize hAe : va_A (wM cI cJ g0 gr gl gw gs th rw mn at_ ml md_l wd md sm fr no) s.heap.size = A at hD ⊢
  have hA : ∀ q : Nat, s.heap.size ≤ q → A q := fun q h => by rw [← hAe]; exact Or.inr h
  have hS : va_S A s.heap s.heap [] := va_S.rf
  have hP : va_P (dC, dI) vwCl (wM cI cJ g0 gr gl gw gs th rw mn at_ ml md_l wd md sm fr no) s.heap := hP
  have hl := lv_entry ([.ref g0, .int a1, .long a2]) (n := 9) (Nat.le_of_ble_eq_true rfl)
  rw [lg_entry_eq]
  generalize (lg_sl ([.ref g0, .int a1, .long a2]) ++ List.replicate (9 - (lg_sl ([.ref g0, .int a1, .long a2])).length) Slot.unset).toArray = ls at hl ⊢
  have hl : lv_has ls 9 [(0, .ref g0), (1, .int a1), (2, .long a2)] := hl
  clear hD0 hAe
  unfold j_X2_byGroups at hj
  refine lv_lload_n hx hb dX2_byGroups_0 rfl (lv_at hl 2 rfl) ?_
  refine lv_lconst (v := (1 : Int64)) hx hb dX2_byGroups_1 (by decide) ?_
  refine lv_lsub hx hb dX2_byGroups_2 ?_
  refine lv_lstore (lv' := [(4, .long (a2 - (1 : Int64))), (0, .ref g0), (1, .int a1), (2, .long a2)]) hx hb dX2_byGroups_3 hl (by decide) rfl (fun ls hl => ?_)
  refine lv_iconst (v := (1 : Int32)) hx hb dX2_byGroups_5 (by decide) ?_
  refine lv_istore (lv' := [(6, .int (1 : Int32)), (4, .long (a2 - (1 : Int64))), (0, .ref g0), (1, .int a1), (2, .long a2)]) hx hb dX2_byGroups_6 hl (by decide) rfl (fun ls hl => ?_)
  exact s_X2_byGroups_8 C0 hK hA g0 gr gl gw gs th rw mn at_ ml md_l sm fr no a1 jF (a2 - (1 : Int64)) (1 : Int32) wd md _ hj _ _ _ (hP) (hD) hS (lv_sub hl [2, 3, 1, 0] rfl)

def jL_X2_ones_2 (x1 : Int64) : Nat → Int64 → (Nat → Int32) → Int32 → Option ((Nat → Int32) × Int32)
  | 0, _, _, _ => none
  | n + 1, x3, wd, md => if x1 ≤ x3 then ((j_X2_bit wd md (0 : Int32)).bind fun (v202, v203) => (some (v202, v203))) else ((j_X2_bit wd md (1 : Int32)).bind fun (v204, v205) => (jL_X2_ones_2 x1 n (x3 + (1 : Int64)) v204 v205))
set_option maxHeartbeats 4000000 in
set_option maxRecDepth 100000 in
theorem s_X2_ones_2 {p : Program} {l : Launch} {e : Env} {s : State} {m : MethodId} {args : Array Value} {below : List Frame} {meth : Method} {c : Code} {dC : Nat → ClassId} {dI : Nat → Nat → Nat} {cI cJ : ClassId} {A : Nat → Prop} (C0 : jCx p s m args meth c RX2 cX2_ones 5 none wsX2_ones) (hK : va_K (dC, dI) vwCl (jTy cI cJ) s) (hA : ∀ q : Nat, s.heap.size ≤ q → A q) (g0 : Nat) (gr : Nat) (gl : Nat) (gw : Nat) (gs : Nat) (th : Int32) (rw : Nat → Int32) (mn : Int32) (at_ : Int32) (ml : Nat → Int64) (md_l : Int32) (sm : Nat → Int64) (fr : Int32) (no : Int32) (x1 : Int64) :
    ∀ (n : Nat) (x3 : Int64) (wd : Nat → Int32) (md : Int32) (r : (Nat → Int32) × Int32), jL_X2_ones_2 x1 n x3 wd md = some r → ∀ (H : Heap) (locs : List Loc) (ls : Array Slot), va_P (dC, dI) vwCl (wM cI cJ g0 gr gl gw gs th rw mn at_ ml md_l wd md sm fr no) H → va_D A (wM cI cJ g0 gr gl gw gs th rw mn at_ ml md_l wd md sm fr no) → va_S A s.heap H locs → lv_has ls 5 [(0, .ref g0), (1, .long x1), (3, .long x3)] → W p l e ({ frames := 1, cells := 0, slots := 0, locals := 21 } : Room) s m args below meth c H locs 0 0 (MQ below (va_Qv (fun _ : Unit => True) (fun (_ : Unit) t => jPo dC dI cI cJ (wM cI cJ g0 gr gl gw gs th rw mn at_ ml md_l r.1 r.2 sm fr no) A t) A) args s 0 0 A) (F0 m 2 ls []) := by
  obtain ⟨hx, hb, hr, hml, hown, hts, hlocks⟩ := id C0
  intro n
  induction n with
  | zero =>
    intro x3 wd md r hj
    exact nomatch (show (none : Option ((Nat → Int32) × Int32)) = some r from hj)
  | succ n ih =>
    intro x3 wd md r hj H locs ls hP hD hS hl
    replace hj : (if x1 ≤ x3 then ((j_X2_bit wd md (0 : Int32)).bind fun (v202, v203) => (some (v202, v203))) else ((j_X2_bit wd md (1 : Int32)).bind fun (v204, v205) => (jL_X2_ones_2 x1 n (x3 + (1 : Int64)) v204 v205))) = some r := hj
    refine lv_lload_n hx hb dX2_ones_2 rfl (lv_at hl 2 rfl) ?_
    refine lv_lload_n hx hb dX2_ones_3 rfl (lv_at hl 1 rfl) ?_
    refine W.lcmp hx hb dX2_ones_4 ?_
    refine lv_if_ge (tgt := 20) hx hb dX2_ones_5 (by decide) (fun c201 => ?_) (fun c201 => ?_)
    · replace hj := ja_pos ((lg_cmp_ge x3 x1).mp c201) hj
      refine lv_aload_n hx hb dX2_ones_20 rfl (lv_at hl 0 rfl) ?_
      refine lv_iconst (v := (0 : Int32)) hx hb dX2_ones_21 (by decide) ?_
      obtain ⟨⟨v202, v203⟩, hc, hj⟩ := ja_bd hj
      try dsimp only at hj
      have hPc := hP.sub (ws' := (wM cI cJ g0 gr gl gw gs th rw mn at_ ml md_l wd md sm fr no)) [0, 1, 2, 3, 4] rfl
      have hDc := hD.sub (ws' := (wM cI cJ g0 gr gl gw gs th rw mn at_ ml md_l wd md sm fr no)) [0, 1, 2, 3, 4] (by decide) rfl
      have hFc := va_free (wc := (wM cI cJ g0 gr gl gw gs th rw mn at_ ml md_l wd md sm fr no)) hD hS hA [0, 1, 2, 3, 4] rfl
      refine va_callv (va_runV (As := [.int (0 : Int32)]) (rest := []) ⟨hx, hb, hml, hown, hts⟩ (c_X2_bit l dC dI cI cJ g0 gr gl gw gs H.size th rw mn at_ ml md_l wd md sm fr no (0 : Int32) _ hc) (cwV 1 hts gX2_ones_X2_bit rfl rfl rfl (by decide +kernel) ⟨Nat.le_of_ble_eq_true rfl, Nat.le_of_ble_eq_true rfl⟩) ⟨fun a U g mk q => ⟨q.1, jPr.blind q.2⟩, va_recv hK hPc (ci := 2) (q0 := 0) rfl rfl, fun U hU hW => ⟨rfl, jPr.mk hU hW hPc hK hDc⟩⟩ rfl rfl hl.1 rfl (lv_room (Nat.le_of_ble_eq_true rfl)) dX2_ones_22 ⟨Nat.le_of_ble_eq_true rfl, Nat.le_of_ble_eq_true rfl⟩) hS (fun q _ h => hFc q h) hFc (fun u t H1 locs ht hvm hw9 hB hz1 hk1 hS => ?_)
      obtain ⟨hP1, hK1, hD1⟩ := hB
      rw [ht] at hP1
      obtain ⟨hP, hD⟩ := va_join (wr := ([] : va_W)) (w1 := (wM cI cJ g0 gr gl gw gs th rw mn at_ ml md_l v202 v203 sm fr no)) hP hD [0, 1, 2, 3, 4] [] rfl rfl (by decide) (by decide) hk1 hFc hP1 hD1
      clear hk1 hP1 hK1 hD1 hvm hz1 hPc hDc hFc
      generalize H1 = H at hP hS ⊢
      have hP : va_P (dC, dI) vwCl (wM cI cJ g0 gr gl gw gs th rw mn at_ ml md_l v202 v203 sm fr no) H := hP
      have hD : va_D A (wM cI cJ g0 gr gl gw gs th rw mn at_ ml md_l v202 v203 sm fr no) := hD
      have hr9 : (v202, v203) = r := Option.some.inj hj
      subst hr9
      exact W.vret hx hb hr (fun t ht hW => ⟨⟨(), rfl, trivial, by rw [ht]; exact hP, va_K.moved hW.alike hK, hD⟩, hS.F ht⟩) hS.2.2 dX2_ones_25
    · replace hj := ja_neg (fun h9 => c201 ((lg_cmp_ge x3 x1).mpr h9)) hj
      refine lv_aload_n hx hb dX2_ones_8 rfl (lv_at hl 0 rfl) ?_
      refine lv_iconst (v := (1 : Int32)) hx hb dX2_ones_9 (by decide) ?_
      obtain ⟨⟨v204, v205⟩, hc, hj⟩ := ja_bd hj
      try dsimp only at hj
      have hPc := hP.sub (ws' := (wM cI cJ g0 gr gl gw gs th rw mn at_ ml md_l wd md sm fr no)) [0, 1, 2, 3, 4] rfl
      have hDc := hD.sub (ws' := (wM cI cJ g0 gr gl gw gs th rw mn at_ ml md_l wd md sm fr no)) [0, 1, 2, 3, 4] (by decide) rfl
      have hFc := va_free (wc := (wM cI cJ g0 gr gl gw gs th rw mn at_ ml md_l wd md sm fr no)) hD hS hA [0, 1, 2, 3, 4] rfl
      refine va_callv (va_runV (As := [.int (1 : Int32)]) (rest := []) ⟨hx, hb, hml, hown, hts⟩ (c_X2_bit l dC dI cI cJ g0 gr gl gw gs H.size th rw mn at_ ml md_l wd md sm fr no (1 : Int32) _ hc) (cwV 1 hts gX2_ones_X2_bit rfl rfl rfl (by decide +kernel) ⟨Nat.le_of_ble_eq_true rfl, Nat.le_of_ble_eq_true rfl⟩) ⟨fun a U g mk q => ⟨q.1, jPr.blind q.2⟩, va_recv hK hPc (ci := 2) (q0 := 0) rfl rfl, fun U hU hW => ⟨rfl, jPr.mk hU hW hPc hK hDc⟩⟩ rfl rfl hl.1 rfl (lv_room (Nat.le_of_ble_eq_true rfl)) dX2_ones_10 ⟨Nat.le_of_ble_eq_true rfl, Nat.le_of_ble_eq_true rfl⟩) hS (fun q _ h => hFc q h) hFc (fun u t H1 locs ht hvm hw9 hB hz1 hk1 hS => ?_)
      obtain ⟨hP1, hK1, hD1⟩ := hB
      rw [ht] at hP1
      obtain ⟨hP, hD⟩ := va_join (wr := ([] : va_W)) (w1 := (wM cI cJ g0 gr gl gw gs th rw mn at_ ml md_l v204 v205 sm fr no)) hP hD [0, 1, 2, 3, 4] [] rfl rfl (by decide) (by decide) hk1 hFc hP1 hD1
      clear hk1 hP1 hK1 hD1 hvm hz1 hPc hDc hFc
      generalize H1 = H at hP hS ⊢
      have hP : va_P (dC, dI) vwCl (wM cI cJ g0 gr gl gw gs th rw mn at_ ml md_l v204 v205 sm fr no) H := hP
      have hD : va_D A (wM cI cJ g0 gr gl gw gs th rw mn at_ ml md_l v204 v205 sm fr no) := hD
      refine lv_lload_n hx hb dX2_ones_13 rfl (lv_at hl 2 rfl) ?_
      refine lv_lconst (v := (1 : Int64)) hx hb dX2_ones_14 (by decide) ?_
      refine lv_ladd hx hb dX2_ones_15 ?_
      refine lv_lstore_n (lv' := [(3, .long (x3 + (1 : Int64))), (0, .ref g0), (1, .long x1)]) hx hb dX2_ones_16 rfl hl (by decide) rfl (fun ls hl => ?_)
      refine lv_goto (tgt := 2) hx hb dX2_ones_17 (by decide) ?_
      exact ih (x3 + (1 : Int64)) v204 v205 _ hj _ _ _ (hP) (hD) hS (lv_sub hl [1, 2, 0] rfl)
def j_X2_ones (wd : Nat → Int32) (md : Int32) (a1 : Int64) : Option ((Nat → Int32) × Int32) :=
  jL_X2_ones_2 a1 jF (0 : Int64) wd md
set_option maxHeartbeats 4000000 in
set_option maxRecDepth 100000 in
theorem c_X2_ones (l : Launch) (dC : Nat → ClassId) (dI : Nat → Nat → Nat) (cI cJ : ClassId) (g0 : Nat) (gr : Nat) (gl : Nat) (gw : Nat) (gs : Nat) (sz : Nat) (th : Int32) (rw : Nat → Int32) (mn : Int32) (at_ : Int32) (ml : Nat → Int64) (md_l : Int32) (wd : Nat → Int32) (md : Int32) (sm : Nat → Int64) (fr : Int32) (no : Int32) (a1 : Int64) (r : (Nat → Int32) × Int32) (hj : j_X2_ones wd md a1 = some r) : Met l yX2_ones wsX2_ones ({ frames := 1, cells := 0, slots := 0, locals := 21 } : Room) (va_Pc [.ref g0, .long a1] (fun U => jPr dC dI cI cJ (wM cI cJ g0 gr gl gw gs th rw mn at_ ml md_l wd md sm fr no) sz U)) (va_Qv (fun _ : Unit => True) (fun (_ : Unit) t => jPo dC dI cI cJ (wM cI cJ g0 gr gl gw gs th rw mn at_ ml md_l r.1 r.2 sm fr no) (va_A (wM cI cJ g0 gr gl gw gs th rw mn at_ ml md_l wd md sm fr no) sz) t) (va_A (wM cI cJ g0 gr gl gw gs th rw mn at_ ml md_l wd md sm fr no) sz)) 0 0 (va_A (wM cI cJ g0 gr gl gw gs th rw mn at_ ml md_l wd md sm fr no) sz) := by
  refine Met.ofW (cc := cX2_ones) (maxL := 5) (ret := none) (by decide) rfl ?_
  intro p e s m args below meth c s₁ B hml hv
  obtain ⟨rfl, ⟨hsz, hP, hK, hD0⟩⟩ := hv
  have hx := B.exec
  have hb := B.bytes
  have hr := B.returns
  have hts := atoms_spec (ws := wsX2_ones) B.pre
  have hown : s.vm.findClass RX2 = some m.cls := findClass_of_methodNamed B.named
  have hlocks := B.notSynchronized
  have C0 := jCx.of hx hb hr hml hown hts hlocks
  subst hsz
  have hD := hD0.self (sz := s.heap.size)
  generalize hAe : va_A (wM cI cJ g0 gr gl gw gs th rw mn at_ ml md_l wd md sm fr no) s.heap.size = A at hD ⊢
  have hA : ∀ q : Nat, s.heap.size ≤ q → A q := fun q h => by rw [← hAe]; exact Or.inr h
  have hS : va_S A s.heap s.heap [] := va_S.rf
  have hP : va_P (dC, dI) vwCl (wM cI cJ g0 gr gl gw gs th rw mn at_ ml md_l wd md sm fr no) s.heap := hP
  have hl := lv_entry ([.ref g0, .long a1]) (n := 5) (Nat.le_of_ble_eq_true rfl)
  rw [lg_entry_eq]
  generalize (lg_sl ([.ref g0, .long a1]) ++ List.replicate (5 - (lg_sl ([.ref g0, .long a1])).length) Slot.unset).toArray = ls at hl ⊢
  have hl : lv_has ls 5 [(0, .ref g0), (1, .long a1)] := hl
  clear hD0 hAe
  unfold j_X2_ones at hj
  refine lv_lconst (v := (0 : Int64)) hx hb dX2_ones_0 (by decide) ?_
  refine lv_lstore_n (lv' := [(3, .long (0 : Int64)), (0, .ref g0), (1, .long a1)]) hx hb dX2_ones_1 rfl hl (by decide) rfl (fun ls hl => ?_)
  exact s_X2_ones_2 C0 hK hA g0 gr gl gw gs th rw mn at_ ml md_l sm fr no a1 jF (0 : Int64) wd md _ hj _ _ _ (hP) (hD) hS (lv_sub hl [1, 2, 0] rfl)

def j_X2_byQuotient (wd : Nat → Int32) (md : Int32) (a1 : Int32) (a2 : Int64) : Option ((Nat → Int32) × Int32) :=
  jdvJ a1.toInt64 ((j_X2_ones wd md ((a2 - (1 : Int64)) / a1.toInt64)).bind fun (v1, v2) => (jdvJ a1.toInt64 ((j_X2_powerFor a1).bind fun v3 => (if (((1 : Int64) <<< (v3.toInt64 &&& 63)) - a1.toInt64) ≤ ((a2 - (1 : Int64)) - (a2 - (1 : Int64)) / a1.toInt64 * a1.toInt64) then ((j_X2_low v1 v2 (((a2 - (1 : Int64)) - (a2 - (1 : Int64)) / a1.toInt64 * a1.toInt64) + (((1 : Int64) <<< (v3.toInt64 &&& 63)) - a1.toInt64)) v3).bind fun (v5, v6) => (some (v5, v6))) else ((j_X2_low v1 v2 ((a2 - (1 : Int64)) - (a2 - (1 : Int64)) / a1.toInt64 * a1.toInt64) (v3 - (1 : Int32))).bind fun (v7, v8) => (some (v7, v8)))))))
set_option maxHeartbeats 4000000 in
set_option maxRecDepth 100000 in
theorem c_X2_byQuotient (l : Launch) (dC : Nat → ClassId) (dI : Nat → Nat → Nat) (cI cJ : ClassId) (g0 : Nat) (gr : Nat) (gl : Nat) (gw : Nat) (gs : Nat) (sz : Nat) (th : Int32) (rw : Nat → Int32) (mn : Int32) (at_ : Int32) (ml : Nat → Int64) (md_l : Int32) (wd : Nat → Int32) (md : Int32) (sm : Nat → Int64) (fr : Int32) (no : Int32) (a1 : Int32) (a2 : Int64) (r : (Nat → Int32) × Int32) (hj : j_X2_byQuotient wd md a1 a2 = some r) : Met l yX2_byQuotient wsX2_byQuotient ({ frames := 2, cells := 0, slots := 0, locals := 45 } : Room) (va_Pc [.ref g0, .int a1, .long a2] (fun U => jPr dC dI cI cJ (wM cI cJ g0 gr gl gw gs th rw mn at_ ml md_l wd md sm fr no) sz U)) (va_Qv (fun _ : Unit => True) (fun (_ : Unit) t => jPo dC dI cI cJ (wM cI cJ g0 gr gl gw gs th rw mn at_ ml md_l r.1 r.2 sm fr no) (va_A (wM cI cJ g0 gr gl gw gs th rw mn at_ ml md_l wd md sm fr no) sz) t) (va_A (wM cI cJ g0 gr gl gw gs th rw mn at_ ml md_l wd md sm fr no) sz)) 0 0 (va_A (wM cI cJ g0 gr gl gw gs th rw mn at_ ml md_l wd md sm fr no) sz) := by
  refine Met.ofW (cc := cX2_byQuotient) (maxL := 9) (ret := none) (by decide) rfl ?_
  intro p e s m args below meth c s₁ B hml hv
  obtain ⟨rfl, ⟨hsz, hP, hK, hD0⟩⟩ := hv
  have hx := B.exec
  have hb := B.bytes
  have hr := B.returns
  have hts := atoms_spec (ws := wsX2_byQuotient) B.pre
  have hown : s.vm.findClass RX2 = some m.cls := findClass_of_methodNamed B.named
  have hlocks := B.notSynchronized
  have C0 := jCx.of hx hb hr hml hown hts hlocks
  subst hsz
  have hD := hD0.self (sz := s.heap.size)
  generalize hAe : va_A (wM cI cJ g0 gr gl gw gs th rw mn at_ ml md_l wd md sm fr no) s.heap.size = A at hD ⊢
  have hA : ∀ q : Nat, s.heap.size ≤ q → A q := fun q h => by rw [← hAe]; exact Or.inr h
  have hS : va_S A s.heap s.heap [] := va_S.rf
  have hP : va_P (dC, dI) vwCl (wM cI cJ g0 gr gl gw gs th rw mn at_ ml md_l wd md sm fr no) s.heap := hP
  have hl := lv_entry ([.ref g0, .int a1, .long a2]) (n := 9) (Nat.le_of_ble_eq_true rfl)
  rw [lg_entry_eq]
  generalize (lg_sl ([.ref g0, .int a1, .long a2]) ++ List.replicate (9 - (lg_sl ([.ref g0, .int a1, .long a2])).length) Slot.unset).toArray = ls at hl ⊢
  have hl : lv_has ls 9 [(0, .ref g0), (1, .int a1), (2, .long a2)] := hl
  clear hD0 hAe
  unfold j_X2_byQuotient at hj
  refine lv_aload_n hx hb dX2_byQuotient_0 rfl (lv_at hl 0 rfl) ?_
  refine lv_lload_n hx hb dX2_byQuotient_1 rfl (lv_at hl 2 rfl) ?_
  refine lv_lconst (v := (1 : Int64)) hx hb dX2_byQuotient_2 (by decide) ?_
  refine lv_lsub hx hb dX2_byQuotient_3 ?_
  refine lv_iload_n hx hb dX2_byQuotient_4 rfl (lv_at hl 1 rfl) ?_
  refine lv_i2l hx hb dX2_byQuotient_5 rfl ?_
  obtain ⟨hne, hj⟩ := ja_dvJ hj
  refine lv_ldiv hx hb dX2_byQuotient_6 hne ?_
  obtain ⟨⟨v1, v2⟩, hc, hj⟩ := ja_bd hj
  try dsimp only at hj
  have hPc := hP.sub (ws' := (wM cI cJ g0 gr gl gw gs th rw mn at_ ml md_l wd md sm fr no)) [0, 1, 2, 3, 4] rfl
  have hDc := hD.sub (ws' := (wM cI cJ g0 gr gl gw gs th rw mn at_ ml md_l wd md sm fr no)) [0, 1, 2, 3, 4] (by decide) rfl
  have hFc := va_free (wc := (wM cI cJ g0 gr gl gw gs th rw mn at_ ml md_l wd md sm fr no)) hD hS hA [0, 1, 2, 3, 4] rfl
  refine va_callv (va_runV (As := [.long ((a2 - (1 : Int64)) / a1.toInt64)]) (rest := []) ⟨hx, hb, hml, hown, hts⟩ (c_X2_ones l dC dI cI cJ g0 gr gl gw gs s.heap.size th rw mn at_ ml md_l wd md sm fr no ((a2 - (1 : Int64)) / a1.toInt64) _ hc) (cwV 1 hts gX2_byQuotient_X2_ones rfl rfl rfl (by decide +kernel) ⟨Nat.le_of_ble_eq_true rfl, Nat.le_of_ble_eq_true rfl⟩) ⟨fun a U g mk q => ⟨q.1, jPr.blind q.2⟩, va_recv hK hPc (ci := 2) (q0 := 0) rfl rfl, fun U hU hW => ⟨rfl, jPr.mk hU hW hPc hK hDc⟩⟩ rfl rfl hl.1 rfl (lv_room (Nat.le_of_ble_eq_true rfl)) dX2_byQuotient_7 ⟨Nat.le_of_ble_eq_true rfl, Nat.le_of_ble_eq_true rfl⟩) hS (fun q _ h => hFc q h) hFc (fun u t H1 locs ht hvm hw9 hB hz1 hk1 hS => ?_)
  obtain ⟨hP1, hK1, hD1⟩ := hB
  rw [ht] at hP1
  obtain ⟨hP, hD⟩ := va_join (wr := ([] : va_W)) (w1 := (wM cI cJ g0 gr gl gw gs th rw mn at_ ml md_l v1 v2 sm fr no)) hP hD [0, 1, 2, 3, 4] [] rfl rfl (by decide) (by decide) hk1 hFc hP1 hD1
  clear hk1 hP1 hK1 hD1 hvm hz1 hPc hDc hFc
  generalize H1 = H at hP hS ⊢
  have hP : va_P (dC, dI) vwCl (wM cI cJ g0 gr gl gw gs th rw mn at_ ml md_l v1 v2 sm fr no) H := hP
  have hD : va_D A (wM cI cJ g0 gr gl gw gs th rw mn at_ ml md_l v1 v2 sm fr no) := hD
  refine lv_lload_n hx hb dX2_byQuotient_10 rfl (lv_at hl 2 rfl) ?_
  refine lv_lconst (v := (1 : Int64)) hx hb dX2_byQuotient_11 (by decide) ?_
  refine lv_lsub hx hb dX2_byQuotient_12 ?_
  refine lv_iload_n hx hb dX2_byQuotient_13 rfl (lv_at hl 1 rfl) ?_
  refine lv_i2l hx hb dX2_byQuotient_14 rfl ?_
  obtain ⟨hne, hj⟩ := ja_dvJ hj
  refine lv_lrem hx hb dX2_byQuotient_15 hne ?_
  refine lv_lstore (lv' := [(4, .long ((a2 - (1 : Int64)) - (a2 - (1 : Int64)) / a1.toInt64 * a1.toInt64)), (0, .ref g0), (1, .int a1), (2, .long a2)]) hx hb dX2_byQuotient_16 hl (by decide) rfl (fun ls hl => ?_)
  refine lv_iload_n hx hb dX2_byQuotient_18 rfl (lv_at hl 2 rfl) ?_
  obtain ⟨v3, hc, hj⟩ := ja_bd hj
  try dsimp only at hj
  have hPc := hP.sub (ws' := ([] : va_W)) [] rfl
  have hDc := hD.sub (ws' := ([] : va_W)) [] (by decide) rfl
  have hFc := va_free (wc := ([] : va_W)) hD hS hA [] rfl
  refine va_calli (va_runS (As := [.int a1]) (rest := []) ⟨hx, hb, hml, hown, hts⟩ (c_X2_powerFor l dC dI cI cJ H.size a1 _ hc) (va_cwS 1 hts gX2_byQuotient_X2_powerFor rfl rfl rfl (by decide +kernel) ⟨Nat.le_of_ble_eq_true rfl, Nat.le_of_ble_eq_true rfl⟩) ⟨fun a U g mk q => ⟨q.1, jPr.blind q.2⟩, fun U hU hW => ⟨rfl, jPr.mk hU hW hPc hK hDc⟩⟩ rfl rfl hl.1 rfl (lv_room (Nat.le_of_ble_eq_true rfl)) dX2_byQuotient_19 ⟨Nat.le_of_ble_eq_true rfl, Nat.le_of_ble_eq_true rfl⟩) hS (fun q _ h => hFc q h) hFc (fun rr u t H1 locs ht hvm hw9 hB hz1 hk1 hS => ?_)
  have hw8 : v3 = rr := hw9.symm
  subst hw8
  obtain ⟨hP1, hK1, hD1⟩ := hB
  rw [ht] at hP1
  obtain ⟨hP, hD⟩ := va_join (wr := ([(g0, .inr (2, [.int th, .ref gr, .int mn, .int at_, .ref gl, .int md_l, .ref gw, .int v2, .ref gs, .int fr, .int no])), (gr, .inl (cI, 4096, .inl rw)), (gl, .inl (cJ, 100, .inr (.inl ml))), (gw, .inl (cI, 4200, .inl v1)), (gs, .inl (cJ, 92, .inr (.inl sm)))] : va_W)) (w1 := ([] : va_W)) hP hD [] [0, 1, 2, 3, 4] rfl rfl (by decide) (by decide) hk1 hFc hP1 hD1
  clear hk1 hP1 hK1 hD1 hvm hz1 hPc hDc hFc
  generalize H1 = H at hP hS ⊢
  have hP : va_P (dC, dI) vwCl (wM cI cJ g0 gr gl gw gs th rw mn at_ ml md_l v1 v2 sm fr no) H := hP
  have hD : va_D A (wM cI cJ g0 gr gl gw gs th rw mn at_ ml md_l v1 v2 sm fr no) := hD
  refine lv_istore (lv' := [(6, .int v3), (4, .long ((a2 - (1 : Int64)) - (a2 - (1 : Int64)) / a1.toInt64 * a1.toInt64)), (0, .ref g0), (1, .int a1), (2, .long a2)]) hx hb dX2_byQuotient_22 hl (by decide) rfl (fun ls hl => ?_)
  refine lv_lconst (v := (1 : Int64)) hx hb dX2_byQuotient_24 (by decide) ?_
  refine lv_iload hx hb dX2_byQuotient_25 (lv_at hl 0 rfl) ?_
  refine lv_lshl hx hb dX2_byQuotient_27 rfl ?_
  refine lv_iload_n hx hb dX2_byQuotient_28 rfl (lv_at hl 3 rfl) ?_
  refine lv_i2l hx hb dX2_byQuotient_29 rfl ?_
  refine lv_lsub hx hb dX2_byQuotient_30 ?_
  refine lv_lstore (lv' := [(7, .long (((1 : Int64) <<< (v3.toInt64 &&& 63)) - a1.toInt64)), (6, .int v3), (4, .long ((a2 - (1 : Int64)) - (a2 - (1 : Int64)) / a1.toInt64 * a1.toInt64)), (0, .ref g0), (1, .int a1), (2, .long a2)]) hx hb dX2_byQuotient_31 hl (by decide) rfl (fun ls hl => ?_)
  refine lv_lload hx hb dX2_byQuotient_33 (lv_at hl 2 rfl) ?_
  refine lv_lload hx hb dX2_byQuotient_35 (lv_at hl 0 rfl) ?_
  refine W.lcmp hx hb dX2_byQuotient_37 ?_
  refine lv_if_ge (tgt := 54) hx hb dX2_byQuotient_38 (by decide) (fun c4 => ?_) (fun c4 => ?_)
  · replace hj := ja_pos ((lg_cmp_ge ((a2 - (1 : Int64)) - (a2 - (1 : Int64)) / a1.toInt64 * a1.toInt64) (((1 : Int64) <<< (v3.toInt64 &&& 63)) - a1.toInt64)).mp c4) hj
    refine lv_aload_n hx hb dX2_byQuotient_54 rfl (lv_at hl 3 rfl) ?_
    refine lv_lload hx hb dX2_byQuotient_55 (lv_at hl 2 rfl) ?_
    refine lv_lload hx hb dX2_byQuotient_57 (lv_at hl 0 rfl) ?_
    refine lv_ladd hx hb dX2_byQuotient_59 ?_
    refine lv_iload hx hb dX2_byQuotient_60 (lv_at hl 1 rfl) ?_
    obtain ⟨⟨v5, v6⟩, hc, hj⟩ := ja_bd hj
    try dsimp only at hj
    have hPc := hP.sub (ws' := (wM cI cJ g0 gr gl gw gs th rw mn at_ ml md_l v1 v2 sm fr no)) [0, 1, 2, 3, 4] rfl
    have hDc := hD.sub (ws' := (wM cI cJ g0 gr gl gw gs th rw mn at_ ml md_l v1 v2 sm fr no)) [0, 1, 2, 3, 4] (by decide) rfl
    have hFc := va_free (wc := (wM cI cJ g0 gr gl gw gs th rw mn at_ ml md_l v1 v2 sm fr no)) hD hS hA [0, 1, 2, 3, 4] rfl
    refine va_callv (va_runV (As := [.long (((a2 - (1 : Int64)) - (a2 - (1 : Int64)) / a1.toInt64 * a1.toInt64) + (((1 : Int64) <<< (v3.toInt64 &&& 63)) - a1.toInt64)), .int v3]) (rest := []) ⟨hx, hb, hml, hown, hts⟩ (c_X2_low l dC dI cI cJ g0 gr gl gw gs H.size th rw mn at_ ml md_l v1 v2 sm fr no (((a2 - (1 : Int64)) - (a2 - (1 : Int64)) / a1.toInt64 * a1.toInt64) + (((1 : Int64) <<< (v3.toInt64 &&& 63)) - a1.toInt64)) v3 _ hc) (cwV 2 hts gX2_byQuotient_X2_low rfl rfl rfl (by decide +kernel) ⟨Nat.le_of_ble_eq_true rfl, Nat.le_of_ble_eq_true rfl⟩) ⟨fun a U g mk q => ⟨q.1, jPr.blind q.2⟩, va_recv hK hPc (ci := 2) (q0 := 0) rfl rfl, fun U hU hW => ⟨rfl, jPr.mk hU hW hPc hK hDc⟩⟩ rfl rfl hl.1 rfl (lv_room (Nat.le_of_ble_eq_true rfl)) dX2_byQuotient_62 ⟨Nat.le_of_ble_eq_true rfl, Nat.le_of_ble_eq_true rfl⟩) hS (fun q _ h => hFc q h) hFc (fun u t H1 locs ht hvm hw9 hB hz1 hk1 hS => ?_)
    obtain ⟨hP1, hK1, hD1⟩ := hB
    rw [ht] at hP1
    obtain ⟨hP, hD⟩ := va_join (wr := ([] : va_W)) (w1 := (wM cI cJ g0 gr gl gw gs th rw mn at_ ml md_l v5 v6 sm fr no)) hP hD [0, 1, 2, 3, 4] [] rfl rfl (by decide) (by decide) hk1 hFc hP1 hD1
    clear hk1 hP1 hK1 hD1 hvm hz1 hPc hDc hFc
    generalize H1 = H at hP hS ⊢
    have hP : va_P (dC, dI) vwCl (wM cI cJ g0 gr gl gw gs th rw mn at_ ml md_l v5 v6 sm fr no) H := hP
    have hD : va_D A (wM cI cJ g0 gr gl gw gs th rw mn at_ ml md_l v5 v6 sm fr no) := hD
    have hr9 : (v5, v6) = r := Option.some.inj hj
    subst hr9
    exact W.vret hx hb hr (fun t ht hW => ⟨⟨(), rfl, trivial, by rw [ht]; exact hP, va_K.moved hW.alike hK, hD⟩, hS.F ht⟩) hS.2.2 dX2_byQuotient_65
  · replace hj := ja_neg (fun h9 => c4 ((lg_cmp_ge ((a2 - (1 : Int64)) - (a2 - (1 : Int64)) / a1.toInt64 * a1.toInt64) (((1 : Int64) <<< (v3.toInt64 &&& 63)) - a1.toInt64)).mpr h9)) hj
    refine lv_aload_n hx hb dX2_byQuotient_41 rfl (lv_at hl 3 rfl) ?_
    refine lv_lload hx hb dX2_byQuotient_42 (lv_at hl 2 rfl) ?_
    refine lv_iload hx hb dX2_byQuotient_44 (lv_at hl 1 rfl) ?_
    refine lv_iconst (v := (1 : Int32)) hx hb dX2_byQuotient_46 (by decide) ?_
    refine lv_isub hx hb dX2_byQuotient_47 ?_
    obtain ⟨⟨v7, v8⟩, hc, hj⟩ := ja_bd hj
    try dsimp only at hj
    have hPc := hP.sub (ws' := (wM cI cJ g0 gr gl gw gs th rw mn at_ ml md_l v1 v2 sm fr no)) [0, 1, 2, 3, 4] rfl
    have hDc := hD.sub (ws' := (wM cI cJ g0 gr gl gw gs th rw mn at_ ml md_l v1 v2 sm fr no)) [0, 1, 2, 3, 4] (by decide) rfl
    have hFc := va_free (wc := (wM cI cJ g0 gr gl gw gs th rw mn at_ ml md_l v1 v2 sm fr no)) hD hS hA [0, 1, 2, 3, 4] rfl
    refine va_callv (va_runV (As := [.long ((a2 - (1 : Int64)) - (a2 - (1 : Int64)) / a1.toInt64 * a1.toInt64), .int (v3 - (1 : Int32))]) (rest := []) ⟨hx, hb, hml, hown, hts⟩ (c_X2_low l dC dI cI cJ g0 gr gl gw gs H.size th rw mn at_ ml md_l v1 v2 sm fr no ((a2 - (1 : Int64)) - (a2 - (1 : Int64)) / a1.toInt64 * a1.toInt64) (v3 - (1 : Int32)) _ hc) (cwV 2 hts gX2_byQuotient_X2_low rfl rfl rfl (by decide +kernel) ⟨Nat.le_of_ble_eq_true rfl, Nat.le_of_ble_eq_true rfl⟩) ⟨fun a U g mk q => ⟨q.1, jPr.blind q.2⟩, va_recv hK hPc (ci := 2) (q0 := 0) rfl rfl, fun U hU hW => ⟨rfl, jPr.mk hU hW hPc hK hDc⟩⟩ rfl rfl hl.1 rfl (lv_room (Nat.le_of_ble_eq_true rfl)) dX2_byQuotient_48 ⟨Nat.le_of_ble_eq_true rfl, Nat.le_of_ble_eq_true rfl⟩) hS (fun q _ h => hFc q h) hFc (fun u t H1 locs ht hvm hw9 hB hz1 hk1 hS => ?_)
    obtain ⟨hP1, hK1, hD1⟩ := hB
    rw [ht] at hP1
    obtain ⟨hP, hD⟩ := va_join (wr := ([] : va_W)) (w1 := (wM cI cJ g0 gr gl gw gs th rw mn at_ ml md_l v7 v8 sm fr no)) hP hD [0, 1, 2, 3, 4] [] rfl rfl (by decide) (by decide) hk1 hFc hP1 hD1
    clear hk1 hP1 hK1 hD1 hvm hz1 hPc hDc hFc
    generalize H1 = H at hP hS ⊢
    have hP : va_P (dC, dI) vwCl (wM cI cJ g0 gr gl gw gs th rw mn at_ ml md_l v7 v8 sm fr no) H := hP
    have hD : va_D A (wM cI cJ g0 gr gl gw gs th rw mn at_ ml md_l v7 v8 sm fr no) := hD
    refine lv_goto (tgt := 65) hx hb dX2_byQuotient_51 (by decide) ?_
    have hr9 : (v7, v8) = r := Option.some.inj hj
    subst hr9
    exact W.vret hx hb hr (fun t ht hW => ⟨⟨(), rfl, trivial, by rw [ht]; exact hP, va_K.moved hW.alike hK, hD⟩, hS.F ht⟩) hS.2.2 dX2_byQuotient_65

set_option maxRecDepth 100000 in
theorem inn_X2_bySums_X2 : ∀ w ∈ u_ws RX2 TX2 11, w ∈ wsX2_bySums := by decide +kernel
def jL_X2_bySums_12 (md : Int32) (sm : Nat → Int64) (x3 : Int32) : Nat → Int64 → Int32 → (Nat → Int32) → Option ((Nat → Int32) × Int32)
  | 0, _, _, _ => none
  | n + 1, x4, x6, wd => if x6 ≤ (0 : Int32) then (jix x3 4200 (some (upd wd x3.toNatClampNeg (1 : Int32), x3 + (1 : Int32)))) else (jix x6 92 (if x4 < (sm x6.toNatClampNeg) then (jix (x6 - (1 : Int32)) 4200 (jL_X2_bySums_12 md sm x3 n x4 (x6 + (-1 : Int32)) (upd wd (x6 - (1 : Int32)).toNatClampNeg (0 : Int32)))) else (jix (x6 - (1 : Int32)) 4200 (jix x6 92 (jL_X2_bySums_12 md sm x3 n (x4 - (sm x6.toNatClampNeg)) (x6 + (-1 : Int32)) (upd wd (x6 - (1 : Int32)).toNatClampNeg (1 : Int32)))))))
set_option maxHeartbeats 4000000 in
set_option maxRecDepth 100000 in
theorem s_X2_bySums_12 {p : Program} {l : Launch} {e : Env} {s : State} {m : MethodId} {args : Array Value} {below : List Frame} {meth : Method} {c : Code} {dC : Nat → ClassId} {dI : Nat → Nat → Nat} {cI cJ : ClassId} {A : Nat → Prop} (C0 : jCx p s m args meth c RX2 cX2_bySums 8 none wsX2_bySums) (hK : va_K (dC, dI) vwCl (jTy cI cJ) s) (hA : ∀ q : Nat, s.heap.size ≤ q → A q) (g0 : Nat) (gr : Nat) (gl : Nat) (gw : Nat) (gs : Nat) (th : Int32) (rw : Nat → Int32) (mn : Int32) (at_ : Int32) (ml : Nat → Int64) (md_l : Int32) (md : Int32) (sm : Nat → Int64) (fr : Int32) (no : Int32) (x3 : Int32) :
    ∀ (n : Nat) (x4 : Int64) (x6 : Int32) (wd : Nat → Int32) (r : (Nat → Int32) × Int32), jL_X2_bySums_12 md sm x3 n x4 x6 wd = some r → ∀ (H : Heap) (locs : List Loc) (ls : Array Slot), va_P (dC, dI) vwCl (wM cI cJ g0 gr gl gw gs th rw mn at_ ml md_l wd md sm fr no) H → va_D A (wM cI cJ g0 gr gl gw gs th rw mn at_ ml md_l wd md sm fr no) → va_S A s.heap H locs → lv_has ls 8 [(0, .ref g0), (3, .int x3), (4, .long x4), (6, .int x6)] → W p l e ({ frames := 1, cells := 0, slots := 0, locals := 23 } : Room) s m args below meth c H locs 0 0 (MQ below (va_Qv (fun _ : Unit => True) (fun (_ : Unit) t => jPo dC dI cI cJ (wM cI cJ g0 gr gl gw gs th rw mn at_ ml md_l r.1 r.2 sm fr no) A t) A) args s 0 0 A) (F0 m 12 ls []) := by
  obtain ⟨hx, hb, hr, hml, hown, hts, hlocks⟩ := id C0
  intro n
  induction n with
  | zero =>
    intro x4 x6 wd r hj
    exact nomatch (show (none : Option ((Nat → Int32) × Int32)) = some r from hj)
  | succ n ih =>
    intro x4 x6 wd r hj H locs ls hP hD hS hl
    replace hj : (if x6 ≤ (0 : Int32) then (jix x3 4200 (some (upd wd x3.toNatClampNeg (1 : Int32), x3 + (1 : Int32)))) else (jix x6 92 (if x4 < (sm x6.toNatClampNeg) then (jix (x6 - (1 : Int32)) 4200 (jL_X2_bySums_12 md sm x3 n x4 (x6 + (-1 : Int32)) (upd wd (x6 - (1 : Int32)).toNatClampNeg (0 : Int32)))) else (jix (x6 - (1 : Int32)) 4200 (jix x6 92 (jL_X2_bySums_12 md sm x3 n (x4 - (sm x6.toNatClampNeg)) (x6 + (-1 : Int32)) (upd wd (x6 - (1 : Int32)).toNatClampNeg (1 : Int32)))))))) = some r := hj
    refine lv_iload hx hb dX2_bySums_12 (lv_at hl 3 rfl) ?_
    refine lv_if_le (tgt := 84) hx hb dX2_bySums_14 (by decide) (fun c1201 => ?_) (fun c1201 => ?_)
    · replace hj := ja_pos c1201 hj
      refine lv_aload_n hx hb dX2_bySums_84 rfl (lv_at hl 0 rfl) ?_
      refine va_get (D := (dC, dI)) (ci := 2) (v := .ref gw) (C := RX2) (T := TX2) (N := 11) hx hb hts inn_X2_bySums_X2 hown hK hP 0 rfl rfl 6 (by decide) (hts (.fieldLink RX2 17 "SelfEndingCodesModel" "word" "[I") (by decide +kernel)) (fun _ h9 => h9) rfl dX2_bySums_85 ?_
      refine lv_iload_n hx hb dX2_bySums_88 rfl (lv_at hl 1 rfl) ?_
      refine lv_iconst (v := (1 : Int32)) hx hb dX2_bySums_89 (by decide) ?_
      obtain ⟨hin, hj⟩ := ja_ix hj
      refine va_iast hx hb hK hP hD hS 3 0 rfl rfl hin dX2_bySums_90 (fun H locs hP hD hS => ?_)
      have hP : va_P (dC, dI) vwCl (wM cI cJ g0 gr gl gw gs th rw mn at_ ml md_l (upd wd x3.toNatClampNeg (1 : Int32)) md sm fr no) H := hP
      have hD : va_D A (wM cI cJ g0 gr gl gw gs th rw mn at_ ml md_l (upd wd x3.toNatClampNeg (1 : Int32)) md sm fr no) := hD
      refine lv_aload_n hx hb dX2_bySums_91 rfl (lv_at hl 0 rfl) ?_
      refine lv_iload_n hx hb dX2_bySums_92 rfl (lv_at hl 1 rfl) ?_
      refine lv_iconst (v := (1 : Int32)) hx hb dX2_bySums_93 (by decide) ?_
      refine lv_iadd hx hb dX2_bySums_94 ?_
      refine va_put (D := (dC, dI)) (ci := 2) (v := .int (x3 + (1 : Int32))) (ty := .int) (C := RX2) (T := TX2) (N := 11) hx hb hts inn_X2_bySums_X2 tyX2 tyX2_ok nmX2 hown hK hP hD hS 0 rfl rfl 7 (by decide) (hts (.fieldLink RX2 47 "SelfEndingCodesModel" "made" "I") (by decide +kernel)) (fun _ h9 => h9) rfl (by decide +kernel) rfl rfl (Nat.le_of_ble_eq_true rfl) dX2_bySums_95 (fun H locs hP hD hS => ?_)
      have hP : va_P (dC, dI) vwCl (wM cI cJ g0 gr gl gw gs th rw mn at_ ml md_l (upd wd x3.toNatClampNeg (1 : Int32)) (x3 + (1 : Int32)) sm fr no) H := hP
      have hD : va_D A (wM cI cJ g0 gr gl gw gs th rw mn at_ ml md_l (upd wd x3.toNatClampNeg (1 : Int32)) (x3 + (1 : Int32)) sm fr no) := hD
      have hr9 : (upd wd x3.toNatClampNeg (1 : Int32), x3 + (1 : Int32)) = r := Option.some.inj hj
      subst hr9
      exact W.vret hx hb hr (fun t ht hW => ⟨⟨(), rfl, trivial, by rw [ht]; exact hP, va_K.moved hW.alike hK, hD⟩, hS.F ht⟩) hS.2.2 dX2_bySums_98
    · replace hj := ja_neg c1201 hj
      refine lv_aload_n hx hb dX2_bySums_17 rfl (lv_at hl 0 rfl) ?_
      refine va_get (D := (dC, dI)) (ci := 2) (v := .ref gs) (C := RX2) (T := TX2) (N := 11) hx hb hts inn_X2_bySums_X2 hown hK hP 0 rfl rfl 8 (by decide) (hts (.fieldLink RX2 20 "SelfEndingCodesModel" "sums" "[J") (by decide +kernel)) (fun _ h9 => h9) rfl dX2_bySums_18 ?_
      refine lv_iload hx hb dX2_bySums_21 (lv_at hl 3 rfl) ?_
      obtain ⟨hin, hj⟩ := ja_ix hj
      refine va_lald hx hb hK hP 4 1 rfl rfl hin dX2_bySums_23 ?_
      refine lv_lload hx hb dX2_bySums_24 (lv_at hl 2 rfl) ?_
      refine W.lcmp hx hb dX2_bySums_26 ?_
      refine lv_if_gt (tgt := 34) hx hb dX2_bySums_27 (by decide) (fun c1202 => ?_) (fun c1202 => ?_)
      · replace hj := ja_pos ((lg_cmp_gt (sm x6.toNatClampNeg) x4).mp c1202) hj
        refine lv_iconst (v := (0 : Int32)) hx hb dX2_bySums_34 (by decide) ?_
        refine lv_istore (lv' := [(7, .int (0 : Int32)), (0, .ref g0), (3, .int x3), (4, .long x4), (6, .int x6)]) hx hb dX2_bySums_35 hl (by decide) rfl (fun ls hl => ?_)
        refine lv_aload_n hx hb dX2_bySums_37 rfl (lv_at hl 1 rfl) ?_
        refine va_get (D := (dC, dI)) (ci := 2) (v := .ref gw) (C := RX2) (T := TX2) (N := 11) hx hb hts inn_X2_bySums_X2 hown hK hP 0 rfl rfl 6 (by decide) (hts (.fieldLink RX2 17 "SelfEndingCodesModel" "word" "[I") (by decide +kernel)) (fun _ h9 => h9) rfl dX2_bySums_38 ?_
        refine lv_iload hx hb dX2_bySums_41 (lv_at hl 4 rfl) ?_
        refine lv_iconst (v := (1 : Int32)) hx hb dX2_bySums_43 (by decide) ?_
        refine lv_isub hx hb dX2_bySums_44 ?_
        refine lv_iload hx hb dX2_bySums_45 (lv_at hl 0 rfl) ?_
        refine lv_if_eq (tgt := 54) hx hb dX2_bySums_47 (by decide) (fun _ => ?_) (fun h9 => absurd (by decide) h9)
        refine lv_iconst (v := (0 : Int32)) hx hb dX2_bySums_54 (by decide) ?_
        obtain ⟨hin, hj⟩ := ja_ix hj
        refine va_iast hx hb hK hP hD hS 3 0 rfl rfl hin dX2_bySums_55 (fun H locs hP hD hS => ?_)
        have hP : va_P (dC, dI) vwCl (wM cI cJ g0 gr gl gw gs th rw mn at_ ml md_l (upd wd (x6 - (1 : Int32)).toNatClampNeg (0 : Int32)) md sm fr no) H := hP
        have hD : va_D A (wM cI cJ g0 gr gl gw gs th rw mn at_ ml md_l (upd wd (x6 - (1 : Int32)).toNatClampNeg (0 : Int32)) md sm fr no) := hD
        refine lv_iload hx hb dX2_bySums_56 (lv_at hl 0 rfl) ?_
        refine lv_if_eq (tgt := 74) hx hb dX2_bySums_58 (by decide) (fun _ => ?_) (fun h9 => absurd (by decide) h9)
        refine lv_lload hx hb dX2_bySums_74 (lv_at hl 3 rfl) ?_
        refine lv_lstore (lv' := [(4, .long x4), (7, .int (0 : Int32)), (0, .ref g0), (3, .int x3), (6, .int x6)]) hx hb dX2_bySums_76 hl (by decide) rfl (fun ls hl => ?_)
        refine lv_iinc (v := x6 + (-1 : Int32)) (lv' := [(6, .int (x6 + (-1 : Int32))), (4, .long x4), (7, .int (0 : Int32)), (0, .ref g0), (3, .int x3)]) hx hb dX2_bySums_78 hl (k := 4) rfl (congrArg (fun z => x6 + z) (by decide)) (by decide) rfl (fun ls hl => ?_)
        refine lv_goto (tgt := 12) hx hb dX2_bySums_81 (by decide) ?_
        exact ih x4 (x6 + (-1 : Int32)) (upd wd (x6 - (1 : Int32)).toNatClampNeg (0 : Int32)) _ hj _ _ _ (hP) (hD) hS (lv_sub hl [3, 4, 1, 0] rfl)
      · replace hj := ja_neg (fun h9 => c1202 ((lg_cmp_gt (sm x6.toNatClampNeg) x4).mpr h9)) hj
        refine lv_iconst (v := (1 : Int32)) hx hb dX2_bySums_30 (by decide) ?_
        refine lv_goto (tgt := 35) hx hb dX2_bySums_31 (by decide) ?_
        refine lv_istore (lv' := [(7, .int (1 : Int32)), (0, .ref g0), (3, .int x3), (4, .long x4), (6, .int x6)]) hx hb dX2_bySums_35 hl (by decide) rfl (fun ls hl => ?_)
        refine lv_aload_n hx hb dX2_bySums_37 rfl (lv_at hl 1 rfl) ?_
        refine va_get (D := (dC, dI)) (ci := 2) (v := .ref gw) (C := RX2) (T := TX2) (N := 11) hx hb hts inn_X2_bySums_X2 hown hK hP 0 rfl rfl 6 (by decide) (hts (.fieldLink RX2 17 "SelfEndingCodesModel" "word" "[I") (by decide +kernel)) (fun _ h9 => h9) rfl dX2_bySums_38 ?_
        refine lv_iload hx hb dX2_bySums_41 (lv_at hl 4 rfl) ?_
        refine lv_iconst (v := (1 : Int32)) hx hb dX2_bySums_43 (by decide) ?_
        refine lv_isub hx hb dX2_bySums_44 ?_
        refine lv_iload hx hb dX2_bySums_45 (lv_at hl 0 rfl) ?_
        refine lv_if_eq (tgt := 54) hx hb dX2_bySums_47 (by decide) (fun h9 => absurd h9 (by decide)) (fun _ => ?_)
        refine lv_iconst (v := (1 : Int32)) hx hb dX2_bySums_50 (by decide) ?_
        refine lv_goto (tgt := 55) hx hb dX2_bySums_51 (by decide) ?_
        obtain ⟨hin, hj⟩ := ja_ix hj
        refine va_iast hx hb hK hP hD hS 3 0 rfl rfl hin dX2_bySums_55 (fun H locs hP hD hS => ?_)
        have hP : va_P (dC, dI) vwCl (wM cI cJ g0 gr gl gw gs th rw mn at_ ml md_l (upd wd (x6 - (1 : Int32)).toNatClampNeg (1 : Int32)) md sm fr no) H := hP
        have hD : va_D A (wM cI cJ g0 gr gl gw gs th rw mn at_ ml md_l (upd wd (x6 - (1 : Int32)).toNatClampNeg (1 : Int32)) md sm fr no) := hD
        refine lv_iload hx hb dX2_bySums_56 (lv_at hl 0 rfl) ?_
        refine lv_if_eq (tgt := 74) hx hb dX2_bySums_58 (by decide) (fun h9 => absurd h9 (by decide)) (fun _ => ?_)
        refine lv_lload hx hb dX2_bySums_61 (lv_at hl 3 rfl) ?_
        refine lv_aload_n hx hb dX2_bySums_63 rfl (lv_at hl 1 rfl) ?_
        refine va_get (D := (dC, dI)) (ci := 2) (v := .ref gs) (C := RX2) (T := TX2) (N := 11) hx hb hts inn_X2_bySums_X2 hown hK hP 0 rfl rfl 8 (by decide) (hts (.fieldLink RX2 20 "SelfEndingCodesModel" "sums" "[J") (by decide +kernel)) (fun _ h9 => h9) rfl dX2_bySums_64 ?_
        refine lv_iload hx hb dX2_bySums_67 (lv_at hl 4 rfl) ?_
        obtain ⟨hin, hj⟩ := ja_ix hj
        refine va_lald hx hb hK hP 4 1 rfl rfl hin dX2_bySums_69 ?_
        refine lv_lsub hx hb dX2_bySums_70 ?_
        refine lv_goto (tgt := 76) hx hb dX2_bySums_71 (by decide) ?_
        refine lv_lstore (lv' := [(4, .long (x4 - (sm x6.toNatClampNeg))), (7, .int (1 : Int32)), (0, .ref g0), (3, .int x3), (6, .int x6)]) hx hb dX2_bySums_76 hl (by decide) rfl (fun ls hl => ?_)
        refine lv_iinc (v := x6 + (-1 : Int32)) (lv' := [(6, .int (x6 + (-1 : Int32))), (4, .long (x4 - (sm x6.toNatClampNeg))), (7, .int (1 : Int32)), (0, .ref g0), (3, .int x3)]) hx hb dX2_bySums_78 hl (k := 4) rfl (congrArg (fun z => x6 + z) (by decide)) (by decide) rfl (fun ls hl => ?_)
        refine lv_goto (tgt := 12) hx hb dX2_bySums_81 (by decide) ?_
        exact ih (x4 - (sm x6.toNatClampNeg)) (x6 + (-1 : Int32)) (upd wd (x6 - (1 : Int32)).toNatClampNeg (1 : Int32)) _ hj _ _ _ (hP) (hD) hS (lv_sub hl [3, 4, 1, 0] rfl)
def j_X2_bySums (wd : Nat → Int32) (md : Int32) (sm : Nat → Int64) (a1 : Int64) : Option ((Nat → Int32) × Int32) :=
  (j_X2_greatest sm a1).bind fun v1 => (jL_X2_bySums_12 md sm v1 jF a1 v1 wd)
set_option maxHeartbeats 4000000 in
set_option maxRecDepth 100000 in
theorem c_X2_bySums (l : Launch) (dC : Nat → ClassId) (dI : Nat → Nat → Nat) (cI cJ : ClassId) (g0 : Nat) (gr : Nat) (gl : Nat) (gw : Nat) (gs : Nat) (sz : Nat) (th : Int32) (rw : Nat → Int32) (mn : Int32) (at_ : Int32) (ml : Nat → Int64) (md_l : Int32) (wd : Nat → Int32) (md : Int32) (sm : Nat → Int64) (fr : Int32) (no : Int32) (a1 : Int64) (r : (Nat → Int32) × Int32) (hj : j_X2_bySums wd md sm a1 = some r) : Met l yX2_bySums wsX2_bySums ({ frames := 1, cells := 0, slots := 0, locals := 23 } : Room) (va_Pc [.ref g0, .long a1] (fun U => jPr dC dI cI cJ (wM cI cJ g0 gr gl gw gs th rw mn at_ ml md_l wd md sm fr no) sz U)) (va_Qv (fun _ : Unit => True) (fun (_ : Unit) t => jPo dC dI cI cJ (wM cI cJ g0 gr gl gw gs th rw mn at_ ml md_l r.1 r.2 sm fr no) (va_A (wM cI cJ g0 gr gl gw gs th rw mn at_ ml md_l wd md sm fr no) sz) t) (va_A (wM cI cJ g0 gr gl gw gs th rw mn at_ ml md_l wd md sm fr no) sz)) 0 0 (va_A (wM cI cJ g0 gr gl gw gs th rw mn at_ ml md_l wd md sm fr no) sz) := by
  refine Met.ofW (cc := cX2_bySums) (maxL := 8) (ret := none) (by decide) rfl ?_
  intro p e s m args below meth c s₁ B hml hv
  obtain ⟨rfl, ⟨hsz, hP, hK, hD0⟩⟩ := hv
  have hx := B.exec
  have hb := B.bytes
  have hr := B.returns
  have hts := atoms_spec (ws := wsX2_bySums) B.pre
  have hown : s.vm.findClass RX2 = some m.cls := findClass_of_methodNamed B.named
  have hlocks := B.notSynchronized
  have C0 := jCx.of hx hb hr hml hown hts hlocks
  subst hsz
  have hD := hD0.self (sz := s.heap.size)
  generalize hAe : va_A (wM cI cJ g0 gr gl gw gs th rw mn at_ ml md_l wd md sm fr no) s.heap.size = A at hD ⊢
  have hA : ∀ q : Nat, s.heap.size ≤ q → A q := fun q h => by rw [← hAe]; exact Or.inr h
  have hS : va_S A s.heap s.heap [] := va_S.rf
  have hP : va_P (dC, dI) vwCl (wM cI cJ g0 gr gl gw gs th rw mn at_ ml md_l wd md sm fr no) s.heap := hP
  have hl := lv_entry ([.ref g0, .long a1]) (n := 8) (Nat.le_of_ble_eq_true rfl)
  rw [lg_entry_eq]
  generalize (lg_sl ([.ref g0, .long a1]) ++ List.replicate (8 - (lg_sl ([.ref g0, .long a1])).length) Slot.unset).toArray = ls at hl ⊢
  have hl : lv_has ls 8 [(0, .ref g0), (1, .long a1)] := hl
  clear hD0 hAe
  unfold j_X2_bySums at hj
  refine lv_aload_n hx hb dX2_bySums_0 rfl (lv_at hl 0 rfl) ?_
  refine lv_lload_n hx hb dX2_bySums_1 rfl (lv_at hl 1 rfl) ?_
  obtain ⟨v1, hc, hj⟩ := ja_bd hj
  try dsimp only at hj
  have hPc := hP.sub (ws' := (wM cI cJ g0 gr gl gw gs th rw mn at_ ml md_l wd md sm fr no)) [0, 1, 2, 3, 4] rfl
  have hDc := hD.sub (ws' := (wM cI cJ g0 gr gl gw gs th rw mn at_ ml md_l wd md sm fr no)) [0, 1, 2, 3, 4] (by decide) rfl
  have hFc := va_free (wc := (wM cI cJ g0 gr gl gw gs th rw mn at_ ml md_l wd md sm fr no)) hD hS hA [0, 1, 2, 3, 4] rfl
  refine va_calli (va_runV (As := [.long a1]) (rest := []) ⟨hx, hb, hml, hown, hts⟩ (c_X2_greatest l dC dI cI cJ g0 gr gl gw gs s.heap.size th rw mn at_ ml md_l wd md sm fr no a1 _ hc) (cwV 1 hts gX2_bySums_X2_greatest rfl rfl rfl (by decide +kernel) ⟨Nat.le_of_ble_eq_true rfl, Nat.le_of_ble_eq_true rfl⟩) ⟨fun a U g mk q => ⟨q.1, jPr.blind q.2⟩, va_recv hK hPc (ci := 2) (q0 := 0) rfl rfl, fun U hU hW => ⟨rfl, jPr.mk hU hW hPc hK hDc⟩⟩ rfl rfl hl.1 rfl (lv_room (Nat.le_of_ble_eq_true rfl)) dX2_bySums_2 ⟨Nat.le_of_ble_eq_true rfl, Nat.le_of_ble_eq_true rfl⟩) hS (fun q _ h => hFc q h) hFc (fun rr u t H1 locs ht hvm hw9 hB hz1 hk1 hS => ?_)
  have hw8 : v1 = rr := hw9.symm
  subst hw8
  obtain ⟨hP1, hK1, hD1⟩ := hB
  rw [ht] at hP1
  obtain ⟨hP, hD⟩ := va_join (wr := ([] : va_W)) (w1 := (wM cI cJ g0 gr gl gw gs th rw mn at_ ml md_l wd md sm fr no)) hP hD [0, 1, 2, 3, 4] [] rfl rfl (by decide) (by decide) hk1 hFc hP1 hD1
  clear hk1 hP1 hK1 hD1 hvm hz1 hPc hDc hFc
  generalize H1 = H at hP hS ⊢
  have hP : va_P (dC, dI) vwCl (wM cI cJ g0 gr gl gw gs th rw mn at_ ml md_l wd md sm fr no) H := hP
  have hD : va_D A (wM cI cJ g0 gr gl gw gs th rw mn at_ ml md_l wd md sm fr no) := hD
  refine lv_istore_n (lv' := [(3, .int v1), (0, .ref g0), (1, .long a1)]) hx hb dX2_bySums_5 rfl hl (by decide) rfl (fun ls hl => ?_)
  refine lv_lload_n hx hb dX2_bySums_6 rfl (lv_at hl 2 rfl) ?_
  refine lv_lstore (lv' := [(4, .long a1), (3, .int v1), (0, .ref g0), (1, .long a1)]) hx hb dX2_bySums_7 hl (by decide) rfl (fun ls hl => ?_)
  refine lv_iload_n hx hb dX2_bySums_9 rfl (lv_at hl 1 rfl) ?_
  refine lv_istore (lv' := [(6, .int v1), (4, .long a1), (3, .int v1), (0, .ref g0), (1, .long a1)]) hx hb dX2_bySums_10 hl (by decide) rfl (fun ls hl => ?_)
  exact s_X2_bySums_12 C0 hK hA g0 gr gl gw gs th rw mn at_ ml md_l md sm fr no v1 jF a1 v1 wd _ hj _ _ _ (hP) (hD) hS (lv_sub hl [3, 2, 1, 0] rfl)

set_option maxRecDepth 100000 in
theorem inn_X2_chain_X2 : ∀ w ∈ u_ws RX2 TX2 11, w ∈ wsX2_chain := by decide +kernel
def jL_X2_chain_39 (md : Int32) (x3 : Int32) (x5 : Int64) (x7 : Int32) (k22 : Int32 → Int64 → (Nat → Int32) → Option ((Nat → Int32) × Int32)) : Nat → Int32 → Int32 → (Nat → Int32) → Option ((Nat → Int32) × Int32)
  | 0, _, _, _ => none
  | n + 1, x4, x8, wd => if x7 ≤ x8 then (k22 x4 ((x7 - (1 : Int32)).toInt64) wd) else (jix (x4 + (-1 : Int32)) 4200 (jL_X2_chain_39 md x3 x5 x7 k22 n (x4 + (-1 : Int32)) (x8 + (1 : Int32)) (upd wd (x4 + (-1 : Int32)).toNatClampNeg (((x5 >>> (x8.toInt64 &&& 63)) &&& (1 : Int64)).toInt32))))
set_option maxHeartbeats 4000000 in
set_option maxRecDepth 100000 in
theorem s_X2_chain_39 {p : Program} {l : Launch} {e : Env} {s : State} {m : MethodId} {args : Array Value} {below : List Frame} {meth : Method} {c : Code} {dC : Nat → ClassId} {dI : Nat → Nat → Nat} {cI cJ : ClassId} {A : Nat → Prop} (C0 : jCx p s m args meth c RX2 cX2_chain 9 none wsX2_chain) (hK : va_K (dC, dI) vwCl (jTy cI cJ) s) (hA : ∀ q : Nat, s.heap.size ≤ q → A q) (g0 : Nat) (gr : Nat) (gl : Nat) (gw : Nat) (gs : Nat) (th : Int32) (rw : Nat → Int32) (mn : Int32) (at_ : Int32) (ml : Nat → Int64) (md_l : Int32) (md : Int32) (sm : Nat → Int64) (fr : Int32) (no : Int32) (x3 : Int32) (x5 : Int64) (x7 : Int32) (k22 : Int32 → Int64 → (Nat → Int32) → Option ((Nat → Int32) × Int32)) (hk22 : ∀ (z4 : Int32) (z5 : Int64) (wd_z : Nat → Int32) (r : (Nat → Int32) × Int32), k22 z4 z5 wd_z = some r → ∀ (H : Heap) (locs : List Loc) (ls : Array Slot), va_P (dC, dI) vwCl (wM cI cJ g0 gr gl gw gs th rw mn at_ ml md_l wd_z md sm fr no) H → va_D A (wM cI cJ g0 gr gl gw gs th rw mn at_ ml md_l wd_z md sm fr no) → va_S A s.heap H locs → lv_has ls 9 [(0, .ref g0), (3, .int x3), (4, .int z4), (5, .long z5)] → W p l e ({ frames := 2, cells := 0, slots := 0, locals := 50 } : Room) s m args below meth c H locs 0 0 (MQ below (va_Qv (fun _ : Unit => True) (fun (_ : Unit) t => jPo dC dI cI cJ (wM cI cJ g0 gr gl gw gs th rw mn at_ ml md_l r.1 r.2 sm fr no) A t) A) args s 0 0 A) (F0 m 22 ls [])) :
    ∀ (n : Nat) (x4 : Int32) (x8 : Int32) (wd : Nat → Int32) (r : (Nat → Int32) × Int32), jL_X2_chain_39 md x3 x5 x7 k22 n x4 x8 wd = some r → ∀ (H : Heap) (locs : List Loc) (ls : Array Slot), va_P (dC, dI) vwCl (wM cI cJ g0 gr gl gw gs th rw mn at_ ml md_l wd md sm fr no) H → va_D A (wM cI cJ g0 gr gl gw gs th rw mn at_ ml md_l wd md sm fr no) → va_S A s.heap H locs → lv_has ls 9 [(0, .ref g0), (3, .int x3), (4, .int x4), (5, .long x5), (7, .int x7), (8, .int x8)] → W p l e ({ frames := 2, cells := 0, slots := 0, locals := 50 } : Room) s m args below meth c H locs 0 0 (MQ below (va_Qv (fun _ : Unit => True) (fun (_ : Unit) t => jPo dC dI cI cJ (wM cI cJ g0 gr gl gw gs th rw mn at_ ml md_l r.1 r.2 sm fr no) A t) A) args s 0 0 A) (F0 m 39 ls []) := by
  obtain ⟨hx, hb, hr, hml, hown, hts, hlocks⟩ := id C0
  intro n
  induction n with
  | zero =>
    intro x4 x8 wd r hj
    exact nomatch (show (none : Option ((Nat → Int32) × Int32)) = some r from hj)
  | succ n ih =>
    intro x4 x8 wd r hj H locs ls hP hD hS hl
    replace hj : (if x7 ≤ x8 then (k22 x4 ((x7 - (1 : Int32)).toInt64) wd) else (jix (x4 + (-1 : Int32)) 4200 (jL_X2_chain_39 md x3 x5 x7 k22 n (x4 + (-1 : Int32)) (x8 + (1 : Int32)) (upd wd (x4 + (-1 : Int32)).toNatClampNeg (((x5 >>> (x8.toInt64 &&& 63)) &&& (1 : Int64)).toInt32))))) = some r := hj
    refine lv_iload hx hb dX2_chain_39 (lv_at hl 5 rfl) ?_
    refine lv_iload hx hb dX2_chain_41 (lv_at hl 4 rfl) ?_
    refine lv_icmp_ge (tgt := 70) hx hb dX2_chain_43 (by decide) (fun c3901 => ?_) (fun c3901 => ?_)
    · replace hj := ja_pos c3901 hj
      refine lv_iload hx hb dX2_chain_70 (lv_at hl 4 rfl) ?_
      refine lv_iconst (v := (1 : Int32)) hx hb dX2_chain_72 (by decide) ?_
      refine lv_isub hx hb dX2_chain_73 ?_
      refine lv_i2l hx hb dX2_chain_74 rfl ?_
      refine lv_lstore (lv' := [(5, .long ((x7 - (1 : Int32)).toInt64)), (0, .ref g0), (3, .int x3), (4, .int x4), (7, .int x7), (8, .int x8)]) hx hb dX2_chain_75 hl (by decide) rfl (fun ls hl => ?_)
      refine lv_goto (tgt := 22) hx hb dX2_chain_77 (by decide) ?_
      exact hk22 x4 ((x7 - (1 : Int32)).toInt64) wd _ hj _ _ _ (hP) (hD) hS (lv_sub hl [1, 2, 3, 0] rfl)
    · replace hj := ja_neg c3901 hj
      refine lv_iinc (v := x4 + (-1 : Int32)) (lv' := [(4, .int (x4 + (-1 : Int32))), (0, .ref g0), (3, .int x3), (5, .long x5), (7, .int x7), (8, .int x8)]) hx hb dX2_chain_46 hl (k := 2) rfl (congrArg (fun z => x4 + z) (by decide)) (by decide) rfl (fun ls hl => ?_)
      refine lv_aload_n hx hb dX2_chain_49 rfl (lv_at hl 1 rfl) ?_
      refine va_get (D := (dC, dI)) (ci := 2) (v := .ref gw) (C := RX2) (T := TX2) (N := 11) hx hb hts inn_X2_chain_X2 hown hK hP 0 rfl rfl 6 (by decide) (hts (.fieldLink RX2 17 "SelfEndingCodesModel" "word" "[I") (by decide +kernel)) (fun _ h9 => h9) rfl dX2_chain_50 ?_
      refine lv_iload hx hb dX2_chain_53 (lv_at hl 0 rfl) ?_
      refine lv_lload hx hb dX2_chain_55 (lv_at hl 3 rfl) ?_
      refine lv_iload hx hb dX2_chain_57 (lv_at hl 5 rfl) ?_
      refine lv_lshr hx hb dX2_chain_59 rfl ?_
      refine lv_lconst (v := (1 : Int64)) hx hb dX2_chain_60 (by decide) ?_
      refine lv_land hx hb dX2_chain_61 ?_
      refine lv_l2i hx hb dX2_chain_62 rfl ?_
      obtain ⟨hin, hj⟩ := ja_ix hj
      refine va_iast hx hb hK hP hD hS 3 0 rfl rfl hin dX2_chain_63 (fun H locs hP hD hS => ?_)
      have hP : va_P (dC, dI) vwCl (wM cI cJ g0 gr gl gw gs th rw mn at_ ml md_l (upd wd (x4 + (-1 : Int32)).toNatClampNeg (((x5 >>> (x8.toInt64 &&& 63)) &&& (1 : Int64)).toInt32)) md sm fr no) H := hP
      have hD : va_D A (wM cI cJ g0 gr gl gw gs th rw mn at_ ml md_l (upd wd (x4 + (-1 : Int32)).toNatClampNeg (((x5 >>> (x8.toInt64 &&& 63)) &&& (1 : Int64)).toInt32)) md sm fr no) := hD
      refine lv_iinc (v := x8 + (1 : Int32)) (lv' := [(8, .int (x8 + (1 : Int32))), (4, .int (x4 + (-1 : Int32))), (0, .ref g0), (3, .int x3), (5, .long x5), (7, .int x7)]) hx hb dX2_chain_64 hl (k := 5) rfl (congrArg (fun z => x8 + z) (by decide)) (by decide) rfl (fun ls hl => ?_)
      refine lv_goto (tgt := 39) hx hb dX2_chain_67 (by decide) ?_
      exact ih (x4 + (-1 : Int32)) (x8 + (1 : Int32)) (upd wd (x4 + (-1 : Int32)).toNatClampNeg (((x5 >>> (x8.toInt64 &&& 63)) &&& (1 : Int64)).toInt32)) _ hj _ _ _ (hP) (hD) hS (lv_sub hl [2, 3, 1, 4, 5, 0] rfl)
def jL_X2_chain_22 (md : Int32) (x3 : Int32) : Nat → Int32 → Int64 → (Nat → Int32) → Option ((Nat → Int32) × Int32)
  | 0, _, _, _ => none
  | n + 1, x4, x5, wd => if x5 = (1 : Int64) then (some (wd, x3)) else ((j_X2_bitsOf x5).bind fun v2202 => (jL_X2_chain_39 md x3 x5 v2202 (jL_X2_chain_22 md x3 n) jF x4 (0 : Int32) wd))
set_option maxHeartbeats 4000000 in
set_option maxRecDepth 100000 in
theorem s_X2_chain_22 {p : Program} {l : Launch} {e : Env} {s : State} {m : MethodId} {args : Array Value} {below : List Frame} {meth : Method} {c : Code} {dC : Nat → ClassId} {dI : Nat → Nat → Nat} {cI cJ : ClassId} {A : Nat → Prop} (C0 : jCx p s m args meth c RX2 cX2_chain 9 none wsX2_chain) (hK : va_K (dC, dI) vwCl (jTy cI cJ) s) (hA : ∀ q : Nat, s.heap.size ≤ q → A q) (g0 : Nat) (gr : Nat) (gl : Nat) (gw : Nat) (gs : Nat) (th : Int32) (rw : Nat → Int32) (mn : Int32) (at_ : Int32) (ml : Nat → Int64) (md_l : Int32) (md : Int32) (sm : Nat → Int64) (fr : Int32) (no : Int32) (x3 : Int32) :
    ∀ (n : Nat) (x4 : Int32) (x5 : Int64) (wd : Nat → Int32) (r : (Nat → Int32) × Int32), jL_X2_chain_22 md x3 n x4 x5 wd = some r → ∀ (H : Heap) (locs : List Loc) (ls : Array Slot), va_P (dC, dI) vwCl (wM cI cJ g0 gr gl gw gs th rw mn at_ ml md_l wd md sm fr no) H → va_D A (wM cI cJ g0 gr gl gw gs th rw mn at_ ml md_l wd md sm fr no) → va_S A s.heap H locs → lv_has ls 9 [(0, .ref g0), (3, .int x3), (4, .int x4), (5, .long x5)] → W p l e ({ frames := 2, cells := 0, slots := 0, locals := 50 } : Room) s m args below meth c H locs 0 0 (MQ below (va_Qv (fun _ : Unit => True) (fun (_ : Unit) t => jPo dC dI cI cJ (wM cI cJ g0 gr gl gw gs th rw mn at_ ml md_l r.1 r.2 sm fr no) A t) A) args s 0 0 A) (F0 m 22 ls []) := by
  obtain ⟨hx, hb, hr, hml, hown, hts, hlocks⟩ := id C0
  intro n
  induction n with
  | zero =>
    intro x4 x5 wd r hj
    exact nomatch (show (none : Option ((Nat → Int32) × Int32)) = some r from hj)
  | succ n ih =>
    intro x4 x5 wd r hj H locs ls hP hD hS hl
    replace hj : (if x5 = (1 : Int64) then (some (wd, x3)) else ((j_X2_bitsOf x5).bind fun v2202 => (jL_X2_chain_39 md x3 x5 v2202 (jL_X2_chain_22 md x3 n) jF x4 (0 : Int32) wd))) = some r := hj
    refine lv_lload hx hb dX2_chain_22 (lv_at hl 3 rfl) ?_
    refine lv_lconst (v := (1 : Int64)) hx hb dX2_chain_24 (by decide) ?_
    refine W.lcmp hx hb dX2_chain_25 ?_
    refine lv_if_eq (tgt := 80) hx hb dX2_chain_26 (by decide) (fun c2201 => ?_) (fun c2201 => ?_)
    · replace hj := ja_pos ((lg_cmp_eq x5 (1 : Int64)).mp c2201) hj
      refine lv_aload_n hx hb dX2_chain_80 rfl (lv_at hl 0 rfl) ?_
      refine lv_iload_n hx hb dX2_chain_81 rfl (lv_at hl 1 rfl) ?_
      refine va_put (D := (dC, dI)) (ci := 2) (v := .int x3) (ty := .int) (C := RX2) (T := TX2) (N := 11) hx hb hts inn_X2_chain_X2 tyX2 tyX2_ok nmX2 hown hK hP hD hS 0 rfl rfl 7 (by decide) (hts (.fieldLink RX2 47 "SelfEndingCodesModel" "made" "I") (by decide +kernel)) (fun _ h9 => h9) rfl (by decide +kernel) rfl rfl (Nat.le_of_ble_eq_true rfl) dX2_chain_82 (fun H locs hP hD hS => ?_)
      have hP : va_P (dC, dI) vwCl (wM cI cJ g0 gr gl gw gs th rw mn at_ ml md_l wd x3 sm fr no) H := hP
      have hD : va_D A (wM cI cJ g0 gr gl gw gs th rw mn at_ ml md_l wd x3 sm fr no) := hD
      have hr9 : (wd, x3) = r := Option.some.inj hj
      subst hr9
      exact W.vret hx hb hr (fun t ht hW => ⟨⟨(), rfl, trivial, by rw [ht]; exact hP, va_K.moved hW.alike hK, hD⟩, hS.F ht⟩) hS.2.2 dX2_chain_85
    · replace hj := ja_neg (fun h9 => c2201 ((lg_cmp_eq x5 (1 : Int64)).mpr h9)) hj
      refine lv_lload hx hb dX2_chain_29 (lv_at hl 3 rfl) ?_
      obtain ⟨v2202, hc, hj⟩ := ja_bd hj
      try dsimp only at hj
      have hPc := hP.sub (ws' := ([] : va_W)) [] rfl
      have hDc := hD.sub (ws' := ([] : va_W)) [] (by decide) rfl
      have hFc := va_free (wc := ([] : va_W)) hD hS hA [] rfl
      refine va_calli (va_runS (As := [.long x5]) (rest := []) ⟨hx, hb, hml, hown, hts⟩ (c_X2_bitsOf l dC dI cI cJ H.size x5 _ hc) (va_cwS 1 hts gX2_chain_X2_bitsOf rfl rfl rfl (by decide +kernel) ⟨Nat.le_of_ble_eq_true rfl, Nat.le_of_ble_eq_true rfl⟩) ⟨fun a U g mk q => ⟨q.1, jPr.blind q.2⟩, fun U hU hW => ⟨rfl, jPr.mk hU hW hPc hK hDc⟩⟩ rfl rfl hl.1 rfl (lv_room (Nat.le_of_ble_eq_true rfl)) dX2_chain_31 ⟨Nat.le_of_ble_eq_true rfl, Nat.le_of_ble_eq_true rfl⟩) hS (fun q _ h => hFc q h) hFc (fun rr u t H1 locs ht hvm hw9 hB hz1 hk1 hS => ?_)
      have hw8 : v2202 = rr := hw9.symm
      subst hw8
      obtain ⟨hP1, hK1, hD1⟩ := hB
      rw [ht] at hP1
      obtain ⟨hP, hD⟩ := va_join (wr := ([(g0, .inr (2, [.int th, .ref gr, .int mn, .int at_, .ref gl, .int md_l, .ref gw, .int md, .ref gs, .int fr, .int no])), (gr, .inl (cI, 4096, .inl rw)), (gl, .inl (cJ, 100, .inr (.inl ml))), (gw, .inl (cI, 4200, .inl wd)), (gs, .inl (cJ, 92, .inr (.inl sm)))] : va_W)) (w1 := ([] : va_W)) hP hD [] [0, 1, 2, 3, 4] rfl rfl (by decide) (by decide) hk1 hFc hP1 hD1
      clear hk1 hP1 hK1 hD1 hvm hz1 hPc hDc hFc
      generalize H1 = H at hP hS ⊢
      have hP : va_P (dC, dI) vwCl (wM cI cJ g0 gr gl gw gs th rw mn at_ ml md_l wd md sm fr no) H := hP
      have hD : va_D A (wM cI cJ g0 gr gl gw gs th rw mn at_ ml md_l wd md sm fr no) := hD
      refine lv_istore (lv' := [(7, .int v2202), (0, .ref g0), (3, .int x3), (4, .int x4), (5, .long x5)]) hx hb dX2_chain_34 hl (by decide) rfl (fun ls hl => ?_)
      refine lv_iconst (v := (0 : Int32)) hx hb dX2_chain_36 (by decide) ?_
      refine lv_istore (lv' := [(8, .int (0 : Int32)), (7, .int v2202), (0, .ref g0), (3, .int x3), (4, .int x4), (5, .long x5)]) hx hb dX2_chain_37 hl (by decide) rfl (fun ls hl => ?_)
      exact s_X2_chain_39 C0 hK hA g0 gr gl gw gs th rw mn at_ ml md_l md sm fr no x3 x5 v2202 (jL_X2_chain_22 md x3 n) ih jF x4 (0 : Int32) wd _ hj _ _ _ (hP) (hD) hS (lv_sub hl [2, 3, 4, 5, 1, 0] rfl)
def j_X2_chain (wd : Nat → Int32) (md : Int32) (a1 : Int64) : Option ((Nat → Int32) × Int32) :=
  (j_X2_byChain a1).bind fun v1 => (jix (v1.toInt32 - (1 : Int32)) 4200 (jL_X2_chain_22 md v1.toInt32 jF (v1.toInt32 - (1 : Int32)) a1 (upd wd (v1.toInt32 - (1 : Int32)).toNatClampNeg (0 : Int32))))
set_option maxHeartbeats 4000000 in
set_option maxRecDepth 100000 in
theorem c_X2_chain (l : Launch) (dC : Nat → ClassId) (dI : Nat → Nat → Nat) (cI cJ : ClassId) (g0 : Nat) (gr : Nat) (gl : Nat) (gw : Nat) (gs : Nat) (sz : Nat) (th : Int32) (rw : Nat → Int32) (mn : Int32) (at_ : Int32) (ml : Nat → Int64) (md_l : Int32) (wd : Nat → Int32) (md : Int32) (sm : Nat → Int64) (fr : Int32) (no : Int32) (a1 : Int64) (r : (Nat → Int32) × Int32) (hj : j_X2_chain wd md a1 = some r) : Met l yX2_chain wsX2_chain ({ frames := 2, cells := 0, slots := 0, locals := 50 } : Room) (va_Pc [.ref g0, .long a1] (fun U => jPr dC dI cI cJ (wM cI cJ g0 gr gl gw gs th rw mn at_ ml md_l wd md sm fr no) sz U)) (va_Qv (fun _ : Unit => True) (fun (_ : Unit) t => jPo dC dI cI cJ (wM cI cJ g0 gr gl gw gs th rw mn at_ ml md_l r.1 r.2 sm fr no) (va_A (wM cI cJ g0 gr gl gw gs th rw mn at_ ml md_l wd md sm fr no) sz) t) (va_A (wM cI cJ g0 gr gl gw gs th rw mn at_ ml md_l wd md sm fr no) sz)) 0 0 (va_A (wM cI cJ g0 gr gl gw gs th rw mn at_ ml md_l wd md sm fr no) sz) := by
  refine Met.ofW (cc := cX2_chain) (maxL := 9) (ret := none) (by decide) rfl ?_
  intro p e s m args below meth c s₁ B hml hv
  obtain ⟨rfl, ⟨hsz, hP, hK, hD0⟩⟩ := hv
  have hx := B.exec
  have hb := B.bytes
  have hr := B.returns
  have hts := atoms_spec (ws := wsX2_chain) B.pre
  have hown : s.vm.findClass RX2 = some m.cls := findClass_of_methodNamed B.named
  have hlocks := B.notSynchronized
  have C0 := jCx.of hx hb hr hml hown hts hlocks
  subst hsz
  have hD := hD0.self (sz := s.heap.size)
  generalize hAe : va_A (wM cI cJ g0 gr gl gw gs th rw mn at_ ml md_l wd md sm fr no) s.heap.size = A at hD ⊢
  have hA : ∀ q : Nat, s.heap.size ≤ q → A q := fun q h => by rw [← hAe]; exact Or.inr h
  have hS : va_S A s.heap s.heap [] := va_S.rf
  have hP : va_P (dC, dI) vwCl (wM cI cJ g0 gr gl gw gs th rw mn at_ ml md_l wd md sm fr no) s.heap := hP
  have hl := lv_entry ([.ref g0, .long a1]) (n := 9) (Nat.le_of_ble_eq_true rfl)
  rw [lg_entry_eq]
  generalize (lg_sl ([.ref g0, .long a1]) ++ List.replicate (9 - (lg_sl ([.ref g0, .long a1])).length) Slot.unset).toArray = ls at hl ⊢
  have hl : lv_has ls 9 [(0, .ref g0), (1, .long a1)] := hl
  clear hD0 hAe
  unfold j_X2_chain at hj
  refine lv_lload_n hx hb dX2_chain_0 rfl (lv_at hl 1 rfl) ?_
  obtain ⟨v1, hc, hj⟩ := ja_bd hj
  try dsimp only at hj
  have hPc := hP.sub (ws' := ([] : va_W)) [] rfl
  have hDc := hD.sub (ws' := ([] : va_W)) [] (by decide) rfl
  have hFc := va_free (wc := ([] : va_W)) hD hS hA [] rfl
  refine va_calll (va_runS (As := [.long a1]) (rest := []) ⟨hx, hb, hml, hown, hts⟩ (c_X2_byChain l dC dI cI cJ s.heap.size a1 _ hc) (va_cwS 1 hts gX2_chain_X2_byChain rfl rfl rfl (by decide +kernel) ⟨Nat.le_of_ble_eq_true rfl, Nat.le_of_ble_eq_true rfl⟩) ⟨fun a U g mk q => ⟨q.1, jPr.blind q.2⟩, fun U hU hW => ⟨rfl, jPr.mk hU hW hPc hK hDc⟩⟩ rfl rfl hl.1 rfl (lv_room (Nat.le_of_ble_eq_true rfl)) dX2_chain_1 ⟨Nat.le_of_ble_eq_true rfl, Nat.le_of_ble_eq_true rfl⟩) hS (fun q _ h => hFc q h) hFc (fun rr u t H1 locs ht hvm hw9 hB hz1 hk1 hS => ?_)
  have hw8 : v1 = rr := hw9.symm
  subst hw8
  obtain ⟨hP1, hK1, hD1⟩ := hB
  rw [ht] at hP1
  obtain ⟨hP, hD⟩ := va_join (wr := ([(g0, .inr (2, [.int th, .ref gr, .int mn, .int at_, .ref gl, .int md_l, .ref gw, .int md, .ref gs, .int fr, .int no])), (gr, .inl (cI, 4096, .inl rw)), (gl, .inl (cJ, 100, .inr (.inl ml))), (gw, .inl (cI, 4200, .inl wd)), (gs, .inl (cJ, 92, .inr (.inl sm)))] : va_W)) (w1 := ([] : va_W)) hP hD [] [0, 1, 2, 3, 4] rfl rfl (by decide) (by decide) hk1 hFc hP1 hD1
  clear hk1 hP1 hK1 hD1 hvm hz1 hPc hDc hFc
  generalize H1 = H at hP hS ⊢
  have hP : va_P (dC, dI) vwCl (wM cI cJ g0 gr gl gw gs th rw mn at_ ml md_l wd md sm fr no) H := hP
  have hD : va_D A (wM cI cJ g0 gr gl gw gs th rw mn at_ ml md_l wd md sm fr no) := hD
  refine lv_l2i hx hb dX2_chain_4 rfl ?_
  refine lv_istore_n (lv' := [(3, .int v1.toInt32), (0, .ref g0), (1, .long a1)]) hx hb dX2_chain_5 rfl hl (by decide) rfl (fun ls hl => ?_)
  refine lv_iload_n hx hb dX2_chain_6 rfl (lv_at hl 0 rfl) ?_
  refine lv_iconst (v := (1 : Int32)) hx hb dX2_chain_7 (by decide) ?_
  refine lv_isub hx hb dX2_chain_8 ?_
  refine lv_istore (lv' := [(4, .int (v1.toInt32 - (1 : Int32))), (3, .int v1.toInt32), (0, .ref g0), (1, .long a1)]) hx hb dX2_chain_9 hl (by decide) rfl (fun ls hl => ?_)
  refine lv_aload_n hx hb dX2_chain_11 rfl (lv_at hl 2 rfl) ?_
  refine va_get (D := (dC, dI)) (ci := 2) (v := .ref gw) (C := RX2) (T := TX2) (N := 11) hx hb hts inn_X2_chain_X2 hown hK hP 0 rfl rfl 6 (by decide) (hts (.fieldLink RX2 17 "SelfEndingCodesModel" "word" "[I") (by decide +kernel)) (fun _ h9 => h9) rfl dX2_chain_12 ?_
  refine lv_iload hx hb dX2_chain_15 (lv_at hl 0 rfl) ?_
  refine lv_iconst (v := (0 : Int32)) hx hb dX2_chain_17 (by decide) ?_
  obtain ⟨hin, hj⟩ := ja_ix hj
  refine va_iast hx hb hK hP hD hS 3 0 rfl rfl hin dX2_chain_18 (fun H locs hP hD hS => ?_)
  have hP : va_P (dC, dI) vwCl (wM cI cJ g0 gr gl gw gs th rw mn at_ ml md_l (upd wd (v1.toInt32 - (1 : Int32)).toNatClampNeg (0 : Int32)) md sm fr no) H := hP
  have hD : va_D A (wM cI cJ g0 gr gl gw gs th rw mn at_ ml md_l (upd wd (v1.toInt32 - (1 : Int32)).toNatClampNeg (0 : Int32)) md sm fr no) := hD
  refine lv_lload_n hx hb dX2_chain_19 rfl (lv_at hl 3 rfl) ?_
  refine lv_lstore (lv' := [(5, .long a1), (4, .int (v1.toInt32 - (1 : Int32))), (3, .int v1.toInt32), (0, .ref g0), (1, .long a1)]) hx hb dX2_chain_20 hl (by decide) rfl (fun ls hl => ?_)
  exact s_X2_chain_22 C0 hK hA g0 gr gl gw gs th rw mn at_ ml md_l md sm fr no v1.toInt32 jF (v1.toInt32 - (1 : Int32)) a1 (upd wd (v1.toInt32 - (1 : Int32)).toNatClampNeg (0 : Int32)) _ hj _ _ _ (hP) (hD) hS (lv_sub hl [3, 2, 1, 0] rfl)

def jL_X2_doubled_8 (x1 : Int64) (x3 : Int32) : Nat → Int32 → (Nat → Int32) → Int32 → Option ((Nat → Int32) × Int32)
  | 0, _, _, _ => none
  | n + 1, x4, wd, md => if x3 ≤ x4 then ((j_X2_low wd md x1 x3).bind fun (v802, v803) => (some (v802, v803))) else ((j_X2_bit wd md (0 : Int32)).bind fun (v804, v805) => (jL_X2_doubled_8 x1 x3 n (x4 + (1 : Int32)) v804 v805))
set_option maxHeartbeats 4000000 in
set_option maxRecDepth 100000 in
theorem s_X2_doubled_8 {p : Program} {l : Launch} {e : Env} {s : State} {m : MethodId} {args : Array Value} {below : List Frame} {meth : Method} {c : Code} {dC : Nat → ClassId} {dI : Nat → Nat → Nat} {cI cJ : ClassId} {A : Nat → Prop} (C0 : jCx p s m args meth c RX2 cX2_doubled 5 none wsX2_doubled) (hK : va_K (dC, dI) vwCl (jTy cI cJ) s) (hA : ∀ q : Nat, s.heap.size ≤ q → A q) (g0 : Nat) (gr : Nat) (gl : Nat) (gw : Nat) (gs : Nat) (th : Int32) (rw : Nat → Int32) (mn : Int32) (at_ : Int32) (ml : Nat → Int64) (md_l : Int32) (sm : Nat → Int64) (fr : Int32) (no : Int32) (x1 : Int64) (x3 : Int32) :
    ∀ (n : Nat) (x4 : Int32) (wd : Nat → Int32) (md : Int32) (r : (Nat → Int32) × Int32), jL_X2_doubled_8 x1 x3 n x4 wd md = some r → ∀ (H : Heap) (locs : List Loc) (ls : Array Slot), va_P (dC, dI) vwCl (wM cI cJ g0 gr gl gw gs th rw mn at_ ml md_l wd md sm fr no) H → va_D A (wM cI cJ g0 gr gl gw gs th rw mn at_ ml md_l wd md sm fr no) → va_S A s.heap H locs → lv_has ls 5 [(0, .ref g0), (1, .long x1), (3, .int x3), (4, .int x4)] → W p l e ({ frames := 2, cells := 0, slots := 0, locals := 45 } : Room) s m args below meth c H locs 0 0 (MQ below (va_Qv (fun _ : Unit => True) (fun (_ : Unit) t => jPo dC dI cI cJ (wM cI cJ g0 gr gl gw gs th rw mn at_ ml md_l r.1 r.2 sm fr no) A t) A) args s 0 0 A) (F0 m 8 ls []) := by
  obtain ⟨hx, hb, hr, hml, hown, hts, hlocks⟩ := id C0
  intro n
  induction n with
  | zero =>
    intro x4 wd md r hj
    exact nomatch (show (none : Option ((Nat → Int32) × Int32)) = some r from hj)
  | succ n ih =>
    intro x4 wd md r hj H locs ls hP hD hS hl
    replace hj : (if x3 ≤ x4 then ((j_X2_low wd md x1 x3).bind fun (v802, v803) => (some (v802, v803))) else ((j_X2_bit wd md (0 : Int32)).bind fun (v804, v805) => (jL_X2_doubled_8 x1 x3 n (x4 + (1 : Int32)) v804 v805))) = some r := hj
    refine lv_iload hx hb dX2_doubled_8 (lv_at hl 3 rfl) ?_
    refine lv_iload_n hx hb dX2_doubled_10 rfl (lv_at hl 2 rfl) ?_
    refine lv_icmp_ge (tgt := 25) hx hb dX2_doubled_11 (by decide) (fun c801 => ?_) (fun c801 => ?_)
    · replace hj := ja_pos c801 hj
      refine lv_aload_n hx hb dX2_doubled_25 rfl (lv_at hl 0 rfl) ?_
      refine lv_lload_n hx hb dX2_doubled_26 rfl (lv_at hl 1 rfl) ?_
      refine lv_iload_n hx hb dX2_doubled_27 rfl (lv_at hl 2 rfl) ?_
      obtain ⟨⟨v802, v803⟩, hc, hj⟩ := ja_bd hj
      try dsimp only at hj
      have hPc := hP.sub (ws' := (wM cI cJ g0 gr gl gw gs th rw mn at_ ml md_l wd md sm fr no)) [0, 1, 2, 3, 4] rfl
      have hDc := hD.sub (ws' := (wM cI cJ g0 gr gl gw gs th rw mn at_ ml md_l wd md sm fr no)) [0, 1, 2, 3, 4] (by decide) rfl
      have hFc := va_free (wc := (wM cI cJ g0 gr gl gw gs th rw mn at_ ml md_l wd md sm fr no)) hD hS hA [0, 1, 2, 3, 4] rfl
      refine va_callv (va_runV (As := [.long x1, .int x3]) (rest := []) ⟨hx, hb, hml, hown, hts⟩ (c_X2_low l dC dI cI cJ g0 gr gl gw gs H.size th rw mn at_ ml md_l wd md sm fr no x1 x3 _ hc) (cwV 2 hts gX2_doubled_X2_low rfl rfl rfl (by decide +kernel) ⟨Nat.le_of_ble_eq_true rfl, Nat.le_of_ble_eq_true rfl⟩) ⟨fun a U g mk q => ⟨q.1, jPr.blind q.2⟩, va_recv hK hPc (ci := 2) (q0 := 0) rfl rfl, fun U hU hW => ⟨rfl, jPr.mk hU hW hPc hK hDc⟩⟩ rfl rfl hl.1 rfl (lv_room (Nat.le_of_ble_eq_true rfl)) dX2_doubled_28 ⟨Nat.le_of_ble_eq_true rfl, Nat.le_of_ble_eq_true rfl⟩) hS (fun q _ h => hFc q h) hFc (fun u t H1 locs ht hvm hw9 hB hz1 hk1 hS => ?_)
      obtain ⟨hP1, hK1, hD1⟩ := hB
      rw [ht] at hP1
      obtain ⟨hP, hD⟩ := va_join (wr := ([] : va_W)) (w1 := (wM cI cJ g0 gr gl gw gs th rw mn at_ ml md_l v802 v803 sm fr no)) hP hD [0, 1, 2, 3, 4] [] rfl rfl (by decide) (by decide) hk1 hFc hP1 hD1
      clear hk1 hP1 hK1 hD1 hvm hz1 hPc hDc hFc
      generalize H1 = H at hP hS ⊢
      have hP : va_P (dC, dI) vwCl (wM cI cJ g0 gr gl gw gs th rw mn at_ ml md_l v802 v803 sm fr no) H := hP
      have hD : va_D A (wM cI cJ g0 gr gl gw gs th rw mn at_ ml md_l v802 v803 sm fr no) := hD
      have hr9 : (v802, v803) = r := Option.some.inj hj
      subst hr9
      exact W.vret hx hb hr (fun t ht hW => ⟨⟨(), rfl, trivial, by rw [ht]; exact hP, va_K.moved hW.alike hK, hD⟩, hS.F ht⟩) hS.2.2 dX2_doubled_31
    · replace hj := ja_neg c801 hj
      refine lv_aload_n hx hb dX2_doubled_14 rfl (lv_at hl 0 rfl) ?_
      refine lv_iconst (v := (0 : Int32)) hx hb dX2_doubled_15 (by decide) ?_
      obtain ⟨⟨v804, v805⟩, hc, hj⟩ := ja_bd hj
      try dsimp only at hj
      have hPc := hP.sub (ws' := (wM cI cJ g0 gr gl gw gs th rw mn at_ ml md_l wd md sm fr no)) [0, 1, 2, 3, 4] rfl
      have hDc := hD.sub (ws' := (wM cI cJ g0 gr gl gw gs th rw mn at_ ml md_l wd md sm fr no)) [0, 1, 2, 3, 4] (by decide) rfl
      have hFc := va_free (wc := (wM cI cJ g0 gr gl gw gs th rw mn at_ ml md_l wd md sm fr no)) hD hS hA [0, 1, 2, 3, 4] rfl
      refine va_callv (va_runV (As := [.int (0 : Int32)]) (rest := []) ⟨hx, hb, hml, hown, hts⟩ (c_X2_bit l dC dI cI cJ g0 gr gl gw gs H.size th rw mn at_ ml md_l wd md sm fr no (0 : Int32) _ hc) (cwV 1 hts gX2_doubled_X2_bit rfl rfl rfl (by decide +kernel) ⟨Nat.le_of_ble_eq_true rfl, Nat.le_of_ble_eq_true rfl⟩) ⟨fun a U g mk q => ⟨q.1, jPr.blind q.2⟩, va_recv hK hPc (ci := 2) (q0 := 0) rfl rfl, fun U hU hW => ⟨rfl, jPr.mk hU hW hPc hK hDc⟩⟩ rfl rfl hl.1 rfl (lv_room (Nat.le_of_ble_eq_true rfl)) dX2_doubled_16 ⟨Nat.le_of_ble_eq_true rfl, Nat.le_of_ble_eq_true rfl⟩) hS (fun q _ h => hFc q h) hFc (fun u t H1 locs ht hvm hw9 hB hz1 hk1 hS => ?_)
      obtain ⟨hP1, hK1, hD1⟩ := hB
      rw [ht] at hP1
      obtain ⟨hP, hD⟩ := va_join (wr := ([] : va_W)) (w1 := (wM cI cJ g0 gr gl gw gs th rw mn at_ ml md_l v804 v805 sm fr no)) hP hD [0, 1, 2, 3, 4] [] rfl rfl (by decide) (by decide) hk1 hFc hP1 hD1
      clear hk1 hP1 hK1 hD1 hvm hz1 hPc hDc hFc
      generalize H1 = H at hP hS ⊢
      have hP : va_P (dC, dI) vwCl (wM cI cJ g0 gr gl gw gs th rw mn at_ ml md_l v804 v805 sm fr no) H := hP
      have hD : va_D A (wM cI cJ g0 gr gl gw gs th rw mn at_ ml md_l v804 v805 sm fr no) := hD
      refine lv_iinc (v := x4 + (1 : Int32)) (lv' := [(4, .int (x4 + (1 : Int32))), (0, .ref g0), (1, .long x1), (3, .int x3)]) hx hb dX2_doubled_19 hl (k := 3) rfl (congrArg (fun z => x4 + z) (by decide)) (by decide) rfl (fun ls hl => ?_)
      refine lv_goto (tgt := 8) hx hb dX2_doubled_22 (by decide) ?_
      exact ih (x4 + (1 : Int32)) v804 v805 _ hj _ _ _ (hP) (hD) hS (lv_sub hl [1, 2, 3, 0] rfl)
def j_X2_doubled (wd : Nat → Int32) (md : Int32) (a1 : Int64) : Option ((Nat → Int32) × Int32) :=
  (j_X2_bitsOf a1).bind fun v1 => (jL_X2_doubled_8 a1 v1 jF (1 : Int32) wd md)
set_option maxHeartbeats 4000000 in
set_option maxRecDepth 100000 in
theorem c_X2_doubled (l : Launch) (dC : Nat → ClassId) (dI : Nat → Nat → Nat) (cI cJ : ClassId) (g0 : Nat) (gr : Nat) (gl : Nat) (gw : Nat) (gs : Nat) (sz : Nat) (th : Int32) (rw : Nat → Int32) (mn : Int32) (at_ : Int32) (ml : Nat → Int64) (md_l : Int32) (wd : Nat → Int32) (md : Int32) (sm : Nat → Int64) (fr : Int32) (no : Int32) (a1 : Int64) (r : (Nat → Int32) × Int32) (hj : j_X2_doubled wd md a1 = some r) : Met l yX2_doubled wsX2_doubled ({ frames := 2, cells := 0, slots := 0, locals := 45 } : Room) (va_Pc [.ref g0, .long a1] (fun U => jPr dC dI cI cJ (wM cI cJ g0 gr gl gw gs th rw mn at_ ml md_l wd md sm fr no) sz U)) (va_Qv (fun _ : Unit => True) (fun (_ : Unit) t => jPo dC dI cI cJ (wM cI cJ g0 gr gl gw gs th rw mn at_ ml md_l r.1 r.2 sm fr no) (va_A (wM cI cJ g0 gr gl gw gs th rw mn at_ ml md_l wd md sm fr no) sz) t) (va_A (wM cI cJ g0 gr gl gw gs th rw mn at_ ml md_l wd md sm fr no) sz)) 0 0 (va_A (wM cI cJ g0 gr gl gw gs th rw mn at_ ml md_l wd md sm fr no) sz) := by
  refine Met.ofW (cc := cX2_doubled) (maxL := 5) (ret := none) (by decide) rfl ?_
  intro p e s m args below meth c s₁ B hml hv
  obtain ⟨rfl, ⟨hsz, hP, hK, hD0⟩⟩ := hv
  have hx := B.exec
  have hb := B.bytes
  have hr := B.returns
  have hts := atoms_spec (ws := wsX2_doubled) B.pre
  have hown : s.vm.findClass RX2 = some m.cls := findClass_of_methodNamed B.named
  have hlocks := B.notSynchronized
  have C0 := jCx.of hx hb hr hml hown hts hlocks
  subst hsz
  have hD := hD0.self (sz := s.heap.size)
  generalize hAe : va_A (wM cI cJ g0 gr gl gw gs th rw mn at_ ml md_l wd md sm fr no) s.heap.size = A at hD ⊢
  have hA : ∀ q : Nat, s.heap.size ≤ q → A q := fun q h => by rw [← hAe]; exact Or.inr h
  have hS : va_S A s.heap s.heap [] := va_S.rf
  have hP : va_P (dC, dI) vwCl (wM cI cJ g0 gr gl gw gs th rw mn at_ ml md_l wd md sm fr no) s.heap := hP
  have hl := lv_entry ([.ref g0, .long a1]) (n := 5) (Nat.le_of_ble_eq_true rfl)
  rw [lg_entry_eq]
  generalize (lg_sl ([.ref g0, .long a1]) ++ List.replicate (5 - (lg_sl ([.ref g0, .long a1])).length) Slot.unset).toArray = ls at hl ⊢
  have hl : lv_has ls 5 [(0, .ref g0), (1, .long a1)] := hl
  clear hD0 hAe
  unfold j_X2_doubled at hj
  refine lv_lload_n hx hb dX2_doubled_0 rfl (lv_at hl 1 rfl) ?_
  obtain ⟨v1, hc, hj⟩ := ja_bd hj
  try dsimp only at hj
  have hPc := hP.sub (ws' := ([] : va_W)) [] rfl
  have hDc := hD.sub (ws' := ([] : va_W)) [] (by decide) rfl
  have hFc := va_free (wc := ([] : va_W)) hD hS hA [] rfl
  refine va_calli (va_runS (As := [.long a1]) (rest := []) ⟨hx, hb, hml, hown, hts⟩ (c_X2_bitsOf l dC dI cI cJ s.heap.size a1 _ hc) (va_cwS 1 hts gX2_doubled_X2_bitsOf rfl rfl rfl (by decide +kernel) ⟨Nat.le_of_ble_eq_true rfl, Nat.le_of_ble_eq_true rfl⟩) ⟨fun a U g mk q => ⟨q.1, jPr.blind q.2⟩, fun U hU hW => ⟨rfl, jPr.mk hU hW hPc hK hDc⟩⟩ rfl rfl hl.1 rfl (lv_room (Nat.le_of_ble_eq_true rfl)) dX2_doubled_1 ⟨Nat.le_of_ble_eq_true rfl, Nat.le_of_ble_eq_true rfl⟩) hS (fun q _ h => hFc q h) hFc (fun rr u t H1 locs ht hvm hw9 hB hz1 hk1 hS => ?_)
  have hw8 : v1 = rr := hw9.symm
  subst hw8
  obtain ⟨hP1, hK1, hD1⟩ := hB
  rw [ht] at hP1
  obtain ⟨hP, hD⟩ := va_join (wr := ([(g0, .inr (2, [.int th, .ref gr, .int mn, .int at_, .ref gl, .int md_l, .ref gw, .int md, .ref gs, .int fr, .int no])), (gr, .inl (cI, 4096, .inl rw)), (gl, .inl (cJ, 100, .inr (.inl ml))), (gw, .inl (cI, 4200, .inl wd)), (gs, .inl (cJ, 92, .inr (.inl sm)))] : va_W)) (w1 := ([] : va_W)) hP hD [] [0, 1, 2, 3, 4] rfl rfl (by decide) (by decide) hk1 hFc hP1 hD1
  clear hk1 hP1 hK1 hD1 hvm hz1 hPc hDc hFc
  generalize H1 = H at hP hS ⊢
  have hP : va_P (dC, dI) vwCl (wM cI cJ g0 gr gl gw gs th rw mn at_ ml md_l wd md sm fr no) H := hP
  have hD : va_D A (wM cI cJ g0 gr gl gw gs th rw mn at_ ml md_l wd md sm fr no) := hD
  refine lv_istore_n (lv' := [(3, .int v1), (0, .ref g0), (1, .long a1)]) hx hb dX2_doubled_4 rfl hl (by decide) rfl (fun ls hl => ?_)
  refine lv_iconst (v := (1 : Int32)) hx hb dX2_doubled_5 (by decide) ?_
  refine lv_istore (lv' := [(4, .int (1 : Int32)), (3, .int v1), (0, .ref g0), (1, .long a1)]) hx hb dX2_doubled_6 hl (by decide) rfl (fun ls hl => ?_)
  exact s_X2_doubled_8 C0 hK hA g0 gr gl gw gs th rw mn at_ ml md_l sm fr no a1 v1 jF (1 : Int32) wd md _ hj _ _ _ (hP) (hD) hS (lv_sub hl [2, 3, 1, 0] rfl)

set_option maxRecDepth 100000 in
theorem inn_X2_make_X2 : ∀ w ∈ u_ws RX2 TX2 11, w ∈ wsX2_make := by decide +kernel
def j_X2_make (wd : Nat → Int32) (md : Int32) (sm : Nat → Int64) (a1 : Int32) (a2 : Int32) (a3 : Int64) : Option ((Nat → Int32) × Int32) :=
  if a1 = (0 : Int32) then ((j_X2_ones wd (0 : Int32) (a3 - (1 : Int64))).bind fun (v3, v4) => (some (v3, v4))) else (if a1 = (1 : Int32) then ((j_X2_doubled wd (0 : Int32) a3).bind fun (v5, v6) => (some (v5, v6))) else (if a1 = (2 : Int32) then ((j_X2_bitsOf a3).bind fun v7 => ((j_X2_doubled wd (0 : Int32) v7.toInt64).bind fun (v8, v9) => ((j_X2_bitsOf a3).bind fun v10 => ((j_X2_low v8 v9 a3 (v10 - (1 : Int32))).bind fun (v11, v12) => (some (v11, v12)))))) else (if a1 = (3 : Int32) then ((j_X2_chain wd (0 : Int32) a3).bind fun (v13, v14) => (some (v13, v14))) else (if a1 = (4 : Int32) then ((j_X2_bySums wd (0 : Int32) sm a3).bind fun (v15, v16) => (some (v15, v16))) else (if a1 = (5 : Int32) then ((j_X2_byQuotient wd (0 : Int32) a2 a3).bind fun (v17, v18) => (some (v17, v18))) else (if a1 = (6 : Int32) then ((j_X2_doubled wd (0 : Int32) (((a3 - (1 : Int64)) >>> (a2.toInt64 &&& 63)) + (1 : Int64))).bind fun (v19, v20) => ((j_X2_low v19 v20 (a3 - (1 : Int64)) a2).bind fun (v21, v22) => (some (v21, v22)))) else ((j_X2_byGroups wd (0 : Int32) a2 a3).bind fun (v1, v2) => (some (v1, v2)))))))))
set_option maxHeartbeats 4000000 in
set_option maxRecDepth 100000 in
theorem c_X2_make (l : Launch) (dC : Nat → ClassId) (dI : Nat → Nat → Nat) (cI cJ : ClassId) (g0 : Nat) (gr : Nat) (gl : Nat) (gw : Nat) (gs : Nat) (sz : Nat) (th : Int32) (rw : Nat → Int32) (mn : Int32) (at_ : Int32) (ml : Nat → Int64) (md_l : Int32) (wd : Nat → Int32) (md : Int32) (sm : Nat → Int64) (fr : Int32) (no : Int32) (a1 : Int32) (a2 : Int32) (a3 : Int64) (r : (Nat → Int32) × Int32) (hj : j_X2_make wd md sm a1 a2 a3 = some r) : Met l yX2_make wsX2_make ({ frames := 3, cells := 0, slots := 0, locals := 78 } : Room) (va_Pc [.ref g0, .int a1, .int a2, .long a3] (fun U => jPr dC dI cI cJ (wM cI cJ g0 gr gl gw gs th rw mn at_ ml md_l wd md sm fr no) sz U)) (va_Qv (fun _ : Unit => True) (fun (_ : Unit) t => jPo dC dI cI cJ (wM cI cJ g0 gr gl gw gs th rw mn at_ ml md_l r.1 r.2 sm fr no) (va_A (wM cI cJ g0 gr gl gw gs th rw mn at_ ml md_l wd md sm fr no) sz) t) (va_A (wM cI cJ g0 gr gl gw gs th rw mn at_ ml md_l wd md sm fr no) sz)) 0 0 (va_A (wM cI cJ g0 gr gl gw gs th rw mn at_ ml md_l wd md sm fr no) sz) := by
  refine Met.ofW (cc := cX2_make) (maxL := 5) (ret := none) (by decide) rfl ?_
  intro p e s m args below meth c s₁ B hml hv
  obtain ⟨rfl, ⟨hsz, hP, hK, hD0⟩⟩ := hv
  have hx := B.exec
  have hb := B.bytes
  have hr := B.returns
  have hts := atoms_spec (ws := wsX2_make) B.pre
  have hown : s.vm.findClass RX2 = some m.cls := findClass_of_methodNamed B.named
  have hlocks := B.notSynchronized
  have C0 := jCx.of hx hb hr hml hown hts hlocks
  subst hsz
  have hD := hD0.self (sz := s.heap.size)
  generalize hAe : va_A (wM cI cJ g0 gr gl gw gs th rw mn at_ ml md_l wd md sm fr no) s.heap.size = A at hD ⊢
  have hA : ∀ q : Nat, s.heap.size ≤ q → A q := fun q h => by rw [← hAe]; exact Or.inr h
  have hS : va_S A s.heap s.heap [] := va_S.rf
  have hP : va_P (dC, dI) vwCl (wM cI cJ g0 gr gl gw gs th rw mn at_ ml md_l wd md sm fr no) s.heap := hP
  have hl := lv_entry ([.ref g0, .int a1, .int a2, .long a3]) (n := 5) (Nat.le_of_ble_eq_true rfl)
  rw [lg_entry_eq]
  generalize (lg_sl ([.ref g0, .int a1, .int a2, .long a3]) ++ List.replicate (5 - (lg_sl ([.ref g0, .int a1, .int a2, .long a3])).length) Slot.unset).toArray = ls at hl ⊢
  have hl : lv_has ls 5 [(0, .ref g0), (1, .int a1), (2, .int a2), (3, .long a3)] := hl
  clear hD0 hAe
  unfold j_X2_make at hj
  refine lv_aload_n hx hb dX2_make_0 rfl (lv_at hl 0 rfl) ?_
  refine lv_iconst (v := (0 : Int32)) hx hb dX2_make_1 (by decide) ?_
  refine va_put (D := (dC, dI)) (ci := 2) (v := .int (0 : Int32)) (ty := .int) (C := RX2) (T := TX2) (N := 11) hx hb hts inn_X2_make_X2 tyX2 tyX2_ok nmX2 hown hK hP hD hS 0 rfl rfl 7 (by decide) (hts (.fieldLink RX2 47 "SelfEndingCodesModel" "made" "I") (by decide +kernel)) (fun _ h9 => h9) rfl (by decide +kernel) rfl rfl (Nat.le_of_ble_eq_true rfl) dX2_make_2 (fun H locs hP hD hS => ?_)
  have hP : va_P (dC, dI) vwCl (wM cI cJ g0 gr gl gw gs th rw mn at_ ml md_l wd (0 : Int32) sm fr no) H := hP
  have hD : va_D A (wM cI cJ g0 gr gl gw gs th rw mn at_ ml md_l wd (0 : Int32) sm fr no) := hD
  refine lv_iload_n hx hb dX2_make_5 rfl (lv_at hl 1 rfl) ?_
  by_cases q0 : a1 = (0 : Int32)
  · replace hj := ja_pos q0 hj
    refine lv_tableIn (tgt := 48) hx hb dX2_make_6 (by rw [q0]; decide) (by rw [q0]; decide) (by rw [q0]; rfl) (by decide) ?_
    refine lv_aload_n hx hb dX2_make_48 rfl (lv_at hl 0 rfl) ?_
    refine lv_lload_n hx hb dX2_make_49 rfl (lv_at hl 3 rfl) ?_
    refine lv_lconst (v := (1 : Int64)) hx hb dX2_make_50 (by decide) ?_
    refine lv_lsub hx hb dX2_make_51 ?_
    obtain ⟨⟨v3, v4⟩, hc, hj⟩ := ja_bd hj
    try dsimp only at hj
    have hPc := hP.sub (ws' := (wM cI cJ g0 gr gl gw gs th rw mn at_ ml md_l wd (0 : Int32) sm fr no)) [0, 1, 2, 3, 4] rfl
    have hDc := hD.sub (ws' := (wM cI cJ g0 gr gl gw gs th rw mn at_ ml md_l wd (0 : Int32) sm fr no)) [0, 1, 2, 3, 4] (by decide) rfl
    have hFc := va_free (wc := (wM cI cJ g0 gr gl gw gs th rw mn at_ ml md_l wd (0 : Int32) sm fr no)) hD hS hA [0, 1, 2, 3, 4] rfl
    refine va_callv (va_runV (As := [.long (a3 - (1 : Int64))]) (rest := []) ⟨hx, hb, hml, hown, hts⟩ (c_X2_ones l dC dI cI cJ g0 gr gl gw gs H.size th rw mn at_ ml md_l wd (0 : Int32) sm fr no (a3 - (1 : Int64)) _ hc) (cwV 1 hts gX2_make_X2_ones rfl rfl rfl (by decide +kernel) ⟨Nat.le_of_ble_eq_true rfl, Nat.le_of_ble_eq_true rfl⟩) ⟨fun a U g mk q => ⟨q.1, jPr.blind q.2⟩, va_recv hK hPc (ci := 2) (q0 := 0) rfl rfl, fun U hU hW => ⟨rfl, jPr.mk hU hW hPc hK hDc⟩⟩ rfl rfl hl.1 rfl (lv_room (Nat.le_of_ble_eq_true rfl)) dX2_make_52 ⟨Nat.le_of_ble_eq_true rfl, Nat.le_of_ble_eq_true rfl⟩) hS (fun q _ h => hFc q h) hFc (fun u t H1 locs ht hvm hw9 hB hz1 hk1 hS => ?_)
    obtain ⟨hP1, hK1, hD1⟩ := hB
    rw [ht] at hP1
    obtain ⟨hP, hD⟩ := va_join (wr := ([] : va_W)) (w1 := (wM cI cJ g0 gr gl gw gs th rw mn at_ ml md_l v3 v4 sm fr no)) hP hD [0, 1, 2, 3, 4] [] rfl rfl (by decide) (by decide) hk1 hFc hP1 hD1
    clear hk1 hP1 hK1 hD1 hvm hz1 hPc hDc hFc
    generalize H1 = H at hP hS ⊢
    have hP : va_P (dC, dI) vwCl (wM cI cJ g0 gr gl gw gs th rw mn at_ ml md_l v3 v4 sm fr no) H := hP
    have hD : va_D A (wM cI cJ g0 gr gl gw gs th rw mn at_ ml md_l v3 v4 sm fr no) := hD
    refine lv_goto (tgt := 142) hx hb dX2_make_55 (by decide) ?_
    have hr9 : (v3, v4) = r := Option.some.inj hj
    subst hr9
    exact W.vret hx hb hr (fun t ht hW => ⟨⟨(), rfl, trivial, by rw [ht]; exact hP, va_K.moved hW.alike hK, hD⟩, hS.F ht⟩) hS.2.2 dX2_make_142
  · replace hj := ja_neg q0 hj
    by_cases q1 : a1 = (1 : Int32)
    · replace hj := ja_pos q1 hj
      refine lv_tableIn (tgt := 58) hx hb dX2_make_6 (by rw [q1]; decide) (by rw [q1]; decide) (by rw [q1]; rfl) (by decide) ?_
      refine lv_aload_n hx hb dX2_make_58 rfl (lv_at hl 0 rfl) ?_
      refine lv_lload_n hx hb dX2_make_59 rfl (lv_at hl 3 rfl) ?_
      obtain ⟨⟨v5, v6⟩, hc, hj⟩ := ja_bd hj
      try dsimp only at hj
      have hPc := hP.sub (ws' := (wM cI cJ g0 gr gl gw gs th rw mn at_ ml md_l wd (0 : Int32) sm fr no)) [0, 1, 2, 3, 4] rfl
      have hDc := hD.sub (ws' := (wM cI cJ g0 gr gl gw gs th rw mn at_ ml md_l wd (0 : Int32) sm fr no)) [0, 1, 2, 3, 4] (by decide) rfl
      have hFc := va_free (wc := (wM cI cJ g0 gr gl gw gs th rw mn at_ ml md_l wd (0 : Int32) sm fr no)) hD hS hA [0, 1, 2, 3, 4] rfl
      refine va_callv (va_runV (As := [.long a3]) (rest := []) ⟨hx, hb, hml, hown, hts⟩ (c_X2_doubled l dC dI cI cJ g0 gr gl gw gs H.size th rw mn at_ ml md_l wd (0 : Int32) sm fr no a3 _ hc) (cwV 1 hts gX2_make_X2_doubled rfl rfl rfl (by decide +kernel) ⟨Nat.le_of_ble_eq_true rfl, Nat.le_of_ble_eq_true rfl⟩) ⟨fun a U g mk q => ⟨q.1, jPr.blind q.2⟩, va_recv hK hPc (ci := 2) (q0 := 0) rfl rfl, fun U hU hW => ⟨rfl, jPr.mk hU hW hPc hK hDc⟩⟩ rfl rfl hl.1 rfl (lv_room (Nat.le_of_ble_eq_true rfl)) dX2_make_60 ⟨Nat.le_of_ble_eq_true rfl, Nat.le_of_ble_eq_true rfl⟩) hS (fun q _ h => hFc q h) hFc (fun u t H1 locs ht hvm hw9 hB hz1 hk1 hS => ?_)
      obtain ⟨hP1, hK1, hD1⟩ := hB
      rw [ht] at hP1
      obtain ⟨hP, hD⟩ := va_join (wr := ([] : va_W)) (w1 := (wM cI cJ g0 gr gl gw gs th rw mn at_ ml md_l v5 v6 sm fr no)) hP hD [0, 1, 2, 3, 4] [] rfl rfl (by decide) (by decide) hk1 hFc hP1 hD1
      clear hk1 hP1 hK1 hD1 hvm hz1 hPc hDc hFc
      generalize H1 = H at hP hS ⊢
      have hP : va_P (dC, dI) vwCl (wM cI cJ g0 gr gl gw gs th rw mn at_ ml md_l v5 v6 sm fr no) H := hP
      have hD : va_D A (wM cI cJ g0 gr gl gw gs th rw mn at_ ml md_l v5 v6 sm fr no) := hD
      refine lv_goto (tgt := 142) hx hb dX2_make_63 (by decide) ?_
      have hr9 : (v5, v6) = r := Option.some.inj hj
      subst hr9
      exact W.vret hx hb hr (fun t ht hW => ⟨⟨(), rfl, trivial, by rw [ht]; exact hP, va_K.moved hW.alike hK, hD⟩, hS.F ht⟩) hS.2.2 dX2_make_142
    · replace hj := ja_neg q1 hj
      by_cases q2 : a1 = (2 : Int32)
      · replace hj := ja_pos q2 hj
        refine lv_tableIn (tgt := 66) hx hb dX2_make_6 (by rw [q2]; decide) (by rw [q2]; decide) (by rw [q2]; rfl) (by decide) ?_
        refine lv_aload_n hx hb dX2_make_66 rfl (lv_at hl 0 rfl) ?_
        refine lv_lload_n hx hb dX2_make_67 rfl (lv_at hl 3 rfl) ?_
        obtain ⟨v7, hc, hj⟩ := ja_bd hj
        try dsimp only at hj
        have hPc := hP.sub (ws' := ([] : va_W)) [] rfl
        have hDc := hD.sub (ws' := ([] : va_W)) [] (by decide) rfl
        have hFc := va_free (wc := ([] : va_W)) hD hS hA [] rfl
        refine va_calli (va_runS (As := [.long a3]) (rest := [.ref g0]) ⟨hx, hb, hml, hown, hts⟩ (c_X2_bitsOf l dC dI cI cJ H.size a3 _ hc) (va_cwS 1 hts gX2_make_X2_bitsOf rfl rfl rfl (by decide +kernel) ⟨Nat.le_of_ble_eq_true rfl, Nat.le_of_ble_eq_true rfl⟩) ⟨fun a U g mk q => ⟨q.1, jPr.blind q.2⟩, fun U hU hW => ⟨rfl, jPr.mk hU hW hPc hK hDc⟩⟩ rfl rfl hl.1 rfl (lv_room (Nat.le_of_ble_eq_true rfl)) dX2_make_68 ⟨Nat.le_of_ble_eq_true rfl, Nat.le_of_ble_eq_true rfl⟩) hS (fun q _ h => hFc q h) hFc (fun rr u t H1 locs ht hvm hw9 hB hz1 hk1 hS => ?_)
        have hw8 : v7 = rr := hw9.symm
        subst hw8
        obtain ⟨hP1, hK1, hD1⟩ := hB
        rw [ht] at hP1
        obtain ⟨hP, hD⟩ := va_join (wr := ([(g0, .inr (2, [.int th, .ref gr, .int mn, .int at_, .ref gl, .int md_l, .ref gw, .int (0 : Int32), .ref gs, .int fr, .int no])), (gr, .inl (cI, 4096, .inl rw)), (gl, .inl (cJ, 100, .inr (.inl ml))), (gw, .inl (cI, 4200, .inl wd)), (gs, .inl (cJ, 92, .inr (.inl sm)))] : va_W)) (w1 := ([] : va_W)) hP hD [] [0, 1, 2, 3, 4] rfl rfl (by decide) (by decide) hk1 hFc hP1 hD1
        clear hk1 hP1 hK1 hD1 hvm hz1 hPc hDc hFc
        generalize H1 = H at hP hS ⊢
        have hP : va_P (dC, dI) vwCl (wM cI cJ g0 gr gl gw gs th rw mn at_ ml md_l wd (0 : Int32) sm fr no) H := hP
        have hD : va_D A (wM cI cJ g0 gr gl gw gs th rw mn at_ ml md_l wd (0 : Int32) sm fr no) := hD
        refine lv_i2l hx hb dX2_make_71 rfl ?_
        obtain ⟨⟨v8, v9⟩, hc, hj⟩ := ja_bd hj
        try dsimp only at hj
        have hPc := hP.sub (ws' := (wM cI cJ g0 gr gl gw gs th rw mn at_ ml md_l wd (0 : Int32) sm fr no)) [0, 1, 2, 3, 4] rfl
        have hDc := hD.sub (ws' := (wM cI cJ g0 gr gl gw gs th rw mn at_ ml md_l wd (0 : Int32) sm fr no)) [0, 1, 2, 3, 4] (by decide) rfl
        have hFc := va_free (wc := (wM cI cJ g0 gr gl gw gs th rw mn at_ ml md_l wd (0 : Int32) sm fr no)) hD hS hA [0, 1, 2, 3, 4] rfl
        refine va_callv (va_runV (As := [.long v7.toInt64]) (rest := []) ⟨hx, hb, hml, hown, hts⟩ (c_X2_doubled l dC dI cI cJ g0 gr gl gw gs H.size th rw mn at_ ml md_l wd (0 : Int32) sm fr no v7.toInt64 _ hc) (cwV 1 hts gX2_make_X2_doubled rfl rfl rfl (by decide +kernel) ⟨Nat.le_of_ble_eq_true rfl, Nat.le_of_ble_eq_true rfl⟩) ⟨fun a U g mk q => ⟨q.1, jPr.blind q.2⟩, va_recv hK hPc (ci := 2) (q0 := 0) rfl rfl, fun U hU hW => ⟨rfl, jPr.mk hU hW hPc hK hDc⟩⟩ rfl rfl hl.1 rfl (lv_room (Nat.le_of_ble_eq_true rfl)) dX2_make_72 ⟨Nat.le_of_ble_eq_true rfl, Nat.le_of_ble_eq_true rfl⟩) hS (fun q _ h => hFc q h) hFc (fun u t H1 locs ht hvm hw9 hB hz1 hk1 hS => ?_)
        obtain ⟨hP1, hK1, hD1⟩ := hB
        rw [ht] at hP1
        obtain ⟨hP, hD⟩ := va_join (wr := ([] : va_W)) (w1 := (wM cI cJ g0 gr gl gw gs th rw mn at_ ml md_l v8 v9 sm fr no)) hP hD [0, 1, 2, 3, 4] [] rfl rfl (by decide) (by decide) hk1 hFc hP1 hD1
        clear hk1 hP1 hK1 hD1 hvm hz1 hPc hDc hFc
        generalize H1 = H at hP hS ⊢
        have hP : va_P (dC, dI) vwCl (wM cI cJ g0 gr gl gw gs th rw mn at_ ml md_l v8 v9 sm fr no) H := hP
        have hD : va_D A (wM cI cJ g0 gr gl gw gs th rw mn at_ ml md_l v8 v9 sm fr no) := hD
        refine lv_aload_n hx hb dX2_make_75 rfl (lv_at hl 0 rfl) ?_
        refine lv_lload_n hx hb dX2_make_76 rfl (lv_at hl 3 rfl) ?_
        refine lv_lload_n hx hb dX2_make_77 rfl (lv_at hl 3 rfl) ?_
        obtain ⟨v10, hc, hj⟩ := ja_bd hj
        try dsimp only at hj
        have hPc := hP.sub (ws' := ([] : va_W)) [] rfl
        have hDc := hD.sub (ws' := ([] : va_W)) [] (by decide) rfl
        have hFc := va_free (wc := ([] : va_W)) hD hS hA [] rfl
        refine va_calli (va_runS (As := [.long a3]) (rest := [.long a3, .ref g0]) ⟨hx, hb, hml, hown, hts⟩ (c_X2_bitsOf l dC dI cI cJ H.size a3 _ hc) (va_cwS 1 hts gX2_make_X2_bitsOf rfl rfl rfl (by decide +kernel) ⟨Nat.le_of_ble_eq_true rfl, Nat.le_of_ble_eq_true rfl⟩) ⟨fun a U g mk q => ⟨q.1, jPr.blind q.2⟩, fun U hU hW => ⟨rfl, jPr.mk hU hW hPc hK hDc⟩⟩ rfl rfl hl.1 rfl (lv_room (Nat.le_of_ble_eq_true rfl)) dX2_make_78 ⟨Nat.le_of_ble_eq_true rfl, Nat.le_of_ble_eq_true rfl⟩) hS (fun q _ h => hFc q h) hFc (fun rr u t H1 locs ht hvm hw9 hB hz1 hk1 hS => ?_)
        have hw8 : v10 = rr := hw9.symm
        subst hw8
        obtain ⟨hP1, hK1, hD1⟩ := hB
        rw [ht] at hP1
        obtain ⟨hP, hD⟩ := va_join (wr := ([(g0, .inr (2, [.int th, .ref gr, .int mn, .int at_, .ref gl, .int md_l, .ref gw, .int v9, .ref gs, .int fr, .int no])), (gr, .inl (cI, 4096, .inl rw)), (gl, .inl (cJ, 100, .inr (.inl ml))), (gw, .inl (cI, 4200, .inl v8)), (gs, .inl (cJ, 92, .inr (.inl sm)))] : va_W)) (w1 := ([] : va_W)) hP hD [] [0, 1, 2, 3, 4] rfl rfl (by decide) (by decide) hk1 hFc hP1 hD1
        clear hk1 hP1 hK1 hD1 hvm hz1 hPc hDc hFc
        generalize H1 = H at hP hS ⊢
        have hP : va_P (dC, dI) vwCl (wM cI cJ g0 gr gl gw gs th rw mn at_ ml md_l v8 v9 sm fr no) H := hP
        have hD : va_D A (wM cI cJ g0 gr gl gw gs th rw mn at_ ml md_l v8 v9 sm fr no) := hD
        refine lv_iconst (v := (1 : Int32)) hx hb dX2_make_81 (by decide) ?_
        refine lv_isub hx hb dX2_make_82 ?_
        obtain ⟨⟨v11, v12⟩, hc, hj⟩ := ja_bd hj
        try dsimp only at hj
        have hPc := hP.sub (ws' := (wM cI cJ g0 gr gl gw gs th rw mn at_ ml md_l v8 v9 sm fr no)) [0, 1, 2, 3, 4] rfl
        have hDc := hD.sub (ws' := (wM cI cJ g0 gr gl gw gs th rw mn at_ ml md_l v8 v9 sm fr no)) [0, 1, 2, 3, 4] (by decide) rfl
        have hFc := va_free (wc := (wM cI cJ g0 gr gl gw gs th rw mn at_ ml md_l v8 v9 sm fr no)) hD hS hA [0, 1, 2, 3, 4] rfl
        refine va_callv (va_runV (As := [.long a3, .int (v10 - (1 : Int32))]) (rest := []) ⟨hx, hb, hml, hown, hts⟩ (c_X2_low l dC dI cI cJ g0 gr gl gw gs H.size th rw mn at_ ml md_l v8 v9 sm fr no a3 (v10 - (1 : Int32)) _ hc) (cwV 2 hts gX2_make_X2_low rfl rfl rfl (by decide +kernel) ⟨Nat.le_of_ble_eq_true rfl, Nat.le_of_ble_eq_true rfl⟩) ⟨fun a U g mk q => ⟨q.1, jPr.blind q.2⟩, va_recv hK hPc (ci := 2) (q0 := 0) rfl rfl, fun U hU hW => ⟨rfl, jPr.mk hU hW hPc hK hDc⟩⟩ rfl rfl hl.1 rfl (lv_room (Nat.le_of_ble_eq_true rfl)) dX2_make_83 ⟨Nat.le_of_ble_eq_true rfl, Nat.le_of_ble_eq_true rfl⟩) hS (fun q _ h => hFc q h) hFc (fun u t H1 locs ht hvm hw9 hB hz1 hk1 hS => ?_)
        obtain ⟨hP1, hK1, hD1⟩ := hB
        rw [ht] at hP1
        obtain ⟨hP, hD⟩ := va_join (wr := ([] : va_W)) (w1 := (wM cI cJ g0 gr gl gw gs th rw mn at_ ml md_l v11 v12 sm fr no)) hP hD [0, 1, 2, 3, 4] [] rfl rfl (by decide) (by decide) hk1 hFc hP1 hD1
        clear hk1 hP1 hK1 hD1 hvm hz1 hPc hDc hFc
        generalize H1 = H at hP hS ⊢
        have hP : va_P (dC, dI) vwCl (wM cI cJ g0 gr gl gw gs th rw mn at_ ml md_l v11 v12 sm fr no) H := hP
        have hD : va_D A (wM cI cJ g0 gr gl gw gs th rw mn at_ ml md_l v11 v12 sm fr no) := hD
        refine lv_goto (tgt := 142) hx hb dX2_make_86 (by decide) ?_
        have hr9 : (v11, v12) = r := Option.some.inj hj
        subst hr9
        exact W.vret hx hb hr (fun t ht hW => ⟨⟨(), rfl, trivial, by rw [ht]; exact hP, va_K.moved hW.alike hK, hD⟩, hS.F ht⟩) hS.2.2 dX2_make_142
      · replace hj := ja_neg q2 hj
        by_cases q3 : a1 = (3 : Int32)
        · replace hj := ja_pos q3 hj
          refine lv_tableIn (tgt := 89) hx hb dX2_make_6 (by rw [q3]; decide) (by rw [q3]; decide) (by rw [q3]; rfl) (by decide) ?_
          refine lv_aload_n hx hb dX2_make_89 rfl (lv_at hl 0 rfl) ?_
          refine lv_lload_n hx hb dX2_make_90 rfl (lv_at hl 3 rfl) ?_
          obtain ⟨⟨v13, v14⟩, hc, hj⟩ := ja_bd hj
          try dsimp only at hj
          have hPc := hP.sub (ws' := (wM cI cJ g0 gr gl gw gs th rw mn at_ ml md_l wd (0 : Int32) sm fr no)) [0, 1, 2, 3, 4] rfl
          have hDc := hD.sub (ws' := (wM cI cJ g0 gr gl gw gs th rw mn at_ ml md_l wd (0 : Int32) sm fr no)) [0, 1, 2, 3, 4] (by decide) rfl
          have hFc := va_free (wc := (wM cI cJ g0 gr gl gw gs th rw mn at_ ml md_l wd (0 : Int32) sm fr no)) hD hS hA [0, 1, 2, 3, 4] rfl
          refine va_callv (va_runV (As := [.long a3]) (rest := []) ⟨hx, hb, hml, hown, hts⟩ (c_X2_chain l dC dI cI cJ g0 gr gl gw gs H.size th rw mn at_ ml md_l wd (0 : Int32) sm fr no a3 _ hc) (cwV 1 hts gX2_make_X2_chain rfl rfl rfl (by decide +kernel) ⟨Nat.le_of_ble_eq_true rfl, Nat.le_of_ble_eq_true rfl⟩) ⟨fun a U g mk q => ⟨q.1, jPr.blind q.2⟩, va_recv hK hPc (ci := 2) (q0 := 0) rfl rfl, fun U hU hW => ⟨rfl, jPr.mk hU hW hPc hK hDc⟩⟩ rfl rfl hl.1 rfl (lv_room (Nat.le_of_ble_eq_true rfl)) dX2_make_91 ⟨Nat.le_of_ble_eq_true rfl, Nat.le_of_ble_eq_true rfl⟩) hS (fun q _ h => hFc q h) hFc (fun u t H1 locs ht hvm hw9 hB hz1 hk1 hS => ?_)
          obtain ⟨hP1, hK1, hD1⟩ := hB
          rw [ht] at hP1
          obtain ⟨hP, hD⟩ := va_join (wr := ([] : va_W)) (w1 := (wM cI cJ g0 gr gl gw gs th rw mn at_ ml md_l v13 v14 sm fr no)) hP hD [0, 1, 2, 3, 4] [] rfl rfl (by decide) (by decide) hk1 hFc hP1 hD1
          clear hk1 hP1 hK1 hD1 hvm hz1 hPc hDc hFc
          generalize H1 = H at hP hS ⊢
          have hP : va_P (dC, dI) vwCl (wM cI cJ g0 gr gl gw gs th rw mn at_ ml md_l v13 v14 sm fr no) H := hP
          have hD : va_D A (wM cI cJ g0 gr gl gw gs th rw mn at_ ml md_l v13 v14 sm fr no) := hD
          refine lv_goto (tgt := 142) hx hb dX2_make_94 (by decide) ?_
          have hr9 : (v13, v14) = r := Option.some.inj hj
          subst hr9
          exact W.vret hx hb hr (fun t ht hW => ⟨⟨(), rfl, trivial, by rw [ht]; exact hP, va_K.moved hW.alike hK, hD⟩, hS.F ht⟩) hS.2.2 dX2_make_142
        · replace hj := ja_neg q3 hj
          by_cases q4 : a1 = (4 : Int32)
          · replace hj := ja_pos q4 hj
            refine lv_tableIn (tgt := 97) hx hb dX2_make_6 (by rw [q4]; decide) (by rw [q4]; decide) (by rw [q4]; rfl) (by decide) ?_
            refine lv_aload_n hx hb dX2_make_97 rfl (lv_at hl 0 rfl) ?_
            refine lv_lload_n hx hb dX2_make_98 rfl (lv_at hl 3 rfl) ?_
            obtain ⟨⟨v15, v16⟩, hc, hj⟩ := ja_bd hj
            try dsimp only at hj
            have hPc := hP.sub (ws' := (wM cI cJ g0 gr gl gw gs th rw mn at_ ml md_l wd (0 : Int32) sm fr no)) [0, 1, 2, 3, 4] rfl
            have hDc := hD.sub (ws' := (wM cI cJ g0 gr gl gw gs th rw mn at_ ml md_l wd (0 : Int32) sm fr no)) [0, 1, 2, 3, 4] (by decide) rfl
            have hFc := va_free (wc := (wM cI cJ g0 gr gl gw gs th rw mn at_ ml md_l wd (0 : Int32) sm fr no)) hD hS hA [0, 1, 2, 3, 4] rfl
            refine va_callv (va_runV (As := [.long a3]) (rest := []) ⟨hx, hb, hml, hown, hts⟩ (c_X2_bySums l dC dI cI cJ g0 gr gl gw gs H.size th rw mn at_ ml md_l wd (0 : Int32) sm fr no a3 _ hc) (cwV 1 hts gX2_make_X2_bySums rfl rfl rfl (by decide +kernel) ⟨Nat.le_of_ble_eq_true rfl, Nat.le_of_ble_eq_true rfl⟩) ⟨fun a U g mk q => ⟨q.1, jPr.blind q.2⟩, va_recv hK hPc (ci := 2) (q0 := 0) rfl rfl, fun U hU hW => ⟨rfl, jPr.mk hU hW hPc hK hDc⟩⟩ rfl rfl hl.1 rfl (lv_room (Nat.le_of_ble_eq_true rfl)) dX2_make_99 ⟨Nat.le_of_ble_eq_true rfl, Nat.le_of_ble_eq_true rfl⟩) hS (fun q _ h => hFc q h) hFc (fun u t H1 locs ht hvm hw9 hB hz1 hk1 hS => ?_)
            obtain ⟨hP1, hK1, hD1⟩ := hB
            rw [ht] at hP1
            obtain ⟨hP, hD⟩ := va_join (wr := ([] : va_W)) (w1 := (wM cI cJ g0 gr gl gw gs th rw mn at_ ml md_l v15 v16 sm fr no)) hP hD [0, 1, 2, 3, 4] [] rfl rfl (by decide) (by decide) hk1 hFc hP1 hD1
            clear hk1 hP1 hK1 hD1 hvm hz1 hPc hDc hFc
            generalize H1 = H at hP hS ⊢
            have hP : va_P (dC, dI) vwCl (wM cI cJ g0 gr gl gw gs th rw mn at_ ml md_l v15 v16 sm fr no) H := hP
            have hD : va_D A (wM cI cJ g0 gr gl gw gs th rw mn at_ ml md_l v15 v16 sm fr no) := hD
            refine lv_goto (tgt := 142) hx hb dX2_make_102 (by decide) ?_
            have hr9 : (v15, v16) = r := Option.some.inj hj
            subst hr9
            exact W.vret hx hb hr (fun t ht hW => ⟨⟨(), rfl, trivial, by rw [ht]; exact hP, va_K.moved hW.alike hK, hD⟩, hS.F ht⟩) hS.2.2 dX2_make_142
          · replace hj := ja_neg q4 hj
            by_cases q5 : a1 = (5 : Int32)
            · replace hj := ja_pos q5 hj
              refine lv_tableIn (tgt := 105) hx hb dX2_make_6 (by rw [q5]; decide) (by rw [q5]; decide) (by rw [q5]; rfl) (by decide) ?_
              refine lv_aload_n hx hb dX2_make_105 rfl (lv_at hl 0 rfl) ?_
              refine lv_iload_n hx hb dX2_make_106 rfl (lv_at hl 2 rfl) ?_
              refine lv_lload_n hx hb dX2_make_107 rfl (lv_at hl 3 rfl) ?_
              obtain ⟨⟨v17, v18⟩, hc, hj⟩ := ja_bd hj
              try dsimp only at hj
              have hPc := hP.sub (ws' := (wM cI cJ g0 gr gl gw gs th rw mn at_ ml md_l wd (0 : Int32) sm fr no)) [0, 1, 2, 3, 4] rfl
              have hDc := hD.sub (ws' := (wM cI cJ g0 gr gl gw gs th rw mn at_ ml md_l wd (0 : Int32) sm fr no)) [0, 1, 2, 3, 4] (by decide) rfl
              have hFc := va_free (wc := (wM cI cJ g0 gr gl gw gs th rw mn at_ ml md_l wd (0 : Int32) sm fr no)) hD hS hA [0, 1, 2, 3, 4] rfl
              refine va_callv (va_runV (As := [.int a2, .long a3]) (rest := []) ⟨hx, hb, hml, hown, hts⟩ (c_X2_byQuotient l dC dI cI cJ g0 gr gl gw gs H.size th rw mn at_ ml md_l wd (0 : Int32) sm fr no a2 a3 _ hc) (cwV 2 hts gX2_make_X2_byQuotient rfl rfl rfl (by decide +kernel) ⟨Nat.le_of_ble_eq_true rfl, Nat.le_of_ble_eq_true rfl⟩) ⟨fun a U g mk q => ⟨q.1, jPr.blind q.2⟩, va_recv hK hPc (ci := 2) (q0 := 0) rfl rfl, fun U hU hW => ⟨rfl, jPr.mk hU hW hPc hK hDc⟩⟩ rfl rfl hl.1 rfl (lv_room (Nat.le_of_ble_eq_true rfl)) dX2_make_108 ⟨Nat.le_of_ble_eq_true rfl, Nat.le_of_ble_eq_true rfl⟩) hS (fun q _ h => hFc q h) hFc (fun u t H1 locs ht hvm hw9 hB hz1 hk1 hS => ?_)
              obtain ⟨hP1, hK1, hD1⟩ := hB
              rw [ht] at hP1
              obtain ⟨hP, hD⟩ := va_join (wr := ([] : va_W)) (w1 := (wM cI cJ g0 gr gl gw gs th rw mn at_ ml md_l v17 v18 sm fr no)) hP hD [0, 1, 2, 3, 4] [] rfl rfl (by decide) (by decide) hk1 hFc hP1 hD1
              clear hk1 hP1 hK1 hD1 hvm hz1 hPc hDc hFc
              generalize H1 = H at hP hS ⊢
              have hP : va_P (dC, dI) vwCl (wM cI cJ g0 gr gl gw gs th rw mn at_ ml md_l v17 v18 sm fr no) H := hP
              have hD : va_D A (wM cI cJ g0 gr gl gw gs th rw mn at_ ml md_l v17 v18 sm fr no) := hD
              refine lv_goto (tgt := 142) hx hb dX2_make_111 (by decide) ?_
              have hr9 : (v17, v18) = r := Option.some.inj hj
              subst hr9
              exact W.vret hx hb hr (fun t ht hW => ⟨⟨(), rfl, trivial, by rw [ht]; exact hP, va_K.moved hW.alike hK, hD⟩, hS.F ht⟩) hS.2.2 dX2_make_142
            · replace hj := ja_neg q5 hj
              by_cases q6 : a1 = (6 : Int32)
              · replace hj := ja_pos q6 hj
                refine lv_tableIn (tgt := 114) hx hb dX2_make_6 (by rw [q6]; decide) (by rw [q6]; decide) (by rw [q6]; rfl) (by decide) ?_
                refine lv_aload_n hx hb dX2_make_114 rfl (lv_at hl 0 rfl) ?_
                refine lv_lload_n hx hb dX2_make_115 rfl (lv_at hl 3 rfl) ?_
                refine lv_lconst (v := (1 : Int64)) hx hb dX2_make_116 (by decide) ?_
                refine lv_lsub hx hb dX2_make_117 ?_
                refine lv_iload_n hx hb dX2_make_118 rfl (lv_at hl 2 rfl) ?_
                refine lv_lshr hx hb dX2_make_119 rfl ?_
                refine lv_lconst (v := (1 : Int64)) hx hb dX2_make_120 (by decide) ?_
                refine lv_ladd hx hb dX2_make_121 ?_
                obtain ⟨⟨v19, v20⟩, hc, hj⟩ := ja_bd hj
                try dsimp only at hj
                have hPc := hP.sub (ws' := (wM cI cJ g0 gr gl gw gs th rw mn at_ ml md_l wd (0 : Int32) sm fr no)) [0, 1, 2, 3, 4] rfl
                have hDc := hD.sub (ws' := (wM cI cJ g0 gr gl gw gs th rw mn at_ ml md_l wd (0 : Int32) sm fr no)) [0, 1, 2, 3, 4] (by decide) rfl
                have hFc := va_free (wc := (wM cI cJ g0 gr gl gw gs th rw mn at_ ml md_l wd (0 : Int32) sm fr no)) hD hS hA [0, 1, 2, 3, 4] rfl
                refine va_callv (va_runV (As := [.long (((a3 - (1 : Int64)) >>> (a2.toInt64 &&& 63)) + (1 : Int64))]) (rest := []) ⟨hx, hb, hml, hown, hts⟩ (c_X2_doubled l dC dI cI cJ g0 gr gl gw gs H.size th rw mn at_ ml md_l wd (0 : Int32) sm fr no (((a3 - (1 : Int64)) >>> (a2.toInt64 &&& 63)) + (1 : Int64)) _ hc) (cwV 1 hts gX2_make_X2_doubled rfl rfl rfl (by decide +kernel) ⟨Nat.le_of_ble_eq_true rfl, Nat.le_of_ble_eq_true rfl⟩) ⟨fun a U g mk q => ⟨q.1, jPr.blind q.2⟩, va_recv hK hPc (ci := 2) (q0 := 0) rfl rfl, fun U hU hW => ⟨rfl, jPr.mk hU hW hPc hK hDc⟩⟩ rfl rfl hl.1 rfl (lv_room (Nat.le_of_ble_eq_true rfl)) dX2_make_122 ⟨Nat.le_of_ble_eq_true rfl, Nat.le_of_ble_eq_true rfl⟩) hS (fun q _ h => hFc q h) hFc (fun u t H1 locs ht hvm hw9 hB hz1 hk1 hS => ?_)
                obtain ⟨hP1, hK1, hD1⟩ := hB
                rw [ht] at hP1
                obtain ⟨hP, hD⟩ := va_join (wr := ([] : va_W)) (w1 := (wM cI cJ g0 gr gl gw gs th rw mn at_ ml md_l v19 v20 sm fr no)) hP hD [0, 1, 2, 3, 4] [] rfl rfl (by decide) (by decide) hk1 hFc hP1 hD1
                clear hk1 hP1 hK1 hD1 hvm hz1 hPc hDc hFc
                generalize H1 = H at hP hS ⊢
                have hP : va_P (dC, dI) vwCl (wM cI cJ g0 gr gl gw gs th rw mn at_ ml md_l v19 v20 sm fr no) H := hP
                have hD : va_D A (wM cI cJ g0 gr gl gw gs th rw mn at_ ml md_l v19 v20 sm fr no) := hD
                refine lv_aload_n hx hb dX2_make_125 rfl (lv_at hl 0 rfl) ?_
                refine lv_lload_n hx hb dX2_make_126 rfl (lv_at hl 3 rfl) ?_
                refine lv_lconst (v := (1 : Int64)) hx hb dX2_make_127 (by decide) ?_
                refine lv_lsub hx hb dX2_make_128 ?_
                refine lv_iload_n hx hb dX2_make_129 rfl (lv_at hl 2 rfl) ?_
                obtain ⟨⟨v21, v22⟩, hc, hj⟩ := ja_bd hj
                try dsimp only at hj
                have hPc := hP.sub (ws' := (wM cI cJ g0 gr gl gw gs th rw mn at_ ml md_l v19 v20 sm fr no)) [0, 1, 2, 3, 4] rfl
                have hDc := hD.sub (ws' := (wM cI cJ g0 gr gl gw gs th rw mn at_ ml md_l v19 v20 sm fr no)) [0, 1, 2, 3, 4] (by decide) rfl
                have hFc := va_free (wc := (wM cI cJ g0 gr gl gw gs th rw mn at_ ml md_l v19 v20 sm fr no)) hD hS hA [0, 1, 2, 3, 4] rfl
                refine va_callv (va_runV (As := [.long (a3 - (1 : Int64)), .int a2]) (rest := []) ⟨hx, hb, hml, hown, hts⟩ (c_X2_low l dC dI cI cJ g0 gr gl gw gs H.size th rw mn at_ ml md_l v19 v20 sm fr no (a3 - (1 : Int64)) a2 _ hc) (cwV 2 hts gX2_make_X2_low rfl rfl rfl (by decide +kernel) ⟨Nat.le_of_ble_eq_true rfl, Nat.le_of_ble_eq_true rfl⟩) ⟨fun a U g mk q => ⟨q.1, jPr.blind q.2⟩, va_recv hK hPc (ci := 2) (q0 := 0) rfl rfl, fun U hU hW => ⟨rfl, jPr.mk hU hW hPc hK hDc⟩⟩ rfl rfl hl.1 rfl (lv_room (Nat.le_of_ble_eq_true rfl)) dX2_make_130 ⟨Nat.le_of_ble_eq_true rfl, Nat.le_of_ble_eq_true rfl⟩) hS (fun q _ h => hFc q h) hFc (fun u t H1 locs ht hvm hw9 hB hz1 hk1 hS => ?_)
                obtain ⟨hP1, hK1, hD1⟩ := hB
                rw [ht] at hP1
                obtain ⟨hP, hD⟩ := va_join (wr := ([] : va_W)) (w1 := (wM cI cJ g0 gr gl gw gs th rw mn at_ ml md_l v21 v22 sm fr no)) hP hD [0, 1, 2, 3, 4] [] rfl rfl (by decide) (by decide) hk1 hFc hP1 hD1
                clear hk1 hP1 hK1 hD1 hvm hz1 hPc hDc hFc
                generalize H1 = H at hP hS ⊢
                have hP : va_P (dC, dI) vwCl (wM cI cJ g0 gr gl gw gs th rw mn at_ ml md_l v21 v22 sm fr no) H := hP
                have hD : va_D A (wM cI cJ g0 gr gl gw gs th rw mn at_ ml md_l v21 v22 sm fr no) := hD
                refine lv_goto (tgt := 142) hx hb dX2_make_133 (by decide) ?_
                have hr9 : (v21, v22) = r := Option.some.inj hj
                subst hr9
                exact W.vret hx hb hr (fun t ht hW => ⟨⟨(), rfl, trivial, by rw [ht]; exact hP, va_K.moved hW.alike hK, hD⟩, hS.F ht⟩) hS.2.2 dX2_make_142
              · replace hj := ja_neg q6 hj
                have n0 := ja_sw (z := 0) (by decide) q0
                have n1 := ja_sw (z := 1) (by decide) q1
                have n2 := ja_sw (z := 2) (by decide) q2
                have n3 := ja_sw (z := 3) (by decide) q3
                have n4 := ja_sw (z := 4) (by decide) q4
                have n5 := ja_sw (z := 5) (by decide) q5
                have n6 := ja_sw (z := 6) (by decide) q6
                refine lv_tableOut (tgt := 136) hx hb dX2_make_6 (by omega) (by decide) ?_
                refine lv_aload_n hx hb dX2_make_136 rfl (lv_at hl 0 rfl) ?_
                refine lv_iload_n hx hb dX2_make_137 rfl (lv_at hl 2 rfl) ?_
                refine lv_lload_n hx hb dX2_make_138 rfl (lv_at hl 3 rfl) ?_
                obtain ⟨⟨v1, v2⟩, hc, hj⟩ := ja_bd hj
                try dsimp only at hj
                have hPc := hP.sub (ws' := (wM cI cJ g0 gr gl gw gs th rw mn at_ ml md_l wd (0 : Int32) sm fr no)) [0, 1, 2, 3, 4] rfl
                have hDc := hD.sub (ws' := (wM cI cJ g0 gr gl gw gs th rw mn at_ ml md_l wd (0 : Int32) sm fr no)) [0, 1, 2, 3, 4] (by decide) rfl
                have hFc := va_free (wc := (wM cI cJ g0 gr gl gw gs th rw mn at_ ml md_l wd (0 : Int32) sm fr no)) hD hS hA [0, 1, 2, 3, 4] rfl
                refine va_callv (va_runV (As := [.int a2, .long a3]) (rest := []) ⟨hx, hb, hml, hown, hts⟩ (c_X2_byGroups l dC dI cI cJ g0 gr gl gw gs H.size th rw mn at_ ml md_l wd (0 : Int32) sm fr no a2 a3 _ hc) (cwV 2 hts gX2_make_X2_byGroups rfl rfl rfl (by decide +kernel) ⟨Nat.le_of_ble_eq_true rfl, Nat.le_of_ble_eq_true rfl⟩) ⟨fun a U g mk q => ⟨q.1, jPr.blind q.2⟩, va_recv hK hPc (ci := 2) (q0 := 0) rfl rfl, fun U hU hW => ⟨rfl, jPr.mk hU hW hPc hK hDc⟩⟩ rfl rfl hl.1 rfl (lv_room (Nat.le_of_ble_eq_true rfl)) dX2_make_139 ⟨Nat.le_of_ble_eq_true rfl, Nat.le_of_ble_eq_true rfl⟩) hS (fun q _ h => hFc q h) hFc (fun u t H1 locs ht hvm hw9 hB hz1 hk1 hS => ?_)
                obtain ⟨hP1, hK1, hD1⟩ := hB
                rw [ht] at hP1
                obtain ⟨hP, hD⟩ := va_join (wr := ([] : va_W)) (w1 := (wM cI cJ g0 gr gl gw gs th rw mn at_ ml md_l v1 v2 sm fr no)) hP hD [0, 1, 2, 3, 4] [] rfl rfl (by decide) (by decide) hk1 hFc hP1 hD1
                clear hk1 hP1 hK1 hD1 hvm hz1 hPc hDc hFc
                generalize H1 = H at hP hS ⊢
                have hP : va_P (dC, dI) vwCl (wM cI cJ g0 gr gl gw gs th rw mn at_ ml md_l v1 v2 sm fr no) H := hP
                have hD : va_D A (wM cI cJ g0 gr gl gw gs th rw mn at_ ml md_l v1 v2 sm fr no) := hD
                have hr9 : (v1, v2) = r := Option.some.inj hj
                subst hr9
                exact W.vret hx hb hr (fun t ht hW => ⟨⟨(), rfl, trivial, by rw [ht]; exact hP, va_K.moved hW.alike hK, hD⟩, hS.F ht⟩) hS.2.2 dX2_make_142

set_option maxRecDepth 100000 in
theorem inn_X2_puts_X2 : ∀ w ∈ u_ws RX2 TX2 11, w ∈ wsX2_puts := by decide +kernel
def jL_X2_puts_32 (wd : Nat → Int32) (md : Int32) (sm : Nat → Int64) : Nat → Int32 → (Nat → Int32) → Int32 → Option (Int32 × (Nat → Int32) × Int32 × (Nat → Int32) × Int32)
  | 0, _, _, _ => none
  | n + 1, x5, rw, mn => if md ≤ x5 then (some ((1 : Int32), rw, mn, wd, md)) else (jix x5 4200 (jix mn 4096 (jL_X2_puts_32 wd md sm n (x5 + (1 : Int32)) (upd rw mn.toNatClampNeg (wd x5.toNatClampNeg)) (mn + (1 : Int32)))))
set_option maxHeartbeats 4000000 in
set_option maxRecDepth 100000 in
theorem s_X2_puts_32 {p : Program} {l : Launch} {e : Env} {s : State} {m : MethodId} {args : Array Value} {below : List Frame} {meth : Method} {c : Code} {dC : Nat → ClassId} {dI : Nat → Nat → Nat} {cI cJ : ClassId} {A : Nat → Prop} (C0 : jCx p s m args meth c RX2 cX2_puts 6 (some .boolean) wsX2_puts) (hK : va_K (dC, dI) vwCl (jTy cI cJ) s) (hA : ∀ q : Nat, s.heap.size ≤ q → A q) (g0 : Nat) (gr : Nat) (gl : Nat) (gw : Nat) (gs : Nat) (th : Int32) (at_ : Int32) (ml : Nat → Int64) (md_l : Int32) (wd : Nat → Int32) (md : Int32) (sm : Nat → Int64) (fr : Int32) (no : Int32) :
    ∀ (n : Nat) (x5 : Int32) (rw : Nat → Int32) (mn : Int32) (r : Int32 × (Nat → Int32) × Int32 × (Nat → Int32) × Int32), jL_X2_puts_32 wd md sm n x5 rw mn = some r → ∀ (H : Heap) (locs : List Loc) (ls : Array Slot), va_P (dC, dI) vwCl (wM cI cJ g0 gr gl gw gs th rw mn at_ ml md_l wd md sm fr no) H → va_D A (wM cI cJ g0 gr gl gw gs th rw mn at_ ml md_l wd md sm fr no) → va_S A s.heap H locs → lv_has ls 6 [(0, .ref g0), (5, .int x5)] → W p l e ({ frames := 4, cells := 0, slots := 0, locals := 102 } : Room) s m args below meth c H locs 0 0 (MQ below (va_Qi (fun (v : Int32) (_ : Unit) => v = r.1) (fun (_ : Unit) t => jPo dC dI cI cJ (wM cI cJ g0 gr gl gw gs th r.2.1 r.2.2.1 at_ ml md_l r.2.2.2.1 r.2.2.2.2 sm fr no) A t) A) args s 0 0 A) (F0 m 32 ls []) := by
  obtain ⟨hx, hb, hr, hml, hown, hts, hlocks⟩ := id C0
  intro n
  induction n with
  | zero =>
    intro x5 rw mn r hj
    exact nomatch (show (none : Option (Int32 × (Nat → Int32) × Int32 × (Nat → Int32) × Int32)) = some r from hj)
  | succ n ih =>
    intro x5 rw mn r hj H locs ls hP hD hS hl
    replace hj : (if md ≤ x5 then (some ((1 : Int32), rw, mn, wd, md)) else (jix x5 4200 (jix mn 4096 (jL_X2_puts_32 wd md sm n (x5 + (1 : Int32)) (upd rw mn.toNatClampNeg (wd x5.toNatClampNeg)) (mn + (1 : Int32)))))) = some r := hj
    refine lv_iload hx hb dX2_puts_32 (lv_at hl 1 rfl) ?_
    refine lv_aload_n hx hb dX2_puts_34 rfl (lv_at hl 0 rfl) ?_
    refine va_get (D := (dC, dI)) (ci := 2) (v := .int md) (C := RX2) (T := TX2) (N := 11) hx hb hts inn_X2_puts_X2 hown hK hP 0 rfl rfl 7 (by decide) (hts (.fieldLink RX2 47 "SelfEndingCodesModel" "made" "I") (by decide +kernel)) (fun _ h9 => h9) rfl dX2_puts_35 ?_
    refine lv_icmp_ge (tgt := 73) hx hb dX2_puts_38 (by decide) (fun c3201 => ?_) (fun c3201 => ?_)
    · replace hj := ja_pos c3201 hj
      refine lv_iconst (v := (1 : Int32)) hx hb dX2_puts_73 (by decide) ?_
      have hr9 : ((1 : Int32), rw, mn, wd, md) = r := Option.some.inj hj
      subst hr9
      exact W.zret (v := (1 : Int32)) hx hb hr (by decide) (fun t ht hW => ⟨⟨(1 : Int32), (), rfl, rfl, by rw [ht]; exact hP, va_K.moved hW.alike hK, hD⟩, hS.F ht⟩) hS.2.2 dX2_puts_74
    · replace hj := ja_neg c3201 hj
      refine lv_aload_n hx hb dX2_puts_41 rfl (lv_at hl 0 rfl) ?_
      refine va_get (D := (dC, dI)) (ci := 2) (v := .ref gr) (C := RX2) (T := TX2) (N := 11) hx hb hts inn_X2_puts_X2 hown hK hP 0 rfl rfl 1 (by decide) (hts (.fieldLink RX2 7 "SelfEndingCodesModel" "row" "[I") (by decide +kernel)) (fun _ h9 => h9) rfl dX2_puts_42 ?_
      refine lv_aload_n hx hb dX2_puts_45 rfl (lv_at hl 0 rfl) ?_
      refine va_get (D := (dC, dI)) (ci := 2) (v := .int mn) (C := RX2) (T := TX2) (N := 11) hx hb hts inn_X2_puts_X2 hown hK hP 0 rfl rfl 2 (by decide) (hts (.fieldLink RX2 82 "SelfEndingCodesModel" "many" "I") (by decide +kernel)) (fun _ h9 => h9) rfl dX2_puts_46 ?_
      refine lv_aload_n hx hb dX2_puts_49 rfl (lv_at hl 0 rfl) ?_
      refine va_get (D := (dC, dI)) (ci := 2) (v := .ref gw) (C := RX2) (T := TX2) (N := 11) hx hb hts inn_X2_puts_X2 hown hK hP 0 rfl rfl 6 (by decide) (hts (.fieldLink RX2 17 "SelfEndingCodesModel" "word" "[I") (by decide +kernel)) (fun _ h9 => h9) rfl dX2_puts_50 ?_
      refine lv_iload hx hb dX2_puts_53 (lv_at hl 1 rfl) ?_
      obtain ⟨hin, hj⟩ := ja_ix hj
      refine va_iald hx hb hK hP 3 0 rfl rfl hin dX2_puts_55 ?_
      obtain ⟨hin, hj⟩ := ja_ix hj
      refine va_iast hx hb hK hP hD hS 1 0 rfl rfl hin dX2_puts_56 (fun H locs hP hD hS => ?_)
      have hP : va_P (dC, dI) vwCl (wM cI cJ g0 gr gl gw gs th (upd rw mn.toNatClampNeg (wd x5.toNatClampNeg)) mn at_ ml md_l wd md sm fr no) H := hP
      have hD : va_D A (wM cI cJ g0 gr gl gw gs th (upd rw mn.toNatClampNeg (wd x5.toNatClampNeg)) mn at_ ml md_l wd md sm fr no) := hD
      refine lv_aload_n hx hb dX2_puts_57 rfl (lv_at hl 0 rfl) ?_
      refine lv_dup hx hb dX2_puts_58 rfl ?_
      refine va_get (D := (dC, dI)) (ci := 2) (v := .int mn) (C := RX2) (T := TX2) (N := 11) hx hb hts inn_X2_puts_X2 hown hK hP 0 rfl rfl 2 (by decide) (hts (.fieldLink RX2 82 "SelfEndingCodesModel" "many" "I") (by decide +kernel)) (fun _ h9 => h9) rfl dX2_puts_59 ?_
      refine lv_iconst (v := (1 : Int32)) hx hb dX2_puts_62 (by decide) ?_
      refine lv_iadd hx hb dX2_puts_63 ?_
      refine va_put (D := (dC, dI)) (ci := 2) (v := .int (mn + (1 : Int32))) (ty := .int) (C := RX2) (T := TX2) (N := 11) hx hb hts inn_X2_puts_X2 tyX2 tyX2_ok nmX2 hown hK hP hD hS 0 rfl rfl 2 (by decide) (hts (.fieldLink RX2 82 "SelfEndingCodesModel" "many" "I") (by decide +kernel)) (fun _ h9 => h9) rfl (by decide +kernel) rfl rfl (Nat.le_of_ble_eq_true rfl) dX2_puts_64 (fun H locs hP hD hS => ?_)
      have hP : va_P (dC, dI) vwCl (wM cI cJ g0 gr gl gw gs th (upd rw mn.toNatClampNeg (wd x5.toNatClampNeg)) (mn + (1 : Int32)) at_ ml md_l wd md sm fr no) H := hP
      have hD : va_D A (wM cI cJ g0 gr gl gw gs th (upd rw mn.toNatClampNeg (wd x5.toNatClampNeg)) (mn + (1 : Int32)) at_ ml md_l wd md sm fr no) := hD
      refine lv_iinc (v := x5 + (1 : Int32)) (lv' := [(5, .int (x5 + (1 : Int32))), (0, .ref g0)]) hx hb dX2_puts_67 hl (k := 1) rfl (congrArg (fun z => x5 + z) (by decide)) (by decide) rfl (fun ls hl => ?_)
      refine lv_goto (tgt := 32) hx hb dX2_puts_70 (by decide) ?_
      exact ih (x5 + (1 : Int32)) (upd rw mn.toNatClampNeg (wd x5.toNatClampNeg)) (mn + (1 : Int32)) _ hj _ _ _ (hP) (hD) hS (lv_sub hl [1, 0] rfl)
def j_X2_puts (rw : Nat → Int32) (mn : Int32) (wd : Nat → Int32) (md : Int32) (sm : Nat → Int64) (a1 : Int32) (a2 : Int32) (a3 : Int64) : Option (Int32 × (Nat → Int32) × Int32 × (Nat → Int32) × Int32) :=
  (j_X2_lengthOf sm a1 a2 a3).bind fun v1 => (if v1 ≤ (((4096 : Int32) - mn).toInt64) then ((j_X2_make wd md sm a1 a2 a3).bind fun (v3, v4) => (jL_X2_puts_32 v3 v4 sm jF (0 : Int32) rw mn)) else (some ((0 : Int32), rw, mn, wd, md)))
set_option maxHeartbeats 4000000 in
set_option maxRecDepth 100000 in
theorem c_X2_puts (l : Launch) (dC : Nat → ClassId) (dI : Nat → Nat → Nat) (cI cJ : ClassId) (g0 : Nat) (gr : Nat) (gl : Nat) (gw : Nat) (gs : Nat) (sz : Nat) (th : Int32) (rw : Nat → Int32) (mn : Int32) (at_ : Int32) (ml : Nat → Int64) (md_l : Int32) (wd : Nat → Int32) (md : Int32) (sm : Nat → Int64) (fr : Int32) (no : Int32) (a1 : Int32) (a2 : Int32) (a3 : Int64) (r : Int32 × (Nat → Int32) × Int32 × (Nat → Int32) × Int32) (hj : j_X2_puts rw mn wd md sm a1 a2 a3 = some r) : Met l yX2_puts wsX2_puts ({ frames := 4, cells := 0, slots := 0, locals := 102 } : Room) (va_Pc [.ref g0, .int a1, .int a2, .long a3] (fun U => jPr dC dI cI cJ (wM cI cJ g0 gr gl gw gs th rw mn at_ ml md_l wd md sm fr no) sz U)) (va_Qi (fun (v : Int32) (_ : Unit) => v = r.1) (fun (_ : Unit) t => jPo dC dI cI cJ (wM cI cJ g0 gr gl gw gs th r.2.1 r.2.2.1 at_ ml md_l r.2.2.2.1 r.2.2.2.2 sm fr no) (va_A (wM cI cJ g0 gr gl gw gs th rw mn at_ ml md_l wd md sm fr no) sz) t) (va_A (wM cI cJ g0 gr gl gw gs th rw mn at_ ml md_l wd md sm fr no) sz)) 0 0 (va_A (wM cI cJ g0 gr gl gw gs th rw mn at_ ml md_l wd md sm fr no) sz) := by
  refine Met.ofW (cc := cX2_puts) (maxL := 6) (ret := (some .boolean)) (by decide) rfl ?_
  intro p e s m args below meth c s₁ B hml hv
  obtain ⟨rfl, ⟨hsz, hP, hK, hD0⟩⟩ := hv
  have hx := B.exec
  have hb := B.bytes
  have hr := B.returns
  have hts := atoms_spec (ws := wsX2_puts) B.pre
  have hown : s.vm.findClass RX2 = some m.cls := findClass_of_methodNamed B.named
  have hlocks := B.notSynchronized
  have C0 := jCx.of hx hb hr hml hown hts hlocks
  subst hsz
  have hD := hD0.self (sz := s.heap.size)
  generalize hAe : va_A (wM cI cJ g0 gr gl gw gs th rw mn at_ ml md_l wd md sm fr no) s.heap.size = A at hD ⊢
  have hA : ∀ q : Nat, s.heap.size ≤ q → A q := fun q h => by rw [← hAe]; exact Or.inr h
  have hS : va_S A s.heap s.heap [] := va_S.rf
  have hP : va_P (dC, dI) vwCl (wM cI cJ g0 gr gl gw gs th rw mn at_ ml md_l wd md sm fr no) s.heap := hP
  have hl := lv_entry ([.ref g0, .int a1, .int a2, .long a3]) (n := 6) (Nat.le_of_ble_eq_true rfl)
  rw [lg_entry_eq]
  generalize (lg_sl ([.ref g0, .int a1, .int a2, .long a3]) ++ List.replicate (6 - (lg_sl ([.ref g0, .int a1, .int a2, .long a3])).length) Slot.unset).toArray = ls at hl ⊢
  have hl : lv_has ls 6 [(0, .ref g0), (1, .int a1), (2, .int a2), (3, .long a3)] := hl
  clear hD0 hAe
  unfold j_X2_puts at hj
  refine lv_aload_n hx hb dX2_puts_0 rfl (lv_at hl 0 rfl) ?_
  refine lv_iload_n hx hb dX2_puts_1 rfl (lv_at hl 1 rfl) ?_
  refine lv_iload_n hx hb dX2_puts_2 rfl (lv_at hl 2 rfl) ?_
  refine lv_lload_n hx hb dX2_puts_3 rfl (lv_at hl 3 rfl) ?_
  obtain ⟨v1, hc, hj⟩ := ja_bd hj
  try dsimp only at hj
  have hPc := hP.sub (ws' := (wM cI cJ g0 gr gl gw gs th rw mn at_ ml md_l wd md sm fr no)) [0, 1, 2, 3, 4] rfl
  have hDc := hD.sub (ws' := (wM cI cJ g0 gr gl gw gs th rw mn at_ ml md_l wd md sm fr no)) [0, 1, 2, 3, 4] (by decide) rfl
  have hFc := va_free (wc := (wM cI cJ g0 gr gl gw gs th rw mn at_ ml md_l wd md sm fr no)) hD hS hA [0, 1, 2, 3, 4] rfl
  refine va_calll (va_runV (As := [.int a1, .int a2, .long a3]) (rest := []) ⟨hx, hb, hml, hown, hts⟩ (c_X2_lengthOf l dC dI cI cJ g0 gr gl gw gs s.heap.size th rw mn at_ ml md_l wd md sm fr no a1 a2 a3 _ hc) (cwV 3 hts gX2_puts_X2_lengthOf rfl rfl rfl (by decide +kernel) ⟨Nat.le_of_ble_eq_true rfl, Nat.le_of_ble_eq_true rfl⟩) ⟨fun a U g mk q => ⟨q.1, jPr.blind q.2⟩, va_recv hK hPc (ci := 2) (q0 := 0) rfl rfl, fun U hU hW => ⟨rfl, jPr.mk hU hW hPc hK hDc⟩⟩ rfl rfl hl.1 rfl (lv_room (Nat.le_of_ble_eq_true rfl)) dX2_puts_4 ⟨Nat.le_of_ble_eq_true rfl, Nat.le_of_ble_eq_true rfl⟩) hS (fun q _ h => hFc q h) hFc (fun rr u t H1 locs ht hvm hw9 hB hz1 hk1 hS => ?_)
  have hw8 : v1 = rr := hw9.symm
  subst hw8
  obtain ⟨hP1, hK1, hD1⟩ := hB
  rw [ht] at hP1
  obtain ⟨hP, hD⟩ := va_join (wr := ([] : va_W)) (w1 := (wM cI cJ g0 gr gl gw gs th rw mn at_ ml md_l wd md sm fr no)) hP hD [0, 1, 2, 3, 4] [] rfl rfl (by decide) (by decide) hk1 hFc hP1 hD1
  clear hk1 hP1 hK1 hD1 hvm hz1 hPc hDc hFc
  generalize H1 = H at hP hS ⊢
  have hP : va_P (dC, dI) vwCl (wM cI cJ g0 gr gl gw gs th rw mn at_ ml md_l wd md sm fr no) H := hP
  have hD : va_D A (wM cI cJ g0 gr gl gw gs th rw mn at_ ml md_l wd md sm fr no) := hD
  refine lv_sipush (v := (4096 : Int32)) hx hb dX2_puts_7 (by decide) ?_
  refine lv_aload_n hx hb dX2_puts_10 rfl (lv_at hl 0 rfl) ?_
  refine va_get (D := (dC, dI)) (ci := 2) (v := .int mn) (C := RX2) (T := TX2) (N := 11) hx hb hts inn_X2_puts_X2 hown hK hP 0 rfl rfl 2 (by decide) (hts (.fieldLink RX2 82 "SelfEndingCodesModel" "many" "I") (by decide +kernel)) (fun _ h9 => h9) rfl dX2_puts_11 ?_
  refine lv_isub hx hb dX2_puts_14 ?_
  refine lv_i2l hx hb dX2_puts_15 rfl ?_
  refine W.lcmp hx hb dX2_puts_16 ?_
  refine lv_if_le (tgt := 22) hx hb dX2_puts_17 (by decide) (fun c2 => ?_) (fun c2 => ?_)
  · replace hj := ja_pos ((lg_cmp_le v1 (((4096 : Int32) - mn).toInt64)).mp c2) hj
    refine lv_aload_n hx hb dX2_puts_22 rfl (lv_at hl 0 rfl) ?_
    refine lv_iload_n hx hb dX2_puts_23 rfl (lv_at hl 1 rfl) ?_
    refine lv_iload_n hx hb dX2_puts_24 rfl (lv_at hl 2 rfl) ?_
    refine lv_lload_n hx hb dX2_puts_25 rfl (lv_at hl 3 rfl) ?_
    obtain ⟨⟨v3, v4⟩, hc, hj⟩ := ja_bd hj
    try dsimp only at hj
    have hPc := hP.sub (ws' := (wM cI cJ g0 gr gl gw gs th rw mn at_ ml md_l wd md sm fr no)) [0, 1, 2, 3, 4] rfl
    have hDc := hD.sub (ws' := (wM cI cJ g0 gr gl gw gs th rw mn at_ ml md_l wd md sm fr no)) [0, 1, 2, 3, 4] (by decide) rfl
    have hFc := va_free (wc := (wM cI cJ g0 gr gl gw gs th rw mn at_ ml md_l wd md sm fr no)) hD hS hA [0, 1, 2, 3, 4] rfl
    refine va_callv (va_runV (As := [.int a1, .int a2, .long a3]) (rest := []) ⟨hx, hb, hml, hown, hts⟩ (c_X2_make l dC dI cI cJ g0 gr gl gw gs H.size th rw mn at_ ml md_l wd md sm fr no a1 a2 a3 _ hc) (cwV 3 hts gX2_puts_X2_make rfl rfl rfl (by decide +kernel) ⟨Nat.le_of_ble_eq_true rfl, Nat.le_of_ble_eq_true rfl⟩) ⟨fun a U g mk q => ⟨q.1, jPr.blind q.2⟩, va_recv hK hPc (ci := 2) (q0 := 0) rfl rfl, fun U hU hW => ⟨rfl, jPr.mk hU hW hPc hK hDc⟩⟩ rfl rfl hl.1 rfl (lv_room (Nat.le_of_ble_eq_true rfl)) dX2_puts_26 ⟨Nat.le_of_ble_eq_true rfl, Nat.le_of_ble_eq_true rfl⟩) hS (fun q _ h => hFc q h) hFc (fun u t H1 locs ht hvm hw9 hB hz1 hk1 hS => ?_)
    obtain ⟨hP1, hK1, hD1⟩ := hB
    rw [ht] at hP1
    obtain ⟨hP, hD⟩ := va_join (wr := ([] : va_W)) (w1 := (wM cI cJ g0 gr gl gw gs th rw mn at_ ml md_l v3 v4 sm fr no)) hP hD [0, 1, 2, 3, 4] [] rfl rfl (by decide) (by decide) hk1 hFc hP1 hD1
    clear hk1 hP1 hK1 hD1 hvm hz1 hPc hDc hFc
    generalize H1 = H at hP hS ⊢
    have hP : va_P (dC, dI) vwCl (wM cI cJ g0 gr gl gw gs th rw mn at_ ml md_l v3 v4 sm fr no) H := hP
    have hD : va_D A (wM cI cJ g0 gr gl gw gs th rw mn at_ ml md_l v3 v4 sm fr no) := hD
    refine lv_iconst (v := (0 : Int32)) hx hb dX2_puts_29 (by decide) ?_
    refine lv_istore (lv' := [(5, .int (0 : Int32)), (0, .ref g0), (1, .int a1), (2, .int a2), (3, .long a3)]) hx hb dX2_puts_30 hl (by decide) rfl (fun ls hl => ?_)
    exact s_X2_puts_32 C0 hK hA g0 gr gl gw gs th at_ ml md_l v3 v4 sm fr no jF (0 : Int32) rw mn _ hj _ _ _ (hP) (hD) hS (lv_sub hl [1, 0] rfl)
  · replace hj := ja_neg (fun h9 => c2 ((lg_cmp_le v1 (((4096 : Int32) - mn).toInt64)).mpr h9)) hj
    refine lv_iconst (v := (0 : Int32)) hx hb dX2_puts_20 (by decide) ?_
    have hr9 : ((0 : Int32), rw, mn, wd, md) = r := Option.some.inj hj
    subst hr9
    exact W.zret (v := (0 : Int32)) hx hb hr (by decide) (fun t ht hW => ⟨⟨(0 : Int32), (), rfl, rfl, by rw [ht]; exact hP, va_K.moved hW.alike hK, hD⟩, hS.F ht⟩) hS.2.2 dX2_puts_21

