/-! Throwing: what the exceptions' rows ask of the start, and how it goes down to a callee. -/
def jtry {α β : Type} (o : Option (Option α)) (f : α → Option (Option β)) : Option (Option β) := o.bind fun q => match q with
  | none => some none
  | some v => f v
theorem ja_try {α β : Type} {o : Option (Option α)} {f : α → Option (Option β)} {r : β} (h : jtry o f = some (some r)) : ∃ v, o = some (some v) ∧ f v = some (some r) := by
  cases o with
  | none => cases h
  | some q => cases q with
    | none => cases h
    | some v => exact ⟨v, rfl, h⟩
theorem ja_tryx {α β : Type} {o : Option (Option α)} {f : α → Option (Option β)} (h : jtry o f = some none) : o = some none ∨ ∃ v, o = some (some v) ∧ f v = some none := by
  cases o with
  | none => cases h
  | some q => cases q with
    | none => exact Or.inl rfl
    | some v => exact Or.inr ⟨v, rfl, h⟩
theorem jP_keep {D : va_G} {cl : List vw_C} {ws : va_W} {H : Heap} {t : State} (h : va_P D cl ws H) (hk : ∀ q : Nat, q < H.size → t.heap[q]? = H[q]?) : va_P D cl ws t.heap := h.kept (fun k q hq => hk q.1 (h k q hq).lt)
theorem jF_keep {A : Nat → Prop} {s t : State} {H : Heap} {locs : List Loc} (hS : va_S A s.heap H locs) (hz : H.size ≤ t.heap.size) (hk : ∀ q : Nat, q < H.size → t.heap[q]? = H[q]?) : va_F A s t :=
  ⟨Nat.le_trans hS.1 hz, fun q h1 h2 => by rw [hk q (Nat.lt_of_lt_of_le h1 hS.1)]; exact hS.2.1 q h1 h2⟩
def jWA : List Cond := [.declares (Bundle.initS "java/lang/RuntimeException"), .declares (Bundle.initS "java/lang/Exception"), .declares (Bundle.initS Bundle.tN), .castable "java/lang/IllegalArgumentException" "java/lang/IllegalArgumentException"]
def jWB : List Cond := [.declares (Bundle.initS "java/lang/RuntimeException"), .declares (Bundle.initS "java/lang/Exception"), .declares (Bundle.initS Bundle.tN), .castable "java/lang/IndexOutOfBoundsException" "java/lang/IndexOutOfBoundsException"]
def jWs (L : List Cond) (U : State) : Prop := ∀ w ∈ L, va_Nw w U
def jSt (U : State) : Prop := (∃ sa, vk_R RX1 54 "1 to 64 bits can be pushed" sa U) ∧ (∃ sa, vk_R RX1 76 "the row has no such place" sa U) ∧ (∃ sa, vk_R RX1 82 "the list has no such number" sa U) ∧ (∃ sa, vk_R RX1 91 "no such parameters to choose from" sa U) ∧ (∃ sa, vk_R RX1 112 "what stands for it is above 2^62" sa U) ∧ (∃ sa, vk_R RX1 118 "no such kind or parameter" sa U) ∧ (∃ sa, vk_R RX1 120 "no such number" sa U) ∧ (∃ sa, vk_R RX1 122 "no such length" sa U)
def jXs (A : Nat → Prop) (U : State) : Prop := vx_Zq Bundle.tN "UNASSIGNED_STACK" Bundle.steD A U U.heap ∧ vx_Zq Bundle.tN "SUPPRESSED_SENTINEL" Bundle.listD A U U.heap ∧ jSt U ∧ jWs jWA U ∧ jWs jWB U
theorem jXs.str0 {A : Nat → Prop} {U : State} (h : jXs A U) : ∃ sa, vk_R RX1 54 "1 to 64 bits can be pushed" sa U := h.2.2.1.1
theorem jXs.str1 {A : Nat → Prop} {U : State} (h : jXs A U) : ∃ sa, vk_R RX1 76 "the row has no such place" sa U := h.2.2.1.2.1
theorem jXs.str2 {A : Nat → Prop} {U : State} (h : jXs A U) : ∃ sa, vk_R RX1 82 "the list has no such number" sa U := h.2.2.1.2.2.1
theorem jXs.str3 {A : Nat → Prop} {U : State} (h : jXs A U) : ∃ sa, vk_R RX1 91 "no such parameters to choose from" sa U := h.2.2.1.2.2.2.1
theorem jXs.str4 {A : Nat → Prop} {U : State} (h : jXs A U) : ∃ sa, vk_R RX1 112 "what stands for it is above 2^62" sa U := h.2.2.1.2.2.2.2.1
theorem jXs.str5 {A : Nat → Prop} {U : State} (h : jXs A U) : ∃ sa, vk_R RX1 118 "no such kind or parameter" sa U := h.2.2.1.2.2.2.2.2.1
theorem jXs.str6 {A : Nat → Prop} {U : State} (h : jXs A U) : ∃ sa, vk_R RX1 120 "no such number" sa U := h.2.2.1.2.2.2.2.2.2.1
theorem jXs.str7 {A : Nat → Prop} {U : State} (h : jXs A U) : ∃ sa, vk_R RX1 122 "no such length" sa U := h.2.2.1.2.2.2.2.2.2.2
theorem jXs.wA {A : Nat → Prop} {U : State} (h : jXs A U) (args : Array Value) : ∀ w ∈ jWA, w.before args U = true := fun w hw => va_Nw.use (by revert w hw; decide +kernel) (h.2.2.2.1 w hw)
theorem jXs.wB {A : Nat → Prop} {U : State} (h : jXs A U) (args : Array Value) : ∀ w ∈ jWB, w.before args U = true := fun w hw => va_Nw.use (by revert w hw; decide +kernel) (h.2.2.2.2 w hw)
theorem jSt.warm {s U : State} (hW : s.WarmedH U.vm) (h : jSt s) : jSt U := by
  obtain ⟨⟨a0, h0⟩, ⟨a1, h1⟩, ⟨a2, h2⟩, ⟨a3, h3⟩, ⟨a4, h4⟩, ⟨a5, h5⟩, ⟨a6, h6⟩, ⟨a7, h7⟩⟩ := h
  exact ⟨⟨a0, vk_R.warm hW h0⟩, ⟨a1, vk_R.warm hW h1⟩, ⟨a2, vk_R.warm hW h2⟩, ⟨a3, vk_R.warm hW h3⟩, ⟨a4, vk_R.warm hW h4⟩, ⟨a5, vk_R.warm hW h5⟩, ⟨a6, vk_R.warm hW h6⟩, ⟨a7, vk_R.warm hW h7⟩⟩
theorem jSt.same {u U : State} (hv : U.vm = u.vm) (h : jSt u) : jSt U := by
  obtain ⟨⟨a0, h0⟩, ⟨a1, h1⟩, ⟨a2, h2⟩, ⟨a3, h3⟩, ⟨a4, h4⟩, ⟨a5, h5⟩, ⟨a6, h6⟩, ⟨a7, h7⟩⟩ := h
  exact ⟨⟨a0, vk_R.same hv h0⟩, ⟨a1, vk_R.same hv h1⟩, ⟨a2, vk_R.same hv h2⟩, ⟨a3, vk_R.same hv h3⟩, ⟨a4, vk_R.same hv h4⟩, ⟨a5, vk_R.same hv h5⟩, ⟨a6, vk_R.same hv h6⟩, ⟨a7, vk_R.same hv h7⟩⟩
theorem jWs.warmA {s U : State} (hW : s.WarmedH U.vm) (h : jWs jWA s) : jWs jWA U := by
  have h0 := h _ (List.mem_of_getElem? (i := 0) rfl)
  have h1 := h _ (List.mem_of_getElem? (i := 1) rfl)
  have h2 := h _ (List.mem_of_getElem? (i := 2) rfl)
  have h3 := h _ (List.mem_of_getElem? (i := 3) rfl)
  exact List.forall_mem_cons.mpr ⟨va_Nw.warmD hW h0, List.forall_mem_cons.mpr ⟨va_Nw.warmD hW h1, List.forall_mem_cons.mpr ⟨va_Nw.warmD hW h2, List.forall_mem_cons.mpr ⟨va_Nw.warmC hW h3, fun _ h => absurd h List.not_mem_nil⟩⟩⟩⟩
theorem jWs.warmB {s U : State} (hW : s.WarmedH U.vm) (h : jWs jWB s) : jWs jWB U := by
  have h0 := h _ (List.mem_of_getElem? (i := 0) rfl)
  have h1 := h _ (List.mem_of_getElem? (i := 1) rfl)
  have h2 := h _ (List.mem_of_getElem? (i := 2) rfl)
  have h3 := h _ (List.mem_of_getElem? (i := 3) rfl)
  exact List.forall_mem_cons.mpr ⟨va_Nw.warmD hW h0, List.forall_mem_cons.mpr ⟨va_Nw.warmD hW h1, List.forall_mem_cons.mpr ⟨va_Nw.warmD hW h2, List.forall_mem_cons.mpr ⟨va_Nw.warmC hW h3, fun _ h => absurd h List.not_mem_nil⟩⟩⟩⟩
theorem jWs.same {L : List Cond} (hL : ∀ w ∈ L, w.onTables = true) {u U : State} (hv : u.vm = U.vm) (h : jWs L u) : jWs L U := fun w hw => va_Nw.same (hL w hw) hv (h w hw)
theorem jXs.blind {A : Nat → Prop} {U : State} {g : JFrame} {mk : MethodId} {a : Array Value} (h : jXs A U) : jXs A (U.calling g mk a) :=
  ⟨vx_Zq.moved (u := U) (U := U.calling g mk a) (Vm.Alike.refl U.vm) h.1, vx_Zq.moved (u := U) (U := U.calling g mk a) (Vm.Alike.refl U.vm) h.2.1, jSt.same (u := U) rfl h.2.2.1, jWs.same (by decide +kernel) (u := U) rfl h.2.2.2.1, jWs.same (by decide +kernel) (u := U) rfl h.2.2.2.2⟩
theorem jXs.down {A B : Nat → Prop} {s U : State} {H : Heap} {locs : List Loc} (hU : U.heap = H) (hW : s.WarmedH U.vm) (hS : va_S A s.heap H locs) (hF : ∀ q, B q → A q) (h : jXs A s) : jXs B U :=
  ⟨((vx_Zq.kept (H1 := U.heap) h.1 (fun a h1 h2 => by rw [hU]; exact hS.2.1 a h1 h2)).narrow hF).moved hW.alike, ((vx_Zq.kept (H1 := U.heap) h.2.1 (fun a h1 h2 => by rw [hU]; exact hS.2.1 a h1 h2)).narrow hF).moved hW.alike, jSt.warm hW h.2.2.1, jWs.warmA hW h.2.2.2.1, jWs.warmB hW h.2.2.2.2⟩

def j_X1_requireNumber (a1 : Int64) : Option (Option (Unit)) :=
  if a1 < (1 : Int64) then (some none) else (if a1 ≤ (4611686018427387904 : Int64) then (some (some ())) else (some none))
set_option maxHeartbeats 4000000 in
set_option maxRecDepth 100000 in
theorem c_X1_requireNumber (l : Launch) (dC : Nat → ClassId) (dI : Nat → Nat → Nat) (cI cJ : ClassId) (sz : Nat) (a1 : Int64) (r : Unit) (hj : j_X1_requireNumber a1 = some (some r)) : Met l yX1_requireNumber wsX1_requireNumber ({ frames := 0, cells := 0, slots := 0, locals := 0 } : Room) (va_Pc [.long a1] (fun U => jPr dC dI cI cJ ([] : va_W) sz U)) (va_Qv (fun _ : Unit => True) (fun (_ : Unit) t => jPo dC dI cI cJ [] (va_A ([] : va_W) sz) t) (va_A ([] : va_W) sz)) 0 0 (va_A ([] : va_W) sz) := by
  refine Met.ofW (cc := cX1_requireNumber) (maxL := 2) (ret := none) (by decide) rfl ?_
  intro p e s m args below meth c s₁ B hml hv
  obtain ⟨rfl, ⟨hsz, hP, hK, hD0⟩⟩ := hv
  have hx := B.exec
  have hb := B.bytes
  have hr := B.returns
  have hts := atoms_spec (ws := wsX1_requireNumber) B.pre
  have hown : s.vm.findClass RX1 = some m.cls := findClass_of_methodNamed B.named
  have hlocks := B.notSynchronized
  have C0 := jCx.of hx hb hr hml hown hts hlocks
  subst hsz
  have hD := hD0.self (sz := s.heap.size)
  generalize hAe : va_A ([] : va_W) s.heap.size = A at hD ⊢
  have hA : ∀ q : Nat, s.heap.size ≤ q → A q := fun q h => by rw [← hAe]; exact Or.inr h
  have hS : va_S A s.heap s.heap [] := va_S.rf
  have hP : va_P (dC, dI) vwCl ([] : va_W) s.heap := hP
  have hl := lv_entry ([.long a1]) (n := 2) (Nat.le_of_ble_eq_true rfl)
  rw [lg_entry_eq]
  generalize (lg_sl ([.long a1]) ++ List.replicate (2 - (lg_sl ([.long a1])).length) Slot.unset).toArray = ls at hl ⊢
  have hl : lv_has ls 2 [(0, .long a1)] := hl
  clear hD0 hAe
  unfold j_X1_requireNumber at hj
  refine lv_lload_n hx hb dX1_requireNumber_0 rfl (lv_at hl 0 rfl) ?_
  refine lv_lconst (v := (1 : Int64)) hx hb dX1_requireNumber_1 (by decide) ?_
  refine W.lcmp hx hb dX1_requireNumber_2 ?_
  refine lv_if_lt (tgt := 14) hx hb dX1_requireNumber_3 (by decide) (fun c1 => ?_) (fun c1 => ?_)
  · replace hj := ja_pos ((lg_cmp_lt a1 (1 : Int64)).mp c1) hj
    cases hj
  · replace hj := ja_neg (fun h9 => c1 ((lg_cmp_lt a1 (1 : Int64)).mpr h9)) hj
    refine lv_lload_n hx hb dX1_requireNumber_6 rfl (lv_at hl 0 rfl) ?_
    refine lv_ldc2 (v := (4611686018427387904 : Int64)) hx hb hown (hts (.constantLong RX1 106 (4611686018427387904)) (by decide +kernel)) dX1_requireNumber_7 ?_
    refine W.lcmp hx hb dX1_requireNumber_10 ?_
    refine lv_if_le (tgt := 24) hx hb dX1_requireNumber_11 (by decide) (fun c2 => ?_) (fun c2 => ?_)
    · replace hj := ja_pos ((lg_cmp_le a1 (4611686018427387904 : Int64)).mp c2) hj
      have hr9 : () = r := Option.some.inj (Option.some.inj hj)
      subst hr9
      exact W.vret hx hb hr (fun t ht hW => ⟨⟨(), rfl, trivial, by rw [ht]; exact hP, va_K.moved hW.alike hK, hD⟩, hS.F ht⟩) hS.2.2 dX1_requireNumber_24
    · replace hj := ja_neg (fun h9 => c2 ((lg_cmp_le a1 (4611686018427387904 : Int64)).mpr h9)) hj
      cases hj
theorem xw_X1_requireNumber_A {args : Array Value} {s : State} (hts : ∀ w ∈ wsX1_requireNumber, w.before args s = true) : ∀ w ∈ (vx_atS RX1 56 "java/lang/IllegalArgumentException" ["java/lang/RuntimeException", "java/lang/Exception"]).filter goodWord, w.before args s = true := fun w h => hts w (List.mem_cons_of_mem _ (List.mem_append_right _ h))
theorem xg_X1_requireNumber_A : ∀ w ∈ Cond.classLink RX1 52 "java/lang/IllegalArgumentException" :: Cond.initialized "java/lang/IllegalArgumentException" :: (vx_atS RX1 56 "java/lang/IllegalArgumentException" ["java/lang/RuntimeException", "java/lang/Exception"]), vx_ot w = true := by decide +kernel
set_option maxHeartbeats 4000000 in
set_option maxRecDepth 100000 in
theorem x_X1_requireNumber (l : Launch) (hlt : l.stackTraces = false) (dC : Nat → ClassId) (dI : Nat → Nat → Nat) (cI cJ : ClassId) (sz : Nat) (a1 : Int64) (hj : j_X1_requireNumber a1 = some none) : vx_Met l yX1_requireNumber wsX1_requireNumber ({ frames := 6, cells := 1, slots := 6, locals := 82 } : Room) (va_Pc [.long a1] (fun U => jPr dC dI cI cJ ([] : va_W) sz U ∧ jXs (va_A ([] : va_W) sz) U)) (va_Qv (fun _ : Unit => False) (fun _ _ => True) (va_A ([] : va_W) sz)) (vx_X (fun _ : Unit => True) (fun E _ t => E = "java/lang/IllegalArgumentException" ∧ jPo dC dI cI cJ ([] : va_W) (va_A ([] : va_W) sz) t) (va_A ([] : va_W) sz)) 1 6 (va_A ([] : va_W) sz) := by
  refine vx_ofW (cc := cX1_requireNumber) (maxL := 2) (ret := none) (by decide) rfl ?_
  intro p e s m args below meth c s₁ B hml htab hv
  obtain ⟨rfl, ⟨hsz, hP, hK, hD0⟩, hXs⟩ := hv
  have hx := B.exec
  have hb := B.bytes
  have hr := B.returns
  have hts := atoms_spec (ws := wsX1_requireNumber) B.pre
  have hown : s.vm.findClass RX1 = some m.cls := findClass_of_methodNamed B.named
  have hlocks := B.notSynchronized
  have C0 := jCx.of hx hb hr hml hown hts hlocks
  subst hsz
  have hD := hD0.self (sz := s.heap.size)
  generalize hAe : va_A ([] : va_W) s.heap.size = A at hD hXs ⊢
  have hA : ∀ q : Nat, s.heap.size ≤ q → A q := fun q h => by rw [← hAe]; exact Or.inr h
  have hS : va_S A s.heap s.heap [] := va_S.rf
  have hP : va_P (dC, dI) vwCl ([] : va_W) s.heap := hP
  have hl := lv_entry ([.long a1]) (n := 2) (Nat.le_of_ble_eq_true rfl)
  rw [lg_entry_eq]
  generalize (lg_sl ([.long a1]) ++ List.replicate (2 - (lg_sl ([.long a1])).length) Slot.unset).toArray = ls at hl ⊢
  have hl : lv_has ls 2 [(0, .long a1)] := hl
  clear hD0 hAe
  unfold j_X1_requireNumber at hj
  refine lv_lload_n hx hb dX1_requireNumber_0 rfl (lv_at hl 0 rfl) ?_
  refine lv_lconst (v := (1 : Int64)) hx hb dX1_requireNumber_1 (by decide) ?_
  refine W.lcmp hx hb dX1_requireNumber_2 ?_
  refine lv_if_lt (tgt := 14) hx hb dX1_requireNumber_3 (by decide) (fun c1 => ?_) (fun c1 => ?_)
  · replace hj := ja_pos ((lg_cmp_lt a1 (1 : Int64)).mp c1) hj
    obtain ⟨sa, hst⟩ := hXs.str6
    exact vx_throwS (XC := _) (text := "no such number") hx hb hlt hown (by decide +kernel) (by decide +kernel) (hts (.classLink RX1 52 "java/lang/IllegalArgumentException") (by decide +kernel)) (hts (.initialized "java/lang/IllegalArgumentException") (by decide +kernel)) hst (vx_hat (B := jWA) (xw_X1_requireNumber_A hts) (by decide +kernel) (hXs.wA _)) xg_X1_requireNumber_A hXs.1 hXs.2.1 hS (hl.1.trans hml.symm) dX1_requireNumber_14 dX1_requireNumber_17 dX1_requireNumber_18 dX1_requireNumber_20 dX1_requireNumber_23 (fun x hx9 => (htab x hx9).elim) (by decide) (by decide) (by decide) (by decide) hlocks (fun t hal hz hk => ⟨(), trivial, ⟨rfl, jP_keep hP hk, va_K.moved hal hK, hD⟩, jF_keep hS hz hk⟩) hS.2.2 (by decide) (by decide)
  · replace hj := ja_neg (fun h9 => c1 ((lg_cmp_lt a1 (1 : Int64)).mpr h9)) hj
    refine lv_lload_n hx hb dX1_requireNumber_6 rfl (lv_at hl 0 rfl) ?_
    refine lv_ldc2 (v := (4611686018427387904 : Int64)) hx hb hown (hts (.constantLong RX1 106 (4611686018427387904)) (by decide +kernel)) dX1_requireNumber_7 ?_
    refine W.lcmp hx hb dX1_requireNumber_10 ?_
    refine lv_if_le (tgt := 24) hx hb dX1_requireNumber_11 (by decide) (fun c2 => ?_) (fun c2 => ?_)
    · replace hj := ja_pos ((lg_cmp_le a1 (4611686018427387904 : Int64)).mp c2) hj
      cases hj
    · replace hj := ja_neg (fun h9 => c2 ((lg_cmp_le a1 (4611686018427387904 : Int64)).mpr h9)) hj
      obtain ⟨sa, hst⟩ := hXs.str6
      exact vx_throwS (XC := _) (text := "no such number") hx hb hlt hown (by decide +kernel) (by decide +kernel) (hts (.classLink RX1 52 "java/lang/IllegalArgumentException") (by decide +kernel)) (hts (.initialized "java/lang/IllegalArgumentException") (by decide +kernel)) hst (vx_hat (B := jWA) (xw_X1_requireNumber_A hts) (by decide +kernel) (hXs.wA _)) xg_X1_requireNumber_A hXs.1 hXs.2.1 hS (hl.1.trans hml.symm) dX1_requireNumber_14 dX1_requireNumber_17 dX1_requireNumber_18 dX1_requireNumber_20 dX1_requireNumber_23 (fun x hx9 => (htab x hx9).elim) (by decide) (by decide) (by decide) (by decide) hlocks (fun t hal hz hk => ⟨(), trivial, ⟨rfl, jP_keep hP hk, va_K.moved hal hK, hD⟩, jF_keep hS hz hk⟩) hS.2.2 (by decide) (by decide)

set_option maxRecDepth 100000 in
theorem inn_X1_add_X1 : ∀ w ∈ u_ws RX1 TX1 4, w ∈ wsX1_add := by decide +kernel
def j_X1_add (li : Nat → Int64) (ld : Int32) (a1 : Int64) : Option (Option (Int32 × (Nat → Int64) × Int32)) :=
  jtry (j_X1_requireNumber a1) fun _ => (if ld < (100 : Int32) then (jix ld 100 (some (some (ld + (1 : Int32), vp_updL li ld.toNatClampNeg a1, ld + (1 : Int32))))) else (some (some ((-1 : Int32), li, ld))))
set_option maxHeartbeats 4000000 in
set_option maxRecDepth 100000 in
theorem c_X1_add (l : Launch) (dC : Nat → ClassId) (dI : Nat → Nat → Nat) (cI cJ : ClassId) (b1 : Nat) (b0 : Nat) (bw : Nat) (bq : Nat) (bf : Nat) (sz : Nat) (w : Nat → Int64) (en : Int32) (pl : Int32) (cu : Int32) (li : Nat → Int64) (ld : Int32) (fb : Nat → Int64) (a1 : Int64) (r : Int32 × (Nat → Int64) × Int32) (hj : j_X1_add li ld a1 = some (some r)) : Met l yX1_add wsX1_add ({ frames := 1, cells := 0, slots := 0, locals := 21 } : Room) (va_Pc [.ref b1, .long a1] (fun U => jPr dC dI cI cJ (wC cJ b1 b0 bw bq bf w en pl cu li ld fb) sz U ∧ jNs U)) (va_Qi (fun (v : Int32) (_ : Unit) => v = r.1) (fun (_ : Unit) t => jPo dC dI cI cJ (wC cJ b1 b0 bw bq bf w en pl cu r.2.1 r.2.2 fb) (va_A (wC cJ b1 b0 bw bq bf w en pl cu li ld fb) sz) t) (va_A (wC cJ b1 b0 bw bq bf w en pl cu li ld fb) sz)) 0 0 (va_A (wC cJ b1 b0 bw bq bf w en pl cu li ld fb) sz) := by
  refine Met.ofW (cc := cX1_add) (maxL := 3) (ret := (some .int)) (by decide) rfl ?_
  intro p e s m args below meth c s₁ B hml hv
  obtain ⟨rfl, ⟨hsz, hP, hK, hD0⟩, hN⟩ := hv
  have hx := B.exec
  have hb := B.bytes
  have hr := B.returns
  have hts := atoms_spec (ws := wsX1_add) B.pre
  have hown : s.vm.findClass RX1 = some m.cls := findClass_of_methodNamed B.named
  have hlocks := B.notSynchronized
  have C0 := jCx.of hx hb hr hml hown hts hlocks
  subst hsz
  have hD := hD0.self (sz := s.heap.size)
  generalize hAe : va_A (wC cJ b1 b0 bw bq bf w en pl cu li ld fb) s.heap.size = A at hD ⊢
  have hA : ∀ q : Nat, s.heap.size ≤ q → A q := fun q h => by rw [← hAe]; exact Or.inr h
  have hS : va_S A s.heap s.heap [] := va_S.rf
  have hP : va_P (dC, dI) vwCl (wC cJ b1 b0 bw bq bf w en pl cu li ld fb) s.heap := hP
  have hl := lv_entry ([.ref b1, .long a1]) (n := 3) (Nat.le_of_ble_eq_true rfl)
  rw [lg_entry_eq]
  generalize (lg_sl ([.ref b1, .long a1]) ++ List.replicate (3 - (lg_sl ([.ref b1, .long a1])).length) Slot.unset).toArray = ls at hl ⊢
  have hl : lv_has ls 3 [(0, .ref b1), (1, .long a1)] := hl
  clear hD0 hAe
  unfold j_X1_add at hj
  refine lv_lload_n hx hb dX1_add_0 rfl (lv_at hl 1 rfl) ?_
  obtain ⟨⟨⟩, hc, hj⟩ := ja_try hj
  try dsimp only at hj
  have hPc := hP.sub (ws' := ([] : va_W)) [] rfl
  have hDc := hD.sub (ws' := ([] : va_W)) [] (by decide) rfl
  have hFc := va_free (wc := ([] : va_W)) hD hS hA [] rfl
  refine va_callv (va_runS (As := [.long a1]) (rest := []) ⟨hx, hb, hml, hown, hts⟩ (c_X1_requireNumber l dC dI cI cJ s.heap.size a1 _ hc) (va_cwS 1 hts gX1_add_X1_requireNumber rfl rfl rfl (by decide +kernel) ⟨Nat.le_of_ble_eq_true rfl, Nat.le_of_ble_eq_true rfl⟩) ⟨fun a U g mk q => ⟨q.1, jPr.blind q.2⟩, fun U hU hW => ⟨rfl, jPr.mk hU hW hPc hK hDc⟩⟩ rfl rfl hl.1 rfl (lv_room (Nat.le_of_ble_eq_true rfl)) dX1_add_1 ⟨Nat.le_of_ble_eq_true rfl, Nat.le_of_ble_eq_true rfl⟩) hS (fun q _ h => hFc q h) hFc (fun u t H1 locs ht hvm hw9 hB hz1 hk1 hS => ?_)
  obtain ⟨hP1, hK1, hD1⟩ := hB
  rw [ht] at hP1
  obtain ⟨hP, hD⟩ := va_join (wr := ([(b1, .inr (1, [.ref b0, .ref bq, .ref bf, .int ld])), (b0, .inr (0, [.ref bw, .int en, .int pl, .int cu])), (bw, .inl (cJ, 64, .inr (.inl w))), (bq, .inl (cJ, 100, .inr (.inl li))), (bf, .inl (cJ, 89, .inr (.inl fb)))] : va_W)) (w1 := ([] : va_W)) hP hD [] [0, 1, 2, 3, 4] rfl rfl (by decide) (by decide) hk1 hFc hP1 hD1
  clear hk1 hP1 hK1 hD1 hvm hz1 hPc hDc hFc
  generalize H1 = H at hP hS ⊢
  have hP : va_P (dC, dI) vwCl (wC cJ b1 b0 bw bq bf w en pl cu li ld fb) H := hP
  have hD : va_D A (wC cJ b1 b0 bw bq bf w en pl cu li ld fb) := hD
  refine lv_aload_n hx hb dX1_add_4 rfl (lv_at hl 0 rfl) ?_
  refine va_get (D := (dC, dI)) (ci := 1) (v := .int ld) (C := RX1) (T := TX1) (N := 4) hx hb hts inn_X1_add_X1 hown hK hP 0 rfl rfl 3 (by decide) (hts (.fieldLink RX1 20 "SelfEndingCodes" "listed" "I") (by decide +kernel)) (fun _ h9 => h9) rfl dX1_add_5 ?_
  refine lv_bipush (v := (100 : Int32)) hx hb dX1_add_8 (by decide) ?_
  refine lv_icmp_lt (tgt := 15) hx hb dX1_add_10 (by decide) (fun c1 => ?_) (fun c1 => ?_)
  · replace hj := ja_pos c1 hj
    refine lv_aload_n hx hb dX1_add_15 rfl (lv_at hl 0 rfl) ?_
    refine va_get (D := (dC, dI)) (ci := 1) (v := .ref bq) (C := RX1) (T := TX1) (N := 4) hx hb hts inn_X1_add_X1 hown hK hP 0 rfl rfl 1 (by decide) (hts (.fieldLink RX1 16 "SelfEndingCodes" "list" "[J") (by decide +kernel)) (fun _ h9 => h9) rfl dX1_add_16 ?_
    refine lv_aload_n hx hb dX1_add_19 rfl (lv_at hl 0 rfl) ?_
    refine va_get (D := (dC, dI)) (ci := 1) (v := .int ld) (C := RX1) (T := TX1) (N := 4) hx hb hts inn_X1_add_X1 hown hK hP 0 rfl rfl 3 (by decide) (hts (.fieldLink RX1 20 "SelfEndingCodes" "listed" "I") (by decide +kernel)) (fun _ h9 => h9) rfl dX1_add_20 ?_
    refine lv_lload_n hx hb dX1_add_23 rfl (lv_at hl 1 rfl) ?_
    obtain ⟨hin, hj⟩ := ja_ix hj
    refine va_last hx hb hK hP hD hS 3 1 rfl rfl hin dX1_add_24 (fun H locs hP hD hS => ?_)
    have hP : va_P (dC, dI) vwCl (wC cJ b1 b0 bw bq bf w en pl cu (vp_updL li ld.toNatClampNeg a1) ld fb) H := hP
    have hD : va_D A (wC cJ b1 b0 bw bq bf w en pl cu (vp_updL li ld.toNatClampNeg a1) ld fb) := hD
    refine lv_aload_n hx hb dX1_add_25 rfl (lv_at hl 0 rfl) ?_
    refine lv_dup hx hb dX1_add_26 rfl ?_
    refine va_get (D := (dC, dI)) (ci := 1) (v := .int ld) (C := RX1) (T := TX1) (N := 4) hx hb hts inn_X1_add_X1 hown hK hP 0 rfl rfl 3 (by decide) (hts (.fieldLink RX1 20 "SelfEndingCodes" "listed" "I") (by decide +kernel)) (fun _ h9 => h9) rfl dX1_add_27 ?_
    refine lv_iconst (v := (1 : Int32)) hx hb dX1_add_30 (by decide) ?_
    refine lv_iadd hx hb dX1_add_31 ?_
    refine va_put (D := (dC, dI)) (ci := 1) (v := .int (ld + (1 : Int32))) (ty := .int) (C := RX1) (T := TX1) (N := 4) hx hb hts inn_X1_add_X1 tyX1 tyX1_ok nmX1 hown hK hP hD hS 0 rfl rfl 3 (by decide) (hts (.fieldLink RX1 20 "SelfEndingCodes" "listed" "I") (by decide +kernel)) (fun _ h9 => h9) rfl (by decide +kernel) rfl rfl (Nat.le_of_ble_eq_true rfl) dX1_add_32 (fun H locs hP hD hS => ?_)
    have hP : va_P (dC, dI) vwCl (wC cJ b1 b0 bw bq bf w en pl cu (vp_updL li ld.toNatClampNeg a1) (ld + (1 : Int32)) fb) H := hP
    have hD : va_D A (wC cJ b1 b0 bw bq bf w en pl cu (vp_updL li ld.toNatClampNeg a1) (ld + (1 : Int32)) fb) := hD
    refine lv_aload_n hx hb dX1_add_35 rfl (lv_at hl 0 rfl) ?_
    refine va_get (D := (dC, dI)) (ci := 1) (v := .int (ld + (1 : Int32))) (C := RX1) (T := TX1) (N := 4) hx hb hts inn_X1_add_X1 hown hK hP 0 rfl rfl 3 (by decide) (hts (.fieldLink RX1 20 "SelfEndingCodes" "listed" "I") (by decide +kernel)) (fun _ h9 => h9) rfl dX1_add_36 ?_
    have hr9 : (ld + (1 : Int32), vp_updL li ld.toNatClampNeg a1, ld + (1 : Int32)) = r := Option.some.inj (Option.some.inj hj)
    subst hr9
    exact W.iret (v := ld + (1 : Int32)) hx hb hr (fun t ht hW => ⟨⟨ld + (1 : Int32), (), rfl, rfl, by rw [ht]; exact hP, va_K.moved hW.alike hK, hD⟩, hS.F ht⟩) hS.2.2 dX1_add_39
  · replace hj := ja_neg c1 hj
    refine lv_iconst (v := (-1 : Int32)) hx hb dX1_add_13 (by decide) ?_
    have hr9 : ((-1 : Int32), li, ld) = r := Option.some.inj (Option.some.inj hj)
    subst hr9
    exact W.iret (v := (-1 : Int32)) hx hb hr (fun t ht hW => ⟨⟨(-1 : Int32), (), rfl, rfl, by rw [ht]; exact hP, va_K.moved hW.alike hK, hD⟩, hS.F ht⟩) hS.2.2 dX1_add_14
set_option maxHeartbeats 4000000 in
set_option maxRecDepth 100000 in
theorem x_X1_add (l : Launch) (hlt : l.stackTraces = false) (dC : Nat → ClassId) (dI : Nat → Nat → Nat) (cI cJ : ClassId) (b1 : Nat) (b0 : Nat) (bw : Nat) (bq : Nat) (bf : Nat) (sz : Nat) (w : Nat → Int64) (en : Int32) (pl : Int32) (cu : Int32) (li : Nat → Int64) (ld : Int32) (fb : Nat → Int64) (a1 : Int64) (hj : j_X1_add li ld a1 = some none) : vx_Met l yX1_add wsX1_add ({ frames := 7, cells := 1, slots := 6, locals := 103 } : Room) (va_Pc [.ref b1, .long a1] (fun U => jPr dC dI cI cJ (wC cJ b1 b0 bw bq bf w en pl cu li ld fb) sz U ∧ jNs U ∧ jXs (va_A (wC cJ b1 b0 bw bq bf w en pl cu li ld fb) sz) U)) (va_Qi (fun (_ : Int32) (_ : Unit) => False) (fun _ _ => True) (va_A (wC cJ b1 b0 bw bq bf w en pl cu li ld fb) sz)) (vx_X (fun _ : Unit => True) (fun E _ t => E = "java/lang/IllegalArgumentException" ∧ jPo dC dI cI cJ (wC cJ b1 b0 bw bq bf w en pl cu li ld fb) (va_A (wC cJ b1 b0 bw bq bf w en pl cu li ld fb) sz) t) (va_A (wC cJ b1 b0 bw bq bf w en pl cu li ld fb) sz)) 1 6 (va_A (wC cJ b1 b0 bw bq bf w en pl cu li ld fb) sz) := by
  refine vx_ofW (cc := cX1_add) (maxL := 3) (ret := (some .int)) (by decide) rfl ?_
  intro p e s m args below meth c s₁ B hml htab hv
  obtain ⟨rfl, ⟨hsz, hP, hK, hD0⟩, hN, hXs⟩ := hv
  have hx := B.exec
  have hb := B.bytes
  have hr := B.returns
  have hts := atoms_spec (ws := wsX1_add) B.pre
  have hown : s.vm.findClass RX1 = some m.cls := findClass_of_methodNamed B.named
  have hlocks := B.notSynchronized
  have C0 := jCx.of hx hb hr hml hown hts hlocks
  subst hsz
  have hD := hD0.self (sz := s.heap.size)
  generalize hAe : va_A (wC cJ b1 b0 bw bq bf w en pl cu li ld fb) s.heap.size = A at hD hXs ⊢
  have hA : ∀ q : Nat, s.heap.size ≤ q → A q := fun q h => by rw [← hAe]; exact Or.inr h
  have hS : va_S A s.heap s.heap [] := va_S.rf
  have hP : va_P (dC, dI) vwCl (wC cJ b1 b0 bw bq bf w en pl cu li ld fb) s.heap := hP
  have hl := lv_entry ([.ref b1, .long a1]) (n := 3) (Nat.le_of_ble_eq_true rfl)
  rw [lg_entry_eq]
  generalize (lg_sl ([.ref b1, .long a1]) ++ List.replicate (3 - (lg_sl ([.ref b1, .long a1])).length) Slot.unset).toArray = ls at hl ⊢
  have hl : lv_has ls 3 [(0, .ref b1), (1, .long a1)] := hl
  clear hD0 hAe
  unfold j_X1_add at hj
  refine lv_lload_n hx hb dX1_add_0 rfl (lv_at hl 1 rfl) ?_
  rcases ja_tryx hj with hc | ⟨⟨⟩, hc, hj⟩
  · have hPc := hP.sub (ws' := ([] : va_W)) [] rfl
    have hDc := hD.sub (ws' := ([] : va_W)) [] (by decide) rfl
    have hFc := va_free (wc := ([] : va_W)) hD hS hA [] rfl
    refine vx_callv (vx_runS (As := [.long a1]) (rest := []) ⟨hx, hb, hml, hown, hts⟩ (x_X1_requireNumber l hlt dC dI cI cJ s.heap.size a1 hc) (va_cwS 1 hts gX1_add_X1_requireNumber rfl rfl rfl (by decide +kernel) ⟨Nat.le_of_ble_eq_true rfl, Nat.le_of_ble_eq_true rfl⟩) ⟨fun a U g mk q => ⟨q.1, jPr.blind q.2.1, jXs.blind q.2.2⟩, fun U hU hW => ⟨rfl, jPr.mk hU hW hPc hK hDc, jXs.down hU hW hS hFc hXs⟩⟩ rfl rfl hl.1 rfl (lv_room (Nat.le_of_ble_eq_true rfl)) dX1_add_1 ⟨Nat.le_of_ble_eq_true rfl, Nat.le_of_ble_eq_true rfl⟩) hS (fun q _ h => hFc q h) hFc (fun q _ h => hFc q h) (fun E ce q9 u t H1 locs1 ht hvm hpx hBX hz1 hk1 hS hce hcv hcl => ?_) (fun u t H1 locs1 ht hvm hw9 hB hz1 hk1 hS => hw9.elim)
    obtain ⟨rfl, hP1, hK1, hD1⟩ := hBX
    rw [ht] at hP1
    obtain ⟨hP, hD⟩ := va_join (wr := ([(b1, .inr (1, [.ref b0, .ref bq, .ref bf, .int ld])), (b0, .inr (0, [.ref bw, .int en, .int pl, .int cu])), (bw, .inl (cJ, 64, .inr (.inl w))), (bq, .inl (cJ, 100, .inr (.inl li))), (bf, .inl (cJ, 89, .inr (.inl fb)))] : va_W)) (w1 := ([] : va_W)) hP hD [] [0, 1, 2, 3, 4] rfl rfl (by decide) (by decide) hk1 hFc hP1 hD1
    exact vx_out (fun x hx9 => (htab x hx9).elim) hlocks hce hcv hcl (fun t2 ht2 hal => ⟨(), trivial, ⟨rfl, by rw [ht2]; exact hP, va_K.moved hal hK, hD⟩, hS.F ht2⟩) hS.2.2 (by decide) (by decide)
  · try dsimp only at hj
    have hPc := hP.sub (ws' := ([] : va_W)) [] rfl
    have hDc := hD.sub (ws' := ([] : va_W)) [] (by decide) rfl
    have hFc := va_free (wc := ([] : va_W)) hD hS hA [] rfl
    refine va_callv (va_runS (As := [.long a1]) (rest := []) ⟨hx, hb, hml, hown, hts⟩ (c_X1_requireNumber l dC dI cI cJ s.heap.size a1 _ hc) (va_cwS 1 hts gX1_add_X1_requireNumber rfl rfl rfl (by decide +kernel) ⟨Nat.le_of_ble_eq_true rfl, Nat.le_of_ble_eq_true rfl⟩) ⟨fun a U g mk q => ⟨q.1, jPr.blind q.2⟩, fun U hU hW => ⟨rfl, jPr.mk hU hW hPc hK hDc⟩⟩ rfl rfl hl.1 rfl (lv_room (Nat.le_of_ble_eq_true rfl)) dX1_add_1 ⟨Nat.le_of_ble_eq_true rfl, Nat.le_of_ble_eq_true rfl⟩) hS (fun q _ h => hFc q h) hFc (fun u t H1 locs ht hvm hw9 hB hz1 hk1 hS => ?_)
    obtain ⟨hP1, hK1, hD1⟩ := hB
    rw [ht] at hP1
    obtain ⟨hP, hD⟩ := va_join (wr := ([(b1, .inr (1, [.ref b0, .ref bq, .ref bf, .int ld])), (b0, .inr (0, [.ref bw, .int en, .int pl, .int cu])), (bw, .inl (cJ, 64, .inr (.inl w))), (bq, .inl (cJ, 100, .inr (.inl li))), (bf, .inl (cJ, 89, .inr (.inl fb)))] : va_W)) (w1 := ([] : va_W)) hP hD [] [0, 1, 2, 3, 4] rfl rfl (by decide) (by decide) hk1 hFc hP1 hD1
    clear hk1 hP1 hK1 hD1 hvm hz1 hPc hDc hFc
    generalize H1 = H at hP hS ⊢
    have hP : va_P (dC, dI) vwCl (wC cJ b1 b0 bw bq bf w en pl cu li ld fb) H := hP
    have hD : va_D A (wC cJ b1 b0 bw bq bf w en pl cu li ld fb) := hD
    refine lv_aload_n hx hb dX1_add_4 rfl (lv_at hl 0 rfl) ?_
    refine va_get (D := (dC, dI)) (ci := 1) (v := .int ld) (C := RX1) (T := TX1) (N := 4) hx hb hts inn_X1_add_X1 hown hK hP 0 rfl rfl 3 (by decide) (hts (.fieldLink RX1 20 "SelfEndingCodes" "listed" "I") (by decide +kernel)) (fun _ h9 => h9) rfl dX1_add_5 ?_
    refine lv_bipush (v := (100 : Int32)) hx hb dX1_add_8 (by decide) ?_
    refine lv_icmp_lt (tgt := 15) hx hb dX1_add_10 (by decide) (fun c1 => ?_) (fun c1 => ?_)
    · replace hj := ja_pos c1 hj
      refine lv_aload_n hx hb dX1_add_15 rfl (lv_at hl 0 rfl) ?_
      refine va_get (D := (dC, dI)) (ci := 1) (v := .ref bq) (C := RX1) (T := TX1) (N := 4) hx hb hts inn_X1_add_X1 hown hK hP 0 rfl rfl 1 (by decide) (hts (.fieldLink RX1 16 "SelfEndingCodes" "list" "[J") (by decide +kernel)) (fun _ h9 => h9) rfl dX1_add_16 ?_
      refine lv_aload_n hx hb dX1_add_19 rfl (lv_at hl 0 rfl) ?_
      refine va_get (D := (dC, dI)) (ci := 1) (v := .int ld) (C := RX1) (T := TX1) (N := 4) hx hb hts inn_X1_add_X1 hown hK hP 0 rfl rfl 3 (by decide) (hts (.fieldLink RX1 20 "SelfEndingCodes" "listed" "I") (by decide +kernel)) (fun _ h9 => h9) rfl dX1_add_20 ?_
      refine lv_lload_n hx hb dX1_add_23 rfl (lv_at hl 1 rfl) ?_
      obtain ⟨hin, hj⟩ := ja_ix hj
      refine va_last hx hb hK hP hD hS 3 1 rfl rfl hin dX1_add_24 (fun H locs hP hD hS => ?_)
      have hP : va_P (dC, dI) vwCl (wC cJ b1 b0 bw bq bf w en pl cu (vp_updL li ld.toNatClampNeg a1) ld fb) H := hP
      have hD : va_D A (wC cJ b1 b0 bw bq bf w en pl cu (vp_updL li ld.toNatClampNeg a1) ld fb) := hD
      refine lv_aload_n hx hb dX1_add_25 rfl (lv_at hl 0 rfl) ?_
      refine lv_dup hx hb dX1_add_26 rfl ?_
      refine va_get (D := (dC, dI)) (ci := 1) (v := .int ld) (C := RX1) (T := TX1) (N := 4) hx hb hts inn_X1_add_X1 hown hK hP 0 rfl rfl 3 (by decide) (hts (.fieldLink RX1 20 "SelfEndingCodes" "listed" "I") (by decide +kernel)) (fun _ h9 => h9) rfl dX1_add_27 ?_
      refine lv_iconst (v := (1 : Int32)) hx hb dX1_add_30 (by decide) ?_
      refine lv_iadd hx hb dX1_add_31 ?_
      refine va_put (D := (dC, dI)) (ci := 1) (v := .int (ld + (1 : Int32))) (ty := .int) (C := RX1) (T := TX1) (N := 4) hx hb hts inn_X1_add_X1 tyX1 tyX1_ok nmX1 hown hK hP hD hS 0 rfl rfl 3 (by decide) (hts (.fieldLink RX1 20 "SelfEndingCodes" "listed" "I") (by decide +kernel)) (fun _ h9 => h9) rfl (by decide +kernel) rfl rfl (Nat.le_of_ble_eq_true rfl) dX1_add_32 (fun H locs hP hD hS => ?_)
      have hP : va_P (dC, dI) vwCl (wC cJ b1 b0 bw bq bf w en pl cu (vp_updL li ld.toNatClampNeg a1) (ld + (1 : Int32)) fb) H := hP
      have hD : va_D A (wC cJ b1 b0 bw bq bf w en pl cu (vp_updL li ld.toNatClampNeg a1) (ld + (1 : Int32)) fb) := hD
      refine lv_aload_n hx hb dX1_add_35 rfl (lv_at hl 0 rfl) ?_
      refine va_get (D := (dC, dI)) (ci := 1) (v := .int (ld + (1 : Int32))) (C := RX1) (T := TX1) (N := 4) hx hb hts inn_X1_add_X1 hown hK hP 0 rfl rfl 3 (by decide) (hts (.fieldLink RX1 20 "SelfEndingCodes" "listed" "I") (by decide +kernel)) (fun _ h9 => h9) rfl dX1_add_36 ?_
      cases hj
    · replace hj := ja_neg c1 hj
      refine lv_iconst (v := (-1 : Int32)) hx hb dX1_add_13 (by decide) ?_
      cases hj

def j_X1_requireCode (a1 : Int32) (a2 : Int32) : Option (Option (Unit)) :=
  (j_X1_isCode a1 a2).bind fun v1 => (if v1 = (0 : Int32) then (some none) else (some (some ())))
set_option maxHeartbeats 4000000 in
set_option maxRecDepth 100000 in
theorem c_X1_requireCode (l : Launch) (dC : Nat → ClassId) (dI : Nat → Nat → Nat) (cI cJ : ClassId) (sz : Nat) (a1 : Int32) (a2 : Int32) (r : Unit) (hj : j_X1_requireCode a1 a2 = some (some r)) : Met l yX1_requireCode wsX1_requireCode ({ frames := 2, cells := 0, slots := 0, locals := 41 } : Room) (va_Pc [.int a1, .int a2] (fun U => jPr dC dI cI cJ ([] : va_W) sz U)) (va_Qv (fun _ : Unit => True) (fun (_ : Unit) t => jPo dC dI cI cJ [] (va_A ([] : va_W) sz) t) (va_A ([] : va_W) sz)) 0 0 (va_A ([] : va_W) sz) := by
  refine Met.ofW (cc := cX1_requireCode) (maxL := 2) (ret := none) (by decide) rfl ?_
  intro p e s m args below meth c s₁ B hml hv
  obtain ⟨rfl, ⟨hsz, hP, hK, hD0⟩⟩ := hv
  have hx := B.exec
  have hb := B.bytes
  have hr := B.returns
  have hts := atoms_spec (ws := wsX1_requireCode) B.pre
  have hown : s.vm.findClass RX1 = some m.cls := findClass_of_methodNamed B.named
  have hlocks := B.notSynchronized
  have C0 := jCx.of hx hb hr hml hown hts hlocks
  subst hsz
  have hD := hD0.self (sz := s.heap.size)
  generalize hAe : va_A ([] : va_W) s.heap.size = A at hD ⊢
  have hA : ∀ q : Nat, s.heap.size ≤ q → A q := fun q h => by rw [← hAe]; exact Or.inr h
  have hS : va_S A s.heap s.heap [] := va_S.rf
  have hP : va_P (dC, dI) vwCl ([] : va_W) s.heap := hP
  have hl := lv_entry ([.int a1, .int a2]) (n := 2) (Nat.le_of_ble_eq_true rfl)
  rw [lg_entry_eq]
  generalize (lg_sl ([.int a1, .int a2]) ++ List.replicate (2 - (lg_sl ([.int a1, .int a2])).length) Slot.unset).toArray = ls at hl ⊢
  have hl : lv_has ls 2 [(0, .int a1), (1, .int a2)] := hl
  clear hD0 hAe
  unfold j_X1_requireCode at hj
  refine lv_iload_n hx hb dX1_requireCode_0 rfl (lv_at hl 0 rfl) ?_
  refine lv_iload_n hx hb dX1_requireCode_1 rfl (lv_at hl 1 rfl) ?_
  obtain ⟨v1, hc, hj⟩ := ja_bd hj
  try dsimp only at hj
  have hPc := hP.sub (ws' := ([] : va_W)) [] rfl
  have hDc := hD.sub (ws' := ([] : va_W)) [] (by decide) rfl
  have hFc := va_free (wc := ([] : va_W)) hD hS hA [] rfl
  refine va_calli (va_runS (As := [.int a1, .int a2]) (rest := []) ⟨hx, hb, hml, hown, hts⟩ (c_X1_isCode l dC dI cI cJ s.heap.size a1 a2 _ hc) (va_cwS 2 hts gX1_requireCode_X1_isCode rfl rfl rfl (by decide +kernel) ⟨Nat.le_of_ble_eq_true rfl, Nat.le_of_ble_eq_true rfl⟩) ⟨fun a U g mk q => ⟨q.1, jPr.blind q.2⟩, fun U hU hW => ⟨rfl, jPr.mk hU hW hPc hK hDc⟩⟩ rfl rfl hl.1 rfl (lv_room (Nat.le_of_ble_eq_true rfl)) dX1_requireCode_2 ⟨Nat.le_of_ble_eq_true rfl, Nat.le_of_ble_eq_true rfl⟩) hS (fun q _ h => hFc q h) hFc (fun rr u t H1 locs ht hvm hw9 hB hz1 hk1 hS => ?_)
  have hw8 : v1 = rr := hw9.symm
  subst hw8
  obtain ⟨hP1, hK1, hD1⟩ := hB
  rw [ht] at hP1
  obtain ⟨hP, hD⟩ := va_join (wr := ([] : va_W)) (w1 := ([] : va_W)) hP hD [] [] rfl rfl (by decide) (by decide) hk1 hFc hP1 hD1
  clear hk1 hP1 hK1 hD1 hvm hz1 hPc hDc hFc
  generalize H1 = H at hP hS ⊢
  have hP : va_P (dC, dI) vwCl [] H := hP
  have hD : va_D A [] := hD
  refine lv_if_ne (tgt := 18) hx hb dX1_requireCode_5 (by decide) (fun c2 => ?_) (fun c2 => ?_)
  · replace hj := ja_neg c2 hj
    have hr9 : () = r := Option.some.inj (Option.some.inj hj)
    subst hr9
    exact W.vret hx hb hr (fun t ht hW => ⟨⟨(), rfl, trivial, by rw [ht]; exact hP, va_K.moved hW.alike hK, hD⟩, hS.F ht⟩) hS.2.2 dX1_requireCode_18
  · replace hj := ja_pos c2 hj
    cases hj
theorem xw_X1_requireCode_A {args : Array Value} {s : State} (hts : ∀ w ∈ wsX1_requireCode, w.before args s = true) : ∀ w ∈ (vx_atS RX1 56 "java/lang/IllegalArgumentException" ["java/lang/RuntimeException", "java/lang/Exception"]).filter goodWord, w.before args s = true := fun w h => hts w (List.mem_cons_of_mem _ (List.mem_append_right _ h))
theorem xg_X1_requireCode_A : ∀ w ∈ Cond.classLink RX1 52 "java/lang/IllegalArgumentException" :: Cond.initialized "java/lang/IllegalArgumentException" :: (vx_atS RX1 56 "java/lang/IllegalArgumentException" ["java/lang/RuntimeException", "java/lang/Exception"]), vx_ot w = true := by decide +kernel
set_option maxHeartbeats 4000000 in
set_option maxRecDepth 100000 in
theorem x_X1_requireCode (l : Launch) (hlt : l.stackTraces = false) (dC : Nat → ClassId) (dI : Nat → Nat → Nat) (cI cJ : ClassId) (sz : Nat) (a1 : Int32) (a2 : Int32) (hj : j_X1_requireCode a1 a2 = some none) : vx_Met l yX1_requireCode wsX1_requireCode ({ frames := 6, cells := 1, slots := 6, locals := 82 } : Room) (va_Pc [.int a1, .int a2] (fun U => jPr dC dI cI cJ ([] : va_W) sz U ∧ jXs (va_A ([] : va_W) sz) U)) (va_Qv (fun _ : Unit => False) (fun _ _ => True) (va_A ([] : va_W) sz)) (vx_X (fun _ : Unit => True) (fun E _ t => E = "java/lang/IllegalArgumentException" ∧ jPo dC dI cI cJ ([] : va_W) (va_A ([] : va_W) sz) t) (va_A ([] : va_W) sz)) 1 6 (va_A ([] : va_W) sz) := by
  refine vx_ofW (cc := cX1_requireCode) (maxL := 2) (ret := none) (by decide) rfl ?_
  intro p e s m args below meth c s₁ B hml htab hv
  obtain ⟨rfl, ⟨hsz, hP, hK, hD0⟩, hXs⟩ := hv
  have hx := B.exec
  have hb := B.bytes
  have hr := B.returns
  have hts := atoms_spec (ws := wsX1_requireCode) B.pre
  have hown : s.vm.findClass RX1 = some m.cls := findClass_of_methodNamed B.named
  have hlocks := B.notSynchronized
  have C0 := jCx.of hx hb hr hml hown hts hlocks
  subst hsz
  have hD := hD0.self (sz := s.heap.size)
  generalize hAe : va_A ([] : va_W) s.heap.size = A at hD hXs ⊢
  have hA : ∀ q : Nat, s.heap.size ≤ q → A q := fun q h => by rw [← hAe]; exact Or.inr h
  have hS : va_S A s.heap s.heap [] := va_S.rf
  have hP : va_P (dC, dI) vwCl ([] : va_W) s.heap := hP
  have hl := lv_entry ([.int a1, .int a2]) (n := 2) (Nat.le_of_ble_eq_true rfl)
  rw [lg_entry_eq]
  generalize (lg_sl ([.int a1, .int a2]) ++ List.replicate (2 - (lg_sl ([.int a1, .int a2])).length) Slot.unset).toArray = ls at hl ⊢
  have hl : lv_has ls 2 [(0, .int a1), (1, .int a2)] := hl
  clear hD0 hAe
  unfold j_X1_requireCode at hj
  refine lv_iload_n hx hb dX1_requireCode_0 rfl (lv_at hl 0 rfl) ?_
  refine lv_iload_n hx hb dX1_requireCode_1 rfl (lv_at hl 1 rfl) ?_
  obtain ⟨v1, hc, hj⟩ := ja_bd hj
  try dsimp only at hj
  have hPc := hP.sub (ws' := ([] : va_W)) [] rfl
  have hDc := hD.sub (ws' := ([] : va_W)) [] (by decide) rfl
  have hFc := va_free (wc := ([] : va_W)) hD hS hA [] rfl
  refine va_calli (va_runS (As := [.int a1, .int a2]) (rest := []) ⟨hx, hb, hml, hown, hts⟩ (c_X1_isCode l dC dI cI cJ s.heap.size a1 a2 _ hc) (va_cwS 2 hts gX1_requireCode_X1_isCode rfl rfl rfl (by decide +kernel) ⟨Nat.le_of_ble_eq_true rfl, Nat.le_of_ble_eq_true rfl⟩) ⟨fun a U g mk q => ⟨q.1, jPr.blind q.2⟩, fun U hU hW => ⟨rfl, jPr.mk hU hW hPc hK hDc⟩⟩ rfl rfl hl.1 rfl (lv_room (Nat.le_of_ble_eq_true rfl)) dX1_requireCode_2 ⟨Nat.le_of_ble_eq_true rfl, Nat.le_of_ble_eq_true rfl⟩) hS (fun q _ h => hFc q h) hFc (fun rr u t H1 locs ht hvm hw9 hB hz1 hk1 hS => ?_)
  have hw8 : v1 = rr := hw9.symm
  subst hw8
  obtain ⟨hP1, hK1, hD1⟩ := hB
  rw [ht] at hP1
  obtain ⟨hP, hD⟩ := va_join (wr := ([] : va_W)) (w1 := ([] : va_W)) hP hD [] [] rfl rfl (by decide) (by decide) hk1 hFc hP1 hD1
  clear hk1 hP1 hK1 hD1 hvm hz1 hPc hDc hFc
  generalize H1 = H at hP hS ⊢
  have hP : va_P (dC, dI) vwCl [] H := hP
  have hD : va_D A [] := hD
  refine lv_if_ne (tgt := 18) hx hb dX1_requireCode_5 (by decide) (fun c2 => ?_) (fun c2 => ?_)
  · replace hj := ja_neg c2 hj
    cases hj
  · replace hj := ja_pos c2 hj
    obtain ⟨sa, hst⟩ := hXs.str5
    exact vx_throwS (XC := _) (text := "no such kind or parameter") hx hb hlt hown (by decide +kernel) (by decide +kernel) (hts (.classLink RX1 52 "java/lang/IllegalArgumentException") (by decide +kernel)) (hts (.initialized "java/lang/IllegalArgumentException") (by decide +kernel)) hst (vx_hat (B := jWA) (xw_X1_requireCode_A hts) (by decide +kernel) (hXs.wA _)) xg_X1_requireCode_A hXs.1 hXs.2.1 hS (hl.1.trans hml.symm) dX1_requireCode_8 dX1_requireCode_11 dX1_requireCode_12 dX1_requireCode_14 dX1_requireCode_17 (fun x hx9 => (htab x hx9).elim) (by decide) (by decide) (by decide) (by decide) hlocks (fun t hal hz hk => ⟨(), trivial, ⟨rfl, jP_keep hP hk, va_K.moved hal hK, hD⟩, jF_keep hS hz hk⟩) hS.2.2 (by decide) (by decide)

def j_X1_requireLength (a1 : Int32) (a2 : Int32) : Option (Option (Unit)) :=
  if a1 < (0 : Int32) then (some none) else (if a1 ≤ a2 then (some (some ())) else (some none))
set_option maxHeartbeats 4000000 in
set_option maxRecDepth 100000 in
theorem c_X1_requireLength (l : Launch) (dC : Nat → ClassId) (dI : Nat → Nat → Nat) (cI cJ : ClassId) (sz : Nat) (a1 : Int32) (a2 : Int32) (r : Unit) (hj : j_X1_requireLength a1 a2 = some (some r)) : Met l yX1_requireLength wsX1_requireLength ({ frames := 0, cells := 0, slots := 0, locals := 0 } : Room) (va_Pc [.int a1, .int a2] (fun U => jPr dC dI cI cJ ([] : va_W) sz U)) (va_Qv (fun _ : Unit => True) (fun (_ : Unit) t => jPo dC dI cI cJ [] (va_A ([] : va_W) sz) t) (va_A ([] : va_W) sz)) 0 0 (va_A ([] : va_W) sz) := by
  refine Met.ofW (cc := cX1_requireLength) (maxL := 2) (ret := none) (by decide) rfl ?_
  intro p e s m args below meth c s₁ B hml hv
  obtain ⟨rfl, ⟨hsz, hP, hK, hD0⟩⟩ := hv
  have hx := B.exec
  have hb := B.bytes
  have hr := B.returns
  have hts := atoms_spec (ws := wsX1_requireLength) B.pre
  have hown : s.vm.findClass RX1 = some m.cls := findClass_of_methodNamed B.named
  have hlocks := B.notSynchronized
  have C0 := jCx.of hx hb hr hml hown hts hlocks
  subst hsz
  have hD := hD0.self (sz := s.heap.size)
  generalize hAe : va_A ([] : va_W) s.heap.size = A at hD ⊢
  have hA : ∀ q : Nat, s.heap.size ≤ q → A q := fun q h => by rw [← hAe]; exact Or.inr h
  have hS : va_S A s.heap s.heap [] := va_S.rf
  have hP : va_P (dC, dI) vwCl ([] : va_W) s.heap := hP
  have hl := lv_entry ([.int a1, .int a2]) (n := 2) (Nat.le_of_ble_eq_true rfl)
  rw [lg_entry_eq]
  generalize (lg_sl ([.int a1, .int a2]) ++ List.replicate (2 - (lg_sl ([.int a1, .int a2])).length) Slot.unset).toArray = ls at hl ⊢
  have hl : lv_has ls 2 [(0, .int a1), (1, .int a2)] := hl
  clear hD0 hAe
  unfold j_X1_requireLength at hj
  refine lv_iload_n hx hb dX1_requireLength_0 rfl (lv_at hl 0 rfl) ?_
  refine lv_if_lt (tgt := 9) hx hb dX1_requireLength_1 (by decide) (fun c1 => ?_) (fun c1 => ?_)
  · replace hj := ja_pos c1 hj
    cases hj
  · replace hj := ja_neg c1 hj
    refine lv_iload_n hx hb dX1_requireLength_4 rfl (lv_at hl 0 rfl) ?_
    refine lv_iload_n hx hb dX1_requireLength_5 rfl (lv_at hl 1 rfl) ?_
    refine lv_icmp_le (tgt := 19) hx hb dX1_requireLength_6 (by decide) (fun c2 => ?_) (fun c2 => ?_)
    · replace hj := ja_pos c2 hj
      have hr9 : () = r := Option.some.inj (Option.some.inj hj)
      subst hr9
      exact W.vret hx hb hr (fun t ht hW => ⟨⟨(), rfl, trivial, by rw [ht]; exact hP, va_K.moved hW.alike hK, hD⟩, hS.F ht⟩) hS.2.2 dX1_requireLength_19
    · replace hj := ja_neg c2 hj
      cases hj
theorem xw_X1_requireLength_A {args : Array Value} {s : State} (hts : ∀ w ∈ wsX1_requireLength, w.before args s = true) : ∀ w ∈ (vx_atS RX1 56 "java/lang/IllegalArgumentException" ["java/lang/RuntimeException", "java/lang/Exception"]).filter goodWord, w.before args s = true := fun w h => hts w (List.mem_cons_of_mem _ (List.mem_append_right _ h))
theorem xg_X1_requireLength_A : ∀ w ∈ Cond.classLink RX1 52 "java/lang/IllegalArgumentException" :: Cond.initialized "java/lang/IllegalArgumentException" :: (vx_atS RX1 56 "java/lang/IllegalArgumentException" ["java/lang/RuntimeException", "java/lang/Exception"]), vx_ot w = true := by decide +kernel
set_option maxHeartbeats 4000000 in
set_option maxRecDepth 100000 in
theorem x_X1_requireLength (l : Launch) (hlt : l.stackTraces = false) (dC : Nat → ClassId) (dI : Nat → Nat → Nat) (cI cJ : ClassId) (sz : Nat) (a1 : Int32) (a2 : Int32) (hj : j_X1_requireLength a1 a2 = some none) : vx_Met l yX1_requireLength wsX1_requireLength ({ frames := 6, cells := 1, slots := 6, locals := 82 } : Room) (va_Pc [.int a1, .int a2] (fun U => jPr dC dI cI cJ ([] : va_W) sz U ∧ jXs (va_A ([] : va_W) sz) U)) (va_Qv (fun _ : Unit => False) (fun _ _ => True) (va_A ([] : va_W) sz)) (vx_X (fun _ : Unit => True) (fun E _ t => E = "java/lang/IllegalArgumentException" ∧ jPo dC dI cI cJ ([] : va_W) (va_A ([] : va_W) sz) t) (va_A ([] : va_W) sz)) 1 6 (va_A ([] : va_W) sz) := by
  refine vx_ofW (cc := cX1_requireLength) (maxL := 2) (ret := none) (by decide) rfl ?_
  intro p e s m args below meth c s₁ B hml htab hv
  obtain ⟨rfl, ⟨hsz, hP, hK, hD0⟩, hXs⟩ := hv
  have hx := B.exec
  have hb := B.bytes
  have hr := B.returns
  have hts := atoms_spec (ws := wsX1_requireLength) B.pre
  have hown : s.vm.findClass RX1 = some m.cls := findClass_of_methodNamed B.named
  have hlocks := B.notSynchronized
  have C0 := jCx.of hx hb hr hml hown hts hlocks
  subst hsz
  have hD := hD0.self (sz := s.heap.size)
  generalize hAe : va_A ([] : va_W) s.heap.size = A at hD hXs ⊢
  have hA : ∀ q : Nat, s.heap.size ≤ q → A q := fun q h => by rw [← hAe]; exact Or.inr h
  have hS : va_S A s.heap s.heap [] := va_S.rf
  have hP : va_P (dC, dI) vwCl ([] : va_W) s.heap := hP
  have hl := lv_entry ([.int a1, .int a2]) (n := 2) (Nat.le_of_ble_eq_true rfl)
  rw [lg_entry_eq]
  generalize (lg_sl ([.int a1, .int a2]) ++ List.replicate (2 - (lg_sl ([.int a1, .int a2])).length) Slot.unset).toArray = ls at hl ⊢
  have hl : lv_has ls 2 [(0, .int a1), (1, .int a2)] := hl
  clear hD0 hAe
  unfold j_X1_requireLength at hj
  refine lv_iload_n hx hb dX1_requireLength_0 rfl (lv_at hl 0 rfl) ?_
  refine lv_if_lt (tgt := 9) hx hb dX1_requireLength_1 (by decide) (fun c1 => ?_) (fun c1 => ?_)
  · replace hj := ja_pos c1 hj
    obtain ⟨sa, hst⟩ := hXs.str7
    exact vx_throwS (XC := _) (text := "no such length") hx hb hlt hown (by decide +kernel) (by decide +kernel) (hts (.classLink RX1 52 "java/lang/IllegalArgumentException") (by decide +kernel)) (hts (.initialized "java/lang/IllegalArgumentException") (by decide +kernel)) hst (vx_hat (B := jWA) (xw_X1_requireLength_A hts) (by decide +kernel) (hXs.wA _)) xg_X1_requireLength_A hXs.1 hXs.2.1 hS (hl.1.trans hml.symm) dX1_requireLength_9 dX1_requireLength_12 dX1_requireLength_13 dX1_requireLength_15 dX1_requireLength_18 (fun x hx9 => (htab x hx9).elim) (by decide) (by decide) (by decide) (by decide) hlocks (fun t hal hz hk => ⟨(), trivial, ⟨rfl, jP_keep hP hk, va_K.moved hal hK, hD⟩, jF_keep hS hz hk⟩) hS.2.2 (by decide) (by decide)
  · replace hj := ja_neg c1 hj
    refine lv_iload_n hx hb dX1_requireLength_4 rfl (lv_at hl 0 rfl) ?_
    refine lv_iload_n hx hb dX1_requireLength_5 rfl (lv_at hl 1 rfl) ?_
    refine lv_icmp_le (tgt := 19) hx hb dX1_requireLength_6 (by decide) (fun c2 => ?_) (fun c2 => ?_)
    · replace hj := ja_pos c2 hj
      cases hj
    · replace hj := ja_neg c2 hj
      obtain ⟨sa, hst⟩ := hXs.str7
      exact vx_throwS (XC := _) (text := "no such length") hx hb hlt hown (by decide +kernel) (by decide +kernel) (hts (.classLink RX1 52 "java/lang/IllegalArgumentException") (by decide +kernel)) (hts (.initialized "java/lang/IllegalArgumentException") (by decide +kernel)) hst (vx_hat (B := jWA) (xw_X1_requireLength_A hts) (by decide +kernel) (hXs.wA _)) xg_X1_requireLength_A hXs.1 hXs.2.1 hS (hl.1.trans hml.symm) dX1_requireLength_9 dX1_requireLength_12 dX1_requireLength_13 dX1_requireLength_15 dX1_requireLength_18 (fun x hx9 => (htab x hx9).elim) (by decide) (by decide) (by decide) (by decide) hlocks (fun t hal hz hk => ⟨(), trivial, ⟨rfl, jP_keep hP hk, va_K.moved hal hK, hD⟩, jF_keep hS hz hk⟩) hS.2.2 (by decide) (by decide)

def jL_X1_begun_20 (fb : Nat → Int64) (x1 : Int32) (x2 : Int32) (x3 : Int32) : Nat → Int64 → Int64 → Int32 → Option (Int64)
  | 0, _, _, _ => none
  | n + 1, x4, x6, x8 => if x3 < x8 then (some x4) else ((j_X1_leastReaching fb x1 x2 (x8 + (1 : Int32))).bind fun v2002 => (jL_X1_begun_20 fb x1 x2 x3 n (((2 : Int64) * x4) + (v2002 - x6)) v2002 (x8 + (1 : Int32))))
set_option maxHeartbeats 4000000 in
set_option maxRecDepth 100000 in
theorem s_X1_begun_20 {p : Program} {l : Launch} {e : Env} {s : State} {m : MethodId} {args : Array Value} {below : List Frame} {meth : Method} {c : Code} {dC : Nat → ClassId} {dI : Nat → Nat → Nat} {cI cJ : ClassId} {A : Nat → Prop} (C0 : jCx p s m args meth c RX1 cX1_begun 11 (some .long) wsX1_begun) (hK : va_K (dC, dI) vwCl (jTy cI cJ) s) (hA : ∀ q : Nat, s.heap.size ≤ q → A q) (hN : jNs s) (b1 : Nat) (b0 : Nat) (bw : Nat) (bq : Nat) (bf : Nat) (w : Nat → Int64) (en : Int32) (pl : Int32) (cu : Int32) (li : Nat → Int64) (ld : Int32) (fb : Nat → Int64) (x1 : Int32) (x2 : Int32) (x3 : Int32) :
    ∀ (n : Nat) (x4 : Int64) (x6 : Int64) (x8 : Int32) (r : Int64), jL_X1_begun_20 fb x1 x2 x3 n x4 x6 x8 = some r → ∀ (H : Heap) (locs : List Loc) (ls : Array Slot), va_P (dC, dI) vwCl (wC cJ b1 b0 bw bq bf w en pl cu li ld fb) H → va_D A (wC cJ b1 b0 bw bq bf w en pl cu li ld fb) → va_S A s.heap H locs → lv_has ls 11 [(0, .ref b1), (1, .int x1), (2, .int x2), (3, .int x3), (4, .long x4), (6, .long x6), (8, .int x8)] → W p l e ({ frames := 7, cells := 0, slots := 0, locals := 165 } : Room) s m args below meth c H locs 0 0 (MQ below (va_Ql (fun (v : Int64) (_ : Unit) => v = r) (fun (_ : Unit) t => jPo dC dI cI cJ (wC cJ b1 b0 bw bq bf w en pl cu li ld fb) A t) A) args s 0 0 A) (F0 m 20 ls []) := by
  obtain ⟨hx, hb, hr, hml, hown, hts, hlocks⟩ := id C0
  intro n
  induction n with
  | zero =>
    intro x4 x6 x8 r hj
    exact nomatch (show (none : Option (Int64)) = some r from hj)
  | succ n ih =>
    intro x4 x6 x8 r hj H locs ls hP hD hS hl
    replace hj : (if x3 < x8 then (some x4) else ((j_X1_leastReaching fb x1 x2 (x8 + (1 : Int32))).bind fun v2002 => (jL_X1_begun_20 fb x1 x2 x3 n (((2 : Int64) * x4) + (v2002 - x6)) v2002 (x8 + (1 : Int32))))) = some r := hj
    refine lv_iload hx hb dX1_begun_20 (lv_at hl 6 rfl) ?_
    refine lv_iload_n hx hb dX1_begun_22 rfl (lv_at hl 3 rfl) ?_
    refine lv_icmp_gt (tgt := 62) hx hb dX1_begun_23 (by decide) (fun c2001 => ?_) (fun c2001 => ?_)
    · replace hj := ja_pos c2001 hj
      refine lv_lload hx hb dX1_begun_62 (lv_at hl 4 rfl) ?_
      have hr9 : x4 = r := Option.some.inj hj
      subst hr9
      exact W.lret (v := x4) hx hb hr (fun t ht hW => ⟨⟨x4, (), rfl, rfl, by rw [ht]; exact hP, va_K.moved hW.alike hK, hD⟩, hS.F ht⟩) hS.2.2 dX1_begun_64
    · replace hj := ja_neg c2001 hj
      refine lv_aload_n hx hb dX1_begun_26 rfl (lv_at hl 0 rfl) ?_
      refine lv_iload_n hx hb dX1_begun_27 rfl (lv_at hl 1 rfl) ?_
      refine lv_iload_n hx hb dX1_begun_28 rfl (lv_at hl 2 rfl) ?_
      refine lv_iload hx hb dX1_begun_29 (lv_at hl 6 rfl) ?_
      refine lv_iconst (v := (1 : Int32)) hx hb dX1_begun_31 (by decide) ?_
      refine lv_iadd hx hb dX1_begun_32 ?_
      obtain ⟨v2002, hc, hj⟩ := ja_bd hj
      try dsimp only at hj
      have hPc := hP.sub (ws' := (wC cJ b1 b0 bw bq bf w en pl cu li ld fb)) [0, 1, 2, 3, 4] rfl
      have hDc := hD.sub (ws' := (wC cJ b1 b0 bw bq bf w en pl cu li ld fb)) [0, 1, 2, 3, 4] (by decide) rfl
      have hFc := va_free (wc := (wC cJ b1 b0 bw bq bf w en pl cu li ld fb)) hD hS hA [0, 1, 2, 3, 4] rfl
      refine va_calll (va_runV (As := [.int x1, .int x2, .int (x8 + (1 : Int32))]) (rest := []) ⟨hx, hb, hml, hown, hts⟩ (c_X1_leastReaching l dC dI cI cJ b1 b0 bw bq bf H.size w en pl cu li ld fb x1 x2 (x8 + (1 : Int32)) _ hc) (cwV 3 hts gX1_begun_X1_leastReaching rfl rfl rfl (by decide +kernel) ⟨Nat.le_of_ble_eq_true rfl, Nat.le_of_ble_eq_true rfl⟩) ⟨fun a U g mk q => ⟨q.1, jPr.blind q.2.1, jNs.blind q.2.2⟩, va_recv hK hPc (ci := 1) (q0 := 0) rfl rfl, fun U hU hW => ⟨rfl, jPr.mk hU hW hPc hK hDc, jNs.warm hW hN⟩⟩ rfl rfl hl.1 rfl (lv_room (Nat.le_of_ble_eq_true rfl)) dX1_begun_33 ⟨Nat.le_of_ble_eq_true rfl, Nat.le_of_ble_eq_true rfl⟩) hS (fun q _ h => hFc q h) hFc (fun rr u t H1 locs ht hvm hw9 hB hz1 hk1 hS => ?_)
      have hw8 : v2002 = rr := hw9.symm
      subst hw8
      obtain ⟨hP1, hK1, hD1⟩ := hB
      rw [ht] at hP1
      obtain ⟨hP, hD⟩ := va_join (wr := ([] : va_W)) (w1 := (wC cJ b1 b0 bw bq bf w en pl cu li ld fb)) hP hD [0, 1, 2, 3, 4] [] rfl rfl (by decide) (by decide) hk1 hFc hP1 hD1
      clear hk1 hP1 hK1 hD1 hvm hz1 hPc hDc hFc
      generalize H1 = H at hP hS ⊢
      have hP : va_P (dC, dI) vwCl (wC cJ b1 b0 bw bq bf w en pl cu li ld fb) H := hP
      have hD : va_D A (wC cJ b1 b0 bw bq bf w en pl cu li ld fb) := hD
      refine lv_lstore (lv' := [(9, .long v2002), (0, .ref b1), (1, .int x1), (2, .int x2), (3, .int x3), (4, .long x4), (6, .long x6), (8, .int x8)]) hx hb dX1_begun_36 hl (by decide) rfl (fun ls hl => ?_)
      refine lv_ldc2 (v := (2 : Int64)) hx hb hown (hts (.constantLong RX1 27 (2)) (by decide +kernel)) dX1_begun_38 ?_
      refine lv_lload hx hb dX1_begun_41 (lv_at hl 5 rfl) ?_
      refine lv_lmul hx hb dX1_begun_43 ?_
      refine lv_lload hx hb dX1_begun_44 (lv_at hl 0 rfl) ?_
      refine lv_lload hx hb dX1_begun_46 (lv_at hl 6 rfl) ?_
      refine lv_lsub hx hb dX1_begun_48 ?_
      refine lv_ladd hx hb dX1_begun_49 ?_
      refine lv_lstore (lv' := [(4, .long (((2 : Int64) * x4) + (v2002 - x6))), (9, .long v2002), (0, .ref b1), (1, .int x1), (2, .int x2), (3, .int x3), (6, .long x6), (8, .int x8)]) hx hb dX1_begun_50 hl (by decide) rfl (fun ls hl => ?_)
      refine lv_lload hx hb dX1_begun_52 (lv_at hl 1 rfl) ?_
      refine lv_lstore (lv' := [(6, .long v2002), (4, .long (((2 : Int64) * x4) + (v2002 - x6))), (9, .long v2002), (0, .ref b1), (1, .int x1), (2, .int x2), (3, .int x3), (8, .int x8)]) hx hb dX1_begun_54 hl (by decide) rfl (fun ls hl => ?_)
      refine lv_iinc (v := x8 + (1 : Int32)) (lv' := [(8, .int (x8 + (1 : Int32))), (6, .long v2002), (4, .long (((2 : Int64) * x4) + (v2002 - x6))), (9, .long v2002), (0, .ref b1), (1, .int x1), (2, .int x2), (3, .int x3)]) hx hb dX1_begun_56 hl (k := 7) rfl (congrArg (fun z => x8 + z) (by decide)) (by decide) rfl (fun ls hl => ?_)
      refine lv_goto (tgt := 20) hx hb dX1_begun_59 (by decide) ?_
      exact ih (((2 : Int64) * x4) + (v2002 - x6)) v2002 (x8 + (1 : Int32)) _ hj _ _ _ (hP) (hD) hS (lv_sub hl [4, 5, 6, 7, 2, 1, 0] rfl)
def j_X1_begun (fb : Nat → Int64) (a1 : Int32) (a2 : Int32) (a3 : Int32) : Option (Option (Int64)) :=
  jtry (j_X1_requireCode a1 a2) fun _ => (jtry (j_X1_requireLength a3 (62 : Int32)) fun _ => ((jL_X1_begun_20 fb a1 a2 a3 jF (0 : Int64) (1 : Int64) (1 : Int32)).bind fun q => some (some q)))
set_option maxHeartbeats 4000000 in
set_option maxRecDepth 100000 in
theorem c_X1_begun (l : Launch) (dC : Nat → ClassId) (dI : Nat → Nat → Nat) (cI cJ : ClassId) (b1 : Nat) (b0 : Nat) (bw : Nat) (bq : Nat) (bf : Nat) (sz : Nat) (w : Nat → Int64) (en : Int32) (pl : Int32) (cu : Int32) (li : Nat → Int64) (ld : Int32) (fb : Nat → Int64) (a1 : Int32) (a2 : Int32) (a3 : Int32) (r : Int64) (hj : j_X1_begun fb a1 a2 a3 = some (some r)) : Met l yX1_begun wsX1_begun ({ frames := 7, cells := 0, slots := 0, locals := 165 } : Room) (va_Pc [.ref b1, .int a1, .int a2, .int a3] (fun U => jPr dC dI cI cJ (wC cJ b1 b0 bw bq bf w en pl cu li ld fb) sz U ∧ jNs U)) (va_Ql (fun (v : Int64) (_ : Unit) => v = r) (fun (_ : Unit) t => jPo dC dI cI cJ (wC cJ b1 b0 bw bq bf w en pl cu li ld fb) (va_A (wC cJ b1 b0 bw bq bf w en pl cu li ld fb) sz) t) (va_A (wC cJ b1 b0 bw bq bf w en pl cu li ld fb) sz)) 0 0 (va_A (wC cJ b1 b0 bw bq bf w en pl cu li ld fb) sz) := by
  refine Met.ofW (cc := cX1_begun) (maxL := 11) (ret := (some .long)) (by decide) rfl ?_
  intro p e s m args below meth c s₁ B hml hv
  obtain ⟨rfl, ⟨hsz, hP, hK, hD0⟩, hN⟩ := hv
  have hx := B.exec
  have hb := B.bytes
  have hr := B.returns
  have hts := atoms_spec (ws := wsX1_begun) B.pre
  have hown : s.vm.findClass RX1 = some m.cls := findClass_of_methodNamed B.named
  have hlocks := B.notSynchronized
  have C0 := jCx.of hx hb hr hml hown hts hlocks
  subst hsz
  have hD := hD0.self (sz := s.heap.size)
  generalize hAe : va_A (wC cJ b1 b0 bw bq bf w en pl cu li ld fb) s.heap.size = A at hD ⊢
  have hA : ∀ q : Nat, s.heap.size ≤ q → A q := fun q h => by rw [← hAe]; exact Or.inr h
  have hS : va_S A s.heap s.heap [] := va_S.rf
  have hP : va_P (dC, dI) vwCl (wC cJ b1 b0 bw bq bf w en pl cu li ld fb) s.heap := hP
  have hl := lv_entry ([.ref b1, .int a1, .int a2, .int a3]) (n := 11) (Nat.le_of_ble_eq_true rfl)
  rw [lg_entry_eq]
  generalize (lg_sl ([.ref b1, .int a1, .int a2, .int a3]) ++ List.replicate (11 - (lg_sl ([.ref b1, .int a1, .int a2, .int a3])).length) Slot.unset).toArray = ls at hl ⊢
  have hl : lv_has ls 11 [(0, .ref b1), (1, .int a1), (2, .int a2), (3, .int a3)] := hl
  clear hD0 hAe
  unfold j_X1_begun at hj
  refine lv_iload_n hx hb dX1_begun_0 rfl (lv_at hl 1 rfl) ?_
  refine lv_iload_n hx hb dX1_begun_1 rfl (lv_at hl 2 rfl) ?_
  obtain ⟨⟨⟩, hc, hj⟩ := ja_try hj
  try dsimp only at hj
  have hPc := hP.sub (ws' := ([] : va_W)) [] rfl
  have hDc := hD.sub (ws' := ([] : va_W)) [] (by decide) rfl
  have hFc := va_free (wc := ([] : va_W)) hD hS hA [] rfl
  refine va_callv (va_runS (As := [.int a1, .int a2]) (rest := []) ⟨hx, hb, hml, hown, hts⟩ (c_X1_requireCode l dC dI cI cJ s.heap.size a1 a2 _ hc) (va_cwS 2 hts gX1_begun_X1_requireCode rfl rfl rfl (by decide +kernel) ⟨Nat.le_of_ble_eq_true rfl, Nat.le_of_ble_eq_true rfl⟩) ⟨fun a U g mk q => ⟨q.1, jPr.blind q.2⟩, fun U hU hW => ⟨rfl, jPr.mk hU hW hPc hK hDc⟩⟩ rfl rfl hl.1 rfl (lv_room (Nat.le_of_ble_eq_true rfl)) dX1_begun_2 ⟨Nat.le_of_ble_eq_true rfl, Nat.le_of_ble_eq_true rfl⟩) hS (fun q _ h => hFc q h) hFc (fun u t H1 locs ht hvm hw9 hB hz1 hk1 hS => ?_)
  obtain ⟨hP1, hK1, hD1⟩ := hB
  rw [ht] at hP1
  obtain ⟨hP, hD⟩ := va_join (wr := ([(b1, .inr (1, [.ref b0, .ref bq, .ref bf, .int ld])), (b0, .inr (0, [.ref bw, .int en, .int pl, .int cu])), (bw, .inl (cJ, 64, .inr (.inl w))), (bq, .inl (cJ, 100, .inr (.inl li))), (bf, .inl (cJ, 89, .inr (.inl fb)))] : va_W)) (w1 := ([] : va_W)) hP hD [] [0, 1, 2, 3, 4] rfl rfl (by decide) (by decide) hk1 hFc hP1 hD1
  clear hk1 hP1 hK1 hD1 hvm hz1 hPc hDc hFc
  generalize H1 = H at hP hS ⊢
  have hP : va_P (dC, dI) vwCl (wC cJ b1 b0 bw bq bf w en pl cu li ld fb) H := hP
  have hD : va_D A (wC cJ b1 b0 bw bq bf w en pl cu li ld fb) := hD
  refine lv_iload_n hx hb dX1_begun_5 rfl (lv_at hl 3 rfl) ?_
  refine lv_bipush (v := (62 : Int32)) hx hb dX1_begun_6 (by decide) ?_
  obtain ⟨⟨⟩, hc, hj⟩ := ja_try hj
  try dsimp only at hj
  have hPc := hP.sub (ws' := ([] : va_W)) [] rfl
  have hDc := hD.sub (ws' := ([] : va_W)) [] (by decide) rfl
  have hFc := va_free (wc := ([] : va_W)) hD hS hA [] rfl
  refine va_callv (va_runS (As := [.int a3, .int (62 : Int32)]) (rest := []) ⟨hx, hb, hml, hown, hts⟩ (c_X1_requireLength l dC dI cI cJ H.size a3 (62 : Int32) _ hc) (va_cwS 2 hts gX1_begun_X1_requireLength rfl rfl rfl (by decide +kernel) ⟨Nat.le_of_ble_eq_true rfl, Nat.le_of_ble_eq_true rfl⟩) ⟨fun a U g mk q => ⟨q.1, jPr.blind q.2⟩, fun U hU hW => ⟨rfl, jPr.mk hU hW hPc hK hDc⟩⟩ rfl rfl hl.1 rfl (lv_room (Nat.le_of_ble_eq_true rfl)) dX1_begun_8 ⟨Nat.le_of_ble_eq_true rfl, Nat.le_of_ble_eq_true rfl⟩) hS (fun q _ h => hFc q h) hFc (fun u t H1 locs ht hvm hw9 hB hz1 hk1 hS => ?_)
  obtain ⟨hP1, hK1, hD1⟩ := hB
  rw [ht] at hP1
  obtain ⟨hP, hD⟩ := va_join (wr := ([(b1, .inr (1, [.ref b0, .ref bq, .ref bf, .int ld])), (b0, .inr (0, [.ref bw, .int en, .int pl, .int cu])), (bw, .inl (cJ, 64, .inr (.inl w))), (bq, .inl (cJ, 100, .inr (.inl li))), (bf, .inl (cJ, 89, .inr (.inl fb)))] : va_W)) (w1 := ([] : va_W)) hP hD [] [0, 1, 2, 3, 4] rfl rfl (by decide) (by decide) hk1 hFc hP1 hD1
  clear hk1 hP1 hK1 hD1 hvm hz1 hPc hDc hFc
  generalize H1 = H at hP hS ⊢
  have hP : va_P (dC, dI) vwCl (wC cJ b1 b0 bw bq bf w en pl cu li ld fb) H := hP
  have hD : va_D A (wC cJ b1 b0 bw bq bf w en pl cu li ld fb) := hD
  refine lv_lconst (v := (0 : Int64)) hx hb dX1_begun_11 (by decide) ?_
  refine lv_lstore (lv' := [(4, .long (0 : Int64)), (0, .ref b1), (1, .int a1), (2, .int a2), (3, .int a3)]) hx hb dX1_begun_12 hl (by decide) rfl (fun ls hl => ?_)
  refine lv_lconst (v := (1 : Int64)) hx hb dX1_begun_14 (by decide) ?_
  refine lv_lstore (lv' := [(6, .long (1 : Int64)), (4, .long (0 : Int64)), (0, .ref b1), (1, .int a1), (2, .int a2), (3, .int a3)]) hx hb dX1_begun_15 hl (by decide) rfl (fun ls hl => ?_)
  refine lv_iconst (v := (1 : Int32)) hx hb dX1_begun_17 (by decide) ?_
  refine lv_istore (lv' := [(8, .int (1 : Int32)), (6, .long (1 : Int64)), (4, .long (0 : Int64)), (0, .ref b1), (1, .int a1), (2, .int a2), (3, .int a3)]) hx hb dX1_begun_18 hl (by decide) rfl (fun ls hl => ?_)
  obtain ⟨q, hj, hq⟩ := ja_bd hj
  cases hq
  exact s_X1_begun_20 C0 hK hA hN b1 b0 bw bq bf w en pl cu li ld fb a1 a2 a3 jF (0 : Int64) (1 : Int64) (1 : Int32) _ hj _ _ _ (hP) (hD) hS (lv_sub hl [3, 4, 5, 6, 2, 1, 0] rfl)
set_option maxHeartbeats 4000000 in
set_option maxRecDepth 100000 in
theorem x_X1_begun (l : Launch) (hlt : l.stackTraces = false) (dC : Nat → ClassId) (dI : Nat → Nat → Nat) (cI cJ : ClassId) (b1 : Nat) (b0 : Nat) (bw : Nat) (bq : Nat) (bf : Nat) (sz : Nat) (w : Nat → Int64) (en : Int32) (pl : Int32) (cu : Int32) (li : Nat → Int64) (ld : Int32) (fb : Nat → Int64) (a1 : Int32) (a2 : Int32) (a3 : Int32) (hj : j_X1_begun fb a1 a2 a3 = some none) : vx_Met l yX1_begun wsX1_begun ({ frames := 7, cells := 1, slots := 6, locals := 165 } : Room) (va_Pc [.ref b1, .int a1, .int a2, .int a3] (fun U => jPr dC dI cI cJ (wC cJ b1 b0 bw bq bf w en pl cu li ld fb) sz U ∧ jNs U ∧ jXs (va_A (wC cJ b1 b0 bw bq bf w en pl cu li ld fb) sz) U)) (va_Ql (fun (_ : Int64) (_ : Unit) => False) (fun _ _ => True) (va_A (wC cJ b1 b0 bw bq bf w en pl cu li ld fb) sz)) (vx_X (fun _ : Unit => True) (fun E _ t => E = "java/lang/IllegalArgumentException" ∧ jPo dC dI cI cJ (wC cJ b1 b0 bw bq bf w en pl cu li ld fb) (va_A (wC cJ b1 b0 bw bq bf w en pl cu li ld fb) sz) t) (va_A (wC cJ b1 b0 bw bq bf w en pl cu li ld fb) sz)) 1 6 (va_A (wC cJ b1 b0 bw bq bf w en pl cu li ld fb) sz) := by
  refine vx_ofW (cc := cX1_begun) (maxL := 11) (ret := (some .long)) (by decide) rfl ?_
  intro p e s m args below meth c s₁ B hml htab hv
  obtain ⟨rfl, ⟨hsz, hP, hK, hD0⟩, hN, hXs⟩ := hv
  have hx := B.exec
  have hb := B.bytes
  have hr := B.returns
  have hts := atoms_spec (ws := wsX1_begun) B.pre
  have hown : s.vm.findClass RX1 = some m.cls := findClass_of_methodNamed B.named
  have hlocks := B.notSynchronized
  have C0 := jCx.of hx hb hr hml hown hts hlocks
  subst hsz
  have hD := hD0.self (sz := s.heap.size)
  generalize hAe : va_A (wC cJ b1 b0 bw bq bf w en pl cu li ld fb) s.heap.size = A at hD hXs ⊢
  have hA : ∀ q : Nat, s.heap.size ≤ q → A q := fun q h => by rw [← hAe]; exact Or.inr h
  have hS : va_S A s.heap s.heap [] := va_S.rf
  have hP : va_P (dC, dI) vwCl (wC cJ b1 b0 bw bq bf w en pl cu li ld fb) s.heap := hP
  have hl := lv_entry ([.ref b1, .int a1, .int a2, .int a3]) (n := 11) (Nat.le_of_ble_eq_true rfl)
  rw [lg_entry_eq]
  generalize (lg_sl ([.ref b1, .int a1, .int a2, .int a3]) ++ List.replicate (11 - (lg_sl ([.ref b1, .int a1, .int a2, .int a3])).length) Slot.unset).toArray = ls at hl ⊢
  have hl : lv_has ls 11 [(0, .ref b1), (1, .int a1), (2, .int a2), (3, .int a3)] := hl
  clear hD0 hAe
  unfold j_X1_begun at hj
  refine lv_iload_n hx hb dX1_begun_0 rfl (lv_at hl 1 rfl) ?_
  refine lv_iload_n hx hb dX1_begun_1 rfl (lv_at hl 2 rfl) ?_
  rcases ja_tryx hj with hc | ⟨⟨⟩, hc, hj⟩
  · have hPc := hP.sub (ws' := ([] : va_W)) [] rfl
    have hDc := hD.sub (ws' := ([] : va_W)) [] (by decide) rfl
    have hFc := va_free (wc := ([] : va_W)) hD hS hA [] rfl
    refine vx_callv (vx_runS (As := [.int a1, .int a2]) (rest := []) ⟨hx, hb, hml, hown, hts⟩ (x_X1_requireCode l hlt dC dI cI cJ s.heap.size a1 a2 hc) (va_cwS 2 hts gX1_begun_X1_requireCode rfl rfl rfl (by decide +kernel) ⟨Nat.le_of_ble_eq_true rfl, Nat.le_of_ble_eq_true rfl⟩) ⟨fun a U g mk q => ⟨q.1, jPr.blind q.2.1, jXs.blind q.2.2⟩, fun U hU hW => ⟨rfl, jPr.mk hU hW hPc hK hDc, jXs.down hU hW hS hFc hXs⟩⟩ rfl rfl hl.1 rfl (lv_room (Nat.le_of_ble_eq_true rfl)) dX1_begun_2 ⟨Nat.le_of_ble_eq_true rfl, Nat.le_of_ble_eq_true rfl⟩) hS (fun q _ h => hFc q h) hFc (fun q _ h => hFc q h) (fun E ce q9 u t H1 locs1 ht hvm hpx hBX hz1 hk1 hS hce hcv hcl => ?_) (fun u t H1 locs1 ht hvm hw9 hB hz1 hk1 hS => hw9.elim)
    obtain ⟨rfl, hP1, hK1, hD1⟩ := hBX
    rw [ht] at hP1
    obtain ⟨hP, hD⟩ := va_join (wr := ([(b1, .inr (1, [.ref b0, .ref bq, .ref bf, .int ld])), (b0, .inr (0, [.ref bw, .int en, .int pl, .int cu])), (bw, .inl (cJ, 64, .inr (.inl w))), (bq, .inl (cJ, 100, .inr (.inl li))), (bf, .inl (cJ, 89, .inr (.inl fb)))] : va_W)) (w1 := ([] : va_W)) hP hD [] [0, 1, 2, 3, 4] rfl rfl (by decide) (by decide) hk1 hFc hP1 hD1
    exact vx_out (fun x hx9 => (htab x hx9).elim) hlocks hce hcv hcl (fun t2 ht2 hal => ⟨(), trivial, ⟨rfl, by rw [ht2]; exact hP, va_K.moved hal hK, hD⟩, hS.F ht2⟩) hS.2.2 (by decide) (by decide)
  · try dsimp only at hj
    have hPc := hP.sub (ws' := ([] : va_W)) [] rfl
    have hDc := hD.sub (ws' := ([] : va_W)) [] (by decide) rfl
    have hFc := va_free (wc := ([] : va_W)) hD hS hA [] rfl
    refine va_callv (va_runS (As := [.int a1, .int a2]) (rest := []) ⟨hx, hb, hml, hown, hts⟩ (c_X1_requireCode l dC dI cI cJ s.heap.size a1 a2 _ hc) (va_cwS 2 hts gX1_begun_X1_requireCode rfl rfl rfl (by decide +kernel) ⟨Nat.le_of_ble_eq_true rfl, Nat.le_of_ble_eq_true rfl⟩) ⟨fun a U g mk q => ⟨q.1, jPr.blind q.2⟩, fun U hU hW => ⟨rfl, jPr.mk hU hW hPc hK hDc⟩⟩ rfl rfl hl.1 rfl (lv_room (Nat.le_of_ble_eq_true rfl)) dX1_begun_2 ⟨Nat.le_of_ble_eq_true rfl, Nat.le_of_ble_eq_true rfl⟩) hS (fun q _ h => hFc q h) hFc (fun u t H1 locs ht hvm hw9 hB hz1 hk1 hS => ?_)
    obtain ⟨hP1, hK1, hD1⟩ := hB
    rw [ht] at hP1
    obtain ⟨hP, hD⟩ := va_join (wr := ([(b1, .inr (1, [.ref b0, .ref bq, .ref bf, .int ld])), (b0, .inr (0, [.ref bw, .int en, .int pl, .int cu])), (bw, .inl (cJ, 64, .inr (.inl w))), (bq, .inl (cJ, 100, .inr (.inl li))), (bf, .inl (cJ, 89, .inr (.inl fb)))] : va_W)) (w1 := ([] : va_W)) hP hD [] [0, 1, 2, 3, 4] rfl rfl (by decide) (by decide) hk1 hFc hP1 hD1
    clear hk1 hP1 hK1 hD1 hvm hz1 hPc hDc hFc
    generalize H1 = H at hP hS ⊢
    have hP : va_P (dC, dI) vwCl (wC cJ b1 b0 bw bq bf w en pl cu li ld fb) H := hP
    have hD : va_D A (wC cJ b1 b0 bw bq bf w en pl cu li ld fb) := hD
    refine lv_iload_n hx hb dX1_begun_5 rfl (lv_at hl 3 rfl) ?_
    refine lv_bipush (v := (62 : Int32)) hx hb dX1_begun_6 (by decide) ?_
    rcases ja_tryx hj with hc | ⟨⟨⟩, hc, hj⟩
    · have hPc := hP.sub (ws' := ([] : va_W)) [] rfl
      have hDc := hD.sub (ws' := ([] : va_W)) [] (by decide) rfl
      have hFc := va_free (wc := ([] : va_W)) hD hS hA [] rfl
      refine vx_callv (vx_runS (As := [.int a3, .int (62 : Int32)]) (rest := []) ⟨hx, hb, hml, hown, hts⟩ (x_X1_requireLength l hlt dC dI cI cJ H.size a3 (62 : Int32) hc) (va_cwS 2 hts gX1_begun_X1_requireLength rfl rfl rfl (by decide +kernel) ⟨Nat.le_of_ble_eq_true rfl, Nat.le_of_ble_eq_true rfl⟩) ⟨fun a U g mk q => ⟨q.1, jPr.blind q.2.1, jXs.blind q.2.2⟩, fun U hU hW => ⟨rfl, jPr.mk hU hW hPc hK hDc, jXs.down hU hW hS hFc hXs⟩⟩ rfl rfl hl.1 rfl (lv_room (Nat.le_of_ble_eq_true rfl)) dX1_begun_8 ⟨Nat.le_of_ble_eq_true rfl, Nat.le_of_ble_eq_true rfl⟩) hS (fun q _ h => hFc q h) hFc (fun q _ h => hFc q h) (fun E ce q9 u t H1 locs1 ht hvm hpx hBX hz1 hk1 hS hce hcv hcl => ?_) (fun u t H1 locs1 ht hvm hw9 hB hz1 hk1 hS => hw9.elim)
      obtain ⟨rfl, hP1, hK1, hD1⟩ := hBX
      rw [ht] at hP1
      obtain ⟨hP, hD⟩ := va_join (wr := ([(b1, .inr (1, [.ref b0, .ref bq, .ref bf, .int ld])), (b0, .inr (0, [.ref bw, .int en, .int pl, .int cu])), (bw, .inl (cJ, 64, .inr (.inl w))), (bq, .inl (cJ, 100, .inr (.inl li))), (bf, .inl (cJ, 89, .inr (.inl fb)))] : va_W)) (w1 := ([] : va_W)) hP hD [] [0, 1, 2, 3, 4] rfl rfl (by decide) (by decide) hk1 hFc hP1 hD1
      exact vx_out (fun x hx9 => (htab x hx9).elim) hlocks hce hcv hcl (fun t2 ht2 hal => ⟨(), trivial, ⟨rfl, by rw [ht2]; exact hP, va_K.moved hal hK, hD⟩, hS.F ht2⟩) hS.2.2 (by decide) (by decide)
    · try dsimp only at hj
      have hPc := hP.sub (ws' := ([] : va_W)) [] rfl
      have hDc := hD.sub (ws' := ([] : va_W)) [] (by decide) rfl
      have hFc := va_free (wc := ([] : va_W)) hD hS hA [] rfl
      refine va_callv (va_runS (As := [.int a3, .int (62 : Int32)]) (rest := []) ⟨hx, hb, hml, hown, hts⟩ (c_X1_requireLength l dC dI cI cJ H.size a3 (62 : Int32) _ hc) (va_cwS 2 hts gX1_begun_X1_requireLength rfl rfl rfl (by decide +kernel) ⟨Nat.le_of_ble_eq_true rfl, Nat.le_of_ble_eq_true rfl⟩) ⟨fun a U g mk q => ⟨q.1, jPr.blind q.2⟩, fun U hU hW => ⟨rfl, jPr.mk hU hW hPc hK hDc⟩⟩ rfl rfl hl.1 rfl (lv_room (Nat.le_of_ble_eq_true rfl)) dX1_begun_8 ⟨Nat.le_of_ble_eq_true rfl, Nat.le_of_ble_eq_true rfl⟩) hS (fun q _ h => hFc q h) hFc (fun u t H1 locs ht hvm hw9 hB hz1 hk1 hS => ?_)
      obtain ⟨hP1, hK1, hD1⟩ := hB
      rw [ht] at hP1
      obtain ⟨hP, hD⟩ := va_join (wr := ([(b1, .inr (1, [.ref b0, .ref bq, .ref bf, .int ld])), (b0, .inr (0, [.ref bw, .int en, .int pl, .int cu])), (bw, .inl (cJ, 64, .inr (.inl w))), (bq, .inl (cJ, 100, .inr (.inl li))), (bf, .inl (cJ, 89, .inr (.inl fb)))] : va_W)) (w1 := ([] : va_W)) hP hD [] [0, 1, 2, 3, 4] rfl rfl (by decide) (by decide) hk1 hFc hP1 hD1
      clear hk1 hP1 hK1 hD1 hvm hz1 hPc hDc hFc
      generalize H1 = H at hP hS ⊢
      have hP : va_P (dC, dI) vwCl (wC cJ b1 b0 bw bq bf w en pl cu li ld fb) H := hP
      have hD : va_D A (wC cJ b1 b0 bw bq bf w en pl cu li ld fb) := hD
      refine lv_lconst (v := (0 : Int64)) hx hb dX1_begun_11 (by decide) ?_
      refine lv_lstore (lv' := [(4, .long (0 : Int64)), (0, .ref b1), (1, .int a1), (2, .int a2), (3, .int a3)]) hx hb dX1_begun_12 hl (by decide) rfl (fun ls hl => ?_)
      refine lv_lconst (v := (1 : Int64)) hx hb dX1_begun_14 (by decide) ?_
      refine lv_lstore (lv' := [(6, .long (1 : Int64)), (4, .long (0 : Int64)), (0, .ref b1), (1, .int a1), (2, .int a2), (3, .int a3)]) hx hb dX1_begun_15 hl (by decide) rfl (fun ls hl => ?_)
      refine lv_iconst (v := (1 : Int32)) hx hb dX1_begun_17 (by decide) ?_
      refine lv_istore (lv' := [(8, .int (1 : Int32)), (6, .long (1 : Int64)), (4, .long (0 : Int64)), (0, .ref b1), (1, .int a1), (2, .int a2), (3, .int a3)]) hx hb dX1_begun_18 hl (by decide) rfl (fun ls hl => ?_)
      obtain ⟨q, hj, hq⟩ := ja_bd hj
      cases hq

def jL_X1_best_48 (li : Nat → Int64) (ld : Int32) (fb : Nat → Int64) (x1 : Int32) (x2 : Int32) : Nat → Int32 → Int64 → Int32 → Option (Int32)
  | 0, _, _, _ => none
  | n + 1, x3, x4, x6 => if x2 < x6 then (some x3) else ((j_X1_listLength li ld fb x1 x6).bind fun v4802 => (if x4 ≤ v4802 then (jL_X1_best_48 li ld fb x1 x2 n x3 x4 (x6 + (1 : Int32))) else (jL_X1_best_48 li ld fb x1 x2 n x6 v4802 (x6 + (1 : Int32)))))
set_option maxHeartbeats 4000000 in
set_option maxRecDepth 100000 in
theorem s_X1_best_48 {p : Program} {l : Launch} {e : Env} {s : State} {m : MethodId} {args : Array Value} {below : List Frame} {meth : Method} {c : Code} {dC : Nat → ClassId} {dI : Nat → Nat → Nat} {cI cJ : ClassId} {A : Nat → Prop} (C0 : jCx p s m args meth c RX1 cX1_best 9 (some .int) wsX1_best) (hK : va_K (dC, dI) vwCl (jTy cI cJ) s) (hA : ∀ q : Nat, s.heap.size ≤ q → A q) (hN : jNs s) (b1 : Nat) (b0 : Nat) (bw : Nat) (bq : Nat) (bf : Nat) (w : Nat → Int64) (en : Int32) (pl : Int32) (cu : Int32) (li : Nat → Int64) (ld : Int32) (fb : Nat → Int64) (x1 : Int32) (x2 : Int32) :
    ∀ (n : Nat) (x3 : Int32) (x4 : Int64) (x6 : Int32) (r : Int32), jL_X1_best_48 li ld fb x1 x2 n x3 x4 x6 = some r → ∀ (H : Heap) (locs : List Loc) (ls : Array Slot), va_P (dC, dI) vwCl (wC cJ b1 b0 bw bq bf w en pl cu li ld fb) H → va_D A (wC cJ b1 b0 bw bq bf w en pl cu li ld fb) → va_S A s.heap H locs → lv_has ls 9 [(0, .ref b1), (1, .int x1), (2, .int x2), (3, .int x3), (4, .long x4), (6, .int x6)] → W p l e ({ frames := 7, cells := 0, slots := 0, locals := 162 } : Room) s m args below meth c H locs 0 0 (MQ below (va_Qi (fun (v : Int32) (_ : Unit) => v = r) (fun (_ : Unit) t => jPo dC dI cI cJ (wC cJ b1 b0 bw bq bf w en pl cu li ld fb) A t) A) args s 0 0 A) (F0 m 48 ls []) := by
  obtain ⟨hx, hb, hr, hml, hown, hts, hlocks⟩ := id C0
  intro n
  induction n with
  | zero =>
    intro x3 x4 x6 r hj
    exact nomatch (show (none : Option (Int32)) = some r from hj)
  | succ n ih =>
    intro x3 x4 x6 r hj H locs ls hP hD hS hl
    replace hj : (if x2 < x6 then (some x3) else ((j_X1_listLength li ld fb x1 x6).bind fun v4802 => (if x4 ≤ v4802 then (jL_X1_best_48 li ld fb x1 x2 n x3 x4 (x6 + (1 : Int32))) else (jL_X1_best_48 li ld fb x1 x2 n x6 v4802 (x6 + (1 : Int32)))))) = some r := hj
    refine lv_iload hx hb dX1_best_48 (lv_at hl 5 rfl) ?_
    refine lv_iload_n hx hb dX1_best_50 rfl (lv_at hl 2 rfl) ?_
    refine lv_icmp_gt (tgt := 84) hx hb dX1_best_51 (by decide) (fun c4801 => ?_) (fun c4801 => ?_)
    · replace hj := ja_pos c4801 hj
      refine lv_iload_n hx hb dX1_best_84 rfl (lv_at hl 3 rfl) ?_
      have hr9 : x3 = r := Option.some.inj hj
      subst hr9
      exact W.iret (v := x3) hx hb hr (fun t ht hW => ⟨⟨x3, (), rfl, rfl, by rw [ht]; exact hP, va_K.moved hW.alike hK, hD⟩, hS.F ht⟩) hS.2.2 dX1_best_85
    · replace hj := ja_neg c4801 hj
      refine lv_aload_n hx hb dX1_best_54 rfl (lv_at hl 0 rfl) ?_
      refine lv_iload_n hx hb dX1_best_55 rfl (lv_at hl 1 rfl) ?_
      refine lv_iload hx hb dX1_best_56 (lv_at hl 5 rfl) ?_
      obtain ⟨v4802, hc, hj⟩ := ja_bd hj
      try dsimp only at hj
      have hPc := hP.sub (ws' := (wC cJ b1 b0 bw bq bf w en pl cu li ld fb)) [0, 1, 2, 3, 4] rfl
      have hDc := hD.sub (ws' := (wC cJ b1 b0 bw bq bf w en pl cu li ld fb)) [0, 1, 2, 3, 4] (by decide) rfl
      have hFc := va_free (wc := (wC cJ b1 b0 bw bq bf w en pl cu li ld fb)) hD hS hA [0, 1, 2, 3, 4] rfl
      refine va_calll (va_runV (As := [.int x1, .int x6]) (rest := []) ⟨hx, hb, hml, hown, hts⟩ (c_X1_listLength l dC dI cI cJ b1 b0 bw bq bf H.size w en pl cu li ld fb x1 x6 _ hc) (cwV 2 hts gX1_best_X1_listLength rfl rfl rfl (by decide +kernel) ⟨Nat.le_of_ble_eq_true rfl, Nat.le_of_ble_eq_true rfl⟩) ⟨fun a U g mk q => ⟨q.1, jPr.blind q.2.1, jNs.blind q.2.2⟩, va_recv hK hPc (ci := 1) (q0 := 0) rfl rfl, fun U hU hW => ⟨rfl, jPr.mk hU hW hPc hK hDc, jNs.warm hW hN⟩⟩ rfl rfl hl.1 rfl (lv_room (Nat.le_of_ble_eq_true rfl)) dX1_best_58 ⟨Nat.le_of_ble_eq_true rfl, Nat.le_of_ble_eq_true rfl⟩) hS (fun q _ h => hFc q h) hFc (fun rr u t H1 locs ht hvm hw9 hB hz1 hk1 hS => ?_)
      have hw8 : v4802 = rr := hw9.symm
      subst hw8
      obtain ⟨hP1, hK1, hD1⟩ := hB
      rw [ht] at hP1
      obtain ⟨hP, hD⟩ := va_join (wr := ([] : va_W)) (w1 := (wC cJ b1 b0 bw bq bf w en pl cu li ld fb)) hP hD [0, 1, 2, 3, 4] [] rfl rfl (by decide) (by decide) hk1 hFc hP1 hD1
      clear hk1 hP1 hK1 hD1 hvm hz1 hPc hDc hFc
      generalize H1 = H at hP hS ⊢
      have hP : va_P (dC, dI) vwCl (wC cJ b1 b0 bw bq bf w en pl cu li ld fb) H := hP
      have hD : va_D A (wC cJ b1 b0 bw bq bf w en pl cu li ld fb) := hD
      refine lv_lstore (lv' := [(7, .long v4802), (0, .ref b1), (1, .int x1), (2, .int x2), (3, .int x3), (4, .long x4), (6, .int x6)]) hx hb dX1_best_61 hl (by decide) rfl (fun ls hl => ?_)
      refine lv_lload hx hb dX1_best_63 (lv_at hl 0 rfl) ?_
      refine lv_lload hx hb dX1_best_65 (lv_at hl 5 rfl) ?_
      refine W.lcmp hx hb dX1_best_67 ?_
      refine lv_if_ge (tgt := 78) hx hb dX1_best_68 (by decide) (fun c4803 => ?_) (fun c4803 => ?_)
      · replace hj := ja_pos ((lg_cmp_ge v4802 x4).mp c4803) hj
        refine lv_iinc (v := x6 + (1 : Int32)) (lv' := [(6, .int (x6 + (1 : Int32))), (7, .long v4802), (0, .ref b1), (1, .int x1), (2, .int x2), (3, .int x3), (4, .long x4)]) hx hb dX1_best_78 hl (k := 6) rfl (congrArg (fun z => x6 + z) (by decide)) (by decide) rfl (fun ls hl => ?_)
        refine lv_goto (tgt := 48) hx hb dX1_best_81 (by decide) ?_
        exact ih x3 x4 (x6 + (1 : Int32)) _ hj _ _ _ (hP) (hD) hS (lv_sub hl [2, 3, 4, 5, 6, 0] rfl)
      · replace hj := ja_neg (fun h9 => c4803 ((lg_cmp_ge v4802 x4).mpr h9)) hj
        refine lv_lload hx hb dX1_best_71 (lv_at hl 0 rfl) ?_
        refine lv_lstore (lv' := [(4, .long v4802), (7, .long v4802), (0, .ref b1), (1, .int x1), (2, .int x2), (3, .int x3), (6, .int x6)]) hx hb dX1_best_73 hl (by decide) rfl (fun ls hl => ?_)
        refine lv_iload hx hb dX1_best_75 (lv_at hl 6 rfl) ?_
        refine lv_istore_n (lv' := [(3, .int x6), (4, .long v4802), (7, .long v4802), (0, .ref b1), (1, .int x1), (2, .int x2), (6, .int x6)]) hx hb dX1_best_77 rfl hl (by decide) rfl (fun ls hl => ?_)
        refine lv_iinc (v := x6 + (1 : Int32)) (lv' := [(6, .int (x6 + (1 : Int32))), (3, .int x6), (4, .long v4802), (7, .long v4802), (0, .ref b1), (1, .int x1), (2, .int x2)]) hx hb dX1_best_78 hl (k := 6) rfl (congrArg (fun z => x6 + z) (by decide)) (by decide) rfl (fun ls hl => ?_)
        refine lv_goto (tgt := 48) hx hb dX1_best_81 (by decide) ?_
        exact ih x6 v4802 (x6 + (1 : Int32)) _ hj _ _ _ (hP) (hD) hS (lv_sub hl [4, 5, 6, 1, 2, 0] rfl)
def j_X1_best (li : Nat → Int64) (ld : Int32) (fb : Nat → Int64) (a1 : Int32) (a2 : Int32) : Option (Option (Int32)) :=
  if a1 < (5 : Int32) then (some none) else (if (500 : Int32) < a2 then (some none) else ((j_X1_isCode a1 a2).bind fun v3 => (if v3 = (0 : Int32) then (some none) else ((j_X1_leastParameter a1).bind fun v5 => ((j_X1_listLength li ld fb a1 v5).bind fun v6 => ((jL_X1_best_48 li ld fb a1 a2 jF v5 v6 (v5 + (1 : Int32))).bind fun q => some (some q)))))))
set_option maxHeartbeats 4000000 in
set_option maxRecDepth 100000 in
theorem c_X1_best (l : Launch) (dC : Nat → ClassId) (dI : Nat → Nat → Nat) (cI cJ : ClassId) (b1 : Nat) (b0 : Nat) (bw : Nat) (bq : Nat) (bf : Nat) (sz : Nat) (w : Nat → Int64) (en : Int32) (pl : Int32) (cu : Int32) (li : Nat → Int64) (ld : Int32) (fb : Nat → Int64) (a1 : Int32) (a2 : Int32) (r : Int32) (hj : j_X1_best li ld fb a1 a2 = some (some r)) : Met l yX1_best wsX1_best ({ frames := 7, cells := 0, slots := 0, locals := 162 } : Room) (va_Pc [.ref b1, .int a1, .int a2] (fun U => jPr dC dI cI cJ (wC cJ b1 b0 bw bq bf w en pl cu li ld fb) sz U ∧ jNs U)) (va_Qi (fun (v : Int32) (_ : Unit) => v = r) (fun (_ : Unit) t => jPo dC dI cI cJ (wC cJ b1 b0 bw bq bf w en pl cu li ld fb) (va_A (wC cJ b1 b0 bw bq bf w en pl cu li ld fb) sz) t) (va_A (wC cJ b1 b0 bw bq bf w en pl cu li ld fb) sz)) 0 0 (va_A (wC cJ b1 b0 bw bq bf w en pl cu li ld fb) sz) := by
  refine Met.ofW (cc := cX1_best) (maxL := 9) (ret := (some .int)) (by decide) rfl ?_
  intro p e s m args below meth c s₁ B hml hv
  obtain ⟨rfl, ⟨hsz, hP, hK, hD0⟩, hN⟩ := hv
  have hx := B.exec
  have hb := B.bytes
  have hr := B.returns
  have hts := atoms_spec (ws := wsX1_best) B.pre
  have hown : s.vm.findClass RX1 = some m.cls := findClass_of_methodNamed B.named
  have hlocks := B.notSynchronized
  have C0 := jCx.of hx hb hr hml hown hts hlocks
  subst hsz
  have hD := hD0.self (sz := s.heap.size)
  generalize hAe : va_A (wC cJ b1 b0 bw bq bf w en pl cu li ld fb) s.heap.size = A at hD ⊢
  have hA : ∀ q : Nat, s.heap.size ≤ q → A q := fun q h => by rw [← hAe]; exact Or.inr h
  have hS : va_S A s.heap s.heap [] := va_S.rf
  have hP : va_P (dC, dI) vwCl (wC cJ b1 b0 bw bq bf w en pl cu li ld fb) s.heap := hP
  have hl := lv_entry ([.ref b1, .int a1, .int a2]) (n := 9) (Nat.le_of_ble_eq_true rfl)
  rw [lg_entry_eq]
  generalize (lg_sl ([.ref b1, .int a1, .int a2]) ++ List.replicate (9 - (lg_sl ([.ref b1, .int a1, .int a2])).length) Slot.unset).toArray = ls at hl ⊢
  have hl : lv_has ls 9 [(0, .ref b1), (1, .int a1), (2, .int a2)] := hl
  clear hD0 hAe
  unfold j_X1_best at hj
  refine lv_iload_n hx hb dX1_best_0 rfl (lv_at hl 1 rfl) ?_
  refine lv_iconst (v := (5 : Int32)) hx hb dX1_best_1 (by decide) ?_
  refine lv_icmp_lt (tgt := 20) hx hb dX1_best_2 (by decide) (fun c1 => ?_) (fun c1 => ?_)
  · replace hj := ja_pos c1 hj
    cases hj
  · replace hj := ja_neg c1 hj
    refine lv_iload_n hx hb dX1_best_5 rfl (lv_at hl 2 rfl) ?_
    refine lv_sipush (v := (500 : Int32)) hx hb dX1_best_6 (by decide) ?_
    refine lv_icmp_gt (tgt := 20) hx hb dX1_best_9 (by decide) (fun c2 => ?_) (fun c2 => ?_)
    · replace hj := ja_pos c2 hj
      cases hj
    · replace hj := ja_neg c2 hj
      refine lv_iload_n hx hb dX1_best_12 rfl (lv_at hl 1 rfl) ?_
      refine lv_iload_n hx hb dX1_best_13 rfl (lv_at hl 2 rfl) ?_
      obtain ⟨v3, hc, hj⟩ := ja_bd hj
      try dsimp only at hj
      have hPc := hP.sub (ws' := ([] : va_W)) [] rfl
      have hDc := hD.sub (ws' := ([] : va_W)) [] (by decide) rfl
      have hFc := va_free (wc := ([] : va_W)) hD hS hA [] rfl
      refine va_calli (va_runS (As := [.int a1, .int a2]) (rest := []) ⟨hx, hb, hml, hown, hts⟩ (c_X1_isCode l dC dI cI cJ s.heap.size a1 a2 _ hc) (va_cwS 2 hts gX1_best_X1_isCode rfl rfl rfl (by decide +kernel) ⟨Nat.le_of_ble_eq_true rfl, Nat.le_of_ble_eq_true rfl⟩) ⟨fun a U g mk q => ⟨q.1, jPr.blind q.2⟩, fun U hU hW => ⟨rfl, jPr.mk hU hW hPc hK hDc⟩⟩ rfl rfl hl.1 rfl (lv_room (Nat.le_of_ble_eq_true rfl)) dX1_best_14 ⟨Nat.le_of_ble_eq_true rfl, Nat.le_of_ble_eq_true rfl⟩) hS (fun q _ h => hFc q h) hFc (fun rr u t H1 locs ht hvm hw9 hB hz1 hk1 hS => ?_)
      have hw8 : v3 = rr := hw9.symm
      subst hw8
      obtain ⟨hP1, hK1, hD1⟩ := hB
      rw [ht] at hP1
      obtain ⟨hP, hD⟩ := va_join (wr := ([(b1, .inr (1, [.ref b0, .ref bq, .ref bf, .int ld])), (b0, .inr (0, [.ref bw, .int en, .int pl, .int cu])), (bw, .inl (cJ, 64, .inr (.inl w))), (bq, .inl (cJ, 100, .inr (.inl li))), (bf, .inl (cJ, 89, .inr (.inl fb)))] : va_W)) (w1 := ([] : va_W)) hP hD [] [0, 1, 2, 3, 4] rfl rfl (by decide) (by decide) hk1 hFc hP1 hD1
      clear hk1 hP1 hK1 hD1 hvm hz1 hPc hDc hFc
      generalize H1 = H at hP hS ⊢
      have hP : va_P (dC, dI) vwCl (wC cJ b1 b0 bw bq bf w en pl cu li ld fb) H := hP
      have hD : va_D A (wC cJ b1 b0 bw bq bf w en pl cu li ld fb) := hD
      refine lv_if_ne (tgt := 30) hx hb dX1_best_17 (by decide) (fun c4 => ?_) (fun c4 => ?_)
      · replace hj := ja_neg c4 hj
        refine lv_iload_n hx hb dX1_best_30 rfl (lv_at hl 1 rfl) ?_
        obtain ⟨v5, hc, hj⟩ := ja_bd hj
        try dsimp only at hj
        have hPc := hP.sub (ws' := ([] : va_W)) [] rfl
        have hDc := hD.sub (ws' := ([] : va_W)) [] (by decide) rfl
        have hFc := va_free (wc := ([] : va_W)) hD hS hA [] rfl
        refine va_calli (va_runS (As := [.int a1]) (rest := []) ⟨hx, hb, hml, hown, hts⟩ (c_X1_leastParameter l dC dI cI cJ H.size a1 _ hc) (va_cwS 1 hts gX1_best_X1_leastParameter rfl rfl rfl (by decide +kernel) ⟨Nat.le_of_ble_eq_true rfl, Nat.le_of_ble_eq_true rfl⟩) ⟨fun a U g mk q => ⟨q.1, jPr.blind q.2⟩, fun U hU hW => ⟨rfl, jPr.mk hU hW hPc hK hDc⟩⟩ rfl rfl hl.1 rfl (lv_room (Nat.le_of_ble_eq_true rfl)) dX1_best_31 ⟨Nat.le_of_ble_eq_true rfl, Nat.le_of_ble_eq_true rfl⟩) hS (fun q _ h => hFc q h) hFc (fun rr u t H1 locs ht hvm hw9 hB hz1 hk1 hS => ?_)
        have hw8 : v5 = rr := hw9.symm
        subst hw8
        obtain ⟨hP1, hK1, hD1⟩ := hB
        rw [ht] at hP1
        obtain ⟨hP, hD⟩ := va_join (wr := ([(b1, .inr (1, [.ref b0, .ref bq, .ref bf, .int ld])), (b0, .inr (0, [.ref bw, .int en, .int pl, .int cu])), (bw, .inl (cJ, 64, .inr (.inl w))), (bq, .inl (cJ, 100, .inr (.inl li))), (bf, .inl (cJ, 89, .inr (.inl fb)))] : va_W)) (w1 := ([] : va_W)) hP hD [] [0, 1, 2, 3, 4] rfl rfl (by decide) (by decide) hk1 hFc hP1 hD1
        clear hk1 hP1 hK1 hD1 hvm hz1 hPc hDc hFc
        generalize H1 = H at hP hS ⊢
        have hP : va_P (dC, dI) vwCl (wC cJ b1 b0 bw bq bf w en pl cu li ld fb) H := hP
        have hD : va_D A (wC cJ b1 b0 bw bq bf w en pl cu li ld fb) := hD
        refine lv_istore_n (lv' := [(3, .int v5), (0, .ref b1), (1, .int a1), (2, .int a2)]) hx hb dX1_best_34 rfl hl (by decide) rfl (fun ls hl => ?_)
        refine lv_aload_n hx hb dX1_best_35 rfl (lv_at hl 1 rfl) ?_
        refine lv_iload_n hx hb dX1_best_36 rfl (lv_at hl 2 rfl) ?_
        refine lv_iload_n hx hb dX1_best_37 rfl (lv_at hl 0 rfl) ?_
        obtain ⟨v6, hc, hj⟩ := ja_bd hj
        try dsimp only at hj
        have hPc := hP.sub (ws' := (wC cJ b1 b0 bw bq bf w en pl cu li ld fb)) [0, 1, 2, 3, 4] rfl
        have hDc := hD.sub (ws' := (wC cJ b1 b0 bw bq bf w en pl cu li ld fb)) [0, 1, 2, 3, 4] (by decide) rfl
        have hFc := va_free (wc := (wC cJ b1 b0 bw bq bf w en pl cu li ld fb)) hD hS hA [0, 1, 2, 3, 4] rfl
        refine va_calll (va_runV (As := [.int a1, .int v5]) (rest := []) ⟨hx, hb, hml, hown, hts⟩ (c_X1_listLength l dC dI cI cJ b1 b0 bw bq bf H.size w en pl cu li ld fb a1 v5 _ hc) (cwV 2 hts gX1_best_X1_listLength rfl rfl rfl (by decide +kernel) ⟨Nat.le_of_ble_eq_true rfl, Nat.le_of_ble_eq_true rfl⟩) ⟨fun a U g mk q => ⟨q.1, jPr.blind q.2.1, jNs.blind q.2.2⟩, va_recv hK hPc (ci := 1) (q0 := 0) rfl rfl, fun U hU hW => ⟨rfl, jPr.mk hU hW hPc hK hDc, jNs.warm hW hN⟩⟩ rfl rfl hl.1 rfl (lv_room (Nat.le_of_ble_eq_true rfl)) dX1_best_38 ⟨Nat.le_of_ble_eq_true rfl, Nat.le_of_ble_eq_true rfl⟩) hS (fun q _ h => hFc q h) hFc (fun rr u t H1 locs ht hvm hw9 hB hz1 hk1 hS => ?_)
        have hw8 : v6 = rr := hw9.symm
        subst hw8
        obtain ⟨hP1, hK1, hD1⟩ := hB
        rw [ht] at hP1
        obtain ⟨hP, hD⟩ := va_join (wr := ([] : va_W)) (w1 := (wC cJ b1 b0 bw bq bf w en pl cu li ld fb)) hP hD [0, 1, 2, 3, 4] [] rfl rfl (by decide) (by decide) hk1 hFc hP1 hD1
        clear hk1 hP1 hK1 hD1 hvm hz1 hPc hDc hFc
        generalize H1 = H at hP hS ⊢
        have hP : va_P (dC, dI) vwCl (wC cJ b1 b0 bw bq bf w en pl cu li ld fb) H := hP
        have hD : va_D A (wC cJ b1 b0 bw bq bf w en pl cu li ld fb) := hD
        refine lv_lstore (lv' := [(4, .long v6), (3, .int v5), (0, .ref b1), (1, .int a1), (2, .int a2)]) hx hb dX1_best_41 hl (by decide) rfl (fun ls hl => ?_)
        refine lv_iload_n hx hb dX1_best_43 rfl (lv_at hl 1 rfl) ?_
        refine lv_iconst (v := (1 : Int32)) hx hb dX1_best_44 (by decide) ?_
        refine lv_iadd hx hb dX1_best_45 ?_
        refine lv_istore (lv' := [(6, .int (v5 + (1 : Int32))), (4, .long v6), (3, .int v5), (0, .ref b1), (1, .int a1), (2, .int a2)]) hx hb dX1_best_46 hl (by decide) rfl (fun ls hl => ?_)
        obtain ⟨q, hj, hq⟩ := ja_bd hj
        cases hq
        exact s_X1_best_48 C0 hK hA hN b1 b0 bw bq bf w en pl cu li ld fb a1 a2 jF v5 v6 (v5 + (1 : Int32)) _ hj _ _ _ (hP) (hD) hS (lv_sub hl [3, 4, 5, 2, 1, 0] rfl)
      · replace hj := ja_pos c4 hj
        cases hj
theorem xw_X1_best_A {args : Array Value} {s : State} (hts : ∀ w ∈ wsX1_best, w.before args s = true) : ∀ w ∈ (vx_atS RX1 56 "java/lang/IllegalArgumentException" ["java/lang/RuntimeException", "java/lang/Exception"]).filter goodWord, w.before args s = true := fun w h => hts w (List.mem_cons_of_mem _ (List.mem_append_right _ h))
theorem xg_X1_best_A : ∀ w ∈ Cond.classLink RX1 52 "java/lang/IllegalArgumentException" :: Cond.initialized "java/lang/IllegalArgumentException" :: (vx_atS RX1 56 "java/lang/IllegalArgumentException" ["java/lang/RuntimeException", "java/lang/Exception"]), vx_ot w = true := by decide +kernel
set_option maxHeartbeats 4000000 in
set_option maxRecDepth 100000 in
theorem x_X1_best (l : Launch) (hlt : l.stackTraces = false) (dC : Nat → ClassId) (dI : Nat → Nat → Nat) (cI cJ : ClassId) (b1 : Nat) (b0 : Nat) (bw : Nat) (bq : Nat) (bf : Nat) (sz : Nat) (w : Nat → Int64) (en : Int32) (pl : Int32) (cu : Int32) (li : Nat → Int64) (ld : Int32) (fb : Nat → Int64) (a1 : Int32) (a2 : Int32) (hj : j_X1_best li ld fb a1 a2 = some none) : vx_Met l yX1_best wsX1_best ({ frames := 7, cells := 1, slots := 6, locals := 162 } : Room) (va_Pc [.ref b1, .int a1, .int a2] (fun U => jPr dC dI cI cJ (wC cJ b1 b0 bw bq bf w en pl cu li ld fb) sz U ∧ jNs U ∧ jXs (va_A (wC cJ b1 b0 bw bq bf w en pl cu li ld fb) sz) U)) (va_Qi (fun (_ : Int32) (_ : Unit) => False) (fun _ _ => True) (va_A (wC cJ b1 b0 bw bq bf w en pl cu li ld fb) sz)) (vx_X (fun _ : Unit => True) (fun E _ t => E = "java/lang/IllegalArgumentException" ∧ jPo dC dI cI cJ (wC cJ b1 b0 bw bq bf w en pl cu li ld fb) (va_A (wC cJ b1 b0 bw bq bf w en pl cu li ld fb) sz) t) (va_A (wC cJ b1 b0 bw bq bf w en pl cu li ld fb) sz)) 1 6 (va_A (wC cJ b1 b0 bw bq bf w en pl cu li ld fb) sz) := by
  refine vx_ofW (cc := cX1_best) (maxL := 9) (ret := (some .int)) (by decide) rfl ?_
  intro p e s m args below meth c s₁ B hml htab hv
  obtain ⟨rfl, ⟨hsz, hP, hK, hD0⟩, hN, hXs⟩ := hv
  have hx := B.exec
  have hb := B.bytes
  have hr := B.returns
  have hts := atoms_spec (ws := wsX1_best) B.pre
  have hown : s.vm.findClass RX1 = some m.cls := findClass_of_methodNamed B.named
  have hlocks := B.notSynchronized
  have C0 := jCx.of hx hb hr hml hown hts hlocks
  subst hsz
  have hD := hD0.self (sz := s.heap.size)
  generalize hAe : va_A (wC cJ b1 b0 bw bq bf w en pl cu li ld fb) s.heap.size = A at hD hXs ⊢
  have hA : ∀ q : Nat, s.heap.size ≤ q → A q := fun q h => by rw [← hAe]; exact Or.inr h
  have hS : va_S A s.heap s.heap [] := va_S.rf
  have hP : va_P (dC, dI) vwCl (wC cJ b1 b0 bw bq bf w en pl cu li ld fb) s.heap := hP
  have hl := lv_entry ([.ref b1, .int a1, .int a2]) (n := 9) (Nat.le_of_ble_eq_true rfl)
  rw [lg_entry_eq]
  generalize (lg_sl ([.ref b1, .int a1, .int a2]) ++ List.replicate (9 - (lg_sl ([.ref b1, .int a1, .int a2])).length) Slot.unset).toArray = ls at hl ⊢
  have hl : lv_has ls 9 [(0, .ref b1), (1, .int a1), (2, .int a2)] := hl
  clear hD0 hAe
  unfold j_X1_best at hj
  refine lv_iload_n hx hb dX1_best_0 rfl (lv_at hl 1 rfl) ?_
  refine lv_iconst (v := (5 : Int32)) hx hb dX1_best_1 (by decide) ?_
  refine lv_icmp_lt (tgt := 20) hx hb dX1_best_2 (by decide) (fun c1 => ?_) (fun c1 => ?_)
  · replace hj := ja_pos c1 hj
    obtain ⟨sa, hst⟩ := hXs.str3
    exact vx_throwS (XC := _) (text := "no such parameters to choose from") hx hb hlt hown (by decide +kernel) (by decide +kernel) (hts (.classLink RX1 52 "java/lang/IllegalArgumentException") (by decide +kernel)) (hts (.initialized "java/lang/IllegalArgumentException") (by decide +kernel)) hst (vx_hat (B := jWA) (xw_X1_best_A hts) (by decide +kernel) (hXs.wA _)) xg_X1_best_A hXs.1 hXs.2.1 hS (hl.1.trans hml.symm) dX1_best_20 dX1_best_23 dX1_best_24 dX1_best_26 dX1_best_29 (fun x hx9 => (htab x hx9).elim) (by decide) (by decide) (by decide) (by decide) hlocks (fun t hal hz hk => ⟨(), trivial, ⟨rfl, jP_keep hP hk, va_K.moved hal hK, hD⟩, jF_keep hS hz hk⟩) hS.2.2 (by decide) (by decide)
  · replace hj := ja_neg c1 hj
    refine lv_iload_n hx hb dX1_best_5 rfl (lv_at hl 2 rfl) ?_
    refine lv_sipush (v := (500 : Int32)) hx hb dX1_best_6 (by decide) ?_
    refine lv_icmp_gt (tgt := 20) hx hb dX1_best_9 (by decide) (fun c2 => ?_) (fun c2 => ?_)
    · replace hj := ja_pos c2 hj
      obtain ⟨sa, hst⟩ := hXs.str3
      exact vx_throwS (XC := _) (text := "no such parameters to choose from") hx hb hlt hown (by decide +kernel) (by decide +kernel) (hts (.classLink RX1 52 "java/lang/IllegalArgumentException") (by decide +kernel)) (hts (.initialized "java/lang/IllegalArgumentException") (by decide +kernel)) hst (vx_hat (B := jWA) (xw_X1_best_A hts) (by decide +kernel) (hXs.wA _)) xg_X1_best_A hXs.1 hXs.2.1 hS (hl.1.trans hml.symm) dX1_best_20 dX1_best_23 dX1_best_24 dX1_best_26 dX1_best_29 (fun x hx9 => (htab x hx9).elim) (by decide) (by decide) (by decide) (by decide) hlocks (fun t hal hz hk => ⟨(), trivial, ⟨rfl, jP_keep hP hk, va_K.moved hal hK, hD⟩, jF_keep hS hz hk⟩) hS.2.2 (by decide) (by decide)
    · replace hj := ja_neg c2 hj
      refine lv_iload_n hx hb dX1_best_12 rfl (lv_at hl 1 rfl) ?_
      refine lv_iload_n hx hb dX1_best_13 rfl (lv_at hl 2 rfl) ?_
      obtain ⟨v3, hc, hj⟩ := ja_bd hj
      try dsimp only at hj
      have hPc := hP.sub (ws' := ([] : va_W)) [] rfl
      have hDc := hD.sub (ws' := ([] : va_W)) [] (by decide) rfl
      have hFc := va_free (wc := ([] : va_W)) hD hS hA [] rfl
      refine va_calli (va_runS (As := [.int a1, .int a2]) (rest := []) ⟨hx, hb, hml, hown, hts⟩ (c_X1_isCode l dC dI cI cJ s.heap.size a1 a2 _ hc) (va_cwS 2 hts gX1_best_X1_isCode rfl rfl rfl (by decide +kernel) ⟨Nat.le_of_ble_eq_true rfl, Nat.le_of_ble_eq_true rfl⟩) ⟨fun a U g mk q => ⟨q.1, jPr.blind q.2⟩, fun U hU hW => ⟨rfl, jPr.mk hU hW hPc hK hDc⟩⟩ rfl rfl hl.1 rfl (lv_room (Nat.le_of_ble_eq_true rfl)) dX1_best_14 ⟨Nat.le_of_ble_eq_true rfl, Nat.le_of_ble_eq_true rfl⟩) hS (fun q _ h => hFc q h) hFc (fun rr u t H1 locs ht hvm hw9 hB hz1 hk1 hS => ?_)
      have hw8 : v3 = rr := hw9.symm
      subst hw8
      obtain ⟨hP1, hK1, hD1⟩ := hB
      rw [ht] at hP1
      obtain ⟨hP, hD⟩ := va_join (wr := ([(b1, .inr (1, [.ref b0, .ref bq, .ref bf, .int ld])), (b0, .inr (0, [.ref bw, .int en, .int pl, .int cu])), (bw, .inl (cJ, 64, .inr (.inl w))), (bq, .inl (cJ, 100, .inr (.inl li))), (bf, .inl (cJ, 89, .inr (.inl fb)))] : va_W)) (w1 := ([] : va_W)) hP hD [] [0, 1, 2, 3, 4] rfl rfl (by decide) (by decide) hk1 hFc hP1 hD1
      clear hk1 hP1 hK1 hD1 hvm hz1 hPc hDc hFc
      generalize H1 = H at hP hS ⊢
      have hP : va_P (dC, dI) vwCl (wC cJ b1 b0 bw bq bf w en pl cu li ld fb) H := hP
      have hD : va_D A (wC cJ b1 b0 bw bq bf w en pl cu li ld fb) := hD
      refine lv_if_ne (tgt := 30) hx hb dX1_best_17 (by decide) (fun c4 => ?_) (fun c4 => ?_)
      · replace hj := ja_neg c4 hj
        refine lv_iload_n hx hb dX1_best_30 rfl (lv_at hl 1 rfl) ?_
        obtain ⟨v5, hc, hj⟩ := ja_bd hj
        try dsimp only at hj
        have hPc := hP.sub (ws' := ([] : va_W)) [] rfl
        have hDc := hD.sub (ws' := ([] : va_W)) [] (by decide) rfl
        have hFc := va_free (wc := ([] : va_W)) hD hS hA [] rfl
        refine va_calli (va_runS (As := [.int a1]) (rest := []) ⟨hx, hb, hml, hown, hts⟩ (c_X1_leastParameter l dC dI cI cJ H.size a1 _ hc) (va_cwS 1 hts gX1_best_X1_leastParameter rfl rfl rfl (by decide +kernel) ⟨Nat.le_of_ble_eq_true rfl, Nat.le_of_ble_eq_true rfl⟩) ⟨fun a U g mk q => ⟨q.1, jPr.blind q.2⟩, fun U hU hW => ⟨rfl, jPr.mk hU hW hPc hK hDc⟩⟩ rfl rfl hl.1 rfl (lv_room (Nat.le_of_ble_eq_true rfl)) dX1_best_31 ⟨Nat.le_of_ble_eq_true rfl, Nat.le_of_ble_eq_true rfl⟩) hS (fun q _ h => hFc q h) hFc (fun rr u t H1 locs ht hvm hw9 hB hz1 hk1 hS => ?_)
        have hw8 : v5 = rr := hw9.symm
        subst hw8
        obtain ⟨hP1, hK1, hD1⟩ := hB
        rw [ht] at hP1
        obtain ⟨hP, hD⟩ := va_join (wr := ([(b1, .inr (1, [.ref b0, .ref bq, .ref bf, .int ld])), (b0, .inr (0, [.ref bw, .int en, .int pl, .int cu])), (bw, .inl (cJ, 64, .inr (.inl w))), (bq, .inl (cJ, 100, .inr (.inl li))), (bf, .inl (cJ, 89, .inr (.inl fb)))] : va_W)) (w1 := ([] : va_W)) hP hD [] [0, 1, 2, 3, 4] rfl rfl (by decide) (by decide) hk1 hFc hP1 hD1
        clear hk1 hP1 hK1 hD1 hvm hz1 hPc hDc hFc
        generalize H1 = H at hP hS ⊢
        have hP : va_P (dC, dI) vwCl (wC cJ b1 b0 bw bq bf w en pl cu li ld fb) H := hP
        have hD : va_D A (wC cJ b1 b0 bw bq bf w en pl cu li ld fb) := hD
        refine lv_istore_n (lv' := [(3, .int v5), (0, .ref b1), (1, .int a1), (2, .int a2)]) hx hb dX1_best_34 rfl hl (by decide) rfl (fun ls hl => ?_)
        refine lv_aload_n hx hb dX1_best_35 rfl (lv_at hl 1 rfl) ?_
        refine lv_iload_n hx hb dX1_best_36 rfl (lv_at hl 2 rfl) ?_
        refine lv_iload_n hx hb dX1_best_37 rfl (lv_at hl 0 rfl) ?_
        obtain ⟨v6, hc, hj⟩ := ja_bd hj
        try dsimp only at hj
        have hPc := hP.sub (ws' := (wC cJ b1 b0 bw bq bf w en pl cu li ld fb)) [0, 1, 2, 3, 4] rfl
        have hDc := hD.sub (ws' := (wC cJ b1 b0 bw bq bf w en pl cu li ld fb)) [0, 1, 2, 3, 4] (by decide) rfl
        have hFc := va_free (wc := (wC cJ b1 b0 bw bq bf w en pl cu li ld fb)) hD hS hA [0, 1, 2, 3, 4] rfl
        refine va_calll (va_runV (As := [.int a1, .int v5]) (rest := []) ⟨hx, hb, hml, hown, hts⟩ (c_X1_listLength l dC dI cI cJ b1 b0 bw bq bf H.size w en pl cu li ld fb a1 v5 _ hc) (cwV 2 hts gX1_best_X1_listLength rfl rfl rfl (by decide +kernel) ⟨Nat.le_of_ble_eq_true rfl, Nat.le_of_ble_eq_true rfl⟩) ⟨fun a U g mk q => ⟨q.1, jPr.blind q.2.1, jNs.blind q.2.2⟩, va_recv hK hPc (ci := 1) (q0 := 0) rfl rfl, fun U hU hW => ⟨rfl, jPr.mk hU hW hPc hK hDc, jNs.warm hW hN⟩⟩ rfl rfl hl.1 rfl (lv_room (Nat.le_of_ble_eq_true rfl)) dX1_best_38 ⟨Nat.le_of_ble_eq_true rfl, Nat.le_of_ble_eq_true rfl⟩) hS (fun q _ h => hFc q h) hFc (fun rr u t H1 locs ht hvm hw9 hB hz1 hk1 hS => ?_)
        have hw8 : v6 = rr := hw9.symm
        subst hw8
        obtain ⟨hP1, hK1, hD1⟩ := hB
        rw [ht] at hP1
        obtain ⟨hP, hD⟩ := va_join (wr := ([] : va_W)) (w1 := (wC cJ b1 b0 bw bq bf w en pl cu li ld fb)) hP hD [0, 1, 2, 3, 4] [] rfl rfl (by decide) (by decide) hk1 hFc hP1 hD1
        clear hk1 hP1 hK1 hD1 hvm hz1 hPc hDc hFc
        generalize H1 = H at hP hS ⊢
        have hP : va_P (dC, dI) vwCl (wC cJ b1 b0 bw bq bf w en pl cu li ld fb) H := hP
        have hD : va_D A (wC cJ b1 b0 bw bq bf w en pl cu li ld fb) := hD
        refine lv_lstore (lv' := [(4, .long v6), (3, .int v5), (0, .ref b1), (1, .int a1), (2, .int a2)]) hx hb dX1_best_41 hl (by decide) rfl (fun ls hl => ?_)
        refine lv_iload_n hx hb dX1_best_43 rfl (lv_at hl 1 rfl) ?_
        refine lv_iconst (v := (1 : Int32)) hx hb dX1_best_44 (by decide) ?_
        refine lv_iadd hx hb dX1_best_45 ?_
        refine lv_istore (lv' := [(6, .int (v5 + (1 : Int32))), (4, .long v6), (3, .int v5), (0, .ref b1), (1, .int a1), (2, .int a2)]) hx hb dX1_best_46 hl (by decide) rfl (fun ls hl => ?_)
        obtain ⟨q, hj, hq⟩ := ja_bd hj
        cases hq
      · replace hj := ja_pos c4 hj
        obtain ⟨sa, hst⟩ := hXs.str3
        exact vx_throwS (XC := _) (text := "no such parameters to choose from") hx hb hlt hown (by decide +kernel) (by decide +kernel) (hts (.classLink RX1 52 "java/lang/IllegalArgumentException") (by decide +kernel)) (hts (.initialized "java/lang/IllegalArgumentException") (by decide +kernel)) hst (vx_hat (B := jWA) (xw_X1_best_A hts) (by decide +kernel) (hXs.wA _)) xg_X1_best_A hXs.1 hXs.2.1 hS (hl.1.trans hml.symm) dX1_best_20 dX1_best_23 dX1_best_24 dX1_best_26 dX1_best_29 (fun x hx9 => (htab x hx9).elim) (by decide) (by decide) (by decide) (by decide) hlocks (fun t hal hz hk => ⟨(), trivial, ⟨rfl, jP_keep hP hk, va_K.moved hal hK, hD⟩, jF_keep hS hz hk⟩) hS.2.2 (by decide) (by decide)

def j_X1_count (fb : Nat → Int64) (a1 : Int32) (a2 : Int32) (a3 : Int32) : Option (Option (Int64)) :=
  jtry (j_X1_requireCode a1 a2) fun _ => (jtry (j_X1_requireLength a3 (200 : Int32)) fun _ => ((j_X1_leastReaching fb a1 a2 (a3 + (1 : Int32))).bind fun v1 => ((j_X1_leastReaching fb a1 a2 a3).bind fun v2 => (some (some (v1 - v2))))))
set_option maxHeartbeats 4000000 in
set_option maxRecDepth 100000 in
theorem c_X1_count (l : Launch) (dC : Nat → ClassId) (dI : Nat → Nat → Nat) (cI cJ : ClassId) (b1 : Nat) (b0 : Nat) (bw : Nat) (bq : Nat) (bf : Nat) (sz : Nat) (w : Nat → Int64) (en : Int32) (pl : Int32) (cu : Int32) (li : Nat → Int64) (ld : Int32) (fb : Nat → Int64) (a1 : Int32) (a2 : Int32) (a3 : Int32) (r : Int64) (hj : j_X1_count fb a1 a2 a3 = some (some r)) : Met l yX1_count wsX1_count ({ frames := 7, cells := 0, slots := 0, locals := 165 } : Room) (va_Pc [.ref b1, .int a1, .int a2, .int a3] (fun U => jPr dC dI cI cJ (wC cJ b1 b0 bw bq bf w en pl cu li ld fb) sz U ∧ jNs U)) (va_Ql (fun (v : Int64) (_ : Unit) => v = r) (fun (_ : Unit) t => jPo dC dI cI cJ (wC cJ b1 b0 bw bq bf w en pl cu li ld fb) (va_A (wC cJ b1 b0 bw bq bf w en pl cu li ld fb) sz) t) (va_A (wC cJ b1 b0 bw bq bf w en pl cu li ld fb) sz)) 0 0 (va_A (wC cJ b1 b0 bw bq bf w en pl cu li ld fb) sz) := by
  refine Met.ofW (cc := cX1_count) (maxL := 4) (ret := (some .long)) (by decide) rfl ?_
  intro p e s m args below meth c s₁ B hml hv
  obtain ⟨rfl, ⟨hsz, hP, hK, hD0⟩, hN⟩ := hv
  have hx := B.exec
  have hb := B.bytes
  have hr := B.returns
  have hts := atoms_spec (ws := wsX1_count) B.pre
  have hown : s.vm.findClass RX1 = some m.cls := findClass_of_methodNamed B.named
  have hlocks := B.notSynchronized
  have C0 := jCx.of hx hb hr hml hown hts hlocks
  subst hsz
  have hD := hD0.self (sz := s.heap.size)
  generalize hAe : va_A (wC cJ b1 b0 bw bq bf w en pl cu li ld fb) s.heap.size = A at hD ⊢
  have hA : ∀ q : Nat, s.heap.size ≤ q → A q := fun q h => by rw [← hAe]; exact Or.inr h
  have hS : va_S A s.heap s.heap [] := va_S.rf
  have hP : va_P (dC, dI) vwCl (wC cJ b1 b0 bw bq bf w en pl cu li ld fb) s.heap := hP
  have hl := lv_entry ([.ref b1, .int a1, .int a2, .int a3]) (n := 4) (Nat.le_of_ble_eq_true rfl)
  rw [lg_entry_eq]
  generalize (lg_sl ([.ref b1, .int a1, .int a2, .int a3]) ++ List.replicate (4 - (lg_sl ([.ref b1, .int a1, .int a2, .int a3])).length) Slot.unset).toArray = ls at hl ⊢
  have hl : lv_has ls 4 [(0, .ref b1), (1, .int a1), (2, .int a2), (3, .int a3)] := hl
  clear hD0 hAe
  unfold j_X1_count at hj
  refine lv_iload_n hx hb dX1_count_0 rfl (lv_at hl 1 rfl) ?_
  refine lv_iload_n hx hb dX1_count_1 rfl (lv_at hl 2 rfl) ?_
  obtain ⟨⟨⟩, hc, hj⟩ := ja_try hj
  try dsimp only at hj
  have hPc := hP.sub (ws' := ([] : va_W)) [] rfl
  have hDc := hD.sub (ws' := ([] : va_W)) [] (by decide) rfl
  have hFc := va_free (wc := ([] : va_W)) hD hS hA [] rfl
  refine va_callv (va_runS (As := [.int a1, .int a2]) (rest := []) ⟨hx, hb, hml, hown, hts⟩ (c_X1_requireCode l dC dI cI cJ s.heap.size a1 a2 _ hc) (va_cwS 2 hts gX1_count_X1_requireCode rfl rfl rfl (by decide +kernel) ⟨Nat.le_of_ble_eq_true rfl, Nat.le_of_ble_eq_true rfl⟩) ⟨fun a U g mk q => ⟨q.1, jPr.blind q.2⟩, fun U hU hW => ⟨rfl, jPr.mk hU hW hPc hK hDc⟩⟩ rfl rfl hl.1 rfl (lv_room (Nat.le_of_ble_eq_true rfl)) dX1_count_2 ⟨Nat.le_of_ble_eq_true rfl, Nat.le_of_ble_eq_true rfl⟩) hS (fun q _ h => hFc q h) hFc (fun u t H1 locs ht hvm hw9 hB hz1 hk1 hS => ?_)
  obtain ⟨hP1, hK1, hD1⟩ := hB
  rw [ht] at hP1
  obtain ⟨hP, hD⟩ := va_join (wr := ([(b1, .inr (1, [.ref b0, .ref bq, .ref bf, .int ld])), (b0, .inr (0, [.ref bw, .int en, .int pl, .int cu])), (bw, .inl (cJ, 64, .inr (.inl w))), (bq, .inl (cJ, 100, .inr (.inl li))), (bf, .inl (cJ, 89, .inr (.inl fb)))] : va_W)) (w1 := ([] : va_W)) hP hD [] [0, 1, 2, 3, 4] rfl rfl (by decide) (by decide) hk1 hFc hP1 hD1
  clear hk1 hP1 hK1 hD1 hvm hz1 hPc hDc hFc
  generalize H1 = H at hP hS ⊢
  have hP : va_P (dC, dI) vwCl (wC cJ b1 b0 bw bq bf w en pl cu li ld fb) H := hP
  have hD : va_D A (wC cJ b1 b0 bw bq bf w en pl cu li ld fb) := hD
  refine lv_iload_n hx hb dX1_count_5 rfl (lv_at hl 3 rfl) ?_
  refine lv_sipush (v := (200 : Int32)) hx hb dX1_count_6 (by decide) ?_
  obtain ⟨⟨⟩, hc, hj⟩ := ja_try hj
  try dsimp only at hj
  have hPc := hP.sub (ws' := ([] : va_W)) [] rfl
  have hDc := hD.sub (ws' := ([] : va_W)) [] (by decide) rfl
  have hFc := va_free (wc := ([] : va_W)) hD hS hA [] rfl
  refine va_callv (va_runS (As := [.int a3, .int (200 : Int32)]) (rest := []) ⟨hx, hb, hml, hown, hts⟩ (c_X1_requireLength l dC dI cI cJ H.size a3 (200 : Int32) _ hc) (va_cwS 2 hts gX1_count_X1_requireLength rfl rfl rfl (by decide +kernel) ⟨Nat.le_of_ble_eq_true rfl, Nat.le_of_ble_eq_true rfl⟩) ⟨fun a U g mk q => ⟨q.1, jPr.blind q.2⟩, fun U hU hW => ⟨rfl, jPr.mk hU hW hPc hK hDc⟩⟩ rfl rfl hl.1 rfl (lv_room (Nat.le_of_ble_eq_true rfl)) dX1_count_9 ⟨Nat.le_of_ble_eq_true rfl, Nat.le_of_ble_eq_true rfl⟩) hS (fun q _ h => hFc q h) hFc (fun u t H1 locs ht hvm hw9 hB hz1 hk1 hS => ?_)
  obtain ⟨hP1, hK1, hD1⟩ := hB
  rw [ht] at hP1
  obtain ⟨hP, hD⟩ := va_join (wr := ([(b1, .inr (1, [.ref b0, .ref bq, .ref bf, .int ld])), (b0, .inr (0, [.ref bw, .int en, .int pl, .int cu])), (bw, .inl (cJ, 64, .inr (.inl w))), (bq, .inl (cJ, 100, .inr (.inl li))), (bf, .inl (cJ, 89, .inr (.inl fb)))] : va_W)) (w1 := ([] : va_W)) hP hD [] [0, 1, 2, 3, 4] rfl rfl (by decide) (by decide) hk1 hFc hP1 hD1
  clear hk1 hP1 hK1 hD1 hvm hz1 hPc hDc hFc
  generalize H1 = H at hP hS ⊢
  have hP : va_P (dC, dI) vwCl (wC cJ b1 b0 bw bq bf w en pl cu li ld fb) H := hP
  have hD : va_D A (wC cJ b1 b0 bw bq bf w en pl cu li ld fb) := hD
  refine lv_aload_n hx hb dX1_count_12 rfl (lv_at hl 0 rfl) ?_
  refine lv_iload_n hx hb dX1_count_13 rfl (lv_at hl 1 rfl) ?_
  refine lv_iload_n hx hb dX1_count_14 rfl (lv_at hl 2 rfl) ?_
  refine lv_iload_n hx hb dX1_count_15 rfl (lv_at hl 3 rfl) ?_
  refine lv_iconst (v := (1 : Int32)) hx hb dX1_count_16 (by decide) ?_
  refine lv_iadd hx hb dX1_count_17 ?_
  obtain ⟨v1, hc, hj⟩ := ja_bd hj
  try dsimp only at hj
  have hPc := hP.sub (ws' := (wC cJ b1 b0 bw bq bf w en pl cu li ld fb)) [0, 1, 2, 3, 4] rfl
  have hDc := hD.sub (ws' := (wC cJ b1 b0 bw bq bf w en pl cu li ld fb)) [0, 1, 2, 3, 4] (by decide) rfl
  have hFc := va_free (wc := (wC cJ b1 b0 bw bq bf w en pl cu li ld fb)) hD hS hA [0, 1, 2, 3, 4] rfl
  refine va_calll (va_runV (As := [.int a1, .int a2, .int (a3 + (1 : Int32))]) (rest := []) ⟨hx, hb, hml, hown, hts⟩ (c_X1_leastReaching l dC dI cI cJ b1 b0 bw bq bf H.size w en pl cu li ld fb a1 a2 (a3 + (1 : Int32)) _ hc) (cwV 3 hts gX1_count_X1_leastReaching rfl rfl rfl (by decide +kernel) ⟨Nat.le_of_ble_eq_true rfl, Nat.le_of_ble_eq_true rfl⟩) ⟨fun a U g mk q => ⟨q.1, jPr.blind q.2.1, jNs.blind q.2.2⟩, va_recv hK hPc (ci := 1) (q0 := 0) rfl rfl, fun U hU hW => ⟨rfl, jPr.mk hU hW hPc hK hDc, jNs.warm hW hN⟩⟩ rfl rfl hl.1 rfl (lv_room (Nat.le_of_ble_eq_true rfl)) dX1_count_18 ⟨Nat.le_of_ble_eq_true rfl, Nat.le_of_ble_eq_true rfl⟩) hS (fun q _ h => hFc q h) hFc (fun rr u t H1 locs ht hvm hw9 hB hz1 hk1 hS => ?_)
  have hw8 : v1 = rr := hw9.symm
  subst hw8
  obtain ⟨hP1, hK1, hD1⟩ := hB
  rw [ht] at hP1
  obtain ⟨hP, hD⟩ := va_join (wr := ([] : va_W)) (w1 := (wC cJ b1 b0 bw bq bf w en pl cu li ld fb)) hP hD [0, 1, 2, 3, 4] [] rfl rfl (by decide) (by decide) hk1 hFc hP1 hD1
  clear hk1 hP1 hK1 hD1 hvm hz1 hPc hDc hFc
  generalize H1 = H at hP hS ⊢
  have hP : va_P (dC, dI) vwCl (wC cJ b1 b0 bw bq bf w en pl cu li ld fb) H := hP
  have hD : va_D A (wC cJ b1 b0 bw bq bf w en pl cu li ld fb) := hD
  refine lv_aload_n hx hb dX1_count_21 rfl (lv_at hl 0 rfl) ?_
  refine lv_iload_n hx hb dX1_count_22 rfl (lv_at hl 1 rfl) ?_
  refine lv_iload_n hx hb dX1_count_23 rfl (lv_at hl 2 rfl) ?_
  refine lv_iload_n hx hb dX1_count_24 rfl (lv_at hl 3 rfl) ?_
  obtain ⟨v2, hc, hj⟩ := ja_bd hj
  try dsimp only at hj
  have hPc := hP.sub (ws' := (wC cJ b1 b0 bw bq bf w en pl cu li ld fb)) [0, 1, 2, 3, 4] rfl
  have hDc := hD.sub (ws' := (wC cJ b1 b0 bw bq bf w en pl cu li ld fb)) [0, 1, 2, 3, 4] (by decide) rfl
  have hFc := va_free (wc := (wC cJ b1 b0 bw bq bf w en pl cu li ld fb)) hD hS hA [0, 1, 2, 3, 4] rfl
  refine va_calll (va_runV (As := [.int a1, .int a2, .int a3]) (rest := [.long v1]) ⟨hx, hb, hml, hown, hts⟩ (c_X1_leastReaching l dC dI cI cJ b1 b0 bw bq bf H.size w en pl cu li ld fb a1 a2 a3 _ hc) (cwV 3 hts gX1_count_X1_leastReaching rfl rfl rfl (by decide +kernel) ⟨Nat.le_of_ble_eq_true rfl, Nat.le_of_ble_eq_true rfl⟩) ⟨fun a U g mk q => ⟨q.1, jPr.blind q.2.1, jNs.blind q.2.2⟩, va_recv hK hPc (ci := 1) (q0 := 0) rfl rfl, fun U hU hW => ⟨rfl, jPr.mk hU hW hPc hK hDc, jNs.warm hW hN⟩⟩ rfl rfl hl.1 rfl (lv_room (Nat.le_of_ble_eq_true rfl)) dX1_count_25 ⟨Nat.le_of_ble_eq_true rfl, Nat.le_of_ble_eq_true rfl⟩) hS (fun q _ h => hFc q h) hFc (fun rr u t H1 locs ht hvm hw9 hB hz1 hk1 hS => ?_)
  have hw8 : v2 = rr := hw9.symm
  subst hw8
  obtain ⟨hP1, hK1, hD1⟩ := hB
  rw [ht] at hP1
  obtain ⟨hP, hD⟩ := va_join (wr := ([] : va_W)) (w1 := (wC cJ b1 b0 bw bq bf w en pl cu li ld fb)) hP hD [0, 1, 2, 3, 4] [] rfl rfl (by decide) (by decide) hk1 hFc hP1 hD1
  clear hk1 hP1 hK1 hD1 hvm hz1 hPc hDc hFc
  generalize H1 = H at hP hS ⊢
  have hP : va_P (dC, dI) vwCl (wC cJ b1 b0 bw bq bf w en pl cu li ld fb) H := hP
  have hD : va_D A (wC cJ b1 b0 bw bq bf w en pl cu li ld fb) := hD
  refine lv_lsub hx hb dX1_count_28 ?_
  have hr9 : (v1 - v2) = r := Option.some.inj (Option.some.inj hj)
  subst hr9
  exact W.lret (v := v1 - v2) hx hb hr (fun t ht hW => ⟨⟨v1 - v2, (), rfl, rfl, by rw [ht]; exact hP, va_K.moved hW.alike hK, hD⟩, hS.F ht⟩) hS.2.2 dX1_count_29
set_option maxHeartbeats 4000000 in
set_option maxRecDepth 100000 in
theorem x_X1_count (l : Launch) (hlt : l.stackTraces = false) (dC : Nat → ClassId) (dI : Nat → Nat → Nat) (cI cJ : ClassId) (b1 : Nat) (b0 : Nat) (bw : Nat) (bq : Nat) (bf : Nat) (sz : Nat) (w : Nat → Int64) (en : Int32) (pl : Int32) (cu : Int32) (li : Nat → Int64) (ld : Int32) (fb : Nat → Int64) (a1 : Int32) (a2 : Int32) (a3 : Int32) (hj : j_X1_count fb a1 a2 a3 = some none) : vx_Met l yX1_count wsX1_count ({ frames := 7, cells := 1, slots := 6, locals := 165 } : Room) (va_Pc [.ref b1, .int a1, .int a2, .int a3] (fun U => jPr dC dI cI cJ (wC cJ b1 b0 bw bq bf w en pl cu li ld fb) sz U ∧ jNs U ∧ jXs (va_A (wC cJ b1 b0 bw bq bf w en pl cu li ld fb) sz) U)) (va_Ql (fun (_ : Int64) (_ : Unit) => False) (fun _ _ => True) (va_A (wC cJ b1 b0 bw bq bf w en pl cu li ld fb) sz)) (vx_X (fun _ : Unit => True) (fun E _ t => E = "java/lang/IllegalArgumentException" ∧ jPo dC dI cI cJ (wC cJ b1 b0 bw bq bf w en pl cu li ld fb) (va_A (wC cJ b1 b0 bw bq bf w en pl cu li ld fb) sz) t) (va_A (wC cJ b1 b0 bw bq bf w en pl cu li ld fb) sz)) 1 6 (va_A (wC cJ b1 b0 bw bq bf w en pl cu li ld fb) sz) := by
  refine vx_ofW (cc := cX1_count) (maxL := 4) (ret := (some .long)) (by decide) rfl ?_
  intro p e s m args below meth c s₁ B hml htab hv
  obtain ⟨rfl, ⟨hsz, hP, hK, hD0⟩, hN, hXs⟩ := hv
  have hx := B.exec
  have hb := B.bytes
  have hr := B.returns
  have hts := atoms_spec (ws := wsX1_count) B.pre
  have hown : s.vm.findClass RX1 = some m.cls := findClass_of_methodNamed B.named
  have hlocks := B.notSynchronized
  have C0 := jCx.of hx hb hr hml hown hts hlocks
  subst hsz
  have hD := hD0.self (sz := s.heap.size)
  generalize hAe : va_A (wC cJ b1 b0 bw bq bf w en pl cu li ld fb) s.heap.size = A at hD hXs ⊢
  have hA : ∀ q : Nat, s.heap.size ≤ q → A q := fun q h => by rw [← hAe]; exact Or.inr h
  have hS : va_S A s.heap s.heap [] := va_S.rf
  have hP : va_P (dC, dI) vwCl (wC cJ b1 b0 bw bq bf w en pl cu li ld fb) s.heap := hP
  have hl := lv_entry ([.ref b1, .int a1, .int a2, .int a3]) (n := 4) (Nat.le_of_ble_eq_true rfl)
  rw [lg_entry_eq]
  generalize (lg_sl ([.ref b1, .int a1, .int a2, .int a3]) ++ List.replicate (4 - (lg_sl ([.ref b1, .int a1, .int a2, .int a3])).length) Slot.unset).toArray = ls at hl ⊢
  have hl : lv_has ls 4 [(0, .ref b1), (1, .int a1), (2, .int a2), (3, .int a3)] := hl
  clear hD0 hAe
  unfold j_X1_count at hj
  refine lv_iload_n hx hb dX1_count_0 rfl (lv_at hl 1 rfl) ?_
  refine lv_iload_n hx hb dX1_count_1 rfl (lv_at hl 2 rfl) ?_
  rcases ja_tryx hj with hc | ⟨⟨⟩, hc, hj⟩
  · have hPc := hP.sub (ws' := ([] : va_W)) [] rfl
    have hDc := hD.sub (ws' := ([] : va_W)) [] (by decide) rfl
    have hFc := va_free (wc := ([] : va_W)) hD hS hA [] rfl
    refine vx_callv (vx_runS (As := [.int a1, .int a2]) (rest := []) ⟨hx, hb, hml, hown, hts⟩ (x_X1_requireCode l hlt dC dI cI cJ s.heap.size a1 a2 hc) (va_cwS 2 hts gX1_count_X1_requireCode rfl rfl rfl (by decide +kernel) ⟨Nat.le_of_ble_eq_true rfl, Nat.le_of_ble_eq_true rfl⟩) ⟨fun a U g mk q => ⟨q.1, jPr.blind q.2.1, jXs.blind q.2.2⟩, fun U hU hW => ⟨rfl, jPr.mk hU hW hPc hK hDc, jXs.down hU hW hS hFc hXs⟩⟩ rfl rfl hl.1 rfl (lv_room (Nat.le_of_ble_eq_true rfl)) dX1_count_2 ⟨Nat.le_of_ble_eq_true rfl, Nat.le_of_ble_eq_true rfl⟩) hS (fun q _ h => hFc q h) hFc (fun q _ h => hFc q h) (fun E ce q9 u t H1 locs1 ht hvm hpx hBX hz1 hk1 hS hce hcv hcl => ?_) (fun u t H1 locs1 ht hvm hw9 hB hz1 hk1 hS => hw9.elim)
    obtain ⟨rfl, hP1, hK1, hD1⟩ := hBX
    rw [ht] at hP1
    obtain ⟨hP, hD⟩ := va_join (wr := ([(b1, .inr (1, [.ref b0, .ref bq, .ref bf, .int ld])), (b0, .inr (0, [.ref bw, .int en, .int pl, .int cu])), (bw, .inl (cJ, 64, .inr (.inl w))), (bq, .inl (cJ, 100, .inr (.inl li))), (bf, .inl (cJ, 89, .inr (.inl fb)))] : va_W)) (w1 := ([] : va_W)) hP hD [] [0, 1, 2, 3, 4] rfl rfl (by decide) (by decide) hk1 hFc hP1 hD1
    exact vx_out (fun x hx9 => (htab x hx9).elim) hlocks hce hcv hcl (fun t2 ht2 hal => ⟨(), trivial, ⟨rfl, by rw [ht2]; exact hP, va_K.moved hal hK, hD⟩, hS.F ht2⟩) hS.2.2 (by decide) (by decide)
  · try dsimp only at hj
    have hPc := hP.sub (ws' := ([] : va_W)) [] rfl
    have hDc := hD.sub (ws' := ([] : va_W)) [] (by decide) rfl
    have hFc := va_free (wc := ([] : va_W)) hD hS hA [] rfl
    refine va_callv (va_runS (As := [.int a1, .int a2]) (rest := []) ⟨hx, hb, hml, hown, hts⟩ (c_X1_requireCode l dC dI cI cJ s.heap.size a1 a2 _ hc) (va_cwS 2 hts gX1_count_X1_requireCode rfl rfl rfl (by decide +kernel) ⟨Nat.le_of_ble_eq_true rfl, Nat.le_of_ble_eq_true rfl⟩) ⟨fun a U g mk q => ⟨q.1, jPr.blind q.2⟩, fun U hU hW => ⟨rfl, jPr.mk hU hW hPc hK hDc⟩⟩ rfl rfl hl.1 rfl (lv_room (Nat.le_of_ble_eq_true rfl)) dX1_count_2 ⟨Nat.le_of_ble_eq_true rfl, Nat.le_of_ble_eq_true rfl⟩) hS (fun q _ h => hFc q h) hFc (fun u t H1 locs ht hvm hw9 hB hz1 hk1 hS => ?_)
    obtain ⟨hP1, hK1, hD1⟩ := hB
    rw [ht] at hP1
    obtain ⟨hP, hD⟩ := va_join (wr := ([(b1, .inr (1, [.ref b0, .ref bq, .ref bf, .int ld])), (b0, .inr (0, [.ref bw, .int en, .int pl, .int cu])), (bw, .inl (cJ, 64, .inr (.inl w))), (bq, .inl (cJ, 100, .inr (.inl li))), (bf, .inl (cJ, 89, .inr (.inl fb)))] : va_W)) (w1 := ([] : va_W)) hP hD [] [0, 1, 2, 3, 4] rfl rfl (by decide) (by decide) hk1 hFc hP1 hD1
    clear hk1 hP1 hK1 hD1 hvm hz1 hPc hDc hFc
    generalize H1 = H at hP hS ⊢
    have hP : va_P (dC, dI) vwCl (wC cJ b1 b0 bw bq bf w en pl cu li ld fb) H := hP
    have hD : va_D A (wC cJ b1 b0 bw bq bf w en pl cu li ld fb) := hD
    refine lv_iload_n hx hb dX1_count_5 rfl (lv_at hl 3 rfl) ?_
    refine lv_sipush (v := (200 : Int32)) hx hb dX1_count_6 (by decide) ?_
    rcases ja_tryx hj with hc | ⟨⟨⟩, hc, hj⟩
    · have hPc := hP.sub (ws' := ([] : va_W)) [] rfl
      have hDc := hD.sub (ws' := ([] : va_W)) [] (by decide) rfl
      have hFc := va_free (wc := ([] : va_W)) hD hS hA [] rfl
      refine vx_callv (vx_runS (As := [.int a3, .int (200 : Int32)]) (rest := []) ⟨hx, hb, hml, hown, hts⟩ (x_X1_requireLength l hlt dC dI cI cJ H.size a3 (200 : Int32) hc) (va_cwS 2 hts gX1_count_X1_requireLength rfl rfl rfl (by decide +kernel) ⟨Nat.le_of_ble_eq_true rfl, Nat.le_of_ble_eq_true rfl⟩) ⟨fun a U g mk q => ⟨q.1, jPr.blind q.2.1, jXs.blind q.2.2⟩, fun U hU hW => ⟨rfl, jPr.mk hU hW hPc hK hDc, jXs.down hU hW hS hFc hXs⟩⟩ rfl rfl hl.1 rfl (lv_room (Nat.le_of_ble_eq_true rfl)) dX1_count_9 ⟨Nat.le_of_ble_eq_true rfl, Nat.le_of_ble_eq_true rfl⟩) hS (fun q _ h => hFc q h) hFc (fun q _ h => hFc q h) (fun E ce q9 u t H1 locs1 ht hvm hpx hBX hz1 hk1 hS hce hcv hcl => ?_) (fun u t H1 locs1 ht hvm hw9 hB hz1 hk1 hS => hw9.elim)
      obtain ⟨rfl, hP1, hK1, hD1⟩ := hBX
      rw [ht] at hP1
      obtain ⟨hP, hD⟩ := va_join (wr := ([(b1, .inr (1, [.ref b0, .ref bq, .ref bf, .int ld])), (b0, .inr (0, [.ref bw, .int en, .int pl, .int cu])), (bw, .inl (cJ, 64, .inr (.inl w))), (bq, .inl (cJ, 100, .inr (.inl li))), (bf, .inl (cJ, 89, .inr (.inl fb)))] : va_W)) (w1 := ([] : va_W)) hP hD [] [0, 1, 2, 3, 4] rfl rfl (by decide) (by decide) hk1 hFc hP1 hD1
      exact vx_out (fun x hx9 => (htab x hx9).elim) hlocks hce hcv hcl (fun t2 ht2 hal => ⟨(), trivial, ⟨rfl, by rw [ht2]; exact hP, va_K.moved hal hK, hD⟩, hS.F ht2⟩) hS.2.2 (by decide) (by decide)
    · try dsimp only at hj
      have hPc := hP.sub (ws' := ([] : va_W)) [] rfl
      have hDc := hD.sub (ws' := ([] : va_W)) [] (by decide) rfl
      have hFc := va_free (wc := ([] : va_W)) hD hS hA [] rfl
      refine va_callv (va_runS (As := [.int a3, .int (200 : Int32)]) (rest := []) ⟨hx, hb, hml, hown, hts⟩ (c_X1_requireLength l dC dI cI cJ H.size a3 (200 : Int32) _ hc) (va_cwS 2 hts gX1_count_X1_requireLength rfl rfl rfl (by decide +kernel) ⟨Nat.le_of_ble_eq_true rfl, Nat.le_of_ble_eq_true rfl⟩) ⟨fun a U g mk q => ⟨q.1, jPr.blind q.2⟩, fun U hU hW => ⟨rfl, jPr.mk hU hW hPc hK hDc⟩⟩ rfl rfl hl.1 rfl (lv_room (Nat.le_of_ble_eq_true rfl)) dX1_count_9 ⟨Nat.le_of_ble_eq_true rfl, Nat.le_of_ble_eq_true rfl⟩) hS (fun q _ h => hFc q h) hFc (fun u t H1 locs ht hvm hw9 hB hz1 hk1 hS => ?_)
      obtain ⟨hP1, hK1, hD1⟩ := hB
      rw [ht] at hP1
      obtain ⟨hP, hD⟩ := va_join (wr := ([(b1, .inr (1, [.ref b0, .ref bq, .ref bf, .int ld])), (b0, .inr (0, [.ref bw, .int en, .int pl, .int cu])), (bw, .inl (cJ, 64, .inr (.inl w))), (bq, .inl (cJ, 100, .inr (.inl li))), (bf, .inl (cJ, 89, .inr (.inl fb)))] : va_W)) (w1 := ([] : va_W)) hP hD [] [0, 1, 2, 3, 4] rfl rfl (by decide) (by decide) hk1 hFc hP1 hD1
      clear hk1 hP1 hK1 hD1 hvm hz1 hPc hDc hFc
      generalize H1 = H at hP hS ⊢
      have hP : va_P (dC, dI) vwCl (wC cJ b1 b0 bw bq bf w en pl cu li ld fb) H := hP
      have hD : va_D A (wC cJ b1 b0 bw bq bf w en pl cu li ld fb) := hD
      refine lv_aload_n hx hb dX1_count_12 rfl (lv_at hl 0 rfl) ?_
      refine lv_iload_n hx hb dX1_count_13 rfl (lv_at hl 1 rfl) ?_
      refine lv_iload_n hx hb dX1_count_14 rfl (lv_at hl 2 rfl) ?_
      refine lv_iload_n hx hb dX1_count_15 rfl (lv_at hl 3 rfl) ?_
      refine lv_iconst (v := (1 : Int32)) hx hb dX1_count_16 (by decide) ?_
      refine lv_iadd hx hb dX1_count_17 ?_
      obtain ⟨v1, hc, hj⟩ := ja_bd hj
      try dsimp only at hj
      have hPc := hP.sub (ws' := (wC cJ b1 b0 bw bq bf w en pl cu li ld fb)) [0, 1, 2, 3, 4] rfl
      have hDc := hD.sub (ws' := (wC cJ b1 b0 bw bq bf w en pl cu li ld fb)) [0, 1, 2, 3, 4] (by decide) rfl
      have hFc := va_free (wc := (wC cJ b1 b0 bw bq bf w en pl cu li ld fb)) hD hS hA [0, 1, 2, 3, 4] rfl
      refine va_calll (va_runV (As := [.int a1, .int a2, .int (a3 + (1 : Int32))]) (rest := []) ⟨hx, hb, hml, hown, hts⟩ (c_X1_leastReaching l dC dI cI cJ b1 b0 bw bq bf H.size w en pl cu li ld fb a1 a2 (a3 + (1 : Int32)) _ hc) (cwV 3 hts gX1_count_X1_leastReaching rfl rfl rfl (by decide +kernel) ⟨Nat.le_of_ble_eq_true rfl, Nat.le_of_ble_eq_true rfl⟩) ⟨fun a U g mk q => ⟨q.1, jPr.blind q.2.1, jNs.blind q.2.2⟩, va_recv hK hPc (ci := 1) (q0 := 0) rfl rfl, fun U hU hW => ⟨rfl, jPr.mk hU hW hPc hK hDc, jNs.warm hW hN⟩⟩ rfl rfl hl.1 rfl (lv_room (Nat.le_of_ble_eq_true rfl)) dX1_count_18 ⟨Nat.le_of_ble_eq_true rfl, Nat.le_of_ble_eq_true rfl⟩) hS (fun q _ h => hFc q h) hFc (fun rr u t H1 locs ht hvm hw9 hB hz1 hk1 hS => ?_)
      have hw8 : v1 = rr := hw9.symm
      subst hw8
      obtain ⟨hP1, hK1, hD1⟩ := hB
      rw [ht] at hP1
      obtain ⟨hP, hD⟩ := va_join (wr := ([] : va_W)) (w1 := (wC cJ b1 b0 bw bq bf w en pl cu li ld fb)) hP hD [0, 1, 2, 3, 4] [] rfl rfl (by decide) (by decide) hk1 hFc hP1 hD1
      clear hk1 hP1 hK1 hD1 hvm hz1 hPc hDc hFc
      generalize H1 = H at hP hS ⊢
      have hP : va_P (dC, dI) vwCl (wC cJ b1 b0 bw bq bf w en pl cu li ld fb) H := hP
      have hD : va_D A (wC cJ b1 b0 bw bq bf w en pl cu li ld fb) := hD
      refine lv_aload_n hx hb dX1_count_21 rfl (lv_at hl 0 rfl) ?_
      refine lv_iload_n hx hb dX1_count_22 rfl (lv_at hl 1 rfl) ?_
      refine lv_iload_n hx hb dX1_count_23 rfl (lv_at hl 2 rfl) ?_
      refine lv_iload_n hx hb dX1_count_24 rfl (lv_at hl 3 rfl) ?_
      obtain ⟨v2, hc, hj⟩ := ja_bd hj
      try dsimp only at hj
      have hPc := hP.sub (ws' := (wC cJ b1 b0 bw bq bf w en pl cu li ld fb)) [0, 1, 2, 3, 4] rfl
      have hDc := hD.sub (ws' := (wC cJ b1 b0 bw bq bf w en pl cu li ld fb)) [0, 1, 2, 3, 4] (by decide) rfl
      have hFc := va_free (wc := (wC cJ b1 b0 bw bq bf w en pl cu li ld fb)) hD hS hA [0, 1, 2, 3, 4] rfl
      refine va_calll (va_runV (As := [.int a1, .int a2, .int a3]) (rest := [.long v1]) ⟨hx, hb, hml, hown, hts⟩ (c_X1_leastReaching l dC dI cI cJ b1 b0 bw bq bf H.size w en pl cu li ld fb a1 a2 a3 _ hc) (cwV 3 hts gX1_count_X1_leastReaching rfl rfl rfl (by decide +kernel) ⟨Nat.le_of_ble_eq_true rfl, Nat.le_of_ble_eq_true rfl⟩) ⟨fun a U g mk q => ⟨q.1, jPr.blind q.2.1, jNs.blind q.2.2⟩, va_recv hK hPc (ci := 1) (q0 := 0) rfl rfl, fun U hU hW => ⟨rfl, jPr.mk hU hW hPc hK hDc, jNs.warm hW hN⟩⟩ rfl rfl hl.1 rfl (lv_room (Nat.le_of_ble_eq_true rfl)) dX1_count_25 ⟨Nat.le_of_ble_eq_true rfl, Nat.le_of_ble_eq_true rfl⟩) hS (fun q _ h => hFc q h) hFc (fun rr u t H1 locs ht hvm hw9 hB hz1 hk1 hS => ?_)
      have hw8 : v2 = rr := hw9.symm
      subst hw8
      obtain ⟨hP1, hK1, hD1⟩ := hB
      rw [ht] at hP1
      obtain ⟨hP, hD⟩ := va_join (wr := ([] : va_W)) (w1 := (wC cJ b1 b0 bw bq bf w en pl cu li ld fb)) hP hD [0, 1, 2, 3, 4] [] rfl rfl (by decide) (by decide) hk1 hFc hP1 hD1
      clear hk1 hP1 hK1 hD1 hvm hz1 hPc hDc hFc
      generalize H1 = H at hP hS ⊢
      have hP : va_P (dC, dI) vwCl (wC cJ b1 b0 bw bq bf w en pl cu li ld fb) H := hP
      have hD : va_D A (wC cJ b1 b0 bw bq bf w en pl cu li ld fb) := hD
      refine lv_lsub hx hb dX1_count_28 ?_
      cases hj

def j_X1_first (fb : Nat → Int64) (a1 : Int32) (a2 : Int32) (a3 : Int32) : Option (Option (Int64)) :=
  jtry (j_X1_requireCode a1 a2) fun _ => (jtry (j_X1_requireLength a3 (200 : Int32)) fun _ => ((j_X1_leastReaching fb a1 a2 a3).bind fun v1 => (if (4611686018427387904 : Int64) < v1 then (some (some (-1 : Int64))) else ((j_X1_codewordLength fb a1 a2 v1).bind fun v4 => (if v4 = a3.toInt64 then (some (some v1)) else (some (some (-1 : Int64))))))))
set_option maxHeartbeats 4000000 in
set_option maxRecDepth 100000 in
theorem c_X1_first (l : Launch) (dC : Nat → ClassId) (dI : Nat → Nat → Nat) (cI cJ : ClassId) (b1 : Nat) (b0 : Nat) (bw : Nat) (bq : Nat) (bf : Nat) (sz : Nat) (w : Nat → Int64) (en : Int32) (pl : Int32) (cu : Int32) (li : Nat → Int64) (ld : Int32) (fb : Nat → Int64) (a1 : Int32) (a2 : Int32) (a3 : Int32) (r : Int64) (hj : j_X1_first fb a1 a2 a3 = some (some r)) : Met l yX1_first wsX1_first ({ frames := 7, cells := 0, slots := 0, locals := 165 } : Room) (va_Pc [.ref b1, .int a1, .int a2, .int a3] (fun U => jPr dC dI cI cJ (wC cJ b1 b0 bw bq bf w en pl cu li ld fb) sz U ∧ jNs U)) (va_Ql (fun (v : Int64) (_ : Unit) => v = r) (fun (_ : Unit) t => jPo dC dI cI cJ (wC cJ b1 b0 bw bq bf w en pl cu li ld fb) (va_A (wC cJ b1 b0 bw bq bf w en pl cu li ld fb) sz) t) (va_A (wC cJ b1 b0 bw bq bf w en pl cu li ld fb) sz)) 0 0 (va_A (wC cJ b1 b0 bw bq bf w en pl cu li ld fb) sz) := by
  refine Met.ofW (cc := cX1_first) (maxL := 7) (ret := (some .long)) (by decide) rfl ?_
  intro p e s m args below meth c s₁ B hml hv
  obtain ⟨rfl, ⟨hsz, hP, hK, hD0⟩, hN⟩ := hv
  have hx := B.exec
  have hb := B.bytes
  have hr := B.returns
  have hts := atoms_spec (ws := wsX1_first) B.pre
  have hown : s.vm.findClass RX1 = some m.cls := findClass_of_methodNamed B.named
  have hlocks := B.notSynchronized
  have C0 := jCx.of hx hb hr hml hown hts hlocks
  subst hsz
  have hD := hD0.self (sz := s.heap.size)
  generalize hAe : va_A (wC cJ b1 b0 bw bq bf w en pl cu li ld fb) s.heap.size = A at hD ⊢
  have hA : ∀ q : Nat, s.heap.size ≤ q → A q := fun q h => by rw [← hAe]; exact Or.inr h
  have hS : va_S A s.heap s.heap [] := va_S.rf
  have hP : va_P (dC, dI) vwCl (wC cJ b1 b0 bw bq bf w en pl cu li ld fb) s.heap := hP
  have hl := lv_entry ([.ref b1, .int a1, .int a2, .int a3]) (n := 7) (Nat.le_of_ble_eq_true rfl)
  rw [lg_entry_eq]
  generalize (lg_sl ([.ref b1, .int a1, .int a2, .int a3]) ++ List.replicate (7 - (lg_sl ([.ref b1, .int a1, .int a2, .int a3])).length) Slot.unset).toArray = ls at hl ⊢
  have hl : lv_has ls 7 [(0, .ref b1), (1, .int a1), (2, .int a2), (3, .int a3)] := hl
  clear hD0 hAe
  unfold j_X1_first at hj
  refine lv_iload_n hx hb dX1_first_0 rfl (lv_at hl 1 rfl) ?_
  refine lv_iload_n hx hb dX1_first_1 rfl (lv_at hl 2 rfl) ?_
  obtain ⟨⟨⟩, hc, hj⟩ := ja_try hj
  try dsimp only at hj
  have hPc := hP.sub (ws' := ([] : va_W)) [] rfl
  have hDc := hD.sub (ws' := ([] : va_W)) [] (by decide) rfl
  have hFc := va_free (wc := ([] : va_W)) hD hS hA [] rfl
  refine va_callv (va_runS (As := [.int a1, .int a2]) (rest := []) ⟨hx, hb, hml, hown, hts⟩ (c_X1_requireCode l dC dI cI cJ s.heap.size a1 a2 _ hc) (va_cwS 2 hts gX1_first_X1_requireCode rfl rfl rfl (by decide +kernel) ⟨Nat.le_of_ble_eq_true rfl, Nat.le_of_ble_eq_true rfl⟩) ⟨fun a U g mk q => ⟨q.1, jPr.blind q.2⟩, fun U hU hW => ⟨rfl, jPr.mk hU hW hPc hK hDc⟩⟩ rfl rfl hl.1 rfl (lv_room (Nat.le_of_ble_eq_true rfl)) dX1_first_2 ⟨Nat.le_of_ble_eq_true rfl, Nat.le_of_ble_eq_true rfl⟩) hS (fun q _ h => hFc q h) hFc (fun u t H1 locs ht hvm hw9 hB hz1 hk1 hS => ?_)
  obtain ⟨hP1, hK1, hD1⟩ := hB
  rw [ht] at hP1
  obtain ⟨hP, hD⟩ := va_join (wr := ([(b1, .inr (1, [.ref b0, .ref bq, .ref bf, .int ld])), (b0, .inr (0, [.ref bw, .int en, .int pl, .int cu])), (bw, .inl (cJ, 64, .inr (.inl w))), (bq, .inl (cJ, 100, .inr (.inl li))), (bf, .inl (cJ, 89, .inr (.inl fb)))] : va_W)) (w1 := ([] : va_W)) hP hD [] [0, 1, 2, 3, 4] rfl rfl (by decide) (by decide) hk1 hFc hP1 hD1
  clear hk1 hP1 hK1 hD1 hvm hz1 hPc hDc hFc
  generalize H1 = H at hP hS ⊢
  have hP : va_P (dC, dI) vwCl (wC cJ b1 b0 bw bq bf w en pl cu li ld fb) H := hP
  have hD : va_D A (wC cJ b1 b0 bw bq bf w en pl cu li ld fb) := hD
  refine lv_iload_n hx hb dX1_first_5 rfl (lv_at hl 3 rfl) ?_
  refine lv_sipush (v := (200 : Int32)) hx hb dX1_first_6 (by decide) ?_
  obtain ⟨⟨⟩, hc, hj⟩ := ja_try hj
  try dsimp only at hj
  have hPc := hP.sub (ws' := ([] : va_W)) [] rfl
  have hDc := hD.sub (ws' := ([] : va_W)) [] (by decide) rfl
  have hFc := va_free (wc := ([] : va_W)) hD hS hA [] rfl
  refine va_callv (va_runS (As := [.int a3, .int (200 : Int32)]) (rest := []) ⟨hx, hb, hml, hown, hts⟩ (c_X1_requireLength l dC dI cI cJ H.size a3 (200 : Int32) _ hc) (va_cwS 2 hts gX1_first_X1_requireLength rfl rfl rfl (by decide +kernel) ⟨Nat.le_of_ble_eq_true rfl, Nat.le_of_ble_eq_true rfl⟩) ⟨fun a U g mk q => ⟨q.1, jPr.blind q.2⟩, fun U hU hW => ⟨rfl, jPr.mk hU hW hPc hK hDc⟩⟩ rfl rfl hl.1 rfl (lv_room (Nat.le_of_ble_eq_true rfl)) dX1_first_9 ⟨Nat.le_of_ble_eq_true rfl, Nat.le_of_ble_eq_true rfl⟩) hS (fun q _ h => hFc q h) hFc (fun u t H1 locs ht hvm hw9 hB hz1 hk1 hS => ?_)
  obtain ⟨hP1, hK1, hD1⟩ := hB
  rw [ht] at hP1
  obtain ⟨hP, hD⟩ := va_join (wr := ([(b1, .inr (1, [.ref b0, .ref bq, .ref bf, .int ld])), (b0, .inr (0, [.ref bw, .int en, .int pl, .int cu])), (bw, .inl (cJ, 64, .inr (.inl w))), (bq, .inl (cJ, 100, .inr (.inl li))), (bf, .inl (cJ, 89, .inr (.inl fb)))] : va_W)) (w1 := ([] : va_W)) hP hD [] [0, 1, 2, 3, 4] rfl rfl (by decide) (by decide) hk1 hFc hP1 hD1
  clear hk1 hP1 hK1 hD1 hvm hz1 hPc hDc hFc
  generalize H1 = H at hP hS ⊢
  have hP : va_P (dC, dI) vwCl (wC cJ b1 b0 bw bq bf w en pl cu li ld fb) H := hP
  have hD : va_D A (wC cJ b1 b0 bw bq bf w en pl cu li ld fb) := hD
  refine lv_aload_n hx hb dX1_first_12 rfl (lv_at hl 0 rfl) ?_
  refine lv_iload_n hx hb dX1_first_13 rfl (lv_at hl 1 rfl) ?_
  refine lv_iload_n hx hb dX1_first_14 rfl (lv_at hl 2 rfl) ?_
  refine lv_iload_n hx hb dX1_first_15 rfl (lv_at hl 3 rfl) ?_
  obtain ⟨v1, hc, hj⟩ := ja_bd hj
  try dsimp only at hj
  have hPc := hP.sub (ws' := (wC cJ b1 b0 bw bq bf w en pl cu li ld fb)) [0, 1, 2, 3, 4] rfl
  have hDc := hD.sub (ws' := (wC cJ b1 b0 bw bq bf w en pl cu li ld fb)) [0, 1, 2, 3, 4] (by decide) rfl
  have hFc := va_free (wc := (wC cJ b1 b0 bw bq bf w en pl cu li ld fb)) hD hS hA [0, 1, 2, 3, 4] rfl
  refine va_calll (va_runV (As := [.int a1, .int a2, .int a3]) (rest := []) ⟨hx, hb, hml, hown, hts⟩ (c_X1_leastReaching l dC dI cI cJ b1 b0 bw bq bf H.size w en pl cu li ld fb a1 a2 a3 _ hc) (cwV 3 hts gX1_first_X1_leastReaching rfl rfl rfl (by decide +kernel) ⟨Nat.le_of_ble_eq_true rfl, Nat.le_of_ble_eq_true rfl⟩) ⟨fun a U g mk q => ⟨q.1, jPr.blind q.2.1, jNs.blind q.2.2⟩, va_recv hK hPc (ci := 1) (q0 := 0) rfl rfl, fun U hU hW => ⟨rfl, jPr.mk hU hW hPc hK hDc, jNs.warm hW hN⟩⟩ rfl rfl hl.1 rfl (lv_room (Nat.le_of_ble_eq_true rfl)) dX1_first_16 ⟨Nat.le_of_ble_eq_true rfl, Nat.le_of_ble_eq_true rfl⟩) hS (fun q _ h => hFc q h) hFc (fun rr u t H1 locs ht hvm hw9 hB hz1 hk1 hS => ?_)
  have hw8 : v1 = rr := hw9.symm
  subst hw8
  obtain ⟨hP1, hK1, hD1⟩ := hB
  rw [ht] at hP1
  obtain ⟨hP, hD⟩ := va_join (wr := ([] : va_W)) (w1 := (wC cJ b1 b0 bw bq bf w en pl cu li ld fb)) hP hD [0, 1, 2, 3, 4] [] rfl rfl (by decide) (by decide) hk1 hFc hP1 hD1
  clear hk1 hP1 hK1 hD1 hvm hz1 hPc hDc hFc
  generalize H1 = H at hP hS ⊢
  have hP : va_P (dC, dI) vwCl (wC cJ b1 b0 bw bq bf w en pl cu li ld fb) H := hP
  have hD : va_D A (wC cJ b1 b0 bw bq bf w en pl cu li ld fb) := hD
  refine lv_lstore (lv' := [(4, .long v1), (0, .ref b1), (1, .int a1), (2, .int a2), (3, .int a3)]) hx hb dX1_first_19 hl (by decide) rfl (fun ls hl => ?_)
  refine lv_lload hx hb dX1_first_21 (lv_at hl 0 rfl) ?_
  refine lv_ldc2 (v := (4611686018427387904 : Int64)) hx hb hown (hts (.constantLong RX1 106 (4611686018427387904)) (by decide +kernel)) dX1_first_23 ?_
  refine W.lcmp hx hb dX1_first_26 ?_
  refine lv_if_gt (tgt := 48) hx hb dX1_first_27 (by decide) (fun c2 => ?_) (fun c2 => ?_)
  · replace hj := ja_pos ((lg_cmp_gt v1 (4611686018427387904 : Int64)).mp c2) hj
    refine lv_iconst (v := (0 : Int32)) hx hb dX1_first_48 (by decide) ?_
    refine lv_istore (lv' := [(6, .int (0 : Int32)), (4, .long v1), (0, .ref b1), (1, .int a1), (2, .int a2), (3, .int a3)]) hx hb dX1_first_49 hl (by decide) rfl (fun ls hl => ?_)
    refine lv_iload hx hb dX1_first_51 (lv_at hl 0 rfl) ?_
    refine lv_if_eq (tgt := 61) hx hb dX1_first_53 (by decide) (fun _ => ?_) (fun h9 => absurd (by decide) h9)
    refine lv_ldc2 (v := (-1 : Int64)) hx hb hown (hts (.constantLong RX1 97 (-1)) (by decide +kernel)) dX1_first_61 ?_
    have hr9 : (-1 : Int64) = r := Option.some.inj (Option.some.inj hj)
    subst hr9
    exact W.lret (v := (-1 : Int64)) hx hb hr (fun t ht hW => ⟨⟨(-1 : Int64), (), rfl, rfl, by rw [ht]; exact hP, va_K.moved hW.alike hK, hD⟩, hS.F ht⟩) hS.2.2 dX1_first_64
  · replace hj := ja_neg (fun h9 => c2 ((lg_cmp_gt v1 (4611686018427387904 : Int64)).mpr h9)) hj
    refine lv_aload_n hx hb dX1_first_30 rfl (lv_at hl 1 rfl) ?_
    refine lv_iload_n hx hb dX1_first_31 rfl (lv_at hl 2 rfl) ?_
    refine lv_iload_n hx hb dX1_first_32 rfl (lv_at hl 3 rfl) ?_
    refine lv_lload hx hb dX1_first_33 (lv_at hl 0 rfl) ?_
    obtain ⟨v4, hc, hj⟩ := ja_bd hj
    try dsimp only at hj
    have hPc := hP.sub (ws' := (wC cJ b1 b0 bw bq bf w en pl cu li ld fb)) [0, 1, 2, 3, 4] rfl
    have hDc := hD.sub (ws' := (wC cJ b1 b0 bw bq bf w en pl cu li ld fb)) [0, 1, 2, 3, 4] (by decide) rfl
    have hFc := va_free (wc := (wC cJ b1 b0 bw bq bf w en pl cu li ld fb)) hD hS hA [0, 1, 2, 3, 4] rfl
    refine va_calll (va_runV (As := [.int a1, .int a2, .long v1]) (rest := []) ⟨hx, hb, hml, hown, hts⟩ (c_X1_codewordLength l dC dI cI cJ b1 b0 bw bq bf H.size w en pl cu li ld fb a1 a2 v1 _ hc) (cwV 3 hts gX1_first_X1_codewordLength rfl rfl rfl (by decide +kernel) ⟨Nat.le_of_ble_eq_true rfl, Nat.le_of_ble_eq_true rfl⟩) ⟨fun a U g mk q => ⟨q.1, jPr.blind q.2.1, jNs.blind q.2.2⟩, va_recv hK hPc (ci := 1) (q0 := 0) rfl rfl, fun U hU hW => ⟨rfl, jPr.mk hU hW hPc hK hDc, jNs.warm hW hN⟩⟩ rfl rfl hl.1 rfl (lv_room (Nat.le_of_ble_eq_true rfl)) dX1_first_35 ⟨Nat.le_of_ble_eq_true rfl, Nat.le_of_ble_eq_true rfl⟩) hS (fun q _ h => hFc q h) hFc (fun rr u t H1 locs ht hvm hw9 hB hz1 hk1 hS => ?_)
    have hw8 : v4 = rr := hw9.symm
    subst hw8
    obtain ⟨hP1, hK1, hD1⟩ := hB
    rw [ht] at hP1
    obtain ⟨hP, hD⟩ := va_join (wr := ([] : va_W)) (w1 := (wC cJ b1 b0 bw bq bf w en pl cu li ld fb)) hP hD [0, 1, 2, 3, 4] [] rfl rfl (by decide) (by decide) hk1 hFc hP1 hD1
    clear hk1 hP1 hK1 hD1 hvm hz1 hPc hDc hFc
    generalize H1 = H at hP hS ⊢
    have hP : va_P (dC, dI) vwCl (wC cJ b1 b0 bw bq bf w en pl cu li ld fb) H := hP
    have hD : va_D A (wC cJ b1 b0 bw bq bf w en pl cu li ld fb) := hD
    refine lv_iload_n hx hb dX1_first_38 rfl (lv_at hl 4 rfl) ?_
    refine lv_i2l hx hb dX1_first_39 rfl ?_
    refine W.lcmp hx hb dX1_first_40 ?_
    refine lv_if_ne (tgt := 48) hx hb dX1_first_41 (by decide) (fun c5 => ?_) (fun c5 => ?_)
    · replace hj := ja_neg (fun h9 => c5 ((lg_cmp_eq v4 a3.toInt64).mpr h9)) hj
      refine lv_iconst (v := (0 : Int32)) hx hb dX1_first_48 (by decide) ?_
      refine lv_istore (lv' := [(6, .int (0 : Int32)), (4, .long v1), (0, .ref b1), (1, .int a1), (2, .int a2), (3, .int a3)]) hx hb dX1_first_49 hl (by decide) rfl (fun ls hl => ?_)
      refine lv_iload hx hb dX1_first_51 (lv_at hl 0 rfl) ?_
      refine lv_if_eq (tgt := 61) hx hb dX1_first_53 (by decide) (fun _ => ?_) (fun h9 => absurd (by decide) h9)
      refine lv_ldc2 (v := (-1 : Int64)) hx hb hown (hts (.constantLong RX1 97 (-1)) (by decide +kernel)) dX1_first_61 ?_
      have hr9 : (-1 : Int64) = r := Option.some.inj (Option.some.inj hj)
      subst hr9
      exact W.lret (v := (-1 : Int64)) hx hb hr (fun t ht hW => ⟨⟨(-1 : Int64), (), rfl, rfl, by rw [ht]; exact hP, va_K.moved hW.alike hK, hD⟩, hS.F ht⟩) hS.2.2 dX1_first_64
    · replace hj := ja_pos ((lg_cmp_eq v4 a3.toInt64).mp c5) hj
      refine lv_iconst (v := (1 : Int32)) hx hb dX1_first_44 (by decide) ?_
      refine lv_goto (tgt := 49) hx hb dX1_first_45 (by decide) ?_
      refine lv_istore (lv' := [(6, .int (1 : Int32)), (4, .long v1), (0, .ref b1), (1, .int a1), (2, .int a2), (3, .int a3)]) hx hb dX1_first_49 hl (by decide) rfl (fun ls hl => ?_)
      refine lv_iload hx hb dX1_first_51 (lv_at hl 0 rfl) ?_
      refine lv_if_eq (tgt := 61) hx hb dX1_first_53 (by decide) (fun h9 => absurd h9 (by decide)) (fun _ => ?_)
      refine lv_lload hx hb dX1_first_56 (lv_at hl 1 rfl) ?_
      refine lv_goto (tgt := 64) hx hb dX1_first_58 (by decide) ?_
      have hr9 : v1 = r := Option.some.inj (Option.some.inj hj)
      subst hr9
      exact W.lret (v := v1) hx hb hr (fun t ht hW => ⟨⟨v1, (), rfl, rfl, by rw [ht]; exact hP, va_K.moved hW.alike hK, hD⟩, hS.F ht⟩) hS.2.2 dX1_first_64
set_option maxHeartbeats 4000000 in
set_option maxRecDepth 100000 in
theorem x_X1_first (l : Launch) (hlt : l.stackTraces = false) (dC : Nat → ClassId) (dI : Nat → Nat → Nat) (cI cJ : ClassId) (b1 : Nat) (b0 : Nat) (bw : Nat) (bq : Nat) (bf : Nat) (sz : Nat) (w : Nat → Int64) (en : Int32) (pl : Int32) (cu : Int32) (li : Nat → Int64) (ld : Int32) (fb : Nat → Int64) (a1 : Int32) (a2 : Int32) (a3 : Int32) (hj : j_X1_first fb a1 a2 a3 = some none) : vx_Met l yX1_first wsX1_first ({ frames := 7, cells := 1, slots := 6, locals := 165 } : Room) (va_Pc [.ref b1, .int a1, .int a2, .int a3] (fun U => jPr dC dI cI cJ (wC cJ b1 b0 bw bq bf w en pl cu li ld fb) sz U ∧ jNs U ∧ jXs (va_A (wC cJ b1 b0 bw bq bf w en pl cu li ld fb) sz) U)) (va_Ql (fun (_ : Int64) (_ : Unit) => False) (fun _ _ => True) (va_A (wC cJ b1 b0 bw bq bf w en pl cu li ld fb) sz)) (vx_X (fun _ : Unit => True) (fun E _ t => E = "java/lang/IllegalArgumentException" ∧ jPo dC dI cI cJ (wC cJ b1 b0 bw bq bf w en pl cu li ld fb) (va_A (wC cJ b1 b0 bw bq bf w en pl cu li ld fb) sz) t) (va_A (wC cJ b1 b0 bw bq bf w en pl cu li ld fb) sz)) 1 6 (va_A (wC cJ b1 b0 bw bq bf w en pl cu li ld fb) sz) := by
  refine vx_ofW (cc := cX1_first) (maxL := 7) (ret := (some .long)) (by decide) rfl ?_
  intro p e s m args below meth c s₁ B hml htab hv
  obtain ⟨rfl, ⟨hsz, hP, hK, hD0⟩, hN, hXs⟩ := hv
  have hx := B.exec
  have hb := B.bytes
  have hr := B.returns
  have hts := atoms_spec (ws := wsX1_first) B.pre
  have hown : s.vm.findClass RX1 = some m.cls := findClass_of_methodNamed B.named
  have hlocks := B.notSynchronized
  have C0 := jCx.of hx hb hr hml hown hts hlocks
  subst hsz
  have hD := hD0.self (sz := s.heap.size)
  generalize hAe : va_A (wC cJ b1 b0 bw bq bf w en pl cu li ld fb) s.heap.size = A at hD hXs ⊢
  have hA : ∀ q : Nat, s.heap.size ≤ q → A q := fun q h => by rw [← hAe]; exact Or.inr h
  have hS : va_S A s.heap s.heap [] := va_S.rf
  have hP : va_P (dC, dI) vwCl (wC cJ b1 b0 bw bq bf w en pl cu li ld fb) s.heap := hP
  have hl := lv_entry ([.ref b1, .int a1, .int a2, .int a3]) (n := 7) (Nat.le_of_ble_eq_true rfl)
  rw [lg_entry_eq]
  generalize (lg_sl ([.ref b1, .int a1, .int a2, .int a3]) ++ List.replicate (7 - (lg_sl ([.ref b1, .int a1, .int a2, .int a3])).length) Slot.unset).toArray = ls at hl ⊢
  have hl : lv_has ls 7 [(0, .ref b1), (1, .int a1), (2, .int a2), (3, .int a3)] := hl
  clear hD0 hAe
  unfold j_X1_first at hj
  refine lv_iload_n hx hb dX1_first_0 rfl (lv_at hl 1 rfl) ?_
  refine lv_iload_n hx hb dX1_first_1 rfl (lv_at hl 2 rfl) ?_
  rcases ja_tryx hj with hc | ⟨⟨⟩, hc, hj⟩
  · have hPc := hP.sub (ws' := ([] : va_W)) [] rfl
    have hDc := hD.sub (ws' := ([] : va_W)) [] (by decide) rfl
    have hFc := va_free (wc := ([] : va_W)) hD hS hA [] rfl
    refine vx_callv (vx_runS (As := [.int a1, .int a2]) (rest := []) ⟨hx, hb, hml, hown, hts⟩ (x_X1_requireCode l hlt dC dI cI cJ s.heap.size a1 a2 hc) (va_cwS 2 hts gX1_first_X1_requireCode rfl rfl rfl (by decide +kernel) ⟨Nat.le_of_ble_eq_true rfl, Nat.le_of_ble_eq_true rfl⟩) ⟨fun a U g mk q => ⟨q.1, jPr.blind q.2.1, jXs.blind q.2.2⟩, fun U hU hW => ⟨rfl, jPr.mk hU hW hPc hK hDc, jXs.down hU hW hS hFc hXs⟩⟩ rfl rfl hl.1 rfl (lv_room (Nat.le_of_ble_eq_true rfl)) dX1_first_2 ⟨Nat.le_of_ble_eq_true rfl, Nat.le_of_ble_eq_true rfl⟩) hS (fun q _ h => hFc q h) hFc (fun q _ h => hFc q h) (fun E ce q9 u t H1 locs1 ht hvm hpx hBX hz1 hk1 hS hce hcv hcl => ?_) (fun u t H1 locs1 ht hvm hw9 hB hz1 hk1 hS => hw9.elim)
    obtain ⟨rfl, hP1, hK1, hD1⟩ := hBX
    rw [ht] at hP1
    obtain ⟨hP, hD⟩ := va_join (wr := ([(b1, .inr (1, [.ref b0, .ref bq, .ref bf, .int ld])), (b0, .inr (0, [.ref bw, .int en, .int pl, .int cu])), (bw, .inl (cJ, 64, .inr (.inl w))), (bq, .inl (cJ, 100, .inr (.inl li))), (bf, .inl (cJ, 89, .inr (.inl fb)))] : va_W)) (w1 := ([] : va_W)) hP hD [] [0, 1, 2, 3, 4] rfl rfl (by decide) (by decide) hk1 hFc hP1 hD1
    exact vx_out (fun x hx9 => (htab x hx9).elim) hlocks hce hcv hcl (fun t2 ht2 hal => ⟨(), trivial, ⟨rfl, by rw [ht2]; exact hP, va_K.moved hal hK, hD⟩, hS.F ht2⟩) hS.2.2 (by decide) (by decide)
  · try dsimp only at hj
    have hPc := hP.sub (ws' := ([] : va_W)) [] rfl
    have hDc := hD.sub (ws' := ([] : va_W)) [] (by decide) rfl
    have hFc := va_free (wc := ([] : va_W)) hD hS hA [] rfl
    refine va_callv (va_runS (As := [.int a1, .int a2]) (rest := []) ⟨hx, hb, hml, hown, hts⟩ (c_X1_requireCode l dC dI cI cJ s.heap.size a1 a2 _ hc) (va_cwS 2 hts gX1_first_X1_requireCode rfl rfl rfl (by decide +kernel) ⟨Nat.le_of_ble_eq_true rfl, Nat.le_of_ble_eq_true rfl⟩) ⟨fun a U g mk q => ⟨q.1, jPr.blind q.2⟩, fun U hU hW => ⟨rfl, jPr.mk hU hW hPc hK hDc⟩⟩ rfl rfl hl.1 rfl (lv_room (Nat.le_of_ble_eq_true rfl)) dX1_first_2 ⟨Nat.le_of_ble_eq_true rfl, Nat.le_of_ble_eq_true rfl⟩) hS (fun q _ h => hFc q h) hFc (fun u t H1 locs ht hvm hw9 hB hz1 hk1 hS => ?_)
    obtain ⟨hP1, hK1, hD1⟩ := hB
    rw [ht] at hP1
    obtain ⟨hP, hD⟩ := va_join (wr := ([(b1, .inr (1, [.ref b0, .ref bq, .ref bf, .int ld])), (b0, .inr (0, [.ref bw, .int en, .int pl, .int cu])), (bw, .inl (cJ, 64, .inr (.inl w))), (bq, .inl (cJ, 100, .inr (.inl li))), (bf, .inl (cJ, 89, .inr (.inl fb)))] : va_W)) (w1 := ([] : va_W)) hP hD [] [0, 1, 2, 3, 4] rfl rfl (by decide) (by decide) hk1 hFc hP1 hD1
    clear hk1 hP1 hK1 hD1 hvm hz1 hPc hDc hFc
    generalize H1 = H at hP hS ⊢
    have hP : va_P (dC, dI) vwCl (wC cJ b1 b0 bw bq bf w en pl cu li ld fb) H := hP
    have hD : va_D A (wC cJ b1 b0 bw bq bf w en pl cu li ld fb) := hD
    refine lv_iload_n hx hb dX1_first_5 rfl (lv_at hl 3 rfl) ?_
    refine lv_sipush (v := (200 : Int32)) hx hb dX1_first_6 (by decide) ?_
    rcases ja_tryx hj with hc | ⟨⟨⟩, hc, hj⟩
    · have hPc := hP.sub (ws' := ([] : va_W)) [] rfl
      have hDc := hD.sub (ws' := ([] : va_W)) [] (by decide) rfl
      have hFc := va_free (wc := ([] : va_W)) hD hS hA [] rfl
      refine vx_callv (vx_runS (As := [.int a3, .int (200 : Int32)]) (rest := []) ⟨hx, hb, hml, hown, hts⟩ (x_X1_requireLength l hlt dC dI cI cJ H.size a3 (200 : Int32) hc) (va_cwS 2 hts gX1_first_X1_requireLength rfl rfl rfl (by decide +kernel) ⟨Nat.le_of_ble_eq_true rfl, Nat.le_of_ble_eq_true rfl⟩) ⟨fun a U g mk q => ⟨q.1, jPr.blind q.2.1, jXs.blind q.2.2⟩, fun U hU hW => ⟨rfl, jPr.mk hU hW hPc hK hDc, jXs.down hU hW hS hFc hXs⟩⟩ rfl rfl hl.1 rfl (lv_room (Nat.le_of_ble_eq_true rfl)) dX1_first_9 ⟨Nat.le_of_ble_eq_true rfl, Nat.le_of_ble_eq_true rfl⟩) hS (fun q _ h => hFc q h) hFc (fun q _ h => hFc q h) (fun E ce q9 u t H1 locs1 ht hvm hpx hBX hz1 hk1 hS hce hcv hcl => ?_) (fun u t H1 locs1 ht hvm hw9 hB hz1 hk1 hS => hw9.elim)
      obtain ⟨rfl, hP1, hK1, hD1⟩ := hBX
      rw [ht] at hP1
      obtain ⟨hP, hD⟩ := va_join (wr := ([(b1, .inr (1, [.ref b0, .ref bq, .ref bf, .int ld])), (b0, .inr (0, [.ref bw, .int en, .int pl, .int cu])), (bw, .inl (cJ, 64, .inr (.inl w))), (bq, .inl (cJ, 100, .inr (.inl li))), (bf, .inl (cJ, 89, .inr (.inl fb)))] : va_W)) (w1 := ([] : va_W)) hP hD [] [0, 1, 2, 3, 4] rfl rfl (by decide) (by decide) hk1 hFc hP1 hD1
      exact vx_out (fun x hx9 => (htab x hx9).elim) hlocks hce hcv hcl (fun t2 ht2 hal => ⟨(), trivial, ⟨rfl, by rw [ht2]; exact hP, va_K.moved hal hK, hD⟩, hS.F ht2⟩) hS.2.2 (by decide) (by decide)
    · try dsimp only at hj
      have hPc := hP.sub (ws' := ([] : va_W)) [] rfl
      have hDc := hD.sub (ws' := ([] : va_W)) [] (by decide) rfl
      have hFc := va_free (wc := ([] : va_W)) hD hS hA [] rfl
      refine va_callv (va_runS (As := [.int a3, .int (200 : Int32)]) (rest := []) ⟨hx, hb, hml, hown, hts⟩ (c_X1_requireLength l dC dI cI cJ H.size a3 (200 : Int32) _ hc) (va_cwS 2 hts gX1_first_X1_requireLength rfl rfl rfl (by decide +kernel) ⟨Nat.le_of_ble_eq_true rfl, Nat.le_of_ble_eq_true rfl⟩) ⟨fun a U g mk q => ⟨q.1, jPr.blind q.2⟩, fun U hU hW => ⟨rfl, jPr.mk hU hW hPc hK hDc⟩⟩ rfl rfl hl.1 rfl (lv_room (Nat.le_of_ble_eq_true rfl)) dX1_first_9 ⟨Nat.le_of_ble_eq_true rfl, Nat.le_of_ble_eq_true rfl⟩) hS (fun q _ h => hFc q h) hFc (fun u t H1 locs ht hvm hw9 hB hz1 hk1 hS => ?_)
      obtain ⟨hP1, hK1, hD1⟩ := hB
      rw [ht] at hP1
      obtain ⟨hP, hD⟩ := va_join (wr := ([(b1, .inr (1, [.ref b0, .ref bq, .ref bf, .int ld])), (b0, .inr (0, [.ref bw, .int en, .int pl, .int cu])), (bw, .inl (cJ, 64, .inr (.inl w))), (bq, .inl (cJ, 100, .inr (.inl li))), (bf, .inl (cJ, 89, .inr (.inl fb)))] : va_W)) (w1 := ([] : va_W)) hP hD [] [0, 1, 2, 3, 4] rfl rfl (by decide) (by decide) hk1 hFc hP1 hD1
      clear hk1 hP1 hK1 hD1 hvm hz1 hPc hDc hFc
      generalize H1 = H at hP hS ⊢
      have hP : va_P (dC, dI) vwCl (wC cJ b1 b0 bw bq bf w en pl cu li ld fb) H := hP
      have hD : va_D A (wC cJ b1 b0 bw bq bf w en pl cu li ld fb) := hD
      refine lv_aload_n hx hb dX1_first_12 rfl (lv_at hl 0 rfl) ?_
      refine lv_iload_n hx hb dX1_first_13 rfl (lv_at hl 1 rfl) ?_
      refine lv_iload_n hx hb dX1_first_14 rfl (lv_at hl 2 rfl) ?_
      refine lv_iload_n hx hb dX1_first_15 rfl (lv_at hl 3 rfl) ?_
      obtain ⟨v1, hc, hj⟩ := ja_bd hj
      try dsimp only at hj
      have hPc := hP.sub (ws' := (wC cJ b1 b0 bw bq bf w en pl cu li ld fb)) [0, 1, 2, 3, 4] rfl
      have hDc := hD.sub (ws' := (wC cJ b1 b0 bw bq bf w en pl cu li ld fb)) [0, 1, 2, 3, 4] (by decide) rfl
      have hFc := va_free (wc := (wC cJ b1 b0 bw bq bf w en pl cu li ld fb)) hD hS hA [0, 1, 2, 3, 4] rfl
      refine va_calll (va_runV (As := [.int a1, .int a2, .int a3]) (rest := []) ⟨hx, hb, hml, hown, hts⟩ (c_X1_leastReaching l dC dI cI cJ b1 b0 bw bq bf H.size w en pl cu li ld fb a1 a2 a3 _ hc) (cwV 3 hts gX1_first_X1_leastReaching rfl rfl rfl (by decide +kernel) ⟨Nat.le_of_ble_eq_true rfl, Nat.le_of_ble_eq_true rfl⟩) ⟨fun a U g mk q => ⟨q.1, jPr.blind q.2.1, jNs.blind q.2.2⟩, va_recv hK hPc (ci := 1) (q0 := 0) rfl rfl, fun U hU hW => ⟨rfl, jPr.mk hU hW hPc hK hDc, jNs.warm hW hN⟩⟩ rfl rfl hl.1 rfl (lv_room (Nat.le_of_ble_eq_true rfl)) dX1_first_16 ⟨Nat.le_of_ble_eq_true rfl, Nat.le_of_ble_eq_true rfl⟩) hS (fun q _ h => hFc q h) hFc (fun rr u t H1 locs ht hvm hw9 hB hz1 hk1 hS => ?_)
      have hw8 : v1 = rr := hw9.symm
      subst hw8
      obtain ⟨hP1, hK1, hD1⟩ := hB
      rw [ht] at hP1
      obtain ⟨hP, hD⟩ := va_join (wr := ([] : va_W)) (w1 := (wC cJ b1 b0 bw bq bf w en pl cu li ld fb)) hP hD [0, 1, 2, 3, 4] [] rfl rfl (by decide) (by decide) hk1 hFc hP1 hD1
      clear hk1 hP1 hK1 hD1 hvm hz1 hPc hDc hFc
      generalize H1 = H at hP hS ⊢
      have hP : va_P (dC, dI) vwCl (wC cJ b1 b0 bw bq bf w en pl cu li ld fb) H := hP
      have hD : va_D A (wC cJ b1 b0 bw bq bf w en pl cu li ld fb) := hD
      refine lv_lstore (lv' := [(4, .long v1), (0, .ref b1), (1, .int a1), (2, .int a2), (3, .int a3)]) hx hb dX1_first_19 hl (by decide) rfl (fun ls hl => ?_)
      refine lv_lload hx hb dX1_first_21 (lv_at hl 0 rfl) ?_
      refine lv_ldc2 (v := (4611686018427387904 : Int64)) hx hb hown (hts (.constantLong RX1 106 (4611686018427387904)) (by decide +kernel)) dX1_first_23 ?_
      refine W.lcmp hx hb dX1_first_26 ?_
      refine lv_if_gt (tgt := 48) hx hb dX1_first_27 (by decide) (fun c2 => ?_) (fun c2 => ?_)
      · replace hj := ja_pos ((lg_cmp_gt v1 (4611686018427387904 : Int64)).mp c2) hj
        refine lv_iconst (v := (0 : Int32)) hx hb dX1_first_48 (by decide) ?_
        refine lv_istore (lv' := [(6, .int (0 : Int32)), (4, .long v1), (0, .ref b1), (1, .int a1), (2, .int a2), (3, .int a3)]) hx hb dX1_first_49 hl (by decide) rfl (fun ls hl => ?_)
        refine lv_iload hx hb dX1_first_51 (lv_at hl 0 rfl) ?_
        refine lv_if_eq (tgt := 61) hx hb dX1_first_53 (by decide) (fun _ => ?_) (fun h9 => absurd (by decide) h9)
        refine lv_ldc2 (v := (-1 : Int64)) hx hb hown (hts (.constantLong RX1 97 (-1)) (by decide +kernel)) dX1_first_61 ?_
        cases hj
      · replace hj := ja_neg (fun h9 => c2 ((lg_cmp_gt v1 (4611686018427387904 : Int64)).mpr h9)) hj
        refine lv_aload_n hx hb dX1_first_30 rfl (lv_at hl 1 rfl) ?_
        refine lv_iload_n hx hb dX1_first_31 rfl (lv_at hl 2 rfl) ?_
        refine lv_iload_n hx hb dX1_first_32 rfl (lv_at hl 3 rfl) ?_
        refine lv_lload hx hb dX1_first_33 (lv_at hl 0 rfl) ?_
        obtain ⟨v4, hc, hj⟩ := ja_bd hj
        try dsimp only at hj
        have hPc := hP.sub (ws' := (wC cJ b1 b0 bw bq bf w en pl cu li ld fb)) [0, 1, 2, 3, 4] rfl
        have hDc := hD.sub (ws' := (wC cJ b1 b0 bw bq bf w en pl cu li ld fb)) [0, 1, 2, 3, 4] (by decide) rfl
        have hFc := va_free (wc := (wC cJ b1 b0 bw bq bf w en pl cu li ld fb)) hD hS hA [0, 1, 2, 3, 4] rfl
        refine va_calll (va_runV (As := [.int a1, .int a2, .long v1]) (rest := []) ⟨hx, hb, hml, hown, hts⟩ (c_X1_codewordLength l dC dI cI cJ b1 b0 bw bq bf H.size w en pl cu li ld fb a1 a2 v1 _ hc) (cwV 3 hts gX1_first_X1_codewordLength rfl rfl rfl (by decide +kernel) ⟨Nat.le_of_ble_eq_true rfl, Nat.le_of_ble_eq_true rfl⟩) ⟨fun a U g mk q => ⟨q.1, jPr.blind q.2.1, jNs.blind q.2.2⟩, va_recv hK hPc (ci := 1) (q0 := 0) rfl rfl, fun U hU hW => ⟨rfl, jPr.mk hU hW hPc hK hDc, jNs.warm hW hN⟩⟩ rfl rfl hl.1 rfl (lv_room (Nat.le_of_ble_eq_true rfl)) dX1_first_35 ⟨Nat.le_of_ble_eq_true rfl, Nat.le_of_ble_eq_true rfl⟩) hS (fun q _ h => hFc q h) hFc (fun rr u t H1 locs ht hvm hw9 hB hz1 hk1 hS => ?_)
        have hw8 : v4 = rr := hw9.symm
        subst hw8
        obtain ⟨hP1, hK1, hD1⟩ := hB
        rw [ht] at hP1
        obtain ⟨hP, hD⟩ := va_join (wr := ([] : va_W)) (w1 := (wC cJ b1 b0 bw bq bf w en pl cu li ld fb)) hP hD [0, 1, 2, 3, 4] [] rfl rfl (by decide) (by decide) hk1 hFc hP1 hD1
        clear hk1 hP1 hK1 hD1 hvm hz1 hPc hDc hFc
        generalize H1 = H at hP hS ⊢
        have hP : va_P (dC, dI) vwCl (wC cJ b1 b0 bw bq bf w en pl cu li ld fb) H := hP
        have hD : va_D A (wC cJ b1 b0 bw bq bf w en pl cu li ld fb) := hD
        refine lv_iload_n hx hb dX1_first_38 rfl (lv_at hl 4 rfl) ?_
        refine lv_i2l hx hb dX1_first_39 rfl ?_
        refine W.lcmp hx hb dX1_first_40 ?_
        refine lv_if_ne (tgt := 48) hx hb dX1_first_41 (by decide) (fun c5 => ?_) (fun c5 => ?_)
        · replace hj := ja_neg (fun h9 => c5 ((lg_cmp_eq v4 a3.toInt64).mpr h9)) hj
          refine lv_iconst (v := (0 : Int32)) hx hb dX1_first_48 (by decide) ?_
          refine lv_istore (lv' := [(6, .int (0 : Int32)), (4, .long v1), (0, .ref b1), (1, .int a1), (2, .int a2), (3, .int a3)]) hx hb dX1_first_49 hl (by decide) rfl (fun ls hl => ?_)
          refine lv_iload hx hb dX1_first_51 (lv_at hl 0 rfl) ?_
          refine lv_if_eq (tgt := 61) hx hb dX1_first_53 (by decide) (fun _ => ?_) (fun h9 => absurd (by decide) h9)
          refine lv_ldc2 (v := (-1 : Int64)) hx hb hown (hts (.constantLong RX1 97 (-1)) (by decide +kernel)) dX1_first_61 ?_
          cases hj
        · replace hj := ja_pos ((lg_cmp_eq v4 a3.toInt64).mp c5) hj
          refine lv_iconst (v := (1 : Int32)) hx hb dX1_first_44 (by decide) ?_
          refine lv_goto (tgt := 49) hx hb dX1_first_45 (by decide) ?_
          refine lv_istore (lv' := [(6, .int (1 : Int32)), (4, .long v1), (0, .ref b1), (1, .int a1), (2, .int a2), (3, .int a3)]) hx hb dX1_first_49 hl (by decide) rfl (fun ls hl => ?_)
          refine lv_iload hx hb dX1_first_51 (lv_at hl 0 rfl) ?_
          refine lv_if_eq (tgt := 61) hx hb dX1_first_53 (by decide) (fun h9 => absurd h9 (by decide)) (fun _ => ?_)
          refine lv_lload hx hb dX1_first_56 (lv_at hl 1 rfl) ?_
          refine lv_goto (tgt := 64) hx hb dX1_first_58 (by decide) ?_
          cases hj

def j_X1_fold (a1 : Int64) : Option (Option (Int64)) :=
  if (2305843009213693952 : Int64) < a1 then (some none) else (if (-2305843009213693952 : Int64) < a1 then (if a1 ≤ (0 : Int64) then (some (some ((1 : Int64) - ((2 : Int64) * a1)))) else (some (some ((2 : Int64) * a1)))) else (some none))
set_option maxHeartbeats 4000000 in
set_option maxRecDepth 100000 in
theorem c_X1_fold (l : Launch) (dC : Nat → ClassId) (dI : Nat → Nat → Nat) (cI cJ : ClassId) (b1 : Nat) (b0 : Nat) (bw : Nat) (bq : Nat) (bf : Nat) (sz : Nat) (w : Nat → Int64) (en : Int32) (pl : Int32) (cu : Int32) (li : Nat → Int64) (ld : Int32) (fb : Nat → Int64) (a1 : Int64) (r : Int64) (hj : j_X1_fold a1 = some (some r)) : Met l yX1_fold wsX1_fold ({ frames := 0, cells := 0, slots := 0, locals := 0 } : Room) (va_Pc [.ref b1, .long a1] (fun U => jPr dC dI cI cJ (wC cJ b1 b0 bw bq bf w en pl cu li ld fb) sz U ∧ jNs U)) (va_Ql (fun (v : Int64) (_ : Unit) => v = r) (fun (_ : Unit) t => jPo dC dI cI cJ (wC cJ b1 b0 bw bq bf w en pl cu li ld fb) (va_A (wC cJ b1 b0 bw bq bf w en pl cu li ld fb) sz) t) (va_A (wC cJ b1 b0 bw bq bf w en pl cu li ld fb) sz)) 0 0 (va_A (wC cJ b1 b0 bw bq bf w en pl cu li ld fb) sz) := by
  refine Met.ofW (cc := cX1_fold) (maxL := 3) (ret := (some .long)) (by decide) rfl ?_
  intro p e s m args below meth c s₁ B hml hv
  obtain ⟨rfl, ⟨hsz, hP, hK, hD0⟩, hN⟩ := hv
  have hx := B.exec
  have hb := B.bytes
  have hr := B.returns
  have hts := atoms_spec (ws := wsX1_fold) B.pre
  have hown : s.vm.findClass RX1 = some m.cls := findClass_of_methodNamed B.named
  have hlocks := B.notSynchronized
  have C0 := jCx.of hx hb hr hml hown hts hlocks
  subst hsz
  have hD := hD0.self (sz := s.heap.size)
  generalize hAe : va_A (wC cJ b1 b0 bw bq bf w en pl cu li ld fb) s.heap.size = A at hD ⊢
  have hA : ∀ q : Nat, s.heap.size ≤ q → A q := fun q h => by rw [← hAe]; exact Or.inr h
  have hS : va_S A s.heap s.heap [] := va_S.rf
  have hP : va_P (dC, dI) vwCl (wC cJ b1 b0 bw bq bf w en pl cu li ld fb) s.heap := hP
  have hl := lv_entry ([.ref b1, .long a1]) (n := 3) (Nat.le_of_ble_eq_true rfl)
  rw [lg_entry_eq]
  generalize (lg_sl ([.ref b1, .long a1]) ++ List.replicate (3 - (lg_sl ([.ref b1, .long a1])).length) Slot.unset).toArray = ls at hl ⊢
  have hl : lv_has ls 3 [(0, .ref b1), (1, .long a1)] := hl
  clear hD0 hAe
  unfold j_X1_fold at hj
  refine lv_lload_n hx hb dX1_fold_0 rfl (lv_at hl 1 rfl) ?_
  refine lv_ldc2 (v := (2305843009213693952 : Int64)) hx hb hown (hts (.constantLong RX1 108 (2305843009213693952)) (by decide +kernel)) dX1_fold_1 ?_
  refine W.lcmp hx hb dX1_fold_4 ?_
  refine lv_if_gt (tgt := 16) hx hb dX1_fold_5 (by decide) (fun c1 => ?_) (fun c1 => ?_)
  · replace hj := ja_pos ((lg_cmp_gt a1 (2305843009213693952 : Int64)).mp c1) hj
    cases hj
  · replace hj := ja_neg (fun h9 => c1 ((lg_cmp_gt a1 (2305843009213693952 : Int64)).mpr h9)) hj
    refine lv_lload_n hx hb dX1_fold_8 rfl (lv_at hl 1 rfl) ?_
    refine lv_ldc2 (v := (-2305843009213693952 : Int64)) hx hb hown (hts (.constantLong RX1 110 (-2305843009213693952)) (by decide +kernel)) dX1_fold_9 ?_
    refine W.lcmp hx hb dX1_fold_12 ?_
    refine lv_if_gt (tgt := 26) hx hb dX1_fold_13 (by decide) (fun c2 => ?_) (fun c2 => ?_)
    · replace hj := ja_pos ((lg_cmp_gt a1 (-2305843009213693952 : Int64)).mp c2) hj
      refine lv_lload_n hx hb dX1_fold_26 rfl (lv_at hl 1 rfl) ?_
      refine lv_lconst (v := (0 : Int64)) hx hb dX1_fold_27 (by decide) ?_
      refine W.lcmp hx hb dX1_fold_28 ?_
      refine lv_if_le (tgt := 40) hx hb dX1_fold_29 (by decide) (fun c3 => ?_) (fun c3 => ?_)
      · replace hj := ja_pos ((lg_cmp_le a1 (0 : Int64)).mp c3) hj
        refine lv_lconst (v := (1 : Int64)) hx hb dX1_fold_40 (by decide) ?_
        refine lv_ldc2 (v := (2 : Int64)) hx hb hown (hts (.constantLong RX1 27 (2)) (by decide +kernel)) dX1_fold_41 ?_
        refine lv_lload_n hx hb dX1_fold_44 rfl (lv_at hl 1 rfl) ?_
        refine lv_lmul hx hb dX1_fold_45 ?_
        refine lv_lsub hx hb dX1_fold_46 ?_
        have hr9 : ((1 : Int64) - ((2 : Int64) * a1)) = r := Option.some.inj (Option.some.inj hj)
        subst hr9
        exact W.lret (v := (1 : Int64) - ((2 : Int64) * a1)) hx hb hr (fun t ht hW => ⟨⟨(1 : Int64) - ((2 : Int64) * a1), (), rfl, rfl, by rw [ht]; exact hP, va_K.moved hW.alike hK, hD⟩, hS.F ht⟩) hS.2.2 dX1_fold_47
      · replace hj := ja_neg (fun h9 => c3 ((lg_cmp_le a1 (0 : Int64)).mpr h9)) hj
        refine lv_ldc2 (v := (2 : Int64)) hx hb hown (hts (.constantLong RX1 27 (2)) (by decide +kernel)) dX1_fold_32 ?_
        refine lv_lload_n hx hb dX1_fold_35 rfl (lv_at hl 1 rfl) ?_
        refine lv_lmul hx hb dX1_fold_36 ?_
        refine lv_goto (tgt := 47) hx hb dX1_fold_37 (by decide) ?_
        have hr9 : ((2 : Int64) * a1) = r := Option.some.inj (Option.some.inj hj)
        subst hr9
        exact W.lret (v := (2 : Int64) * a1) hx hb hr (fun t ht hW => ⟨⟨(2 : Int64) * a1, (), rfl, rfl, by rw [ht]; exact hP, va_K.moved hW.alike hK, hD⟩, hS.F ht⟩) hS.2.2 dX1_fold_47
    · replace hj := ja_neg (fun h9 => c2 ((lg_cmp_gt a1 (-2305843009213693952 : Int64)).mpr h9)) hj
      cases hj
theorem xw_X1_fold_A {args : Array Value} {s : State} (hts : ∀ w ∈ wsX1_fold, w.before args s = true) : ∀ w ∈ (vx_atS RX1 56 "java/lang/IllegalArgumentException" ["java/lang/RuntimeException", "java/lang/Exception"]).filter goodWord, w.before args s = true := fun w h => hts w (List.mem_cons_of_mem _ (List.mem_append_right _ h))
theorem xg_X1_fold_A : ∀ w ∈ Cond.classLink RX1 52 "java/lang/IllegalArgumentException" :: Cond.initialized "java/lang/IllegalArgumentException" :: (vx_atS RX1 56 "java/lang/IllegalArgumentException" ["java/lang/RuntimeException", "java/lang/Exception"]), vx_ot w = true := by decide +kernel
set_option maxHeartbeats 4000000 in
set_option maxRecDepth 100000 in
theorem x_X1_fold (l : Launch) (hlt : l.stackTraces = false) (dC : Nat → ClassId) (dI : Nat → Nat → Nat) (cI cJ : ClassId) (b1 : Nat) (b0 : Nat) (bw : Nat) (bq : Nat) (bf : Nat) (sz : Nat) (w : Nat → Int64) (en : Int32) (pl : Int32) (cu : Int32) (li : Nat → Int64) (ld : Int32) (fb : Nat → Int64) (a1 : Int64) (hj : j_X1_fold a1 = some none) : vx_Met l yX1_fold wsX1_fold ({ frames := 6, cells := 1, slots := 6, locals := 82 } : Room) (va_Pc [.ref b1, .long a1] (fun U => jPr dC dI cI cJ (wC cJ b1 b0 bw bq bf w en pl cu li ld fb) sz U ∧ jNs U ∧ jXs (va_A (wC cJ b1 b0 bw bq bf w en pl cu li ld fb) sz) U)) (va_Ql (fun (_ : Int64) (_ : Unit) => False) (fun _ _ => True) (va_A (wC cJ b1 b0 bw bq bf w en pl cu li ld fb) sz)) (vx_X (fun _ : Unit => True) (fun E _ t => E = "java/lang/IllegalArgumentException" ∧ jPo dC dI cI cJ (wC cJ b1 b0 bw bq bf w en pl cu li ld fb) (va_A (wC cJ b1 b0 bw bq bf w en pl cu li ld fb) sz) t) (va_A (wC cJ b1 b0 bw bq bf w en pl cu li ld fb) sz)) 1 6 (va_A (wC cJ b1 b0 bw bq bf w en pl cu li ld fb) sz) := by
  refine vx_ofW (cc := cX1_fold) (maxL := 3) (ret := (some .long)) (by decide) rfl ?_
  intro p e s m args below meth c s₁ B hml htab hv
  obtain ⟨rfl, ⟨hsz, hP, hK, hD0⟩, hN, hXs⟩ := hv
  have hx := B.exec
  have hb := B.bytes
  have hr := B.returns
  have hts := atoms_spec (ws := wsX1_fold) B.pre
  have hown : s.vm.findClass RX1 = some m.cls := findClass_of_methodNamed B.named
  have hlocks := B.notSynchronized
  have C0 := jCx.of hx hb hr hml hown hts hlocks
  subst hsz
  have hD := hD0.self (sz := s.heap.size)
  generalize hAe : va_A (wC cJ b1 b0 bw bq bf w en pl cu li ld fb) s.heap.size = A at hD hXs ⊢
  have hA : ∀ q : Nat, s.heap.size ≤ q → A q := fun q h => by rw [← hAe]; exact Or.inr h
  have hS : va_S A s.heap s.heap [] := va_S.rf
  have hP : va_P (dC, dI) vwCl (wC cJ b1 b0 bw bq bf w en pl cu li ld fb) s.heap := hP
  have hl := lv_entry ([.ref b1, .long a1]) (n := 3) (Nat.le_of_ble_eq_true rfl)
  rw [lg_entry_eq]
  generalize (lg_sl ([.ref b1, .long a1]) ++ List.replicate (3 - (lg_sl ([.ref b1, .long a1])).length) Slot.unset).toArray = ls at hl ⊢
  have hl : lv_has ls 3 [(0, .ref b1), (1, .long a1)] := hl
  clear hD0 hAe
  unfold j_X1_fold at hj
  refine lv_lload_n hx hb dX1_fold_0 rfl (lv_at hl 1 rfl) ?_
  refine lv_ldc2 (v := (2305843009213693952 : Int64)) hx hb hown (hts (.constantLong RX1 108 (2305843009213693952)) (by decide +kernel)) dX1_fold_1 ?_
  refine W.lcmp hx hb dX1_fold_4 ?_
  refine lv_if_gt (tgt := 16) hx hb dX1_fold_5 (by decide) (fun c1 => ?_) (fun c1 => ?_)
  · replace hj := ja_pos ((lg_cmp_gt a1 (2305843009213693952 : Int64)).mp c1) hj
    obtain ⟨sa, hst⟩ := hXs.str4
    exact vx_throwS (XC := _) (text := "what stands for it is above 2^62") hx hb hlt hown (by decide +kernel) (by decide +kernel) (hts (.classLink RX1 52 "java/lang/IllegalArgumentException") (by decide +kernel)) (hts (.initialized "java/lang/IllegalArgumentException") (by decide +kernel)) hst (vx_hat (B := jWA) (xw_X1_fold_A hts) (by decide +kernel) (hXs.wA _)) xg_X1_fold_A hXs.1 hXs.2.1 hS (hl.1.trans hml.symm) dX1_fold_16 dX1_fold_19 dX1_fold_20 dX1_fold_22 dX1_fold_25 (fun x hx9 => (htab x hx9).elim) (by decide) (by decide) (by decide) (by decide) hlocks (fun t hal hz hk => ⟨(), trivial, ⟨rfl, jP_keep hP hk, va_K.moved hal hK, hD⟩, jF_keep hS hz hk⟩) hS.2.2 (by decide) (by decide)
  · replace hj := ja_neg (fun h9 => c1 ((lg_cmp_gt a1 (2305843009213693952 : Int64)).mpr h9)) hj
    refine lv_lload_n hx hb dX1_fold_8 rfl (lv_at hl 1 rfl) ?_
    refine lv_ldc2 (v := (-2305843009213693952 : Int64)) hx hb hown (hts (.constantLong RX1 110 (-2305843009213693952)) (by decide +kernel)) dX1_fold_9 ?_
    refine W.lcmp hx hb dX1_fold_12 ?_
    refine lv_if_gt (tgt := 26) hx hb dX1_fold_13 (by decide) (fun c2 => ?_) (fun c2 => ?_)
    · replace hj := ja_pos ((lg_cmp_gt a1 (-2305843009213693952 : Int64)).mp c2) hj
      refine lv_lload_n hx hb dX1_fold_26 rfl (lv_at hl 1 rfl) ?_
      refine lv_lconst (v := (0 : Int64)) hx hb dX1_fold_27 (by decide) ?_
      refine W.lcmp hx hb dX1_fold_28 ?_
      refine lv_if_le (tgt := 40) hx hb dX1_fold_29 (by decide) (fun c3 => ?_) (fun c3 => ?_)
      · replace hj := ja_pos ((lg_cmp_le a1 (0 : Int64)).mp c3) hj
        refine lv_lconst (v := (1 : Int64)) hx hb dX1_fold_40 (by decide) ?_
        refine lv_ldc2 (v := (2 : Int64)) hx hb hown (hts (.constantLong RX1 27 (2)) (by decide +kernel)) dX1_fold_41 ?_
        refine lv_lload_n hx hb dX1_fold_44 rfl (lv_at hl 1 rfl) ?_
        refine lv_lmul hx hb dX1_fold_45 ?_
        refine lv_lsub hx hb dX1_fold_46 ?_
        cases hj
      · replace hj := ja_neg (fun h9 => c3 ((lg_cmp_le a1 (0 : Int64)).mpr h9)) hj
        refine lv_ldc2 (v := (2 : Int64)) hx hb hown (hts (.constantLong RX1 27 (2)) (by decide +kernel)) dX1_fold_32 ?_
        refine lv_lload_n hx hb dX1_fold_35 rfl (lv_at hl 1 rfl) ?_
        refine lv_lmul hx hb dX1_fold_36 ?_
        refine lv_goto (tgt := 47) hx hb dX1_fold_37 (by decide) ?_
        cases hj
    · replace hj := ja_neg (fun h9 => c2 ((lg_cmp_gt a1 (-2305843009213693952 : Int64)).mpr h9)) hj
      obtain ⟨sa, hst⟩ := hXs.str4
      exact vx_throwS (XC := _) (text := "what stands for it is above 2^62") hx hb hlt hown (by decide +kernel) (by decide +kernel) (hts (.classLink RX1 52 "java/lang/IllegalArgumentException") (by decide +kernel)) (hts (.initialized "java/lang/IllegalArgumentException") (by decide +kernel)) hst (vx_hat (B := jWA) (xw_X1_fold_A hts) (by decide +kernel) (hXs.wA _)) xg_X1_fold_A hXs.1 hXs.2.1 hS (hl.1.trans hml.symm) dX1_fold_16 dX1_fold_19 dX1_fold_20 dX1_fold_22 dX1_fold_25 (fun x hx9 => (htab x hx9).elim) (by decide) (by decide) (by decide) (by decide) hlocks (fun t hal hz hk => ⟨(), trivial, ⟨rfl, jP_keep hP hk, va_K.moved hal hK, hD⟩, jF_keep hS hz hk⟩) hS.2.2 (by decide) (by decide)

set_option maxRecDepth 100000 in
theorem inn_X1_get_X1 : ∀ w ∈ u_ws RX1 TX1 4, w ∈ wsX1_get := by decide +kernel
def j_X1_get (li : Nat → Int64) (ld : Int32) (a1 : Int32) : Option (Option (Int64)) :=
  if a1 < (0 : Int32) then (some none) else (if a1 < ld then (jix a1 100 (some (some (li a1.toNatClampNeg)))) else (some none))
set_option maxHeartbeats 4000000 in
set_option maxRecDepth 100000 in
theorem c_X1_get (l : Launch) (dC : Nat → ClassId) (dI : Nat → Nat → Nat) (cI cJ : ClassId) (b1 : Nat) (b0 : Nat) (bw : Nat) (bq : Nat) (bf : Nat) (sz : Nat) (w : Nat → Int64) (en : Int32) (pl : Int32) (cu : Int32) (li : Nat → Int64) (ld : Int32) (fb : Nat → Int64) (a1 : Int32) (r : Int64) (hj : j_X1_get li ld a1 = some (some r)) : Met l yX1_get wsX1_get ({ frames := 0, cells := 0, slots := 0, locals := 0 } : Room) (va_Pc [.ref b1, .int a1] (fun U => jPr dC dI cI cJ (wC cJ b1 b0 bw bq bf w en pl cu li ld fb) sz U ∧ jNs U)) (va_Ql (fun (v : Int64) (_ : Unit) => v = r) (fun (_ : Unit) t => jPo dC dI cI cJ (wC cJ b1 b0 bw bq bf w en pl cu li ld fb) (va_A (wC cJ b1 b0 bw bq bf w en pl cu li ld fb) sz) t) (va_A (wC cJ b1 b0 bw bq bf w en pl cu li ld fb) sz)) 0 0 (va_A (wC cJ b1 b0 bw bq bf w en pl cu li ld fb) sz) := by
  refine Met.ofW (cc := cX1_get) (maxL := 2) (ret := (some .long)) (by decide) rfl ?_
  intro p e s m args below meth c s₁ B hml hv
  obtain ⟨rfl, ⟨hsz, hP, hK, hD0⟩, hN⟩ := hv
  have hx := B.exec
  have hb := B.bytes
  have hr := B.returns
  have hts := atoms_spec (ws := wsX1_get) B.pre
  have hown : s.vm.findClass RX1 = some m.cls := findClass_of_methodNamed B.named
  have hlocks := B.notSynchronized
  have C0 := jCx.of hx hb hr hml hown hts hlocks
  subst hsz
  have hD := hD0.self (sz := s.heap.size)
  generalize hAe : va_A (wC cJ b1 b0 bw bq bf w en pl cu li ld fb) s.heap.size = A at hD ⊢
  have hA : ∀ q : Nat, s.heap.size ≤ q → A q := fun q h => by rw [← hAe]; exact Or.inr h
  have hS : va_S A s.heap s.heap [] := va_S.rf
  have hP : va_P (dC, dI) vwCl (wC cJ b1 b0 bw bq bf w en pl cu li ld fb) s.heap := hP
  have hl := lv_entry ([.ref b1, .int a1]) (n := 2) (Nat.le_of_ble_eq_true rfl)
  rw [lg_entry_eq]
  generalize (lg_sl ([.ref b1, .int a1]) ++ List.replicate (2 - (lg_sl ([.ref b1, .int a1])).length) Slot.unset).toArray = ls at hl ⊢
  have hl : lv_has ls 2 [(0, .ref b1), (1, .int a1)] := hl
  clear hD0 hAe
  unfold j_X1_get at hj
  refine lv_iload_n hx hb dX1_get_0 rfl (lv_at hl 1 rfl) ?_
  refine lv_if_lt (tgt := 12) hx hb dX1_get_1 (by decide) (fun c1 => ?_) (fun c1 => ?_)
  · replace hj := ja_pos c1 hj
    cases hj
  · replace hj := ja_neg c1 hj
    refine lv_iload_n hx hb dX1_get_4 rfl (lv_at hl 1 rfl) ?_
    refine lv_aload_n hx hb dX1_get_5 rfl (lv_at hl 0 rfl) ?_
    refine va_get (D := (dC, dI)) (ci := 1) (v := .int ld) (C := RX1) (T := TX1) (N := 4) hx hb hts inn_X1_get_X1 hown hK hP 0 rfl rfl 3 (by decide) (hts (.fieldLink RX1 20 "SelfEndingCodes" "listed" "I") (by decide +kernel)) (fun _ h9 => h9) rfl dX1_get_6 ?_
    refine lv_icmp_lt (tgt := 22) hx hb dX1_get_9 (by decide) (fun c2 => ?_) (fun c2 => ?_)
    · replace hj := ja_pos c2 hj
      refine lv_aload_n hx hb dX1_get_22 rfl (lv_at hl 0 rfl) ?_
      refine va_get (D := (dC, dI)) (ci := 1) (v := .ref bq) (C := RX1) (T := TX1) (N := 4) hx hb hts inn_X1_get_X1 hown hK hP 0 rfl rfl 1 (by decide) (hts (.fieldLink RX1 16 "SelfEndingCodes" "list" "[J") (by decide +kernel)) (fun _ h9 => h9) rfl dX1_get_23 ?_
      refine lv_iload_n hx hb dX1_get_26 rfl (lv_at hl 1 rfl) ?_
      obtain ⟨hin, hj⟩ := ja_ix hj
      refine va_lald hx hb hK hP 3 1 rfl rfl hin dX1_get_27 ?_
      have hr9 : (li a1.toNatClampNeg) = r := Option.some.inj (Option.some.inj hj)
      subst hr9
      exact W.lret (v := li a1.toNatClampNeg) hx hb hr (fun t ht hW => ⟨⟨li a1.toNatClampNeg, (), rfl, rfl, by rw [ht]; exact hP, va_K.moved hW.alike hK, hD⟩, hS.F ht⟩) hS.2.2 dX1_get_28
    · replace hj := ja_neg c2 hj
      cases hj
theorem xw_X1_get_B {args : Array Value} {s : State} (hts : ∀ w ∈ wsX1_get, w.before args s = true) : ∀ w ∈ (vx_atS RX1 78 "java/lang/IndexOutOfBoundsException" ["java/lang/RuntimeException", "java/lang/Exception"]).filter goodWord, w.before args s = true := fun w h => hts w (List.mem_cons_of_mem _ (List.mem_append_right _ h))
theorem xg_X1_get_B : ∀ w ∈ Cond.classLink RX1 74 "java/lang/IndexOutOfBoundsException" :: Cond.initialized "java/lang/IndexOutOfBoundsException" :: (vx_atS RX1 78 "java/lang/IndexOutOfBoundsException" ["java/lang/RuntimeException", "java/lang/Exception"]), vx_ot w = true := by decide +kernel
set_option maxHeartbeats 4000000 in
set_option maxRecDepth 100000 in
theorem x_X1_get (l : Launch) (hlt : l.stackTraces = false) (dC : Nat → ClassId) (dI : Nat → Nat → Nat) (cI cJ : ClassId) (b1 : Nat) (b0 : Nat) (bw : Nat) (bq : Nat) (bf : Nat) (sz : Nat) (w : Nat → Int64) (en : Int32) (pl : Int32) (cu : Int32) (li : Nat → Int64) (ld : Int32) (fb : Nat → Int64) (a1 : Int32) (hj : j_X1_get li ld a1 = some none) : vx_Met l yX1_get wsX1_get ({ frames := 6, cells := 1, slots := 6, locals := 82 } : Room) (va_Pc [.ref b1, .int a1] (fun U => jPr dC dI cI cJ (wC cJ b1 b0 bw bq bf w en pl cu li ld fb) sz U ∧ jNs U ∧ jXs (va_A (wC cJ b1 b0 bw bq bf w en pl cu li ld fb) sz) U)) (va_Ql (fun (_ : Int64) (_ : Unit) => False) (fun _ _ => True) (va_A (wC cJ b1 b0 bw bq bf w en pl cu li ld fb) sz)) (vx_X (fun _ : Unit => True) (fun E _ t => E = "java/lang/IndexOutOfBoundsException" ∧ jPo dC dI cI cJ (wC cJ b1 b0 bw bq bf w en pl cu li ld fb) (va_A (wC cJ b1 b0 bw bq bf w en pl cu li ld fb) sz) t) (va_A (wC cJ b1 b0 bw bq bf w en pl cu li ld fb) sz)) 1 6 (va_A (wC cJ b1 b0 bw bq bf w en pl cu li ld fb) sz) := by
  refine vx_ofW (cc := cX1_get) (maxL := 2) (ret := (some .long)) (by decide) rfl ?_
  intro p e s m args below meth c s₁ B hml htab hv
  obtain ⟨rfl, ⟨hsz, hP, hK, hD0⟩, hN, hXs⟩ := hv
  have hx := B.exec
  have hb := B.bytes
  have hr := B.returns
  have hts := atoms_spec (ws := wsX1_get) B.pre
  have hown : s.vm.findClass RX1 = some m.cls := findClass_of_methodNamed B.named
  have hlocks := B.notSynchronized
  have C0 := jCx.of hx hb hr hml hown hts hlocks
  subst hsz
  have hD := hD0.self (sz := s.heap.size)
  generalize hAe : va_A (wC cJ b1 b0 bw bq bf w en pl cu li ld fb) s.heap.size = A at hD hXs ⊢
  have hA : ∀ q : Nat, s.heap.size ≤ q → A q := fun q h => by rw [← hAe]; exact Or.inr h
  have hS : va_S A s.heap s.heap [] := va_S.rf
  have hP : va_P (dC, dI) vwCl (wC cJ b1 b0 bw bq bf w en pl cu li ld fb) s.heap := hP
  have hl := lv_entry ([.ref b1, .int a1]) (n := 2) (Nat.le_of_ble_eq_true rfl)
  rw [lg_entry_eq]
  generalize (lg_sl ([.ref b1, .int a1]) ++ List.replicate (2 - (lg_sl ([.ref b1, .int a1])).length) Slot.unset).toArray = ls at hl ⊢
  have hl : lv_has ls 2 [(0, .ref b1), (1, .int a1)] := hl
  clear hD0 hAe
  unfold j_X1_get at hj
  refine lv_iload_n hx hb dX1_get_0 rfl (lv_at hl 1 rfl) ?_
  refine lv_if_lt (tgt := 12) hx hb dX1_get_1 (by decide) (fun c1 => ?_) (fun c1 => ?_)
  · replace hj := ja_pos c1 hj
    obtain ⟨sa, hst⟩ := hXs.str2
    exact vx_throwS (XC := _) (text := "the list has no such number") hx hb hlt hown (by decide +kernel) (by decide +kernel) (hts (.classLink RX1 74 "java/lang/IndexOutOfBoundsException") (by decide +kernel)) (hts (.initialized "java/lang/IndexOutOfBoundsException") (by decide +kernel)) hst (vx_hat (B := jWB) (xw_X1_get_B hts) (by decide +kernel) (hXs.wB _)) xg_X1_get_B hXs.1 hXs.2.1 hS (hl.1.trans hml.symm) dX1_get_12 dX1_get_15 dX1_get_16 dX1_get_18 dX1_get_21 (fun x hx9 => (htab x hx9).elim) (by decide) (by decide) (by decide) (by decide) hlocks (fun t hal hz hk => ⟨(), trivial, ⟨rfl, jP_keep hP hk, va_K.moved hal hK, hD⟩, jF_keep hS hz hk⟩) hS.2.2 (by decide) (by decide)
  · replace hj := ja_neg c1 hj
    refine lv_iload_n hx hb dX1_get_4 rfl (lv_at hl 1 rfl) ?_
    refine lv_aload_n hx hb dX1_get_5 rfl (lv_at hl 0 rfl) ?_
    refine va_get (D := (dC, dI)) (ci := 1) (v := .int ld) (C := RX1) (T := TX1) (N := 4) hx hb hts inn_X1_get_X1 hown hK hP 0 rfl rfl 3 (by decide) (hts (.fieldLink RX1 20 "SelfEndingCodes" "listed" "I") (by decide +kernel)) (fun _ h9 => h9) rfl dX1_get_6 ?_
    refine lv_icmp_lt (tgt := 22) hx hb dX1_get_9 (by decide) (fun c2 => ?_) (fun c2 => ?_)
    · replace hj := ja_pos c2 hj
      refine lv_aload_n hx hb dX1_get_22 rfl (lv_at hl 0 rfl) ?_
      refine va_get (D := (dC, dI)) (ci := 1) (v := .ref bq) (C := RX1) (T := TX1) (N := 4) hx hb hts inn_X1_get_X1 hown hK hP 0 rfl rfl 1 (by decide) (hts (.fieldLink RX1 16 "SelfEndingCodes" "list" "[J") (by decide +kernel)) (fun _ h9 => h9) rfl dX1_get_23 ?_
      refine lv_iload_n hx hb dX1_get_26 rfl (lv_at hl 1 rfl) ?_
      obtain ⟨hin, hj⟩ := ja_ix hj
      refine va_lald hx hb hK hP 3 1 rfl rfl hin dX1_get_27 ?_
      cases hj
    · replace hj := ja_neg c2 hj
      obtain ⟨sa, hst⟩ := hXs.str2
      exact vx_throwS (XC := _) (text := "the list has no such number") hx hb hlt hown (by decide +kernel) (by decide +kernel) (hts (.classLink RX1 74 "java/lang/IndexOutOfBoundsException") (by decide +kernel)) (hts (.initialized "java/lang/IndexOutOfBoundsException") (by decide +kernel)) hst (vx_hat (B := jWB) (xw_X1_get_B hts) (by decide +kernel) (hXs.wB _)) xg_X1_get_B hXs.1 hXs.2.1 hS (hl.1.trans hml.symm) dX1_get_12 dX1_get_15 dX1_get_16 dX1_get_18 dX1_get_21 (fun x hx9 => (htab x hx9).elim) (by decide) (by decide) (by decide) (by decide) hlocks (fun t hal hz hk => ⟨(), trivial, ⟨rfl, jP_keep hP hk, va_K.moved hal hK, hD⟩, jF_keep hS hz hk⟩) hS.2.2 (by decide) (by decide)

def j_X1_length (fb : Nat → Int64) (a1 : Int32) (a2 : Int32) (a3 : Int64) : Option (Option (Int64)) :=
  jtry (j_X1_requireCode a1 a2) fun _ => (jtry (j_X1_requireNumber a3) fun _ => ((j_X1_codewordLength fb a1 a2 a3).bind fun v1 => (some (some v1))))
set_option maxHeartbeats 4000000 in
set_option maxRecDepth 100000 in
theorem c_X1_length (l : Launch) (dC : Nat → ClassId) (dI : Nat → Nat → Nat) (cI cJ : ClassId) (b1 : Nat) (b0 : Nat) (bw : Nat) (bq : Nat) (bf : Nat) (sz : Nat) (w : Nat → Int64) (en : Int32) (pl : Int32) (cu : Int32) (li : Nat → Int64) (ld : Int32) (fb : Nat → Int64) (a1 : Int32) (a2 : Int32) (a3 : Int64) (r : Int64) (hj : j_X1_length fb a1 a2 a3 = some (some r)) : Met l yX1_length wsX1_length ({ frames := 6, cells := 0, slots := 0, locals := 135 } : Room) (va_Pc [.ref b1, .int a1, .int a2, .long a3] (fun U => jPr dC dI cI cJ (wC cJ b1 b0 bw bq bf w en pl cu li ld fb) sz U ∧ jNs U)) (va_Ql (fun (v : Int64) (_ : Unit) => v = r) (fun (_ : Unit) t => jPo dC dI cI cJ (wC cJ b1 b0 bw bq bf w en pl cu li ld fb) (va_A (wC cJ b1 b0 bw bq bf w en pl cu li ld fb) sz) t) (va_A (wC cJ b1 b0 bw bq bf w en pl cu li ld fb) sz)) 0 0 (va_A (wC cJ b1 b0 bw bq bf w en pl cu li ld fb) sz) := by
  refine Met.ofW (cc := cX1_length) (maxL := 5) (ret := (some .long)) (by decide) rfl ?_
  intro p e s m args below meth c s₁ B hml hv
  obtain ⟨rfl, ⟨hsz, hP, hK, hD0⟩, hN⟩ := hv
  have hx := B.exec
  have hb := B.bytes
  have hr := B.returns
  have hts := atoms_spec (ws := wsX1_length) B.pre
  have hown : s.vm.findClass RX1 = some m.cls := findClass_of_methodNamed B.named
  have hlocks := B.notSynchronized
  have C0 := jCx.of hx hb hr hml hown hts hlocks
  subst hsz
  have hD := hD0.self (sz := s.heap.size)
  generalize hAe : va_A (wC cJ b1 b0 bw bq bf w en pl cu li ld fb) s.heap.size = A at hD ⊢
  have hA : ∀ q : Nat, s.heap.size ≤ q → A q := fun q h => by rw [← hAe]; exact Or.inr h
  have hS : va_S A s.heap s.heap [] := va_S.rf
  have hP : va_P (dC, dI) vwCl (wC cJ b1 b0 bw bq bf w en pl cu li ld fb) s.heap := hP
  have hl := lv_entry ([.ref b1, .int a1, .int a2, .long a3]) (n := 5) (Nat.le_of_ble_eq_true rfl)
  rw [lg_entry_eq]
  generalize (lg_sl ([.ref b1, .int a1, .int a2, .long a3]) ++ List.replicate (5 - (lg_sl ([.ref b1, .int a1, .int a2, .long a3])).length) Slot.unset).toArray = ls at hl ⊢
  have hl : lv_has ls 5 [(0, .ref b1), (1, .int a1), (2, .int a2), (3, .long a3)] := hl
  clear hD0 hAe
  unfold j_X1_length at hj
  refine lv_iload_n hx hb dX1_length_0 rfl (lv_at hl 1 rfl) ?_
  refine lv_iload_n hx hb dX1_length_1 rfl (lv_at hl 2 rfl) ?_
  obtain ⟨⟨⟩, hc, hj⟩ := ja_try hj
  try dsimp only at hj
  have hPc := hP.sub (ws' := ([] : va_W)) [] rfl
  have hDc := hD.sub (ws' := ([] : va_W)) [] (by decide) rfl
  have hFc := va_free (wc := ([] : va_W)) hD hS hA [] rfl
  refine va_callv (va_runS (As := [.int a1, .int a2]) (rest := []) ⟨hx, hb, hml, hown, hts⟩ (c_X1_requireCode l dC dI cI cJ s.heap.size a1 a2 _ hc) (va_cwS 2 hts gX1_length_X1_requireCode rfl rfl rfl (by decide +kernel) ⟨Nat.le_of_ble_eq_true rfl, Nat.le_of_ble_eq_true rfl⟩) ⟨fun a U g mk q => ⟨q.1, jPr.blind q.2⟩, fun U hU hW => ⟨rfl, jPr.mk hU hW hPc hK hDc⟩⟩ rfl rfl hl.1 rfl (lv_room (Nat.le_of_ble_eq_true rfl)) dX1_length_2 ⟨Nat.le_of_ble_eq_true rfl, Nat.le_of_ble_eq_true rfl⟩) hS (fun q _ h => hFc q h) hFc (fun u t H1 locs ht hvm hw9 hB hz1 hk1 hS => ?_)
  obtain ⟨hP1, hK1, hD1⟩ := hB
  rw [ht] at hP1
  obtain ⟨hP, hD⟩ := va_join (wr := ([(b1, .inr (1, [.ref b0, .ref bq, .ref bf, .int ld])), (b0, .inr (0, [.ref bw, .int en, .int pl, .int cu])), (bw, .inl (cJ, 64, .inr (.inl w))), (bq, .inl (cJ, 100, .inr (.inl li))), (bf, .inl (cJ, 89, .inr (.inl fb)))] : va_W)) (w1 := ([] : va_W)) hP hD [] [0, 1, 2, 3, 4] rfl rfl (by decide) (by decide) hk1 hFc hP1 hD1
  clear hk1 hP1 hK1 hD1 hvm hz1 hPc hDc hFc
  generalize H1 = H at hP hS ⊢
  have hP : va_P (dC, dI) vwCl (wC cJ b1 b0 bw bq bf w en pl cu li ld fb) H := hP
  have hD : va_D A (wC cJ b1 b0 bw bq bf w en pl cu li ld fb) := hD
  refine lv_lload_n hx hb dX1_length_5 rfl (lv_at hl 3 rfl) ?_
  obtain ⟨⟨⟩, hc, hj⟩ := ja_try hj
  try dsimp only at hj
  have hPc := hP.sub (ws' := ([] : va_W)) [] rfl
  have hDc := hD.sub (ws' := ([] : va_W)) [] (by decide) rfl
  have hFc := va_free (wc := ([] : va_W)) hD hS hA [] rfl
  refine va_callv (va_runS (As := [.long a3]) (rest := []) ⟨hx, hb, hml, hown, hts⟩ (c_X1_requireNumber l dC dI cI cJ H.size a3 _ hc) (va_cwS 1 hts gX1_length_X1_requireNumber rfl rfl rfl (by decide +kernel) ⟨Nat.le_of_ble_eq_true rfl, Nat.le_of_ble_eq_true rfl⟩) ⟨fun a U g mk q => ⟨q.1, jPr.blind q.2⟩, fun U hU hW => ⟨rfl, jPr.mk hU hW hPc hK hDc⟩⟩ rfl rfl hl.1 rfl (lv_room (Nat.le_of_ble_eq_true rfl)) dX1_length_6 ⟨Nat.le_of_ble_eq_true rfl, Nat.le_of_ble_eq_true rfl⟩) hS (fun q _ h => hFc q h) hFc (fun u t H1 locs ht hvm hw9 hB hz1 hk1 hS => ?_)
  obtain ⟨hP1, hK1, hD1⟩ := hB
  rw [ht] at hP1
  obtain ⟨hP, hD⟩ := va_join (wr := ([(b1, .inr (1, [.ref b0, .ref bq, .ref bf, .int ld])), (b0, .inr (0, [.ref bw, .int en, .int pl, .int cu])), (bw, .inl (cJ, 64, .inr (.inl w))), (bq, .inl (cJ, 100, .inr (.inl li))), (bf, .inl (cJ, 89, .inr (.inl fb)))] : va_W)) (w1 := ([] : va_W)) hP hD [] [0, 1, 2, 3, 4] rfl rfl (by decide) (by decide) hk1 hFc hP1 hD1
  clear hk1 hP1 hK1 hD1 hvm hz1 hPc hDc hFc
  generalize H1 = H at hP hS ⊢
  have hP : va_P (dC, dI) vwCl (wC cJ b1 b0 bw bq bf w en pl cu li ld fb) H := hP
  have hD : va_D A (wC cJ b1 b0 bw bq bf w en pl cu li ld fb) := hD
  refine lv_aload_n hx hb dX1_length_9 rfl (lv_at hl 0 rfl) ?_
  refine lv_iload_n hx hb dX1_length_10 rfl (lv_at hl 1 rfl) ?_
  refine lv_iload_n hx hb dX1_length_11 rfl (lv_at hl 2 rfl) ?_
  refine lv_lload_n hx hb dX1_length_12 rfl (lv_at hl 3 rfl) ?_
  obtain ⟨v1, hc, hj⟩ := ja_bd hj
  try dsimp only at hj
  have hPc := hP.sub (ws' := (wC cJ b1 b0 bw bq bf w en pl cu li ld fb)) [0, 1, 2, 3, 4] rfl
  have hDc := hD.sub (ws' := (wC cJ b1 b0 bw bq bf w en pl cu li ld fb)) [0, 1, 2, 3, 4] (by decide) rfl
  have hFc := va_free (wc := (wC cJ b1 b0 bw bq bf w en pl cu li ld fb)) hD hS hA [0, 1, 2, 3, 4] rfl
  refine va_calll (va_runV (As := [.int a1, .int a2, .long a3]) (rest := []) ⟨hx, hb, hml, hown, hts⟩ (c_X1_codewordLength l dC dI cI cJ b1 b0 bw bq bf H.size w en pl cu li ld fb a1 a2 a3 _ hc) (cwV 3 hts gX1_length_X1_codewordLength rfl rfl rfl (by decide +kernel) ⟨Nat.le_of_ble_eq_true rfl, Nat.le_of_ble_eq_true rfl⟩) ⟨fun a U g mk q => ⟨q.1, jPr.blind q.2.1, jNs.blind q.2.2⟩, va_recv hK hPc (ci := 1) (q0 := 0) rfl rfl, fun U hU hW => ⟨rfl, jPr.mk hU hW hPc hK hDc, jNs.warm hW hN⟩⟩ rfl rfl hl.1 rfl (lv_room (Nat.le_of_ble_eq_true rfl)) dX1_length_13 ⟨Nat.le_of_ble_eq_true rfl, Nat.le_of_ble_eq_true rfl⟩) hS (fun q _ h => hFc q h) hFc (fun rr u t H1 locs ht hvm hw9 hB hz1 hk1 hS => ?_)
  have hw8 : v1 = rr := hw9.symm
  subst hw8
  obtain ⟨hP1, hK1, hD1⟩ := hB
  rw [ht] at hP1
  obtain ⟨hP, hD⟩ := va_join (wr := ([] : va_W)) (w1 := (wC cJ b1 b0 bw bq bf w en pl cu li ld fb)) hP hD [0, 1, 2, 3, 4] [] rfl rfl (by decide) (by decide) hk1 hFc hP1 hD1
  clear hk1 hP1 hK1 hD1 hvm hz1 hPc hDc hFc
  generalize H1 = H at hP hS ⊢
  have hP : va_P (dC, dI) vwCl (wC cJ b1 b0 bw bq bf w en pl cu li ld fb) H := hP
  have hD : va_D A (wC cJ b1 b0 bw bq bf w en pl cu li ld fb) := hD
  have hr9 : v1 = r := Option.some.inj (Option.some.inj hj)
  subst hr9
  exact W.lret (v := v1) hx hb hr (fun t ht hW => ⟨⟨v1, (), rfl, rfl, by rw [ht]; exact hP, va_K.moved hW.alike hK, hD⟩, hS.F ht⟩) hS.2.2 dX1_length_16
set_option maxHeartbeats 4000000 in
set_option maxRecDepth 100000 in
theorem x_X1_length (l : Launch) (hlt : l.stackTraces = false) (dC : Nat → ClassId) (dI : Nat → Nat → Nat) (cI cJ : ClassId) (b1 : Nat) (b0 : Nat) (bw : Nat) (bq : Nat) (bf : Nat) (sz : Nat) (w : Nat → Int64) (en : Int32) (pl : Int32) (cu : Int32) (li : Nat → Int64) (ld : Int32) (fb : Nat → Int64) (a1 : Int32) (a2 : Int32) (a3 : Int64) (hj : j_X1_length fb a1 a2 a3 = some none) : vx_Met l yX1_length wsX1_length ({ frames := 7, cells := 1, slots := 6, locals := 135 } : Room) (va_Pc [.ref b1, .int a1, .int a2, .long a3] (fun U => jPr dC dI cI cJ (wC cJ b1 b0 bw bq bf w en pl cu li ld fb) sz U ∧ jNs U ∧ jXs (va_A (wC cJ b1 b0 bw bq bf w en pl cu li ld fb) sz) U)) (va_Ql (fun (_ : Int64) (_ : Unit) => False) (fun _ _ => True) (va_A (wC cJ b1 b0 bw bq bf w en pl cu li ld fb) sz)) (vx_X (fun _ : Unit => True) (fun E _ t => E = "java/lang/IllegalArgumentException" ∧ jPo dC dI cI cJ (wC cJ b1 b0 bw bq bf w en pl cu li ld fb) (va_A (wC cJ b1 b0 bw bq bf w en pl cu li ld fb) sz) t) (va_A (wC cJ b1 b0 bw bq bf w en pl cu li ld fb) sz)) 1 6 (va_A (wC cJ b1 b0 bw bq bf w en pl cu li ld fb) sz) := by
  refine vx_ofW (cc := cX1_length) (maxL := 5) (ret := (some .long)) (by decide) rfl ?_
  intro p e s m args below meth c s₁ B hml htab hv
  obtain ⟨rfl, ⟨hsz, hP, hK, hD0⟩, hN, hXs⟩ := hv
  have hx := B.exec
  have hb := B.bytes
  have hr := B.returns
  have hts := atoms_spec (ws := wsX1_length) B.pre
  have hown : s.vm.findClass RX1 = some m.cls := findClass_of_methodNamed B.named
  have hlocks := B.notSynchronized
  have C0 := jCx.of hx hb hr hml hown hts hlocks
  subst hsz
  have hD := hD0.self (sz := s.heap.size)
  generalize hAe : va_A (wC cJ b1 b0 bw bq bf w en pl cu li ld fb) s.heap.size = A at hD hXs ⊢
  have hA : ∀ q : Nat, s.heap.size ≤ q → A q := fun q h => by rw [← hAe]; exact Or.inr h
  have hS : va_S A s.heap s.heap [] := va_S.rf
  have hP : va_P (dC, dI) vwCl (wC cJ b1 b0 bw bq bf w en pl cu li ld fb) s.heap := hP
  have hl := lv_entry ([.ref b1, .int a1, .int a2, .long a3]) (n := 5) (Nat.le_of_ble_eq_true rfl)
  rw [lg_entry_eq]
  generalize (lg_sl ([.ref b1, .int a1, .int a2, .long a3]) ++ List.replicate (5 - (lg_sl ([.ref b1, .int a1, .int a2, .long a3])).length) Slot.unset).toArray = ls at hl ⊢
  have hl : lv_has ls 5 [(0, .ref b1), (1, .int a1), (2, .int a2), (3, .long a3)] := hl
  clear hD0 hAe
  unfold j_X1_length at hj
  refine lv_iload_n hx hb dX1_length_0 rfl (lv_at hl 1 rfl) ?_
  refine lv_iload_n hx hb dX1_length_1 rfl (lv_at hl 2 rfl) ?_
  rcases ja_tryx hj with hc | ⟨⟨⟩, hc, hj⟩
  · have hPc := hP.sub (ws' := ([] : va_W)) [] rfl
    have hDc := hD.sub (ws' := ([] : va_W)) [] (by decide) rfl
    have hFc := va_free (wc := ([] : va_W)) hD hS hA [] rfl
    refine vx_callv (vx_runS (As := [.int a1, .int a2]) (rest := []) ⟨hx, hb, hml, hown, hts⟩ (x_X1_requireCode l hlt dC dI cI cJ s.heap.size a1 a2 hc) (va_cwS 2 hts gX1_length_X1_requireCode rfl rfl rfl (by decide +kernel) ⟨Nat.le_of_ble_eq_true rfl, Nat.le_of_ble_eq_true rfl⟩) ⟨fun a U g mk q => ⟨q.1, jPr.blind q.2.1, jXs.blind q.2.2⟩, fun U hU hW => ⟨rfl, jPr.mk hU hW hPc hK hDc, jXs.down hU hW hS hFc hXs⟩⟩ rfl rfl hl.1 rfl (lv_room (Nat.le_of_ble_eq_true rfl)) dX1_length_2 ⟨Nat.le_of_ble_eq_true rfl, Nat.le_of_ble_eq_true rfl⟩) hS (fun q _ h => hFc q h) hFc (fun q _ h => hFc q h) (fun E ce q9 u t H1 locs1 ht hvm hpx hBX hz1 hk1 hS hce hcv hcl => ?_) (fun u t H1 locs1 ht hvm hw9 hB hz1 hk1 hS => hw9.elim)
    obtain ⟨rfl, hP1, hK1, hD1⟩ := hBX
    rw [ht] at hP1
    obtain ⟨hP, hD⟩ := va_join (wr := ([(b1, .inr (1, [.ref b0, .ref bq, .ref bf, .int ld])), (b0, .inr (0, [.ref bw, .int en, .int pl, .int cu])), (bw, .inl (cJ, 64, .inr (.inl w))), (bq, .inl (cJ, 100, .inr (.inl li))), (bf, .inl (cJ, 89, .inr (.inl fb)))] : va_W)) (w1 := ([] : va_W)) hP hD [] [0, 1, 2, 3, 4] rfl rfl (by decide) (by decide) hk1 hFc hP1 hD1
    exact vx_out (fun x hx9 => (htab x hx9).elim) hlocks hce hcv hcl (fun t2 ht2 hal => ⟨(), trivial, ⟨rfl, by rw [ht2]; exact hP, va_K.moved hal hK, hD⟩, hS.F ht2⟩) hS.2.2 (by decide) (by decide)
  · try dsimp only at hj
    have hPc := hP.sub (ws' := ([] : va_W)) [] rfl
    have hDc := hD.sub (ws' := ([] : va_W)) [] (by decide) rfl
    have hFc := va_free (wc := ([] : va_W)) hD hS hA [] rfl
    refine va_callv (va_runS (As := [.int a1, .int a2]) (rest := []) ⟨hx, hb, hml, hown, hts⟩ (c_X1_requireCode l dC dI cI cJ s.heap.size a1 a2 _ hc) (va_cwS 2 hts gX1_length_X1_requireCode rfl rfl rfl (by decide +kernel) ⟨Nat.le_of_ble_eq_true rfl, Nat.le_of_ble_eq_true rfl⟩) ⟨fun a U g mk q => ⟨q.1, jPr.blind q.2⟩, fun U hU hW => ⟨rfl, jPr.mk hU hW hPc hK hDc⟩⟩ rfl rfl hl.1 rfl (lv_room (Nat.le_of_ble_eq_true rfl)) dX1_length_2 ⟨Nat.le_of_ble_eq_true rfl, Nat.le_of_ble_eq_true rfl⟩) hS (fun q _ h => hFc q h) hFc (fun u t H1 locs ht hvm hw9 hB hz1 hk1 hS => ?_)
    obtain ⟨hP1, hK1, hD1⟩ := hB
    rw [ht] at hP1
    obtain ⟨hP, hD⟩ := va_join (wr := ([(b1, .inr (1, [.ref b0, .ref bq, .ref bf, .int ld])), (b0, .inr (0, [.ref bw, .int en, .int pl, .int cu])), (bw, .inl (cJ, 64, .inr (.inl w))), (bq, .inl (cJ, 100, .inr (.inl li))), (bf, .inl (cJ, 89, .inr (.inl fb)))] : va_W)) (w1 := ([] : va_W)) hP hD [] [0, 1, 2, 3, 4] rfl rfl (by decide) (by decide) hk1 hFc hP1 hD1
    clear hk1 hP1 hK1 hD1 hvm hz1 hPc hDc hFc
    generalize H1 = H at hP hS ⊢
    have hP : va_P (dC, dI) vwCl (wC cJ b1 b0 bw bq bf w en pl cu li ld fb) H := hP
    have hD : va_D A (wC cJ b1 b0 bw bq bf w en pl cu li ld fb) := hD
    refine lv_lload_n hx hb dX1_length_5 rfl (lv_at hl 3 rfl) ?_
    rcases ja_tryx hj with hc | ⟨⟨⟩, hc, hj⟩
    · have hPc := hP.sub (ws' := ([] : va_W)) [] rfl
      have hDc := hD.sub (ws' := ([] : va_W)) [] (by decide) rfl
      have hFc := va_free (wc := ([] : va_W)) hD hS hA [] rfl
      refine vx_callv (vx_runS (As := [.long a3]) (rest := []) ⟨hx, hb, hml, hown, hts⟩ (x_X1_requireNumber l hlt dC dI cI cJ H.size a3 hc) (va_cwS 1 hts gX1_length_X1_requireNumber rfl rfl rfl (by decide +kernel) ⟨Nat.le_of_ble_eq_true rfl, Nat.le_of_ble_eq_true rfl⟩) ⟨fun a U g mk q => ⟨q.1, jPr.blind q.2.1, jXs.blind q.2.2⟩, fun U hU hW => ⟨rfl, jPr.mk hU hW hPc hK hDc, jXs.down hU hW hS hFc hXs⟩⟩ rfl rfl hl.1 rfl (lv_room (Nat.le_of_ble_eq_true rfl)) dX1_length_6 ⟨Nat.le_of_ble_eq_true rfl, Nat.le_of_ble_eq_true rfl⟩) hS (fun q _ h => hFc q h) hFc (fun q _ h => hFc q h) (fun E ce q9 u t H1 locs1 ht hvm hpx hBX hz1 hk1 hS hce hcv hcl => ?_) (fun u t H1 locs1 ht hvm hw9 hB hz1 hk1 hS => hw9.elim)
      obtain ⟨rfl, hP1, hK1, hD1⟩ := hBX
      rw [ht] at hP1
      obtain ⟨hP, hD⟩ := va_join (wr := ([(b1, .inr (1, [.ref b0, .ref bq, .ref bf, .int ld])), (b0, .inr (0, [.ref bw, .int en, .int pl, .int cu])), (bw, .inl (cJ, 64, .inr (.inl w))), (bq, .inl (cJ, 100, .inr (.inl li))), (bf, .inl (cJ, 89, .inr (.inl fb)))] : va_W)) (w1 := ([] : va_W)) hP hD [] [0, 1, 2, 3, 4] rfl rfl (by decide) (by decide) hk1 hFc hP1 hD1
      exact vx_out (fun x hx9 => (htab x hx9).elim) hlocks hce hcv hcl (fun t2 ht2 hal => ⟨(), trivial, ⟨rfl, by rw [ht2]; exact hP, va_K.moved hal hK, hD⟩, hS.F ht2⟩) hS.2.2 (by decide) (by decide)
    · try dsimp only at hj
      have hPc := hP.sub (ws' := ([] : va_W)) [] rfl
      have hDc := hD.sub (ws' := ([] : va_W)) [] (by decide) rfl
      have hFc := va_free (wc := ([] : va_W)) hD hS hA [] rfl
      refine va_callv (va_runS (As := [.long a3]) (rest := []) ⟨hx, hb, hml, hown, hts⟩ (c_X1_requireNumber l dC dI cI cJ H.size a3 _ hc) (va_cwS 1 hts gX1_length_X1_requireNumber rfl rfl rfl (by decide +kernel) ⟨Nat.le_of_ble_eq_true rfl, Nat.le_of_ble_eq_true rfl⟩) ⟨fun a U g mk q => ⟨q.1, jPr.blind q.2⟩, fun U hU hW => ⟨rfl, jPr.mk hU hW hPc hK hDc⟩⟩ rfl rfl hl.1 rfl (lv_room (Nat.le_of_ble_eq_true rfl)) dX1_length_6 ⟨Nat.le_of_ble_eq_true rfl, Nat.le_of_ble_eq_true rfl⟩) hS (fun q _ h => hFc q h) hFc (fun u t H1 locs ht hvm hw9 hB hz1 hk1 hS => ?_)
      obtain ⟨hP1, hK1, hD1⟩ := hB
      rw [ht] at hP1
      obtain ⟨hP, hD⟩ := va_join (wr := ([(b1, .inr (1, [.ref b0, .ref bq, .ref bf, .int ld])), (b0, .inr (0, [.ref bw, .int en, .int pl, .int cu])), (bw, .inl (cJ, 64, .inr (.inl w))), (bq, .inl (cJ, 100, .inr (.inl li))), (bf, .inl (cJ, 89, .inr (.inl fb)))] : va_W)) (w1 := ([] : va_W)) hP hD [] [0, 1, 2, 3, 4] rfl rfl (by decide) (by decide) hk1 hFc hP1 hD1
      clear hk1 hP1 hK1 hD1 hvm hz1 hPc hDc hFc
      generalize H1 = H at hP hS ⊢
      have hP : va_P (dC, dI) vwCl (wC cJ b1 b0 bw bq bf w en pl cu li ld fb) H := hP
      have hD : va_D A (wC cJ b1 b0 bw bq bf w en pl cu li ld fb) := hD
      refine lv_aload_n hx hb dX1_length_9 rfl (lv_at hl 0 rfl) ?_
      refine lv_iload_n hx hb dX1_length_10 rfl (lv_at hl 1 rfl) ?_
      refine lv_iload_n hx hb dX1_length_11 rfl (lv_at hl 2 rfl) ?_
      refine lv_lload_n hx hb dX1_length_12 rfl (lv_at hl 3 rfl) ?_
      obtain ⟨v1, hc, hj⟩ := ja_bd hj
      try dsimp only at hj
      have hPc := hP.sub (ws' := (wC cJ b1 b0 bw bq bf w en pl cu li ld fb)) [0, 1, 2, 3, 4] rfl
      have hDc := hD.sub (ws' := (wC cJ b1 b0 bw bq bf w en pl cu li ld fb)) [0, 1, 2, 3, 4] (by decide) rfl
      have hFc := va_free (wc := (wC cJ b1 b0 bw bq bf w en pl cu li ld fb)) hD hS hA [0, 1, 2, 3, 4] rfl
      refine va_calll (va_runV (As := [.int a1, .int a2, .long a3]) (rest := []) ⟨hx, hb, hml, hown, hts⟩ (c_X1_codewordLength l dC dI cI cJ b1 b0 bw bq bf H.size w en pl cu li ld fb a1 a2 a3 _ hc) (cwV 3 hts gX1_length_X1_codewordLength rfl rfl rfl (by decide +kernel) ⟨Nat.le_of_ble_eq_true rfl, Nat.le_of_ble_eq_true rfl⟩) ⟨fun a U g mk q => ⟨q.1, jPr.blind q.2.1, jNs.blind q.2.2⟩, va_recv hK hPc (ci := 1) (q0 := 0) rfl rfl, fun U hU hW => ⟨rfl, jPr.mk hU hW hPc hK hDc, jNs.warm hW hN⟩⟩ rfl rfl hl.1 rfl (lv_room (Nat.le_of_ble_eq_true rfl)) dX1_length_13 ⟨Nat.le_of_ble_eq_true rfl, Nat.le_of_ble_eq_true rfl⟩) hS (fun q _ h => hFc q h) hFc (fun rr u t H1 locs ht hvm hw9 hB hz1 hk1 hS => ?_)
      have hw8 : v1 = rr := hw9.symm
      subst hw8
      obtain ⟨hP1, hK1, hD1⟩ := hB
      rw [ht] at hP1
      obtain ⟨hP, hD⟩ := va_join (wr := ([] : va_W)) (w1 := (wC cJ b1 b0 bw bq bf w en pl cu li ld fb)) hP hD [0, 1, 2, 3, 4] [] rfl rfl (by decide) (by decide) hk1 hFc hP1 hD1
      clear hk1 hP1 hK1 hD1 hvm hz1 hPc hDc hFc
      generalize H1 = H at hP hS ⊢
      have hP : va_P (dC, dI) vwCl (wC cJ b1 b0 bw bq bf w en pl cu li ld fb) H := hP
      have hD : va_D A (wC cJ b1 b0 bw bq bf w en pl cu li ld fb) := hD
      cases hj

set_option maxRecDepth 100000 in
theorem inn_X1_push_X0 : ∀ w ∈ u_ws RX0 TX0 4, w ∈ wsX1_push := by decide +kernel
set_option maxRecDepth 100000 in
theorem inn_X1_push_X1 : ∀ w ∈ u_ws RX1 TX1 4, w ∈ wsX1_push := by decide +kernel
def j_X1_push (w : Nat → Int64) (en : Int32) (a1 : Int64) (a2 : Int32) : Option (Option (Int32 × (Nat → Int64) × Int32)) :=
  if a2 < (1 : Int32) then (some none) else (if a2 ≤ (64 : Int32) then ((j_X0_room en).bind fun v3 => (if a2 ≤ v3 then ((j_X0_appendBits w en ((a1.toUInt64 >>> (((64 : Int32) - a2).toInt64.toUInt64 &&& Int64.toUInt64 63)).toInt64) a2).bind fun (v5, v6) => (some (some (v6, v5, v6)))) else (some (some ((-1 : Int32), w, en))))) else (some none))
set_option maxHeartbeats 4000000 in
set_option maxRecDepth 100000 in
theorem c_X1_push (l : Launch) (dC : Nat → ClassId) (dI : Nat → Nat → Nat) (cI cJ : ClassId) (b1 : Nat) (b0 : Nat) (bw : Nat) (bq : Nat) (bf : Nat) (sz : Nat) (w : Nat → Int64) (en : Int32) (pl : Int32) (cu : Int32) (li : Nat → Int64) (ld : Int32) (fb : Nat → Int64) (a1 : Int64) (a2 : Int32) (r : Int32 × (Nat → Int64) × Int32) (hj : j_X1_push w en a1 a2 = some (some r)) : Met l yX1_push wsX1_push ({ frames := 3, cells := 0, slots := 0, locals := 69 } : Room) (va_Pc [.ref b1, .long a1, .int a2] (fun U => jPr dC dI cI cJ (wC cJ b1 b0 bw bq bf w en pl cu li ld fb) sz U ∧ jNs U)) (va_Qi (fun (v : Int32) (_ : Unit) => v = r.1) (fun (_ : Unit) t => jPo dC dI cI cJ (wC cJ b1 b0 bw bq bf r.2.1 r.2.2 pl cu li ld fb) (va_A (wC cJ b1 b0 bw bq bf w en pl cu li ld fb) sz) t) (va_A (wC cJ b1 b0 bw bq bf w en pl cu li ld fb) sz)) 0 0 (va_A (wC cJ b1 b0 bw bq bf w en pl cu li ld fb) sz) := by
  refine Met.ofW (cc := cX1_push) (maxL := 4) (ret := (some .int)) (by decide) rfl ?_
  intro p e s m args below meth c s₁ B hml hv
  obtain ⟨rfl, ⟨hsz, hP, hK, hD0⟩, hN⟩ := hv
  have hx := B.exec
  have hb := B.bytes
  have hr := B.returns
  have hts := atoms_spec (ws := wsX1_push) B.pre
  have hown : s.vm.findClass RX1 = some m.cls := findClass_of_methodNamed B.named
  have hlocks := B.notSynchronized
  have C0 := jCx.of hx hb hr hml hown hts hlocks
  subst hsz
  have hD := hD0.self (sz := s.heap.size)
  generalize hAe : va_A (wC cJ b1 b0 bw bq bf w en pl cu li ld fb) s.heap.size = A at hD ⊢
  have hA : ∀ q : Nat, s.heap.size ≤ q → A q := fun q h => by rw [← hAe]; exact Or.inr h
  have hS : va_S A s.heap s.heap [] := va_S.rf
  have hP : va_P (dC, dI) vwCl (wC cJ b1 b0 bw bq bf w en pl cu li ld fb) s.heap := hP
  have hl := lv_entry ([.ref b1, .long a1, .int a2]) (n := 4) (Nat.le_of_ble_eq_true rfl)
  rw [lg_entry_eq]
  generalize (lg_sl ([.ref b1, .long a1, .int a2]) ++ List.replicate (4 - (lg_sl ([.ref b1, .long a1, .int a2])).length) Slot.unset).toArray = ls at hl ⊢
  have hl : lv_has ls 4 [(0, .ref b1), (1, .long a1), (3, .int a2)] := hl
  clear hD0 hAe
  unfold j_X1_push at hj
  refine lv_iload_n hx hb dX1_push_0 rfl (lv_at hl 2 rfl) ?_
  refine lv_iconst (v := (1 : Int32)) hx hb dX1_push_1 (by decide) ?_
  refine lv_icmp_lt (tgt := 11) hx hb dX1_push_2 (by decide) (fun c1 => ?_) (fun c1 => ?_)
  · replace hj := ja_pos c1 hj
    cases hj
  · replace hj := ja_neg c1 hj
    refine lv_iload_n hx hb dX1_push_5 rfl (lv_at hl 2 rfl) ?_
    refine lv_bipush (v := (64 : Int32)) hx hb dX1_push_6 (by decide) ?_
    refine lv_icmp_le (tgt := 21) hx hb dX1_push_8 (by decide) (fun c2 => ?_) (fun c2 => ?_)
    · replace hj := ja_pos c2 hj
      refine lv_iload_n hx hb dX1_push_21 rfl (lv_at hl 2 rfl) ?_
      refine lv_aload_n hx hb dX1_push_22 rfl (lv_at hl 0 rfl) ?_
      refine va_get (D := (dC, dI)) (ci := 1) (v := .ref b0) (C := RX1) (T := TX1) (N := 4) hx hb hts inn_X1_push_X1 hown hK hP 0 rfl rfl 0 (by decide) (hts (.fieldLink RX1 12 "SelfEndingCodes" "row" "LSelfEndingCodes$BitRow;") (by decide +kernel)) (fun _ h9 => h9) rfl dX1_push_23 ?_
      obtain ⟨v3, hc, hj⟩ := ja_bd hj
      try dsimp only at hj
      have hPc := hP.sub (ws' := (wB cJ b0 bw w en pl cu)) [1, 2] rfl
      have hDc := hD.sub (ws' := (wB cJ b0 bw w en pl cu)) [1, 2] (by decide) rfl
      have hFc := va_free (wc := (wB cJ b0 bw w en pl cu)) hD hS hA [1, 2] rfl
      refine va_calli (va_runV (As := []) (rest := [.int a2]) ⟨hx, hb, hml, hown, hts⟩ (c_X0_room l dC dI cI cJ b0 bw s.heap.size w en pl cu _ hc) (cwV 0 hts gX1_push_X0_room rfl rfl rfl (by decide +kernel) ⟨Nat.le_of_ble_eq_true rfl, Nat.le_of_ble_eq_true rfl⟩) ⟨fun a U g mk q => ⟨q.1, jPr.blind q.2⟩, va_recv hK hPc (ci := 0) (q0 := 0) rfl rfl, fun U hU hW => ⟨rfl, jPr.mk hU hW hPc hK hDc⟩⟩ rfl rfl hl.1 rfl (lv_room (Nat.le_of_ble_eq_true rfl)) dX1_push_26 ⟨Nat.le_of_ble_eq_true rfl, Nat.le_of_ble_eq_true rfl⟩) hS (fun q _ h => hFc q h) hFc (fun rr u t H1 locs ht hvm hw9 hB hz1 hk1 hS => ?_)
      have hw8 : v3 = rr := hw9.symm
      subst hw8
      obtain ⟨hP1, hK1, hD1⟩ := hB
      rw [ht] at hP1
      obtain ⟨hP, hD⟩ := va_join (wr := ([(b1, .inr (1, [.ref b0, .ref bq, .ref bf, .int ld])), (bq, .inl (cJ, 100, .inr (.inl li))), (bf, .inl (cJ, 89, .inr (.inl fb)))] : va_W)) (w1 := (wB cJ b0 bw w en pl cu)) hP hD [1, 2] [0, 3, 4] rfl rfl (by decide) (by decide) hk1 hFc hP1 hD1
      replace hP := hP.sub (ws' := (wC cJ b1 b0 bw bq bf w en pl cu li ld fb)) [0, 3, 4, 1, 2] rfl
      replace hD := hD.sub (ws' := (wC cJ b1 b0 bw bq bf w en pl cu li ld fb)) [0, 3, 4, 1, 2] (by decide) rfl
      clear hk1 hP1 hK1 hD1 hvm hz1 hPc hDc hFc
      generalize H1 = H at hP hS ⊢
      have hP : va_P (dC, dI) vwCl (wC cJ b1 b0 bw bq bf w en pl cu li ld fb) H := hP
      have hD : va_D A (wC cJ b1 b0 bw bq bf w en pl cu li ld fb) := hD
      refine lv_icmp_le (tgt := 34) hx hb dX1_push_29 (by decide) (fun c4 => ?_) (fun c4 => ?_)
      · replace hj := ja_pos c4 hj
        refine lv_aload_n hx hb dX1_push_34 rfl (lv_at hl 0 rfl) ?_
        refine va_get (D := (dC, dI)) (ci := 1) (v := .ref b0) (C := RX1) (T := TX1) (N := 4) hx hb hts inn_X1_push_X1 hown hK hP 0 rfl rfl 0 (by decide) (hts (.fieldLink RX1 12 "SelfEndingCodes" "row" "LSelfEndingCodes$BitRow;") (by decide +kernel)) (fun _ h9 => h9) rfl dX1_push_35 ?_
        refine lv_lload_n hx hb dX1_push_38 rfl (lv_at hl 1 rfl) ?_
        refine lv_bipush (v := (64 : Int32)) hx hb dX1_push_39 (by decide) ?_
        refine lv_iload_n hx hb dX1_push_41 rfl (lv_at hl 2 rfl) ?_
        refine lv_isub hx hb dX1_push_42 ?_
        refine lv_lushr hx hb dX1_push_43 rfl ?_
        refine lv_iload_n hx hb dX1_push_44 rfl (lv_at hl 2 rfl) ?_
        obtain ⟨⟨v5, v6⟩, hc, hj⟩ := ja_bd hj
        try dsimp only at hj
        have hPc := hP.sub (ws' := (wB cJ b0 bw w en pl cu)) [1, 2] rfl
        have hDc := hD.sub (ws' := (wB cJ b0 bw w en pl cu)) [1, 2] (by decide) rfl
        have hFc := va_free (wc := (wB cJ b0 bw w en pl cu)) hD hS hA [1, 2] rfl
        refine va_callv (va_runV (As := [.long ((a1.toUInt64 >>> (((64 : Int32) - a2).toInt64.toUInt64 &&& Int64.toUInt64 63)).toInt64), .int a2]) (rest := []) ⟨hx, hb, hml, hown, hts⟩ (c_X0_appendBits l dC dI cI cJ b0 bw H.size w en pl cu ((a1.toUInt64 >>> (((64 : Int32) - a2).toInt64.toUInt64 &&& Int64.toUInt64 63)).toInt64) a2 _ hc) (cwV 2 hts gX1_push_X0_appendBits rfl rfl rfl (by decide +kernel) ⟨Nat.le_of_ble_eq_true rfl, Nat.le_of_ble_eq_true rfl⟩) ⟨fun a U g mk q => ⟨q.1, jPr.blind q.2⟩, va_recv hK hPc (ci := 0) (q0 := 0) rfl rfl, fun U hU hW => ⟨rfl, jPr.mk hU hW hPc hK hDc⟩⟩ rfl rfl hl.1 rfl (lv_room (Nat.le_of_ble_eq_true rfl)) dX1_push_45 ⟨Nat.le_of_ble_eq_true rfl, Nat.le_of_ble_eq_true rfl⟩) hS (fun q _ h => hFc q h) hFc (fun u t H1 locs ht hvm hw9 hB hz1 hk1 hS => ?_)
        obtain ⟨hP1, hK1, hD1⟩ := hB
        rw [ht] at hP1
        obtain ⟨hP, hD⟩ := va_join (wr := ([(b1, .inr (1, [.ref b0, .ref bq, .ref bf, .int ld])), (bq, .inl (cJ, 100, .inr (.inl li))), (bf, .inl (cJ, 89, .inr (.inl fb)))] : va_W)) (w1 := (wB cJ b0 bw v5 v6 pl cu)) hP hD [1, 2] [0, 3, 4] rfl rfl (by decide) (by decide) hk1 hFc hP1 hD1
        replace hP := hP.sub (ws' := (wC cJ b1 b0 bw bq bf v5 v6 pl cu li ld fb)) [0, 3, 4, 1, 2] rfl
        replace hD := hD.sub (ws' := (wC cJ b1 b0 bw bq bf v5 v6 pl cu li ld fb)) [0, 3, 4, 1, 2] (by decide) rfl
        clear hk1 hP1 hK1 hD1 hvm hz1 hPc hDc hFc
        generalize H1 = H at hP hS ⊢
        have hP : va_P (dC, dI) vwCl (wC cJ b1 b0 bw bq bf v5 v6 pl cu li ld fb) H := hP
        have hD : va_D A (wC cJ b1 b0 bw bq bf v5 v6 pl cu li ld fb) := hD
        refine lv_aload_n hx hb dX1_push_48 rfl (lv_at hl 0 rfl) ?_
        refine va_get (D := (dC, dI)) (ci := 1) (v := .ref b0) (C := RX1) (T := TX1) (N := 4) hx hb hts inn_X1_push_X1 hown hK hP 0 rfl rfl 0 (by decide) (hts (.fieldLink RX1 12 "SelfEndingCodes" "row" "LSelfEndingCodes$BitRow;") (by decide +kernel)) (fun _ h9 => h9) rfl dX1_push_49 ?_
        refine va_getN (D := (dC, dI)) (ci := 0) (v := .int v6) (C := RX0) (T := TX0) (N := 4) hx hb hts inn_X1_push_X0 hown hK hP 1 rfl rfl 1 (by decide) (va_Nw.use rfl hN.1) (fun _ h9 => h9) rfl dX1_push_52 ?_
        have hr9 : (v6, v5, v6) = r := Option.some.inj (Option.some.inj hj)
        subst hr9
        exact W.iret (v := v6) hx hb hr (fun t ht hW => ⟨⟨v6, (), rfl, rfl, by rw [ht]; exact hP, va_K.moved hW.alike hK, hD⟩, hS.F ht⟩) hS.2.2 dX1_push_55
      · replace hj := ja_neg c4 hj
        refine lv_iconst (v := (-1 : Int32)) hx hb dX1_push_32 (by decide) ?_
        have hr9 : ((-1 : Int32), w, en) = r := Option.some.inj (Option.some.inj hj)
        subst hr9
        exact W.iret (v := (-1 : Int32)) hx hb hr (fun t ht hW => ⟨⟨(-1 : Int32), (), rfl, rfl, by rw [ht]; exact hP, va_K.moved hW.alike hK, hD⟩, hS.F ht⟩) hS.2.2 dX1_push_33
    · replace hj := ja_neg c2 hj
      cases hj
theorem xw_X1_push_A {args : Array Value} {s : State} (hts : ∀ w ∈ wsX1_push, w.before args s = true) : ∀ w ∈ (vx_atS RX1 56 "java/lang/IllegalArgumentException" ["java/lang/RuntimeException", "java/lang/Exception"]).filter goodWord, w.before args s = true := fun w h => hts w (List.mem_cons_of_mem _ (List.mem_append_right _ h))
theorem xg_X1_push_A : ∀ w ∈ Cond.classLink RX1 52 "java/lang/IllegalArgumentException" :: Cond.initialized "java/lang/IllegalArgumentException" :: (vx_atS RX1 56 "java/lang/IllegalArgumentException" ["java/lang/RuntimeException", "java/lang/Exception"]), vx_ot w = true := by decide +kernel
set_option maxHeartbeats 4000000 in
set_option maxRecDepth 100000 in
theorem x_X1_push (l : Launch) (hlt : l.stackTraces = false) (dC : Nat → ClassId) (dI : Nat → Nat → Nat) (cI cJ : ClassId) (b1 : Nat) (b0 : Nat) (bw : Nat) (bq : Nat) (bf : Nat) (sz : Nat) (w : Nat → Int64) (en : Int32) (pl : Int32) (cu : Int32) (li : Nat → Int64) (ld : Int32) (fb : Nat → Int64) (a1 : Int64) (a2 : Int32) (hj : j_X1_push w en a1 a2 = some none) : vx_Met l yX1_push wsX1_push ({ frames := 6, cells := 1, slots := 6, locals := 82 } : Room) (va_Pc [.ref b1, .long a1, .int a2] (fun U => jPr dC dI cI cJ (wC cJ b1 b0 bw bq bf w en pl cu li ld fb) sz U ∧ jNs U ∧ jXs (va_A (wC cJ b1 b0 bw bq bf w en pl cu li ld fb) sz) U)) (va_Qi (fun (_ : Int32) (_ : Unit) => False) (fun _ _ => True) (va_A (wC cJ b1 b0 bw bq bf w en pl cu li ld fb) sz)) (vx_X (fun _ : Unit => True) (fun E _ t => E = "java/lang/IllegalArgumentException" ∧ jPo dC dI cI cJ (wC cJ b1 b0 bw bq bf w en pl cu li ld fb) (va_A (wC cJ b1 b0 bw bq bf w en pl cu li ld fb) sz) t) (va_A (wC cJ b1 b0 bw bq bf w en pl cu li ld fb) sz)) 1 6 (va_A (wC cJ b1 b0 bw bq bf w en pl cu li ld fb) sz) := by
  refine vx_ofW (cc := cX1_push) (maxL := 4) (ret := (some .int)) (by decide) rfl ?_
  intro p e s m args below meth c s₁ B hml htab hv
  obtain ⟨rfl, ⟨hsz, hP, hK, hD0⟩, hN, hXs⟩ := hv
  have hx := B.exec
  have hb := B.bytes
  have hr := B.returns
  have hts := atoms_spec (ws := wsX1_push) B.pre
  have hown : s.vm.findClass RX1 = some m.cls := findClass_of_methodNamed B.named
  have hlocks := B.notSynchronized
  have C0 := jCx.of hx hb hr hml hown hts hlocks
  subst hsz
  have hD := hD0.self (sz := s.heap.size)
  generalize hAe : va_A (wC cJ b1 b0 bw bq bf w en pl cu li ld fb) s.heap.size = A at hD hXs ⊢
  have hA : ∀ q : Nat, s.heap.size ≤ q → A q := fun q h => by rw [← hAe]; exact Or.inr h
  have hS : va_S A s.heap s.heap [] := va_S.rf
  have hP : va_P (dC, dI) vwCl (wC cJ b1 b0 bw bq bf w en pl cu li ld fb) s.heap := hP
  have hl := lv_entry ([.ref b1, .long a1, .int a2]) (n := 4) (Nat.le_of_ble_eq_true rfl)
  rw [lg_entry_eq]
  generalize (lg_sl ([.ref b1, .long a1, .int a2]) ++ List.replicate (4 - (lg_sl ([.ref b1, .long a1, .int a2])).length) Slot.unset).toArray = ls at hl ⊢
  have hl : lv_has ls 4 [(0, .ref b1), (1, .long a1), (3, .int a2)] := hl
  clear hD0 hAe
  unfold j_X1_push at hj
  refine lv_iload_n hx hb dX1_push_0 rfl (lv_at hl 2 rfl) ?_
  refine lv_iconst (v := (1 : Int32)) hx hb dX1_push_1 (by decide) ?_
  refine lv_icmp_lt (tgt := 11) hx hb dX1_push_2 (by decide) (fun c1 => ?_) (fun c1 => ?_)
  · replace hj := ja_pos c1 hj
    obtain ⟨sa, hst⟩ := hXs.str0
    exact vx_throwS (XC := _) (text := "1 to 64 bits can be pushed") hx hb hlt hown (by decide +kernel) (by decide +kernel) (hts (.classLink RX1 52 "java/lang/IllegalArgumentException") (by decide +kernel)) (hts (.initialized "java/lang/IllegalArgumentException") (by decide +kernel)) hst (vx_hat (B := jWA) (xw_X1_push_A hts) (by decide +kernel) (hXs.wA _)) xg_X1_push_A hXs.1 hXs.2.1 hS (hl.1.trans hml.symm) dX1_push_11 dX1_push_14 dX1_push_15 dX1_push_17 dX1_push_20 (fun x hx9 => (htab x hx9).elim) (by decide) (by decide) (by decide) (by decide) hlocks (fun t hal hz hk => ⟨(), trivial, ⟨rfl, jP_keep hP hk, va_K.moved hal hK, hD⟩, jF_keep hS hz hk⟩) hS.2.2 (by decide) (by decide)
  · replace hj := ja_neg c1 hj
    refine lv_iload_n hx hb dX1_push_5 rfl (lv_at hl 2 rfl) ?_
    refine lv_bipush (v := (64 : Int32)) hx hb dX1_push_6 (by decide) ?_
    refine lv_icmp_le (tgt := 21) hx hb dX1_push_8 (by decide) (fun c2 => ?_) (fun c2 => ?_)
    · replace hj := ja_pos c2 hj
      refine lv_iload_n hx hb dX1_push_21 rfl (lv_at hl 2 rfl) ?_
      refine lv_aload_n hx hb dX1_push_22 rfl (lv_at hl 0 rfl) ?_
      refine va_get (D := (dC, dI)) (ci := 1) (v := .ref b0) (C := RX1) (T := TX1) (N := 4) hx hb hts inn_X1_push_X1 hown hK hP 0 rfl rfl 0 (by decide) (hts (.fieldLink RX1 12 "SelfEndingCodes" "row" "LSelfEndingCodes$BitRow;") (by decide +kernel)) (fun _ h9 => h9) rfl dX1_push_23 ?_
      obtain ⟨v3, hc, hj⟩ := ja_bd hj
      try dsimp only at hj
      have hPc := hP.sub (ws' := (wB cJ b0 bw w en pl cu)) [1, 2] rfl
      have hDc := hD.sub (ws' := (wB cJ b0 bw w en pl cu)) [1, 2] (by decide) rfl
      have hFc := va_free (wc := (wB cJ b0 bw w en pl cu)) hD hS hA [1, 2] rfl
      refine va_calli (va_runV (As := []) (rest := [.int a2]) ⟨hx, hb, hml, hown, hts⟩ (c_X0_room l dC dI cI cJ b0 bw s.heap.size w en pl cu _ hc) (cwV 0 hts gX1_push_X0_room rfl rfl rfl (by decide +kernel) ⟨Nat.le_of_ble_eq_true rfl, Nat.le_of_ble_eq_true rfl⟩) ⟨fun a U g mk q => ⟨q.1, jPr.blind q.2⟩, va_recv hK hPc (ci := 0) (q0 := 0) rfl rfl, fun U hU hW => ⟨rfl, jPr.mk hU hW hPc hK hDc⟩⟩ rfl rfl hl.1 rfl (lv_room (Nat.le_of_ble_eq_true rfl)) dX1_push_26 ⟨Nat.le_of_ble_eq_true rfl, Nat.le_of_ble_eq_true rfl⟩) hS (fun q _ h => hFc q h) hFc (fun rr u t H1 locs ht hvm hw9 hB hz1 hk1 hS => ?_)
      have hw8 : v3 = rr := hw9.symm
      subst hw8
      obtain ⟨hP1, hK1, hD1⟩ := hB
      rw [ht] at hP1
      obtain ⟨hP, hD⟩ := va_join (wr := ([(b1, .inr (1, [.ref b0, .ref bq, .ref bf, .int ld])), (bq, .inl (cJ, 100, .inr (.inl li))), (bf, .inl (cJ, 89, .inr (.inl fb)))] : va_W)) (w1 := (wB cJ b0 bw w en pl cu)) hP hD [1, 2] [0, 3, 4] rfl rfl (by decide) (by decide) hk1 hFc hP1 hD1
      replace hP := hP.sub (ws' := (wC cJ b1 b0 bw bq bf w en pl cu li ld fb)) [0, 3, 4, 1, 2] rfl
      replace hD := hD.sub (ws' := (wC cJ b1 b0 bw bq bf w en pl cu li ld fb)) [0, 3, 4, 1, 2] (by decide) rfl
      clear hk1 hP1 hK1 hD1 hvm hz1 hPc hDc hFc
      generalize H1 = H at hP hS ⊢
      have hP : va_P (dC, dI) vwCl (wC cJ b1 b0 bw bq bf w en pl cu li ld fb) H := hP
      have hD : va_D A (wC cJ b1 b0 bw bq bf w en pl cu li ld fb) := hD
      refine lv_icmp_le (tgt := 34) hx hb dX1_push_29 (by decide) (fun c4 => ?_) (fun c4 => ?_)
      · replace hj := ja_pos c4 hj
        refine lv_aload_n hx hb dX1_push_34 rfl (lv_at hl 0 rfl) ?_
        refine va_get (D := (dC, dI)) (ci := 1) (v := .ref b0) (C := RX1) (T := TX1) (N := 4) hx hb hts inn_X1_push_X1 hown hK hP 0 rfl rfl 0 (by decide) (hts (.fieldLink RX1 12 "SelfEndingCodes" "row" "LSelfEndingCodes$BitRow;") (by decide +kernel)) (fun _ h9 => h9) rfl dX1_push_35 ?_
        refine lv_lload_n hx hb dX1_push_38 rfl (lv_at hl 1 rfl) ?_
        refine lv_bipush (v := (64 : Int32)) hx hb dX1_push_39 (by decide) ?_
        refine lv_iload_n hx hb dX1_push_41 rfl (lv_at hl 2 rfl) ?_
        refine lv_isub hx hb dX1_push_42 ?_
        refine lv_lushr hx hb dX1_push_43 rfl ?_
        refine lv_iload_n hx hb dX1_push_44 rfl (lv_at hl 2 rfl) ?_
        obtain ⟨⟨v5, v6⟩, hc, hj⟩ := ja_bd hj
        try dsimp only at hj
        have hPc := hP.sub (ws' := (wB cJ b0 bw w en pl cu)) [1, 2] rfl
        have hDc := hD.sub (ws' := (wB cJ b0 bw w en pl cu)) [1, 2] (by decide) rfl
        have hFc := va_free (wc := (wB cJ b0 bw w en pl cu)) hD hS hA [1, 2] rfl
        refine va_callv (va_runV (As := [.long ((a1.toUInt64 >>> (((64 : Int32) - a2).toInt64.toUInt64 &&& Int64.toUInt64 63)).toInt64), .int a2]) (rest := []) ⟨hx, hb, hml, hown, hts⟩ (c_X0_appendBits l dC dI cI cJ b0 bw H.size w en pl cu ((a1.toUInt64 >>> (((64 : Int32) - a2).toInt64.toUInt64 &&& Int64.toUInt64 63)).toInt64) a2 _ hc) (cwV 2 hts gX1_push_X0_appendBits rfl rfl rfl (by decide +kernel) ⟨Nat.le_of_ble_eq_true rfl, Nat.le_of_ble_eq_true rfl⟩) ⟨fun a U g mk q => ⟨q.1, jPr.blind q.2⟩, va_recv hK hPc (ci := 0) (q0 := 0) rfl rfl, fun U hU hW => ⟨rfl, jPr.mk hU hW hPc hK hDc⟩⟩ rfl rfl hl.1 rfl (lv_room (Nat.le_of_ble_eq_true rfl)) dX1_push_45 ⟨Nat.le_of_ble_eq_true rfl, Nat.le_of_ble_eq_true rfl⟩) hS (fun q _ h => hFc q h) hFc (fun u t H1 locs ht hvm hw9 hB hz1 hk1 hS => ?_)
        obtain ⟨hP1, hK1, hD1⟩ := hB
        rw [ht] at hP1
        obtain ⟨hP, hD⟩ := va_join (wr := ([(b1, .inr (1, [.ref b0, .ref bq, .ref bf, .int ld])), (bq, .inl (cJ, 100, .inr (.inl li))), (bf, .inl (cJ, 89, .inr (.inl fb)))] : va_W)) (w1 := (wB cJ b0 bw v5 v6 pl cu)) hP hD [1, 2] [0, 3, 4] rfl rfl (by decide) (by decide) hk1 hFc hP1 hD1
        replace hP := hP.sub (ws' := (wC cJ b1 b0 bw bq bf v5 v6 pl cu li ld fb)) [0, 3, 4, 1, 2] rfl
        replace hD := hD.sub (ws' := (wC cJ b1 b0 bw bq bf v5 v6 pl cu li ld fb)) [0, 3, 4, 1, 2] (by decide) rfl
        clear hk1 hP1 hK1 hD1 hvm hz1 hPc hDc hFc
        generalize H1 = H at hP hS ⊢
        have hP : va_P (dC, dI) vwCl (wC cJ b1 b0 bw bq bf v5 v6 pl cu li ld fb) H := hP
        have hD : va_D A (wC cJ b1 b0 bw bq bf v5 v6 pl cu li ld fb) := hD
        refine lv_aload_n hx hb dX1_push_48 rfl (lv_at hl 0 rfl) ?_
        refine va_get (D := (dC, dI)) (ci := 1) (v := .ref b0) (C := RX1) (T := TX1) (N := 4) hx hb hts inn_X1_push_X1 hown hK hP 0 rfl rfl 0 (by decide) (hts (.fieldLink RX1 12 "SelfEndingCodes" "row" "LSelfEndingCodes$BitRow;") (by decide +kernel)) (fun _ h9 => h9) rfl dX1_push_49 ?_
        refine va_getN (D := (dC, dI)) (ci := 0) (v := .int v6) (C := RX0) (T := TX0) (N := 4) hx hb hts inn_X1_push_X0 hown hK hP 1 rfl rfl 1 (by decide) (va_Nw.use rfl hN.1) (fun _ h9 => h9) rfl dX1_push_52 ?_
        cases hj
      · replace hj := ja_neg c4 hj
        refine lv_iconst (v := (-1 : Int32)) hx hb dX1_push_32 (by decide) ?_
        cases hj
    · replace hj := ja_neg c2 hj
      obtain ⟨sa, hst⟩ := hXs.str0
      exact vx_throwS (XC := _) (text := "1 to 64 bits can be pushed") hx hb hlt hown (by decide +kernel) (by decide +kernel) (hts (.classLink RX1 52 "java/lang/IllegalArgumentException") (by decide +kernel)) (hts (.initialized "java/lang/IllegalArgumentException") (by decide +kernel)) hst (vx_hat (B := jWA) (xw_X1_push_A hts) (by decide +kernel) (hXs.wA _)) xg_X1_push_A hXs.1 hXs.2.1 hS (hl.1.trans hml.symm) dX1_push_11 dX1_push_14 dX1_push_15 dX1_push_17 dX1_push_20 (fun x hx9 => (htab x hx9).elim) (by decide) (by decide) (by decide) (by decide) hlocks (fun t hal hz hk => ⟨(), trivial, ⟨rfl, jP_keep hP hk, va_K.moved hal hK, hD⟩, jF_keep hS hz hk⟩) hS.2.2 (by decide) (by decide)

set_option maxRecDepth 100000 in
theorem inn_X1_put_X0 : ∀ w ∈ u_ws RX0 TX0 4, w ∈ wsX1_put := by decide +kernel
set_option maxRecDepth 100000 in
theorem inn_X1_put_X1 : ∀ w ∈ u_ws RX1 TX1 4, w ∈ wsX1_put := by decide +kernel
def j_X1_put (w : Nat → Int64) (en : Int32) (fb : Nat → Int64) (a1 : Int32) (a2 : Int32) (a3 : Int64) : Option (Option (Int32 × (Nat → Int64) × Int32)) :=
  jtry (j_X1_requireCode a1 a2) fun _ => (jtry (j_X1_requireNumber a3) fun _ => ((j_X1_appendIfRoom w en fb a1 a2 a3).bind fun (v1, v2, v3) => (if v1 = (0 : Int32) then (some (some ((-1 : Int32), v2, v3))) else (some (some (v3, v2, v3))))))
set_option maxHeartbeats 4000000 in
set_option maxRecDepth 100000 in
theorem c_X1_put (l : Launch) (dC : Nat → ClassId) (dI : Nat → Nat → Nat) (cI cJ : ClassId) (b1 : Nat) (b0 : Nat) (bw : Nat) (bq : Nat) (bf : Nat) (sz : Nat) (w : Nat → Int64) (en : Int32) (pl : Int32) (cu : Int32) (li : Nat → Int64) (ld : Int32) (fb : Nat → Int64) (a1 : Int32) (a2 : Int32) (a3 : Int64) (r : Int32 × (Nat → Int64) × Int32) (hj : j_X1_put w en fb a1 a2 a3 = some (some r)) : Met l yX1_put wsX1_put ({ frames := 7, cells := 0, slots := 0, locals := 166 } : Room) (va_Pc [.ref b1, .int a1, .int a2, .long a3] (fun U => jPr dC dI cI cJ (wC cJ b1 b0 bw bq bf w en pl cu li ld fb) sz U ∧ jNs U)) (va_Qi (fun (v : Int32) (_ : Unit) => v = r.1) (fun (_ : Unit) t => jPo dC dI cI cJ (wC cJ b1 b0 bw bq bf r.2.1 r.2.2 pl cu li ld fb) (va_A (wC cJ b1 b0 bw bq bf w en pl cu li ld fb) sz) t) (va_A (wC cJ b1 b0 bw bq bf w en pl cu li ld fb) sz)) 0 0 (va_A (wC cJ b1 b0 bw bq bf w en pl cu li ld fb) sz) := by
  refine Met.ofW (cc := cX1_put) (maxL := 5) (ret := (some .int)) (by decide) rfl ?_
  intro p e s m args below meth c s₁ B hml hv
  obtain ⟨rfl, ⟨hsz, hP, hK, hD0⟩, hN⟩ := hv
  have hx := B.exec
  have hb := B.bytes
  have hr := B.returns
  have hts := atoms_spec (ws := wsX1_put) B.pre
  have hown : s.vm.findClass RX1 = some m.cls := findClass_of_methodNamed B.named
  have hlocks := B.notSynchronized
  have C0 := jCx.of hx hb hr hml hown hts hlocks
  subst hsz
  have hD := hD0.self (sz := s.heap.size)
  generalize hAe : va_A (wC cJ b1 b0 bw bq bf w en pl cu li ld fb) s.heap.size = A at hD ⊢
  have hA : ∀ q : Nat, s.heap.size ≤ q → A q := fun q h => by rw [← hAe]; exact Or.inr h
  have hS : va_S A s.heap s.heap [] := va_S.rf
  have hP : va_P (dC, dI) vwCl (wC cJ b1 b0 bw bq bf w en pl cu li ld fb) s.heap := hP
  have hl := lv_entry ([.ref b1, .int a1, .int a2, .long a3]) (n := 5) (Nat.le_of_ble_eq_true rfl)
  rw [lg_entry_eq]
  generalize (lg_sl ([.ref b1, .int a1, .int a2, .long a3]) ++ List.replicate (5 - (lg_sl ([.ref b1, .int a1, .int a2, .long a3])).length) Slot.unset).toArray = ls at hl ⊢
  have hl : lv_has ls 5 [(0, .ref b1), (1, .int a1), (2, .int a2), (3, .long a3)] := hl
  clear hD0 hAe
  unfold j_X1_put at hj
  refine lv_iload_n hx hb dX1_put_0 rfl (lv_at hl 1 rfl) ?_
  refine lv_iload_n hx hb dX1_put_1 rfl (lv_at hl 2 rfl) ?_
  obtain ⟨⟨⟩, hc, hj⟩ := ja_try hj
  try dsimp only at hj
  have hPc := hP.sub (ws' := ([] : va_W)) [] rfl
  have hDc := hD.sub (ws' := ([] : va_W)) [] (by decide) rfl
  have hFc := va_free (wc := ([] : va_W)) hD hS hA [] rfl
  refine va_callv (va_runS (As := [.int a1, .int a2]) (rest := []) ⟨hx, hb, hml, hown, hts⟩ (c_X1_requireCode l dC dI cI cJ s.heap.size a1 a2 _ hc) (va_cwS 2 hts gX1_put_X1_requireCode rfl rfl rfl (by decide +kernel) ⟨Nat.le_of_ble_eq_true rfl, Nat.le_of_ble_eq_true rfl⟩) ⟨fun a U g mk q => ⟨q.1, jPr.blind q.2⟩, fun U hU hW => ⟨rfl, jPr.mk hU hW hPc hK hDc⟩⟩ rfl rfl hl.1 rfl (lv_room (Nat.le_of_ble_eq_true rfl)) dX1_put_2 ⟨Nat.le_of_ble_eq_true rfl, Nat.le_of_ble_eq_true rfl⟩) hS (fun q _ h => hFc q h) hFc (fun u t H1 locs ht hvm hw9 hB hz1 hk1 hS => ?_)
  obtain ⟨hP1, hK1, hD1⟩ := hB
  rw [ht] at hP1
  obtain ⟨hP, hD⟩ := va_join (wr := ([(b1, .inr (1, [.ref b0, .ref bq, .ref bf, .int ld])), (b0, .inr (0, [.ref bw, .int en, .int pl, .int cu])), (bw, .inl (cJ, 64, .inr (.inl w))), (bq, .inl (cJ, 100, .inr (.inl li))), (bf, .inl (cJ, 89, .inr (.inl fb)))] : va_W)) (w1 := ([] : va_W)) hP hD [] [0, 1, 2, 3, 4] rfl rfl (by decide) (by decide) hk1 hFc hP1 hD1
  clear hk1 hP1 hK1 hD1 hvm hz1 hPc hDc hFc
  generalize H1 = H at hP hS ⊢
  have hP : va_P (dC, dI) vwCl (wC cJ b1 b0 bw bq bf w en pl cu li ld fb) H := hP
  have hD : va_D A (wC cJ b1 b0 bw bq bf w en pl cu li ld fb) := hD
  refine lv_lload_n hx hb dX1_put_5 rfl (lv_at hl 3 rfl) ?_
  obtain ⟨⟨⟩, hc, hj⟩ := ja_try hj
  try dsimp only at hj
  have hPc := hP.sub (ws' := ([] : va_W)) [] rfl
  have hDc := hD.sub (ws' := ([] : va_W)) [] (by decide) rfl
  have hFc := va_free (wc := ([] : va_W)) hD hS hA [] rfl
  refine va_callv (va_runS (As := [.long a3]) (rest := []) ⟨hx, hb, hml, hown, hts⟩ (c_X1_requireNumber l dC dI cI cJ H.size a3 _ hc) (va_cwS 1 hts gX1_put_X1_requireNumber rfl rfl rfl (by decide +kernel) ⟨Nat.le_of_ble_eq_true rfl, Nat.le_of_ble_eq_true rfl⟩) ⟨fun a U g mk q => ⟨q.1, jPr.blind q.2⟩, fun U hU hW => ⟨rfl, jPr.mk hU hW hPc hK hDc⟩⟩ rfl rfl hl.1 rfl (lv_room (Nat.le_of_ble_eq_true rfl)) dX1_put_6 ⟨Nat.le_of_ble_eq_true rfl, Nat.le_of_ble_eq_true rfl⟩) hS (fun q _ h => hFc q h) hFc (fun u t H1 locs ht hvm hw9 hB hz1 hk1 hS => ?_)
  obtain ⟨hP1, hK1, hD1⟩ := hB
  rw [ht] at hP1
  obtain ⟨hP, hD⟩ := va_join (wr := ([(b1, .inr (1, [.ref b0, .ref bq, .ref bf, .int ld])), (b0, .inr (0, [.ref bw, .int en, .int pl, .int cu])), (bw, .inl (cJ, 64, .inr (.inl w))), (bq, .inl (cJ, 100, .inr (.inl li))), (bf, .inl (cJ, 89, .inr (.inl fb)))] : va_W)) (w1 := ([] : va_W)) hP hD [] [0, 1, 2, 3, 4] rfl rfl (by decide) (by decide) hk1 hFc hP1 hD1
  clear hk1 hP1 hK1 hD1 hvm hz1 hPc hDc hFc
  generalize H1 = H at hP hS ⊢
  have hP : va_P (dC, dI) vwCl (wC cJ b1 b0 bw bq bf w en pl cu li ld fb) H := hP
  have hD : va_D A (wC cJ b1 b0 bw bq bf w en pl cu li ld fb) := hD
  refine lv_aload_n hx hb dX1_put_9 rfl (lv_at hl 0 rfl) ?_
  refine lv_iload_n hx hb dX1_put_10 rfl (lv_at hl 1 rfl) ?_
  refine lv_iload_n hx hb dX1_put_11 rfl (lv_at hl 2 rfl) ?_
  refine lv_lload_n hx hb dX1_put_12 rfl (lv_at hl 3 rfl) ?_
  obtain ⟨⟨v1, v2, v3⟩, hc, hj⟩ := ja_bd hj
  try dsimp only at hj
  have hPc := hP.sub (ws' := (wC cJ b1 b0 bw bq bf w en pl cu li ld fb)) [0, 1, 2, 3, 4] rfl
  have hDc := hD.sub (ws' := (wC cJ b1 b0 bw bq bf w en pl cu li ld fb)) [0, 1, 2, 3, 4] (by decide) rfl
  have hFc := va_free (wc := (wC cJ b1 b0 bw bq bf w en pl cu li ld fb)) hD hS hA [0, 1, 2, 3, 4] rfl
  refine va_calli (va_runV (As := [.int a1, .int a2, .long a3]) (rest := []) ⟨hx, hb, hml, hown, hts⟩ (c_X1_appendIfRoom l dC dI cI cJ b1 b0 bw bq bf H.size w en pl cu li ld fb a1 a2 a3 _ hc) (cwV 3 hts gX1_put_X1_appendIfRoom rfl rfl rfl (by decide +kernel) ⟨Nat.le_of_ble_eq_true rfl, Nat.le_of_ble_eq_true rfl⟩) ⟨fun a U g mk q => ⟨q.1, jPr.blind q.2.1, jNs.blind q.2.2⟩, va_recv hK hPc (ci := 1) (q0 := 0) rfl rfl, fun U hU hW => ⟨rfl, jPr.mk hU hW hPc hK hDc, jNs.warm hW hN⟩⟩ rfl rfl hl.1 rfl (lv_room (Nat.le_of_ble_eq_true rfl)) dX1_put_13 ⟨Nat.le_of_ble_eq_true rfl, Nat.le_of_ble_eq_true rfl⟩) hS (fun q _ h => hFc q h) hFc (fun rr u t H1 locs ht hvm hw9 hB hz1 hk1 hS => ?_)
  have hw8 : v1 = rr := hw9.symm
  subst hw8
  obtain ⟨hP1, hK1, hD1⟩ := hB
  rw [ht] at hP1
  obtain ⟨hP, hD⟩ := va_join (wr := ([] : va_W)) (w1 := (wC cJ b1 b0 bw bq bf v2 v3 pl cu li ld fb)) hP hD [0, 1, 2, 3, 4] [] rfl rfl (by decide) (by decide) hk1 hFc hP1 hD1
  clear hk1 hP1 hK1 hD1 hvm hz1 hPc hDc hFc
  generalize H1 = H at hP hS ⊢
  have hP : va_P (dC, dI) vwCl (wC cJ b1 b0 bw bq bf v2 v3 pl cu li ld fb) H := hP
  have hD : va_D A (wC cJ b1 b0 bw bq bf v2 v3 pl cu li ld fb) := hD
  refine lv_if_eq (tgt := 29) hx hb dX1_put_16 (by decide) (fun c4 => ?_) (fun c4 => ?_)
  · replace hj := ja_pos c4 hj
    refine lv_iconst (v := (-1 : Int32)) hx hb dX1_put_29 (by decide) ?_
    have hr9 : ((-1 : Int32), v2, v3) = r := Option.some.inj (Option.some.inj hj)
    subst hr9
    exact W.iret (v := (-1 : Int32)) hx hb hr (fun t ht hW => ⟨⟨(-1 : Int32), (), rfl, rfl, by rw [ht]; exact hP, va_K.moved hW.alike hK, hD⟩, hS.F ht⟩) hS.2.2 dX1_put_30
  · replace hj := ja_neg c4 hj
    refine lv_aload_n hx hb dX1_put_19 rfl (lv_at hl 0 rfl) ?_
    refine va_get (D := (dC, dI)) (ci := 1) (v := .ref b0) (C := RX1) (T := TX1) (N := 4) hx hb hts inn_X1_put_X1 hown hK hP 0 rfl rfl 0 (by decide) (hts (.fieldLink RX1 12 "SelfEndingCodes" "row" "LSelfEndingCodes$BitRow;") (by decide +kernel)) (fun _ h9 => h9) rfl dX1_put_20 ?_
    refine va_getN (D := (dC, dI)) (ci := 0) (v := .int v3) (C := RX0) (T := TX0) (N := 4) hx hb hts inn_X1_put_X0 hown hK hP 1 rfl rfl 1 (by decide) (va_Nw.use rfl hN.1) (fun _ h9 => h9) rfl dX1_put_23 ?_
    refine lv_goto (tgt := 30) hx hb dX1_put_26 (by decide) ?_
    have hr9 : (v3, v2, v3) = r := Option.some.inj (Option.some.inj hj)
    subst hr9
    exact W.iret (v := v3) hx hb hr (fun t ht hW => ⟨⟨v3, (), rfl, rfl, by rw [ht]; exact hP, va_K.moved hW.alike hK, hD⟩, hS.F ht⟩) hS.2.2 dX1_put_30
set_option maxHeartbeats 4000000 in
set_option maxRecDepth 100000 in
theorem x_X1_put (l : Launch) (hlt : l.stackTraces = false) (dC : Nat → ClassId) (dI : Nat → Nat → Nat) (cI cJ : ClassId) (b1 : Nat) (b0 : Nat) (bw : Nat) (bq : Nat) (bf : Nat) (sz : Nat) (w : Nat → Int64) (en : Int32) (pl : Int32) (cu : Int32) (li : Nat → Int64) (ld : Int32) (fb : Nat → Int64) (a1 : Int32) (a2 : Int32) (a3 : Int64) (hj : j_X1_put w en fb a1 a2 a3 = some none) : vx_Met l yX1_put wsX1_put ({ frames := 7, cells := 1, slots := 6, locals := 166 } : Room) (va_Pc [.ref b1, .int a1, .int a2, .long a3] (fun U => jPr dC dI cI cJ (wC cJ b1 b0 bw bq bf w en pl cu li ld fb) sz U ∧ jNs U ∧ jXs (va_A (wC cJ b1 b0 bw bq bf w en pl cu li ld fb) sz) U)) (va_Qi (fun (_ : Int32) (_ : Unit) => False) (fun _ _ => True) (va_A (wC cJ b1 b0 bw bq bf w en pl cu li ld fb) sz)) (vx_X (fun _ : Unit => True) (fun E _ t => E = "java/lang/IllegalArgumentException" ∧ jPo dC dI cI cJ (wC cJ b1 b0 bw bq bf w en pl cu li ld fb) (va_A (wC cJ b1 b0 bw bq bf w en pl cu li ld fb) sz) t) (va_A (wC cJ b1 b0 bw bq bf w en pl cu li ld fb) sz)) 1 6 (va_A (wC cJ b1 b0 bw bq bf w en pl cu li ld fb) sz) := by
  refine vx_ofW (cc := cX1_put) (maxL := 5) (ret := (some .int)) (by decide) rfl ?_
  intro p e s m args below meth c s₁ B hml htab hv
  obtain ⟨rfl, ⟨hsz, hP, hK, hD0⟩, hN, hXs⟩ := hv
  have hx := B.exec
  have hb := B.bytes
  have hr := B.returns
  have hts := atoms_spec (ws := wsX1_put) B.pre
  have hown : s.vm.findClass RX1 = some m.cls := findClass_of_methodNamed B.named
  have hlocks := B.notSynchronized
  have C0 := jCx.of hx hb hr hml hown hts hlocks
  subst hsz
  have hD := hD0.self (sz := s.heap.size)
  generalize hAe : va_A (wC cJ b1 b0 bw bq bf w en pl cu li ld fb) s.heap.size = A at hD hXs ⊢
  have hA : ∀ q : Nat, s.heap.size ≤ q → A q := fun q h => by rw [← hAe]; exact Or.inr h
  have hS : va_S A s.heap s.heap [] := va_S.rf
  have hP : va_P (dC, dI) vwCl (wC cJ b1 b0 bw bq bf w en pl cu li ld fb) s.heap := hP
  have hl := lv_entry ([.ref b1, .int a1, .int a2, .long a3]) (n := 5) (Nat.le_of_ble_eq_true rfl)
  rw [lg_entry_eq]
  generalize (lg_sl ([.ref b1, .int a1, .int a2, .long a3]) ++ List.replicate (5 - (lg_sl ([.ref b1, .int a1, .int a2, .long a3])).length) Slot.unset).toArray = ls at hl ⊢
  have hl : lv_has ls 5 [(0, .ref b1), (1, .int a1), (2, .int a2), (3, .long a3)] := hl
  clear hD0 hAe
  unfold j_X1_put at hj
  refine lv_iload_n hx hb dX1_put_0 rfl (lv_at hl 1 rfl) ?_
  refine lv_iload_n hx hb dX1_put_1 rfl (lv_at hl 2 rfl) ?_
  rcases ja_tryx hj with hc | ⟨⟨⟩, hc, hj⟩
  · have hPc := hP.sub (ws' := ([] : va_W)) [] rfl
    have hDc := hD.sub (ws' := ([] : va_W)) [] (by decide) rfl
    have hFc := va_free (wc := ([] : va_W)) hD hS hA [] rfl
    refine vx_callv (vx_runS (As := [.int a1, .int a2]) (rest := []) ⟨hx, hb, hml, hown, hts⟩ (x_X1_requireCode l hlt dC dI cI cJ s.heap.size a1 a2 hc) (va_cwS 2 hts gX1_put_X1_requireCode rfl rfl rfl (by decide +kernel) ⟨Nat.le_of_ble_eq_true rfl, Nat.le_of_ble_eq_true rfl⟩) ⟨fun a U g mk q => ⟨q.1, jPr.blind q.2.1, jXs.blind q.2.2⟩, fun U hU hW => ⟨rfl, jPr.mk hU hW hPc hK hDc, jXs.down hU hW hS hFc hXs⟩⟩ rfl rfl hl.1 rfl (lv_room (Nat.le_of_ble_eq_true rfl)) dX1_put_2 ⟨Nat.le_of_ble_eq_true rfl, Nat.le_of_ble_eq_true rfl⟩) hS (fun q _ h => hFc q h) hFc (fun q _ h => hFc q h) (fun E ce q9 u t H1 locs1 ht hvm hpx hBX hz1 hk1 hS hce hcv hcl => ?_) (fun u t H1 locs1 ht hvm hw9 hB hz1 hk1 hS => hw9.elim)
    obtain ⟨rfl, hP1, hK1, hD1⟩ := hBX
    rw [ht] at hP1
    obtain ⟨hP, hD⟩ := va_join (wr := ([(b1, .inr (1, [.ref b0, .ref bq, .ref bf, .int ld])), (b0, .inr (0, [.ref bw, .int en, .int pl, .int cu])), (bw, .inl (cJ, 64, .inr (.inl w))), (bq, .inl (cJ, 100, .inr (.inl li))), (bf, .inl (cJ, 89, .inr (.inl fb)))] : va_W)) (w1 := ([] : va_W)) hP hD [] [0, 1, 2, 3, 4] rfl rfl (by decide) (by decide) hk1 hFc hP1 hD1
    exact vx_out (fun x hx9 => (htab x hx9).elim) hlocks hce hcv hcl (fun t2 ht2 hal => ⟨(), trivial, ⟨rfl, by rw [ht2]; exact hP, va_K.moved hal hK, hD⟩, hS.F ht2⟩) hS.2.2 (by decide) (by decide)
  · try dsimp only at hj
    have hPc := hP.sub (ws' := ([] : va_W)) [] rfl
    have hDc := hD.sub (ws' := ([] : va_W)) [] (by decide) rfl
    have hFc := va_free (wc := ([] : va_W)) hD hS hA [] rfl
    refine va_callv (va_runS (As := [.int a1, .int a2]) (rest := []) ⟨hx, hb, hml, hown, hts⟩ (c_X1_requireCode l dC dI cI cJ s.heap.size a1 a2 _ hc) (va_cwS 2 hts gX1_put_X1_requireCode rfl rfl rfl (by decide +kernel) ⟨Nat.le_of_ble_eq_true rfl, Nat.le_of_ble_eq_true rfl⟩) ⟨fun a U g mk q => ⟨q.1, jPr.blind q.2⟩, fun U hU hW => ⟨rfl, jPr.mk hU hW hPc hK hDc⟩⟩ rfl rfl hl.1 rfl (lv_room (Nat.le_of_ble_eq_true rfl)) dX1_put_2 ⟨Nat.le_of_ble_eq_true rfl, Nat.le_of_ble_eq_true rfl⟩) hS (fun q _ h => hFc q h) hFc (fun u t H1 locs ht hvm hw9 hB hz1 hk1 hS => ?_)
    obtain ⟨hP1, hK1, hD1⟩ := hB
    rw [ht] at hP1
    obtain ⟨hP, hD⟩ := va_join (wr := ([(b1, .inr (1, [.ref b0, .ref bq, .ref bf, .int ld])), (b0, .inr (0, [.ref bw, .int en, .int pl, .int cu])), (bw, .inl (cJ, 64, .inr (.inl w))), (bq, .inl (cJ, 100, .inr (.inl li))), (bf, .inl (cJ, 89, .inr (.inl fb)))] : va_W)) (w1 := ([] : va_W)) hP hD [] [0, 1, 2, 3, 4] rfl rfl (by decide) (by decide) hk1 hFc hP1 hD1
    clear hk1 hP1 hK1 hD1 hvm hz1 hPc hDc hFc
    generalize H1 = H at hP hS ⊢
    have hP : va_P (dC, dI) vwCl (wC cJ b1 b0 bw bq bf w en pl cu li ld fb) H := hP
    have hD : va_D A (wC cJ b1 b0 bw bq bf w en pl cu li ld fb) := hD
    refine lv_lload_n hx hb dX1_put_5 rfl (lv_at hl 3 rfl) ?_
    rcases ja_tryx hj with hc | ⟨⟨⟩, hc, hj⟩
    · have hPc := hP.sub (ws' := ([] : va_W)) [] rfl
      have hDc := hD.sub (ws' := ([] : va_W)) [] (by decide) rfl
      have hFc := va_free (wc := ([] : va_W)) hD hS hA [] rfl
      refine vx_callv (vx_runS (As := [.long a3]) (rest := []) ⟨hx, hb, hml, hown, hts⟩ (x_X1_requireNumber l hlt dC dI cI cJ H.size a3 hc) (va_cwS 1 hts gX1_put_X1_requireNumber rfl rfl rfl (by decide +kernel) ⟨Nat.le_of_ble_eq_true rfl, Nat.le_of_ble_eq_true rfl⟩) ⟨fun a U g mk q => ⟨q.1, jPr.blind q.2.1, jXs.blind q.2.2⟩, fun U hU hW => ⟨rfl, jPr.mk hU hW hPc hK hDc, jXs.down hU hW hS hFc hXs⟩⟩ rfl rfl hl.1 rfl (lv_room (Nat.le_of_ble_eq_true rfl)) dX1_put_6 ⟨Nat.le_of_ble_eq_true rfl, Nat.le_of_ble_eq_true rfl⟩) hS (fun q _ h => hFc q h) hFc (fun q _ h => hFc q h) (fun E ce q9 u t H1 locs1 ht hvm hpx hBX hz1 hk1 hS hce hcv hcl => ?_) (fun u t H1 locs1 ht hvm hw9 hB hz1 hk1 hS => hw9.elim)
      obtain ⟨rfl, hP1, hK1, hD1⟩ := hBX
      rw [ht] at hP1
      obtain ⟨hP, hD⟩ := va_join (wr := ([(b1, .inr (1, [.ref b0, .ref bq, .ref bf, .int ld])), (b0, .inr (0, [.ref bw, .int en, .int pl, .int cu])), (bw, .inl (cJ, 64, .inr (.inl w))), (bq, .inl (cJ, 100, .inr (.inl li))), (bf, .inl (cJ, 89, .inr (.inl fb)))] : va_W)) (w1 := ([] : va_W)) hP hD [] [0, 1, 2, 3, 4] rfl rfl (by decide) (by decide) hk1 hFc hP1 hD1
      exact vx_out (fun x hx9 => (htab x hx9).elim) hlocks hce hcv hcl (fun t2 ht2 hal => ⟨(), trivial, ⟨rfl, by rw [ht2]; exact hP, va_K.moved hal hK, hD⟩, hS.F ht2⟩) hS.2.2 (by decide) (by decide)
    · try dsimp only at hj
      have hPc := hP.sub (ws' := ([] : va_W)) [] rfl
      have hDc := hD.sub (ws' := ([] : va_W)) [] (by decide) rfl
      have hFc := va_free (wc := ([] : va_W)) hD hS hA [] rfl
      refine va_callv (va_runS (As := [.long a3]) (rest := []) ⟨hx, hb, hml, hown, hts⟩ (c_X1_requireNumber l dC dI cI cJ H.size a3 _ hc) (va_cwS 1 hts gX1_put_X1_requireNumber rfl rfl rfl (by decide +kernel) ⟨Nat.le_of_ble_eq_true rfl, Nat.le_of_ble_eq_true rfl⟩) ⟨fun a U g mk q => ⟨q.1, jPr.blind q.2⟩, fun U hU hW => ⟨rfl, jPr.mk hU hW hPc hK hDc⟩⟩ rfl rfl hl.1 rfl (lv_room (Nat.le_of_ble_eq_true rfl)) dX1_put_6 ⟨Nat.le_of_ble_eq_true rfl, Nat.le_of_ble_eq_true rfl⟩) hS (fun q _ h => hFc q h) hFc (fun u t H1 locs ht hvm hw9 hB hz1 hk1 hS => ?_)
      obtain ⟨hP1, hK1, hD1⟩ := hB
      rw [ht] at hP1
      obtain ⟨hP, hD⟩ := va_join (wr := ([(b1, .inr (1, [.ref b0, .ref bq, .ref bf, .int ld])), (b0, .inr (0, [.ref bw, .int en, .int pl, .int cu])), (bw, .inl (cJ, 64, .inr (.inl w))), (bq, .inl (cJ, 100, .inr (.inl li))), (bf, .inl (cJ, 89, .inr (.inl fb)))] : va_W)) (w1 := ([] : va_W)) hP hD [] [0, 1, 2, 3, 4] rfl rfl (by decide) (by decide) hk1 hFc hP1 hD1
      clear hk1 hP1 hK1 hD1 hvm hz1 hPc hDc hFc
      generalize H1 = H at hP hS ⊢
      have hP : va_P (dC, dI) vwCl (wC cJ b1 b0 bw bq bf w en pl cu li ld fb) H := hP
      have hD : va_D A (wC cJ b1 b0 bw bq bf w en pl cu li ld fb) := hD
      refine lv_aload_n hx hb dX1_put_9 rfl (lv_at hl 0 rfl) ?_
      refine lv_iload_n hx hb dX1_put_10 rfl (lv_at hl 1 rfl) ?_
      refine lv_iload_n hx hb dX1_put_11 rfl (lv_at hl 2 rfl) ?_
      refine lv_lload_n hx hb dX1_put_12 rfl (lv_at hl 3 rfl) ?_
      obtain ⟨⟨v1, v2, v3⟩, hc, hj⟩ := ja_bd hj
      try dsimp only at hj
      have hPc := hP.sub (ws' := (wC cJ b1 b0 bw bq bf w en pl cu li ld fb)) [0, 1, 2, 3, 4] rfl
      have hDc := hD.sub (ws' := (wC cJ b1 b0 bw bq bf w en pl cu li ld fb)) [0, 1, 2, 3, 4] (by decide) rfl
      have hFc := va_free (wc := (wC cJ b1 b0 bw bq bf w en pl cu li ld fb)) hD hS hA [0, 1, 2, 3, 4] rfl
      refine va_calli (va_runV (As := [.int a1, .int a2, .long a3]) (rest := []) ⟨hx, hb, hml, hown, hts⟩ (c_X1_appendIfRoom l dC dI cI cJ b1 b0 bw bq bf H.size w en pl cu li ld fb a1 a2 a3 _ hc) (cwV 3 hts gX1_put_X1_appendIfRoom rfl rfl rfl (by decide +kernel) ⟨Nat.le_of_ble_eq_true rfl, Nat.le_of_ble_eq_true rfl⟩) ⟨fun a U g mk q => ⟨q.1, jPr.blind q.2.1, jNs.blind q.2.2⟩, va_recv hK hPc (ci := 1) (q0 := 0) rfl rfl, fun U hU hW => ⟨rfl, jPr.mk hU hW hPc hK hDc, jNs.warm hW hN⟩⟩ rfl rfl hl.1 rfl (lv_room (Nat.le_of_ble_eq_true rfl)) dX1_put_13 ⟨Nat.le_of_ble_eq_true rfl, Nat.le_of_ble_eq_true rfl⟩) hS (fun q _ h => hFc q h) hFc (fun rr u t H1 locs ht hvm hw9 hB hz1 hk1 hS => ?_)
      have hw8 : v1 = rr := hw9.symm
      subst hw8
      obtain ⟨hP1, hK1, hD1⟩ := hB
      rw [ht] at hP1
      obtain ⟨hP, hD⟩ := va_join (wr := ([] : va_W)) (w1 := (wC cJ b1 b0 bw bq bf v2 v3 pl cu li ld fb)) hP hD [0, 1, 2, 3, 4] [] rfl rfl (by decide) (by decide) hk1 hFc hP1 hD1
      clear hk1 hP1 hK1 hD1 hvm hz1 hPc hDc hFc
      generalize H1 = H at hP hS ⊢
      have hP : va_P (dC, dI) vwCl (wC cJ b1 b0 bw bq bf v2 v3 pl cu li ld fb) H := hP
      have hD : va_D A (wC cJ b1 b0 bw bq bf v2 v3 pl cu li ld fb) := hD
      refine lv_if_eq (tgt := 29) hx hb dX1_put_16 (by decide) (fun c4 => ?_) (fun c4 => ?_)
      · replace hj := ja_pos c4 hj
        refine lv_iconst (v := (-1 : Int32)) hx hb dX1_put_29 (by decide) ?_
        cases hj
      · replace hj := ja_neg c4 hj
        refine lv_aload_n hx hb dX1_put_19 rfl (lv_at hl 0 rfl) ?_
        refine va_get (D := (dC, dI)) (ci := 1) (v := .ref b0) (C := RX1) (T := TX1) (N := 4) hx hb hts inn_X1_put_X1 hown hK hP 0 rfl rfl 0 (by decide) (hts (.fieldLink RX1 12 "SelfEndingCodes" "row" "LSelfEndingCodes$BitRow;") (by decide +kernel)) (fun _ h9 => h9) rfl dX1_put_20 ?_
        refine va_getN (D := (dC, dI)) (ci := 0) (v := .int v3) (C := RX0) (T := TX0) (N := 4) hx hb hts inn_X1_put_X0 hown hK hP 1 rfl rfl 1 (by decide) (va_Nw.use rfl hN.1) (fun _ h9 => h9) rfl dX1_put_23 ?_
        refine lv_goto (tgt := 30) hx hb dX1_put_26 (by decide) ?_
        cases hj

set_option maxRecDepth 100000 in
theorem inn_X1_putAll_X1 : ∀ w ∈ u_ws RX1 TX1 4, w ∈ wsX1_putAll := by decide +kernel
def jL_X1_putAll_7 (li : Nat → Int64) (ld : Int32) (fb : Nat → Int64) (x1 : Int32) (x2 : Int32) : Nat → Int32 → (Nat → Int64) → Int32 → Option (Int32 × (Nat → Int64) × Int32)
  | 0, _, _, _ => none
  | n + 1, x3, w, en => if ld ≤ x3 then (some (ld, w, en)) else (jix x3 100 ((j_X1_appendIfRoom w en fb x1 x2 (li x3.toNatClampNeg)).bind fun (v702, v703, v704) => (if v702 = (0 : Int32) then (some (x3, v703, v704)) else (jL_X1_putAll_7 li ld fb x1 x2 n (x3 + (1 : Int32)) v703 v704))))
set_option maxHeartbeats 4000000 in
set_option maxRecDepth 100000 in
theorem s_X1_putAll_7 {p : Program} {l : Launch} {e : Env} {s : State} {m : MethodId} {args : Array Value} {below : List Frame} {meth : Method} {c : Code} {dC : Nat → ClassId} {dI : Nat → Nat → Nat} {cI cJ : ClassId} {A : Nat → Prop} (C0 : jCx p s m args meth c RX1 cX1_putAll 4 (some .int) wsX1_putAll) (hK : va_K (dC, dI) vwCl (jTy cI cJ) s) (hA : ∀ q : Nat, s.heap.size ≤ q → A q) (hN : jNs s) (b1 : Nat) (b0 : Nat) (bw : Nat) (bq : Nat) (bf : Nat) (pl : Int32) (cu : Int32) (li : Nat → Int64) (ld : Int32) (fb : Nat → Int64) (x1 : Int32) (x2 : Int32) :
    ∀ (n : Nat) (x3 : Int32) (w : Nat → Int64) (en : Int32) (r : Int32 × (Nat → Int64) × Int32), jL_X1_putAll_7 li ld fb x1 x2 n x3 w en = some r → ∀ (H : Heap) (locs : List Loc) (ls : Array Slot), va_P (dC, dI) vwCl (wC cJ b1 b0 bw bq bf w en pl cu li ld fb) H → va_D A (wC cJ b1 b0 bw bq bf w en pl cu li ld fb) → va_S A s.heap H locs → lv_has ls 4 [(0, .ref b1), (1, .int x1), (2, .int x2), (3, .int x3)] → W p l e ({ frames := 7, cells := 0, slots := 0, locals := 166 } : Room) s m args below meth c H locs 0 0 (MQ below (va_Qi (fun (v : Int32) (_ : Unit) => v = r.1) (fun (_ : Unit) t => jPo dC dI cI cJ (wC cJ b1 b0 bw bq bf r.2.1 r.2.2 pl cu li ld fb) A t) A) args s 0 0 A) (F0 m 7 ls []) := by
  obtain ⟨hx, hb, hr, hml, hown, hts, hlocks⟩ := id C0
  intro n
  induction n with
  | zero =>
    intro x3 w en r hj
    exact nomatch (show (none : Option (Int32 × (Nat → Int64) × Int32)) = some r from hj)
  | succ n ih =>
    intro x3 w en r hj H locs ls hP hD hS hl
    replace hj : (if ld ≤ x3 then (some (ld, w, en)) else (jix x3 100 ((j_X1_appendIfRoom w en fb x1 x2 (li x3.toNatClampNeg)).bind fun (v702, v703, v704) => (if v702 = (0 : Int32) then (some (x3, v703, v704)) else (jL_X1_putAll_7 li ld fb x1 x2 n (x3 + (1 : Int32)) v703 v704))))) = some r := hj
    refine lv_iload_n hx hb dX1_putAll_7 rfl (lv_at hl 3 rfl) ?_
    refine lv_aload_n hx hb dX1_putAll_8 rfl (lv_at hl 0 rfl) ?_
    refine va_get (D := (dC, dI)) (ci := 1) (v := .int ld) (C := RX1) (T := TX1) (N := 4) hx hb hts inn_X1_putAll_X1 hown hK hP 0 rfl rfl 3 (by decide) (hts (.fieldLink RX1 20 "SelfEndingCodes" "listed" "I") (by decide +kernel)) (fun _ h9 => h9) rfl dX1_putAll_9 ?_
    refine lv_icmp_ge (tgt := 38) hx hb dX1_putAll_12 (by decide) (fun c701 => ?_) (fun c701 => ?_)
    · replace hj := ja_pos c701 hj
      refine lv_aload_n hx hb dX1_putAll_38 rfl (lv_at hl 0 rfl) ?_
      refine va_get (D := (dC, dI)) (ci := 1) (v := .int ld) (C := RX1) (T := TX1) (N := 4) hx hb hts inn_X1_putAll_X1 hown hK hP 0 rfl rfl 3 (by decide) (hts (.fieldLink RX1 20 "SelfEndingCodes" "listed" "I") (by decide +kernel)) (fun _ h9 => h9) rfl dX1_putAll_39 ?_
      have hr9 : (ld, w, en) = r := Option.some.inj hj
      subst hr9
      exact W.iret (v := ld) hx hb hr (fun t ht hW => ⟨⟨ld, (), rfl, rfl, by rw [ht]; exact hP, va_K.moved hW.alike hK, hD⟩, hS.F ht⟩) hS.2.2 dX1_putAll_42
    · replace hj := ja_neg c701 hj
      refine lv_aload_n hx hb dX1_putAll_15 rfl (lv_at hl 0 rfl) ?_
      refine lv_iload_n hx hb dX1_putAll_16 rfl (lv_at hl 1 rfl) ?_
      refine lv_iload_n hx hb dX1_putAll_17 rfl (lv_at hl 2 rfl) ?_
      refine lv_aload_n hx hb dX1_putAll_18 rfl (lv_at hl 0 rfl) ?_
      refine va_get (D := (dC, dI)) (ci := 1) (v := .ref bq) (C := RX1) (T := TX1) (N := 4) hx hb hts inn_X1_putAll_X1 hown hK hP 0 rfl rfl 1 (by decide) (hts (.fieldLink RX1 16 "SelfEndingCodes" "list" "[J") (by decide +kernel)) (fun _ h9 => h9) rfl dX1_putAll_19 ?_
      refine lv_iload_n hx hb dX1_putAll_22 rfl (lv_at hl 3 rfl) ?_
      obtain ⟨hin, hj⟩ := ja_ix hj
      refine va_lald hx hb hK hP 3 1 rfl rfl hin dX1_putAll_23 ?_
      obtain ⟨⟨v702, v703, v704⟩, hc, hj⟩ := ja_bd hj
      try dsimp only at hj
      have hPc := hP.sub (ws' := (wC cJ b1 b0 bw bq bf w en pl cu li ld fb)) [0, 1, 2, 3, 4] rfl
      have hDc := hD.sub (ws' := (wC cJ b1 b0 bw bq bf w en pl cu li ld fb)) [0, 1, 2, 3, 4] (by decide) rfl
      have hFc := va_free (wc := (wC cJ b1 b0 bw bq bf w en pl cu li ld fb)) hD hS hA [0, 1, 2, 3, 4] rfl
      refine va_calli (va_runV (As := [.int x1, .int x2, .long (li x3.toNatClampNeg)]) (rest := []) ⟨hx, hb, hml, hown, hts⟩ (c_X1_appendIfRoom l dC dI cI cJ b1 b0 bw bq bf H.size w en pl cu li ld fb x1 x2 (li x3.toNatClampNeg) _ hc) (cwV 3 hts gX1_putAll_X1_appendIfRoom rfl rfl rfl (by decide +kernel) ⟨Nat.le_of_ble_eq_true rfl, Nat.le_of_ble_eq_true rfl⟩) ⟨fun a U g mk q => ⟨q.1, jPr.blind q.2.1, jNs.blind q.2.2⟩, va_recv hK hPc (ci := 1) (q0 := 0) rfl rfl, fun U hU hW => ⟨rfl, jPr.mk hU hW hPc hK hDc, jNs.warm hW hN⟩⟩ rfl rfl hl.1 rfl (lv_room (Nat.le_of_ble_eq_true rfl)) dX1_putAll_24 ⟨Nat.le_of_ble_eq_true rfl, Nat.le_of_ble_eq_true rfl⟩) hS (fun q _ h => hFc q h) hFc (fun rr u t H1 locs ht hvm hw9 hB hz1 hk1 hS => ?_)
      have hw8 : v702 = rr := hw9.symm
      subst hw8
      obtain ⟨hP1, hK1, hD1⟩ := hB
      rw [ht] at hP1
      obtain ⟨hP, hD⟩ := va_join (wr := ([] : va_W)) (w1 := (wC cJ b1 b0 bw bq bf v703 v704 pl cu li ld fb)) hP hD [0, 1, 2, 3, 4] [] rfl rfl (by decide) (by decide) hk1 hFc hP1 hD1
      clear hk1 hP1 hK1 hD1 hvm hz1 hPc hDc hFc
      generalize H1 = H at hP hS ⊢
      have hP : va_P (dC, dI) vwCl (wC cJ b1 b0 bw bq bf v703 v704 pl cu li ld fb) H := hP
      have hD : va_D A (wC cJ b1 b0 bw bq bf v703 v704 pl cu li ld fb) := hD
      refine lv_if_ne (tgt := 32) hx hb dX1_putAll_27 (by decide) (fun c705 => ?_) (fun c705 => ?_)
      · replace hj := ja_neg c705 hj
        refine lv_iinc (v := x3 + (1 : Int32)) (lv' := [(3, .int (x3 + (1 : Int32))), (0, .ref b1), (1, .int x1), (2, .int x2)]) hx hb dX1_putAll_32 hl (k := 3) rfl (congrArg (fun z => x3 + z) (by decide)) (by decide) rfl (fun ls hl => ?_)
        refine lv_goto (tgt := 7) hx hb dX1_putAll_35 (by decide) ?_
        exact ih (x3 + (1 : Int32)) v703 v704 _ hj _ _ _ (hP) (hD) hS (lv_sub hl [1, 2, 3, 0] rfl)
      · replace hj := ja_pos c705 hj
        refine lv_iload_n hx hb dX1_putAll_30 rfl (lv_at hl 3 rfl) ?_
        have hr9 : (x3, v703, v704) = r := Option.some.inj hj
        subst hr9
        exact W.iret (v := x3) hx hb hr (fun t ht hW => ⟨⟨x3, (), rfl, rfl, by rw [ht]; exact hP, va_K.moved hW.alike hK, hD⟩, hS.F ht⟩) hS.2.2 dX1_putAll_31
def j_X1_putAll (w : Nat → Int64) (en : Int32) (li : Nat → Int64) (ld : Int32) (fb : Nat → Int64) (a1 : Int32) (a2 : Int32) : Option (Option (Int32 × (Nat → Int64) × Int32)) :=
  jtry (j_X1_requireCode a1 a2) fun _ => ((jL_X1_putAll_7 li ld fb a1 a2 jF (0 : Int32) w en).bind fun q => some (some q))
set_option maxHeartbeats 4000000 in
set_option maxRecDepth 100000 in
theorem c_X1_putAll (l : Launch) (dC : Nat → ClassId) (dI : Nat → Nat → Nat) (cI cJ : ClassId) (b1 : Nat) (b0 : Nat) (bw : Nat) (bq : Nat) (bf : Nat) (sz : Nat) (w : Nat → Int64) (en : Int32) (pl : Int32) (cu : Int32) (li : Nat → Int64) (ld : Int32) (fb : Nat → Int64) (a1 : Int32) (a2 : Int32) (r : Int32 × (Nat → Int64) × Int32) (hj : j_X1_putAll w en li ld fb a1 a2 = some (some r)) : Met l yX1_putAll wsX1_putAll ({ frames := 7, cells := 0, slots := 0, locals := 166 } : Room) (va_Pc [.ref b1, .int a1, .int a2] (fun U => jPr dC dI cI cJ (wC cJ b1 b0 bw bq bf w en pl cu li ld fb) sz U ∧ jNs U)) (va_Qi (fun (v : Int32) (_ : Unit) => v = r.1) (fun (_ : Unit) t => jPo dC dI cI cJ (wC cJ b1 b0 bw bq bf r.2.1 r.2.2 pl cu li ld fb) (va_A (wC cJ b1 b0 bw bq bf w en pl cu li ld fb) sz) t) (va_A (wC cJ b1 b0 bw bq bf w en pl cu li ld fb) sz)) 0 0 (va_A (wC cJ b1 b0 bw bq bf w en pl cu li ld fb) sz) := by
  refine Met.ofW (cc := cX1_putAll) (maxL := 4) (ret := (some .int)) (by decide) rfl ?_
  intro p e s m args below meth c s₁ B hml hv
  obtain ⟨rfl, ⟨hsz, hP, hK, hD0⟩, hN⟩ := hv
  have hx := B.exec
  have hb := B.bytes
  have hr := B.returns
  have hts := atoms_spec (ws := wsX1_putAll) B.pre
  have hown : s.vm.findClass RX1 = some m.cls := findClass_of_methodNamed B.named
  have hlocks := B.notSynchronized
  have C0 := jCx.of hx hb hr hml hown hts hlocks
  subst hsz
  have hD := hD0.self (sz := s.heap.size)
  generalize hAe : va_A (wC cJ b1 b0 bw bq bf w en pl cu li ld fb) s.heap.size = A at hD ⊢
  have hA : ∀ q : Nat, s.heap.size ≤ q → A q := fun q h => by rw [← hAe]; exact Or.inr h
  have hS : va_S A s.heap s.heap [] := va_S.rf
  have hP : va_P (dC, dI) vwCl (wC cJ b1 b0 bw bq bf w en pl cu li ld fb) s.heap := hP
  have hl := lv_entry ([.ref b1, .int a1, .int a2]) (n := 4) (Nat.le_of_ble_eq_true rfl)
  rw [lg_entry_eq]
  generalize (lg_sl ([.ref b1, .int a1, .int a2]) ++ List.replicate (4 - (lg_sl ([.ref b1, .int a1, .int a2])).length) Slot.unset).toArray = ls at hl ⊢
  have hl : lv_has ls 4 [(0, .ref b1), (1, .int a1), (2, .int a2)] := hl
  clear hD0 hAe
  unfold j_X1_putAll at hj
  refine lv_iload_n hx hb dX1_putAll_0 rfl (lv_at hl 1 rfl) ?_
  refine lv_iload_n hx hb dX1_putAll_1 rfl (lv_at hl 2 rfl) ?_
  obtain ⟨⟨⟩, hc, hj⟩ := ja_try hj
  try dsimp only at hj
  have hPc := hP.sub (ws' := ([] : va_W)) [] rfl
  have hDc := hD.sub (ws' := ([] : va_W)) [] (by decide) rfl
  have hFc := va_free (wc := ([] : va_W)) hD hS hA [] rfl
  refine va_callv (va_runS (As := [.int a1, .int a2]) (rest := []) ⟨hx, hb, hml, hown, hts⟩ (c_X1_requireCode l dC dI cI cJ s.heap.size a1 a2 _ hc) (va_cwS 2 hts gX1_putAll_X1_requireCode rfl rfl rfl (by decide +kernel) ⟨Nat.le_of_ble_eq_true rfl, Nat.le_of_ble_eq_true rfl⟩) ⟨fun a U g mk q => ⟨q.1, jPr.blind q.2⟩, fun U hU hW => ⟨rfl, jPr.mk hU hW hPc hK hDc⟩⟩ rfl rfl hl.1 rfl (lv_room (Nat.le_of_ble_eq_true rfl)) dX1_putAll_2 ⟨Nat.le_of_ble_eq_true rfl, Nat.le_of_ble_eq_true rfl⟩) hS (fun q _ h => hFc q h) hFc (fun u t H1 locs ht hvm hw9 hB hz1 hk1 hS => ?_)
  obtain ⟨hP1, hK1, hD1⟩ := hB
  rw [ht] at hP1
  obtain ⟨hP, hD⟩ := va_join (wr := ([(b1, .inr (1, [.ref b0, .ref bq, .ref bf, .int ld])), (b0, .inr (0, [.ref bw, .int en, .int pl, .int cu])), (bw, .inl (cJ, 64, .inr (.inl w))), (bq, .inl (cJ, 100, .inr (.inl li))), (bf, .inl (cJ, 89, .inr (.inl fb)))] : va_W)) (w1 := ([] : va_W)) hP hD [] [0, 1, 2, 3, 4] rfl rfl (by decide) (by decide) hk1 hFc hP1 hD1
  clear hk1 hP1 hK1 hD1 hvm hz1 hPc hDc hFc
  generalize H1 = H at hP hS ⊢
  have hP : va_P (dC, dI) vwCl (wC cJ b1 b0 bw bq bf w en pl cu li ld fb) H := hP
  have hD : va_D A (wC cJ b1 b0 bw bq bf w en pl cu li ld fb) := hD
  refine lv_iconst (v := (0 : Int32)) hx hb dX1_putAll_5 (by decide) ?_
  refine lv_istore_n (lv' := [(3, .int (0 : Int32)), (0, .ref b1), (1, .int a1), (2, .int a2)]) hx hb dX1_putAll_6 rfl hl (by decide) rfl (fun ls hl => ?_)
  obtain ⟨q, hj, hq⟩ := ja_bd hj
  cases hq
  exact s_X1_putAll_7 C0 hK hA hN b1 b0 bw bq bf pl cu li ld fb a1 a2 jF (0 : Int32) w en _ hj _ _ _ (hP) (hD) hS (lv_sub hl [1, 2, 3, 0] rfl)
set_option maxHeartbeats 4000000 in
set_option maxRecDepth 100000 in
theorem x_X1_putAll (l : Launch) (hlt : l.stackTraces = false) (dC : Nat → ClassId) (dI : Nat → Nat → Nat) (cI cJ : ClassId) (b1 : Nat) (b0 : Nat) (bw : Nat) (bq : Nat) (bf : Nat) (sz : Nat) (w : Nat → Int64) (en : Int32) (pl : Int32) (cu : Int32) (li : Nat → Int64) (ld : Int32) (fb : Nat → Int64) (a1 : Int32) (a2 : Int32) (hj : j_X1_putAll w en li ld fb a1 a2 = some none) : vx_Met l yX1_putAll wsX1_putAll ({ frames := 7, cells := 1, slots := 6, locals := 166 } : Room) (va_Pc [.ref b1, .int a1, .int a2] (fun U => jPr dC dI cI cJ (wC cJ b1 b0 bw bq bf w en pl cu li ld fb) sz U ∧ jNs U ∧ jXs (va_A (wC cJ b1 b0 bw bq bf w en pl cu li ld fb) sz) U)) (va_Qi (fun (_ : Int32) (_ : Unit) => False) (fun _ _ => True) (va_A (wC cJ b1 b0 bw bq bf w en pl cu li ld fb) sz)) (vx_X (fun _ : Unit => True) (fun E _ t => E = "java/lang/IllegalArgumentException" ∧ jPo dC dI cI cJ (wC cJ b1 b0 bw bq bf w en pl cu li ld fb) (va_A (wC cJ b1 b0 bw bq bf w en pl cu li ld fb) sz) t) (va_A (wC cJ b1 b0 bw bq bf w en pl cu li ld fb) sz)) 1 6 (va_A (wC cJ b1 b0 bw bq bf w en pl cu li ld fb) sz) := by
  refine vx_ofW (cc := cX1_putAll) (maxL := 4) (ret := (some .int)) (by decide) rfl ?_
  intro p e s m args below meth c s₁ B hml htab hv
  obtain ⟨rfl, ⟨hsz, hP, hK, hD0⟩, hN, hXs⟩ := hv
  have hx := B.exec
  have hb := B.bytes
  have hr := B.returns
  have hts := atoms_spec (ws := wsX1_putAll) B.pre
  have hown : s.vm.findClass RX1 = some m.cls := findClass_of_methodNamed B.named
  have hlocks := B.notSynchronized
  have C0 := jCx.of hx hb hr hml hown hts hlocks
  subst hsz
  have hD := hD0.self (sz := s.heap.size)
  generalize hAe : va_A (wC cJ b1 b0 bw bq bf w en pl cu li ld fb) s.heap.size = A at hD hXs ⊢
  have hA : ∀ q : Nat, s.heap.size ≤ q → A q := fun q h => by rw [← hAe]; exact Or.inr h
  have hS : va_S A s.heap s.heap [] := va_S.rf
  have hP : va_P (dC, dI) vwCl (wC cJ b1 b0 bw bq bf w en pl cu li ld fb) s.heap := hP
  have hl := lv_entry ([.ref b1, .int a1, .int a2]) (n := 4) (Nat.le_of_ble_eq_true rfl)
  rw [lg_entry_eq]
  generalize (lg_sl ([.ref b1, .int a1, .int a2]) ++ List.replicate (4 - (lg_sl ([.ref b1, .int a1, .int a2])).length) Slot.unset).toArray = ls at hl ⊢
  have hl : lv_has ls 4 [(0, .ref b1), (1, .int a1), (2, .int a2)] := hl
  clear hD0 hAe
  unfold j_X1_putAll at hj
  refine lv_iload_n hx hb dX1_putAll_0 rfl (lv_at hl 1 rfl) ?_
  refine lv_iload_n hx hb dX1_putAll_1 rfl (lv_at hl 2 rfl) ?_
  rcases ja_tryx hj with hc | ⟨⟨⟩, hc, hj⟩
  · have hPc := hP.sub (ws' := ([] : va_W)) [] rfl
    have hDc := hD.sub (ws' := ([] : va_W)) [] (by decide) rfl
    have hFc := va_free (wc := ([] : va_W)) hD hS hA [] rfl
    refine vx_callv (vx_runS (As := [.int a1, .int a2]) (rest := []) ⟨hx, hb, hml, hown, hts⟩ (x_X1_requireCode l hlt dC dI cI cJ s.heap.size a1 a2 hc) (va_cwS 2 hts gX1_putAll_X1_requireCode rfl rfl rfl (by decide +kernel) ⟨Nat.le_of_ble_eq_true rfl, Nat.le_of_ble_eq_true rfl⟩) ⟨fun a U g mk q => ⟨q.1, jPr.blind q.2.1, jXs.blind q.2.2⟩, fun U hU hW => ⟨rfl, jPr.mk hU hW hPc hK hDc, jXs.down hU hW hS hFc hXs⟩⟩ rfl rfl hl.1 rfl (lv_room (Nat.le_of_ble_eq_true rfl)) dX1_putAll_2 ⟨Nat.le_of_ble_eq_true rfl, Nat.le_of_ble_eq_true rfl⟩) hS (fun q _ h => hFc q h) hFc (fun q _ h => hFc q h) (fun E ce q9 u t H1 locs1 ht hvm hpx hBX hz1 hk1 hS hce hcv hcl => ?_) (fun u t H1 locs1 ht hvm hw9 hB hz1 hk1 hS => hw9.elim)
    obtain ⟨rfl, hP1, hK1, hD1⟩ := hBX
    rw [ht] at hP1
    obtain ⟨hP, hD⟩ := va_join (wr := ([(b1, .inr (1, [.ref b0, .ref bq, .ref bf, .int ld])), (b0, .inr (0, [.ref bw, .int en, .int pl, .int cu])), (bw, .inl (cJ, 64, .inr (.inl w))), (bq, .inl (cJ, 100, .inr (.inl li))), (bf, .inl (cJ, 89, .inr (.inl fb)))] : va_W)) (w1 := ([] : va_W)) hP hD [] [0, 1, 2, 3, 4] rfl rfl (by decide) (by decide) hk1 hFc hP1 hD1
    exact vx_out (fun x hx9 => (htab x hx9).elim) hlocks hce hcv hcl (fun t2 ht2 hal => ⟨(), trivial, ⟨rfl, by rw [ht2]; exact hP, va_K.moved hal hK, hD⟩, hS.F ht2⟩) hS.2.2 (by decide) (by decide)
  · try dsimp only at hj
    have hPc := hP.sub (ws' := ([] : va_W)) [] rfl
    have hDc := hD.sub (ws' := ([] : va_W)) [] (by decide) rfl
    have hFc := va_free (wc := ([] : va_W)) hD hS hA [] rfl
    refine va_callv (va_runS (As := [.int a1, .int a2]) (rest := []) ⟨hx, hb, hml, hown, hts⟩ (c_X1_requireCode l dC dI cI cJ s.heap.size a1 a2 _ hc) (va_cwS 2 hts gX1_putAll_X1_requireCode rfl rfl rfl (by decide +kernel) ⟨Nat.le_of_ble_eq_true rfl, Nat.le_of_ble_eq_true rfl⟩) ⟨fun a U g mk q => ⟨q.1, jPr.blind q.2⟩, fun U hU hW => ⟨rfl, jPr.mk hU hW hPc hK hDc⟩⟩ rfl rfl hl.1 rfl (lv_room (Nat.le_of_ble_eq_true rfl)) dX1_putAll_2 ⟨Nat.le_of_ble_eq_true rfl, Nat.le_of_ble_eq_true rfl⟩) hS (fun q _ h => hFc q h) hFc (fun u t H1 locs ht hvm hw9 hB hz1 hk1 hS => ?_)
    obtain ⟨hP1, hK1, hD1⟩ := hB
    rw [ht] at hP1
    obtain ⟨hP, hD⟩ := va_join (wr := ([(b1, .inr (1, [.ref b0, .ref bq, .ref bf, .int ld])), (b0, .inr (0, [.ref bw, .int en, .int pl, .int cu])), (bw, .inl (cJ, 64, .inr (.inl w))), (bq, .inl (cJ, 100, .inr (.inl li))), (bf, .inl (cJ, 89, .inr (.inl fb)))] : va_W)) (w1 := ([] : va_W)) hP hD [] [0, 1, 2, 3, 4] rfl rfl (by decide) (by decide) hk1 hFc hP1 hD1
    clear hk1 hP1 hK1 hD1 hvm hz1 hPc hDc hFc
    generalize H1 = H at hP hS ⊢
    have hP : va_P (dC, dI) vwCl (wC cJ b1 b0 bw bq bf w en pl cu li ld fb) H := hP
    have hD : va_D A (wC cJ b1 b0 bw bq bf w en pl cu li ld fb) := hD
    refine lv_iconst (v := (0 : Int32)) hx hb dX1_putAll_5 (by decide) ?_
    refine lv_istore_n (lv' := [(3, .int (0 : Int32)), (0, .ref b1), (1, .int a1), (2, .int a2)]) hx hb dX1_putAll_6 rfl hl (by decide) rfl (fun ls hl => ?_)
    obtain ⟨q, hj, hq⟩ := ja_bd hj
    cases hq

set_option maxRecDepth 100000 in
theorem inn_X1_seek_X0 : ∀ w ∈ u_ws RX0 TX0 4, w ∈ wsX1_seek := by decide +kernel
set_option maxRecDepth 100000 in
theorem inn_X1_seek_X1 : ∀ w ∈ u_ws RX1 TX1 4, w ∈ wsX1_seek := by decide +kernel
def j_X1_seek (en : Int32) (pl : Int32) (a1 : Int32) : Option (Option (Int32)) :=
  if a1 < (0 : Int32) then (some none) else (if a1 ≤ en then (some (some a1)) else (some none))
set_option maxHeartbeats 4000000 in
set_option maxRecDepth 100000 in
theorem c_X1_seek (l : Launch) (dC : Nat → ClassId) (dI : Nat → Nat → Nat) (cI cJ : ClassId) (b1 : Nat) (b0 : Nat) (bw : Nat) (bq : Nat) (bf : Nat) (sz : Nat) (w : Nat → Int64) (en : Int32) (pl : Int32) (cu : Int32) (li : Nat → Int64) (ld : Int32) (fb : Nat → Int64) (a1 : Int32) (r : Int32) (hj : j_X1_seek en pl a1 = some (some r)) : Met l yX1_seek wsX1_seek ({ frames := 0, cells := 0, slots := 0, locals := 0 } : Room) (va_Pc [.ref b1, .int a1] (fun U => jPr dC dI cI cJ (wC cJ b1 b0 bw bq bf w en pl cu li ld fb) sz U ∧ jNs U)) (va_Qv (fun _ : Unit => True) (fun (_ : Unit) t => jPo dC dI cI cJ (wC cJ b1 b0 bw bq bf w en r cu li ld fb) (va_A (wC cJ b1 b0 bw bq bf w en pl cu li ld fb) sz) t) (va_A (wC cJ b1 b0 bw bq bf w en pl cu li ld fb) sz)) 0 0 (va_A (wC cJ b1 b0 bw bq bf w en pl cu li ld fb) sz) := by
  refine Met.ofW (cc := cX1_seek) (maxL := 2) (ret := none) (by decide) rfl ?_
  intro p e s m args below meth c s₁ B hml hv
  obtain ⟨rfl, ⟨hsz, hP, hK, hD0⟩, hN⟩ := hv
  have hx := B.exec
  have hb := B.bytes
  have hr := B.returns
  have hts := atoms_spec (ws := wsX1_seek) B.pre
  have hown : s.vm.findClass RX1 = some m.cls := findClass_of_methodNamed B.named
  have hlocks := B.notSynchronized
  have C0 := jCx.of hx hb hr hml hown hts hlocks
  subst hsz
  have hD := hD0.self (sz := s.heap.size)
  generalize hAe : va_A (wC cJ b1 b0 bw bq bf w en pl cu li ld fb) s.heap.size = A at hD ⊢
  have hA : ∀ q : Nat, s.heap.size ≤ q → A q := fun q h => by rw [← hAe]; exact Or.inr h
  have hS : va_S A s.heap s.heap [] := va_S.rf
  have hP : va_P (dC, dI) vwCl (wC cJ b1 b0 bw bq bf w en pl cu li ld fb) s.heap := hP
  have hl := lv_entry ([.ref b1, .int a1]) (n := 2) (Nat.le_of_ble_eq_true rfl)
  rw [lg_entry_eq]
  generalize (lg_sl ([.ref b1, .int a1]) ++ List.replicate (2 - (lg_sl ([.ref b1, .int a1])).length) Slot.unset).toArray = ls at hl ⊢
  have hl : lv_has ls 2 [(0, .ref b1), (1, .int a1)] := hl
  clear hD0 hAe
  unfold j_X1_seek at hj
  refine lv_iload_n hx hb dX1_seek_0 rfl (lv_at hl 1 rfl) ?_
  refine lv_if_lt (tgt := 15) hx hb dX1_seek_1 (by decide) (fun c1 => ?_) (fun c1 => ?_)
  · replace hj := ja_pos c1 hj
    cases hj
  · replace hj := ja_neg c1 hj
    refine lv_iload_n hx hb dX1_seek_4 rfl (lv_at hl 1 rfl) ?_
    refine lv_aload_n hx hb dX1_seek_5 rfl (lv_at hl 0 rfl) ?_
    refine va_get (D := (dC, dI)) (ci := 1) (v := .ref b0) (C := RX1) (T := TX1) (N := 4) hx hb hts inn_X1_seek_X1 hown hK hP 0 rfl rfl 0 (by decide) (hts (.fieldLink RX1 12 "SelfEndingCodes" "row" "LSelfEndingCodes$BitRow;") (by decide +kernel)) (fun _ h9 => h9) rfl dX1_seek_6 ?_
    refine va_getN (D := (dC, dI)) (ci := 0) (v := .int en) (C := RX0) (T := TX0) (N := 4) hx hb hts inn_X1_seek_X0 hown hK hP 1 rfl rfl 1 (by decide) (va_Nw.use rfl hN.1) (fun _ h9 => h9) rfl dX1_seek_9 ?_
    refine lv_icmp_le (tgt := 25) hx hb dX1_seek_12 (by decide) (fun c2 => ?_) (fun c2 => ?_)
    · replace hj := ja_pos c2 hj
      refine lv_aload_n hx hb dX1_seek_25 rfl (lv_at hl 0 rfl) ?_
      refine va_get (D := (dC, dI)) (ci := 1) (v := .ref b0) (C := RX1) (T := TX1) (N := 4) hx hb hts inn_X1_seek_X1 hown hK hP 0 rfl rfl 0 (by decide) (hts (.fieldLink RX1 12 "SelfEndingCodes" "row" "LSelfEndingCodes$BitRow;") (by decide +kernel)) (fun _ h9 => h9) rfl dX1_seek_26 ?_
      refine lv_iload_n hx hb dX1_seek_29 rfl (lv_at hl 1 rfl) ?_
      refine va_putN (D := (dC, dI)) (ci := 0) (v := .int a1) (ty := .int) (C := RX0) (T := TX0) (N := 4) hx hb hts inn_X1_seek_X0 tyX0 tyX0_ok nmX0 hown hK hP hD hS 1 rfl rfl 2 (by decide) (va_Nw.use rfl hN.2.1) (fun _ h9 => h9) rfl (by decide +kernel) rfl rfl (Nat.le_of_ble_eq_true rfl) dX1_seek_30 (fun H locs hP hD hS => ?_)
      have hP : va_P (dC, dI) vwCl (wC cJ b1 b0 bw bq bf w en a1 cu li ld fb) H := hP
      have hD : va_D A (wC cJ b1 b0 bw bq bf w en a1 cu li ld fb) := hD
      have hr9 : a1 = r := Option.some.inj (Option.some.inj hj)
      subst hr9
      exact W.vret hx hb hr (fun t ht hW => ⟨⟨(), rfl, trivial, by rw [ht]; exact hP, va_K.moved hW.alike hK, hD⟩, hS.F ht⟩) hS.2.2 dX1_seek_33
    · replace hj := ja_neg c2 hj
      cases hj
theorem xw_X1_seek_B {args : Array Value} {s : State} (hts : ∀ w ∈ wsX1_seek, w.before args s = true) : ∀ w ∈ (vx_atS RX1 78 "java/lang/IndexOutOfBoundsException" ["java/lang/RuntimeException", "java/lang/Exception"]).filter goodWord, w.before args s = true := fun w h => hts w (List.mem_cons_of_mem _ (List.mem_append_right _ h))
theorem xg_X1_seek_B : ∀ w ∈ Cond.classLink RX1 74 "java/lang/IndexOutOfBoundsException" :: Cond.initialized "java/lang/IndexOutOfBoundsException" :: (vx_atS RX1 78 "java/lang/IndexOutOfBoundsException" ["java/lang/RuntimeException", "java/lang/Exception"]), vx_ot w = true := by decide +kernel
set_option maxHeartbeats 4000000 in
set_option maxRecDepth 100000 in
theorem x_X1_seek (l : Launch) (hlt : l.stackTraces = false) (dC : Nat → ClassId) (dI : Nat → Nat → Nat) (cI cJ : ClassId) (b1 : Nat) (b0 : Nat) (bw : Nat) (bq : Nat) (bf : Nat) (sz : Nat) (w : Nat → Int64) (en : Int32) (pl : Int32) (cu : Int32) (li : Nat → Int64) (ld : Int32) (fb : Nat → Int64) (a1 : Int32) (hj : j_X1_seek en pl a1 = some none) : vx_Met l yX1_seek wsX1_seek ({ frames := 6, cells := 1, slots := 6, locals := 82 } : Room) (va_Pc [.ref b1, .int a1] (fun U => jPr dC dI cI cJ (wC cJ b1 b0 bw bq bf w en pl cu li ld fb) sz U ∧ jNs U ∧ jXs (va_A (wC cJ b1 b0 bw bq bf w en pl cu li ld fb) sz) U)) (va_Qv (fun _ : Unit => False) (fun _ _ => True) (va_A (wC cJ b1 b0 bw bq bf w en pl cu li ld fb) sz)) (vx_X (fun _ : Unit => True) (fun E _ t => E = "java/lang/IndexOutOfBoundsException" ∧ jPo dC dI cI cJ (wC cJ b1 b0 bw bq bf w en pl cu li ld fb) (va_A (wC cJ b1 b0 bw bq bf w en pl cu li ld fb) sz) t) (va_A (wC cJ b1 b0 bw bq bf w en pl cu li ld fb) sz)) 1 6 (va_A (wC cJ b1 b0 bw bq bf w en pl cu li ld fb) sz) := by
  refine vx_ofW (cc := cX1_seek) (maxL := 2) (ret := none) (by decide) rfl ?_
  intro p e s m args below meth c s₁ B hml htab hv
  obtain ⟨rfl, ⟨hsz, hP, hK, hD0⟩, hN, hXs⟩ := hv
  have hx := B.exec
  have hb := B.bytes
  have hr := B.returns
  have hts := atoms_spec (ws := wsX1_seek) B.pre
  have hown : s.vm.findClass RX1 = some m.cls := findClass_of_methodNamed B.named
  have hlocks := B.notSynchronized
  have C0 := jCx.of hx hb hr hml hown hts hlocks
  subst hsz
  have hD := hD0.self (sz := s.heap.size)
  generalize hAe : va_A (wC cJ b1 b0 bw bq bf w en pl cu li ld fb) s.heap.size = A at hD hXs ⊢
  have hA : ∀ q : Nat, s.heap.size ≤ q → A q := fun q h => by rw [← hAe]; exact Or.inr h
  have hS : va_S A s.heap s.heap [] := va_S.rf
  have hP : va_P (dC, dI) vwCl (wC cJ b1 b0 bw bq bf w en pl cu li ld fb) s.heap := hP
  have hl := lv_entry ([.ref b1, .int a1]) (n := 2) (Nat.le_of_ble_eq_true rfl)
  rw [lg_entry_eq]
  generalize (lg_sl ([.ref b1, .int a1]) ++ List.replicate (2 - (lg_sl ([.ref b1, .int a1])).length) Slot.unset).toArray = ls at hl ⊢
  have hl : lv_has ls 2 [(0, .ref b1), (1, .int a1)] := hl
  clear hD0 hAe
  unfold j_X1_seek at hj
  refine lv_iload_n hx hb dX1_seek_0 rfl (lv_at hl 1 rfl) ?_
  refine lv_if_lt (tgt := 15) hx hb dX1_seek_1 (by decide) (fun c1 => ?_) (fun c1 => ?_)
  · replace hj := ja_pos c1 hj
    obtain ⟨sa, hst⟩ := hXs.str1
    exact vx_throwS (XC := _) (text := "the row has no such place") hx hb hlt hown (by decide +kernel) (by decide +kernel) (hts (.classLink RX1 74 "java/lang/IndexOutOfBoundsException") (by decide +kernel)) (hts (.initialized "java/lang/IndexOutOfBoundsException") (by decide +kernel)) hst (vx_hat (B := jWB) (xw_X1_seek_B hts) (by decide +kernel) (hXs.wB _)) xg_X1_seek_B hXs.1 hXs.2.1 hS (hl.1.trans hml.symm) dX1_seek_15 dX1_seek_18 dX1_seek_19 dX1_seek_21 dX1_seek_24 (fun x hx9 => (htab x hx9).elim) (by decide) (by decide) (by decide) (by decide) hlocks (fun t hal hz hk => ⟨(), trivial, ⟨rfl, jP_keep hP hk, va_K.moved hal hK, hD⟩, jF_keep hS hz hk⟩) hS.2.2 (by decide) (by decide)
  · replace hj := ja_neg c1 hj
    refine lv_iload_n hx hb dX1_seek_4 rfl (lv_at hl 1 rfl) ?_
    refine lv_aload_n hx hb dX1_seek_5 rfl (lv_at hl 0 rfl) ?_
    refine va_get (D := (dC, dI)) (ci := 1) (v := .ref b0) (C := RX1) (T := TX1) (N := 4) hx hb hts inn_X1_seek_X1 hown hK hP 0 rfl rfl 0 (by decide) (hts (.fieldLink RX1 12 "SelfEndingCodes" "row" "LSelfEndingCodes$BitRow;") (by decide +kernel)) (fun _ h9 => h9) rfl dX1_seek_6 ?_
    refine va_getN (D := (dC, dI)) (ci := 0) (v := .int en) (C := RX0) (T := TX0) (N := 4) hx hb hts inn_X1_seek_X0 hown hK hP 1 rfl rfl 1 (by decide) (va_Nw.use rfl hN.1) (fun _ h9 => h9) rfl dX1_seek_9 ?_
    refine lv_icmp_le (tgt := 25) hx hb dX1_seek_12 (by decide) (fun c2 => ?_) (fun c2 => ?_)
    · replace hj := ja_pos c2 hj
      refine lv_aload_n hx hb dX1_seek_25 rfl (lv_at hl 0 rfl) ?_
      refine va_get (D := (dC, dI)) (ci := 1) (v := .ref b0) (C := RX1) (T := TX1) (N := 4) hx hb hts inn_X1_seek_X1 hown hK hP 0 rfl rfl 0 (by decide) (hts (.fieldLink RX1 12 "SelfEndingCodes" "row" "LSelfEndingCodes$BitRow;") (by decide +kernel)) (fun _ h9 => h9) rfl dX1_seek_26 ?_
      refine lv_iload_n hx hb dX1_seek_29 rfl (lv_at hl 1 rfl) ?_
      refine va_putN (D := (dC, dI)) (ci := 0) (v := .int a1) (ty := .int) (C := RX0) (T := TX0) (N := 4) hx hb hts inn_X1_seek_X0 tyX0 tyX0_ok nmX0 hown hK hP hD hS 1 rfl rfl 2 (by decide) (va_Nw.use rfl hN.2.1) (fun _ h9 => h9) rfl (by decide +kernel) rfl rfl (Nat.le_of_ble_eq_true rfl) dX1_seek_30 (fun H locs hP hD hS => ?_)
      have hP : va_P (dC, dI) vwCl (wC cJ b1 b0 bw bq bf w en a1 cu li ld fb) H := hP
      have hD : va_D A (wC cJ b1 b0 bw bq bf w en a1 cu li ld fb) := hD
      cases hj
    · replace hj := ja_neg c2 hj
      obtain ⟨sa, hst⟩ := hXs.str1
      exact vx_throwS (XC := _) (text := "the row has no such place") hx hb hlt hown (by decide +kernel) (by decide +kernel) (hts (.classLink RX1 74 "java/lang/IndexOutOfBoundsException") (by decide +kernel)) (hts (.initialized "java/lang/IndexOutOfBoundsException") (by decide +kernel)) hst (vx_hat (B := jWB) (xw_X1_seek_B hts) (by decide +kernel) (hXs.wB _)) xg_X1_seek_B hXs.1 hXs.2.1 hS (hl.1.trans hml.symm) dX1_seek_15 dX1_seek_18 dX1_seek_19 dX1_seek_21 dX1_seek_24 (fun x hx9 => (htab x hx9).elim) (by decide) (by decide) (by decide) (by decide) hlocks (fun t hal hz hk => ⟨(), trivial, ⟨rfl, jP_keep hP hk, va_K.moved hal hK, hD⟩, jF_keep hS hz hk⟩) hS.2.2 (by decide) (by decide)

def j_X1_take (w : Nat → Int64) (en : Int32) (pl : Int32) (cu : Int32) (fb : Nat → Int64) (a1 : Int32) (a2 : Int32) : Option (Option (Int64 × Int32 × Int32)) :=
  jtry (j_X1_requireCode a1 a2) fun _ => ((j_X1_readNext w en pl cu fb a1 a2).bind fun (v1, v2, v3) => (some (some (v1, v2, v3))))
set_option maxHeartbeats 4000000 in
set_option maxRecDepth 100000 in
theorem c_X1_take (l : Launch) (dC : Nat → ClassId) (dI : Nat → Nat → Nat) (cI cJ : ClassId) (b1 : Nat) (b0 : Nat) (bw : Nat) (bq : Nat) (bf : Nat) (sz : Nat) (w : Nat → Int64) (en : Int32) (pl : Int32) (cu : Int32) (li : Nat → Int64) (ld : Int32) (fb : Nat → Int64) (a1 : Int32) (a2 : Int32) (r : Int64 × Int32 × Int32) (hj : j_X1_take w en pl cu fb a1 a2 = some (some r)) : Met l yX1_take wsX1_take ({ frames := 7, cells := 0, slots := 0, locals := 158 } : Room) (va_Pc [.ref b1, .int a1, .int a2] (fun U => jPr dC dI cI cJ (wC cJ b1 b0 bw bq bf w en pl cu li ld fb) sz U ∧ jNs U)) (va_Ql (fun (v : Int64) (_ : Unit) => v = r.1) (fun (_ : Unit) t => jPo dC dI cI cJ (wC cJ b1 b0 bw bq bf w en r.2.1 r.2.2 li ld fb) (va_A (wC cJ b1 b0 bw bq bf w en pl cu li ld fb) sz) t) (va_A (wC cJ b1 b0 bw bq bf w en pl cu li ld fb) sz)) 0 0 (va_A (wC cJ b1 b0 bw bq bf w en pl cu li ld fb) sz) := by
  refine Met.ofW (cc := cX1_take) (maxL := 3) (ret := (some .long)) (by decide) rfl ?_
  intro p e s m args below meth c s₁ B hml hv
  obtain ⟨rfl, ⟨hsz, hP, hK, hD0⟩, hN⟩ := hv
  have hx := B.exec
  have hb := B.bytes
  have hr := B.returns
  have hts := atoms_spec (ws := wsX1_take) B.pre
  have hown : s.vm.findClass RX1 = some m.cls := findClass_of_methodNamed B.named
  have hlocks := B.notSynchronized
  have C0 := jCx.of hx hb hr hml hown hts hlocks
  subst hsz
  have hD := hD0.self (sz := s.heap.size)
  generalize hAe : va_A (wC cJ b1 b0 bw bq bf w en pl cu li ld fb) s.heap.size = A at hD ⊢
  have hA : ∀ q : Nat, s.heap.size ≤ q → A q := fun q h => by rw [← hAe]; exact Or.inr h
  have hS : va_S A s.heap s.heap [] := va_S.rf
  have hP : va_P (dC, dI) vwCl (wC cJ b1 b0 bw bq bf w en pl cu li ld fb) s.heap := hP
  have hl := lv_entry ([.ref b1, .int a1, .int a2]) (n := 3) (Nat.le_of_ble_eq_true rfl)
  rw [lg_entry_eq]
  generalize (lg_sl ([.ref b1, .int a1, .int a2]) ++ List.replicate (3 - (lg_sl ([.ref b1, .int a1, .int a2])).length) Slot.unset).toArray = ls at hl ⊢
  have hl : lv_has ls 3 [(0, .ref b1), (1, .int a1), (2, .int a2)] := hl
  clear hD0 hAe
  unfold j_X1_take at hj
  refine lv_iload_n hx hb dX1_take_0 rfl (lv_at hl 1 rfl) ?_
  refine lv_iload_n hx hb dX1_take_1 rfl (lv_at hl 2 rfl) ?_
  obtain ⟨⟨⟩, hc, hj⟩ := ja_try hj
  try dsimp only at hj
  have hPc := hP.sub (ws' := ([] : va_W)) [] rfl
  have hDc := hD.sub (ws' := ([] : va_W)) [] (by decide) rfl
  have hFc := va_free (wc := ([] : va_W)) hD hS hA [] rfl
  refine va_callv (va_runS (As := [.int a1, .int a2]) (rest := []) ⟨hx, hb, hml, hown, hts⟩ (c_X1_requireCode l dC dI cI cJ s.heap.size a1 a2 _ hc) (va_cwS 2 hts gX1_take_X1_requireCode rfl rfl rfl (by decide +kernel) ⟨Nat.le_of_ble_eq_true rfl, Nat.le_of_ble_eq_true rfl⟩) ⟨fun a U g mk q => ⟨q.1, jPr.blind q.2⟩, fun U hU hW => ⟨rfl, jPr.mk hU hW hPc hK hDc⟩⟩ rfl rfl hl.1 rfl (lv_room (Nat.le_of_ble_eq_true rfl)) dX1_take_2 ⟨Nat.le_of_ble_eq_true rfl, Nat.le_of_ble_eq_true rfl⟩) hS (fun q _ h => hFc q h) hFc (fun u t H1 locs ht hvm hw9 hB hz1 hk1 hS => ?_)
  obtain ⟨hP1, hK1, hD1⟩ := hB
  rw [ht] at hP1
  obtain ⟨hP, hD⟩ := va_join (wr := ([(b1, .inr (1, [.ref b0, .ref bq, .ref bf, .int ld])), (b0, .inr (0, [.ref bw, .int en, .int pl, .int cu])), (bw, .inl (cJ, 64, .inr (.inl w))), (bq, .inl (cJ, 100, .inr (.inl li))), (bf, .inl (cJ, 89, .inr (.inl fb)))] : va_W)) (w1 := ([] : va_W)) hP hD [] [0, 1, 2, 3, 4] rfl rfl (by decide) (by decide) hk1 hFc hP1 hD1
  clear hk1 hP1 hK1 hD1 hvm hz1 hPc hDc hFc
  generalize H1 = H at hP hS ⊢
  have hP : va_P (dC, dI) vwCl (wC cJ b1 b0 bw bq bf w en pl cu li ld fb) H := hP
  have hD : va_D A (wC cJ b1 b0 bw bq bf w en pl cu li ld fb) := hD
  refine lv_aload_n hx hb dX1_take_5 rfl (lv_at hl 0 rfl) ?_
  refine lv_iload_n hx hb dX1_take_6 rfl (lv_at hl 1 rfl) ?_
  refine lv_iload_n hx hb dX1_take_7 rfl (lv_at hl 2 rfl) ?_
  obtain ⟨⟨v1, v2, v3⟩, hc, hj⟩ := ja_bd hj
  try dsimp only at hj
  have hPc := hP.sub (ws' := (wC cJ b1 b0 bw bq bf w en pl cu li ld fb)) [0, 1, 2, 3, 4] rfl
  have hDc := hD.sub (ws' := (wC cJ b1 b0 bw bq bf w en pl cu li ld fb)) [0, 1, 2, 3, 4] (by decide) rfl
  have hFc := va_free (wc := (wC cJ b1 b0 bw bq bf w en pl cu li ld fb)) hD hS hA [0, 1, 2, 3, 4] rfl
  refine va_calll (va_runV (As := [.int a1, .int a2]) (rest := []) ⟨hx, hb, hml, hown, hts⟩ (c_X1_readNext l dC dI cI cJ b1 b0 bw bq bf H.size w en pl cu li ld fb a1 a2 _ hc) (cwV 2 hts gX1_take_X1_readNext rfl rfl rfl (by decide +kernel) ⟨Nat.le_of_ble_eq_true rfl, Nat.le_of_ble_eq_true rfl⟩) ⟨fun a U g mk q => ⟨q.1, jPr.blind q.2.1, jNs.blind q.2.2⟩, va_recv hK hPc (ci := 1) (q0 := 0) rfl rfl, fun U hU hW => ⟨rfl, jPr.mk hU hW hPc hK hDc, jNs.warm hW hN⟩⟩ rfl rfl hl.1 rfl (lv_room (Nat.le_of_ble_eq_true rfl)) dX1_take_8 ⟨Nat.le_of_ble_eq_true rfl, Nat.le_of_ble_eq_true rfl⟩) hS (fun q _ h => hFc q h) hFc (fun rr u t H1 locs ht hvm hw9 hB hz1 hk1 hS => ?_)
  have hw8 : v1 = rr := hw9.symm
  subst hw8
  obtain ⟨hP1, hK1, hD1⟩ := hB
  rw [ht] at hP1
  obtain ⟨hP, hD⟩ := va_join (wr := ([] : va_W)) (w1 := (wC cJ b1 b0 bw bq bf w en v2 v3 li ld fb)) hP hD [0, 1, 2, 3, 4] [] rfl rfl (by decide) (by decide) hk1 hFc hP1 hD1
  clear hk1 hP1 hK1 hD1 hvm hz1 hPc hDc hFc
  generalize H1 = H at hP hS ⊢
  have hP : va_P (dC, dI) vwCl (wC cJ b1 b0 bw bq bf w en v2 v3 li ld fb) H := hP
  have hD : va_D A (wC cJ b1 b0 bw bq bf w en v2 v3 li ld fb) := hD
  have hr9 : (v1, v2, v3) = r := Option.some.inj (Option.some.inj hj)
  subst hr9
  exact W.lret (v := v1) hx hb hr (fun t ht hW => ⟨⟨v1, (), rfl, rfl, by rw [ht]; exact hP, va_K.moved hW.alike hK, hD⟩, hS.F ht⟩) hS.2.2 dX1_take_11
set_option maxHeartbeats 4000000 in
set_option maxRecDepth 100000 in
theorem x_X1_take (l : Launch) (hlt : l.stackTraces = false) (dC : Nat → ClassId) (dI : Nat → Nat → Nat) (cI cJ : ClassId) (b1 : Nat) (b0 : Nat) (bw : Nat) (bq : Nat) (bf : Nat) (sz : Nat) (w : Nat → Int64) (en : Int32) (pl : Int32) (cu : Int32) (li : Nat → Int64) (ld : Int32) (fb : Nat → Int64) (a1 : Int32) (a2 : Int32) (hj : j_X1_take w en pl cu fb a1 a2 = some none) : vx_Met l yX1_take wsX1_take ({ frames := 7, cells := 1, slots := 6, locals := 158 } : Room) (va_Pc [.ref b1, .int a1, .int a2] (fun U => jPr dC dI cI cJ (wC cJ b1 b0 bw bq bf w en pl cu li ld fb) sz U ∧ jNs U ∧ jXs (va_A (wC cJ b1 b0 bw bq bf w en pl cu li ld fb) sz) U)) (va_Ql (fun (_ : Int64) (_ : Unit) => False) (fun _ _ => True) (va_A (wC cJ b1 b0 bw bq bf w en pl cu li ld fb) sz)) (vx_X (fun _ : Unit => True) (fun E _ t => E = "java/lang/IllegalArgumentException" ∧ jPo dC dI cI cJ (wC cJ b1 b0 bw bq bf w en pl cu li ld fb) (va_A (wC cJ b1 b0 bw bq bf w en pl cu li ld fb) sz) t) (va_A (wC cJ b1 b0 bw bq bf w en pl cu li ld fb) sz)) 1 6 (va_A (wC cJ b1 b0 bw bq bf w en pl cu li ld fb) sz) := by
  refine vx_ofW (cc := cX1_take) (maxL := 3) (ret := (some .long)) (by decide) rfl ?_
  intro p e s m args below meth c s₁ B hml htab hv
  obtain ⟨rfl, ⟨hsz, hP, hK, hD0⟩, hN, hXs⟩ := hv
  have hx := B.exec
  have hb := B.bytes
  have hr := B.returns
  have hts := atoms_spec (ws := wsX1_take) B.pre
  have hown : s.vm.findClass RX1 = some m.cls := findClass_of_methodNamed B.named
  have hlocks := B.notSynchronized
  have C0 := jCx.of hx hb hr hml hown hts hlocks
  subst hsz
  have hD := hD0.self (sz := s.heap.size)
  generalize hAe : va_A (wC cJ b1 b0 bw bq bf w en pl cu li ld fb) s.heap.size = A at hD hXs ⊢
  have hA : ∀ q : Nat, s.heap.size ≤ q → A q := fun q h => by rw [← hAe]; exact Or.inr h
  have hS : va_S A s.heap s.heap [] := va_S.rf
  have hP : va_P (dC, dI) vwCl (wC cJ b1 b0 bw bq bf w en pl cu li ld fb) s.heap := hP
  have hl := lv_entry ([.ref b1, .int a1, .int a2]) (n := 3) (Nat.le_of_ble_eq_true rfl)
  rw [lg_entry_eq]
  generalize (lg_sl ([.ref b1, .int a1, .int a2]) ++ List.replicate (3 - (lg_sl ([.ref b1, .int a1, .int a2])).length) Slot.unset).toArray = ls at hl ⊢
  have hl : lv_has ls 3 [(0, .ref b1), (1, .int a1), (2, .int a2)] := hl
  clear hD0 hAe
  unfold j_X1_take at hj
  refine lv_iload_n hx hb dX1_take_0 rfl (lv_at hl 1 rfl) ?_
  refine lv_iload_n hx hb dX1_take_1 rfl (lv_at hl 2 rfl) ?_
  rcases ja_tryx hj with hc | ⟨⟨⟩, hc, hj⟩
  · have hPc := hP.sub (ws' := ([] : va_W)) [] rfl
    have hDc := hD.sub (ws' := ([] : va_W)) [] (by decide) rfl
    have hFc := va_free (wc := ([] : va_W)) hD hS hA [] rfl
    refine vx_callv (vx_runS (As := [.int a1, .int a2]) (rest := []) ⟨hx, hb, hml, hown, hts⟩ (x_X1_requireCode l hlt dC dI cI cJ s.heap.size a1 a2 hc) (va_cwS 2 hts gX1_take_X1_requireCode rfl rfl rfl (by decide +kernel) ⟨Nat.le_of_ble_eq_true rfl, Nat.le_of_ble_eq_true rfl⟩) ⟨fun a U g mk q => ⟨q.1, jPr.blind q.2.1, jXs.blind q.2.2⟩, fun U hU hW => ⟨rfl, jPr.mk hU hW hPc hK hDc, jXs.down hU hW hS hFc hXs⟩⟩ rfl rfl hl.1 rfl (lv_room (Nat.le_of_ble_eq_true rfl)) dX1_take_2 ⟨Nat.le_of_ble_eq_true rfl, Nat.le_of_ble_eq_true rfl⟩) hS (fun q _ h => hFc q h) hFc (fun q _ h => hFc q h) (fun E ce q9 u t H1 locs1 ht hvm hpx hBX hz1 hk1 hS hce hcv hcl => ?_) (fun u t H1 locs1 ht hvm hw9 hB hz1 hk1 hS => hw9.elim)
    obtain ⟨rfl, hP1, hK1, hD1⟩ := hBX
    rw [ht] at hP1
    obtain ⟨hP, hD⟩ := va_join (wr := ([(b1, .inr (1, [.ref b0, .ref bq, .ref bf, .int ld])), (b0, .inr (0, [.ref bw, .int en, .int pl, .int cu])), (bw, .inl (cJ, 64, .inr (.inl w))), (bq, .inl (cJ, 100, .inr (.inl li))), (bf, .inl (cJ, 89, .inr (.inl fb)))] : va_W)) (w1 := ([] : va_W)) hP hD [] [0, 1, 2, 3, 4] rfl rfl (by decide) (by decide) hk1 hFc hP1 hD1
    exact vx_out (fun x hx9 => (htab x hx9).elim) hlocks hce hcv hcl (fun t2 ht2 hal => ⟨(), trivial, ⟨rfl, by rw [ht2]; exact hP, va_K.moved hal hK, hD⟩, hS.F ht2⟩) hS.2.2 (by decide) (by decide)
  · try dsimp only at hj
    have hPc := hP.sub (ws' := ([] : va_W)) [] rfl
    have hDc := hD.sub (ws' := ([] : va_W)) [] (by decide) rfl
    have hFc := va_free (wc := ([] : va_W)) hD hS hA [] rfl
    refine va_callv (va_runS (As := [.int a1, .int a2]) (rest := []) ⟨hx, hb, hml, hown, hts⟩ (c_X1_requireCode l dC dI cI cJ s.heap.size a1 a2 _ hc) (va_cwS 2 hts gX1_take_X1_requireCode rfl rfl rfl (by decide +kernel) ⟨Nat.le_of_ble_eq_true rfl, Nat.le_of_ble_eq_true rfl⟩) ⟨fun a U g mk q => ⟨q.1, jPr.blind q.2⟩, fun U hU hW => ⟨rfl, jPr.mk hU hW hPc hK hDc⟩⟩ rfl rfl hl.1 rfl (lv_room (Nat.le_of_ble_eq_true rfl)) dX1_take_2 ⟨Nat.le_of_ble_eq_true rfl, Nat.le_of_ble_eq_true rfl⟩) hS (fun q _ h => hFc q h) hFc (fun u t H1 locs ht hvm hw9 hB hz1 hk1 hS => ?_)
    obtain ⟨hP1, hK1, hD1⟩ := hB
    rw [ht] at hP1
    obtain ⟨hP, hD⟩ := va_join (wr := ([(b1, .inr (1, [.ref b0, .ref bq, .ref bf, .int ld])), (b0, .inr (0, [.ref bw, .int en, .int pl, .int cu])), (bw, .inl (cJ, 64, .inr (.inl w))), (bq, .inl (cJ, 100, .inr (.inl li))), (bf, .inl (cJ, 89, .inr (.inl fb)))] : va_W)) (w1 := ([] : va_W)) hP hD [] [0, 1, 2, 3, 4] rfl rfl (by decide) (by decide) hk1 hFc hP1 hD1
    clear hk1 hP1 hK1 hD1 hvm hz1 hPc hDc hFc
    generalize H1 = H at hP hS ⊢
    have hP : va_P (dC, dI) vwCl (wC cJ b1 b0 bw bq bf w en pl cu li ld fb) H := hP
    have hD : va_D A (wC cJ b1 b0 bw bq bf w en pl cu li ld fb) := hD
    refine lv_aload_n hx hb dX1_take_5 rfl (lv_at hl 0 rfl) ?_
    refine lv_iload_n hx hb dX1_take_6 rfl (lv_at hl 1 rfl) ?_
    refine lv_iload_n hx hb dX1_take_7 rfl (lv_at hl 2 rfl) ?_
    obtain ⟨⟨v1, v2, v3⟩, hc, hj⟩ := ja_bd hj
    try dsimp only at hj
    have hPc := hP.sub (ws' := (wC cJ b1 b0 bw bq bf w en pl cu li ld fb)) [0, 1, 2, 3, 4] rfl
    have hDc := hD.sub (ws' := (wC cJ b1 b0 bw bq bf w en pl cu li ld fb)) [0, 1, 2, 3, 4] (by decide) rfl
    have hFc := va_free (wc := (wC cJ b1 b0 bw bq bf w en pl cu li ld fb)) hD hS hA [0, 1, 2, 3, 4] rfl
    refine va_calll (va_runV (As := [.int a1, .int a2]) (rest := []) ⟨hx, hb, hml, hown, hts⟩ (c_X1_readNext l dC dI cI cJ b1 b0 bw bq bf H.size w en pl cu li ld fb a1 a2 _ hc) (cwV 2 hts gX1_take_X1_readNext rfl rfl rfl (by decide +kernel) ⟨Nat.le_of_ble_eq_true rfl, Nat.le_of_ble_eq_true rfl⟩) ⟨fun a U g mk q => ⟨q.1, jPr.blind q.2.1, jNs.blind q.2.2⟩, va_recv hK hPc (ci := 1) (q0 := 0) rfl rfl, fun U hU hW => ⟨rfl, jPr.mk hU hW hPc hK hDc, jNs.warm hW hN⟩⟩ rfl rfl hl.1 rfl (lv_room (Nat.le_of_ble_eq_true rfl)) dX1_take_8 ⟨Nat.le_of_ble_eq_true rfl, Nat.le_of_ble_eq_true rfl⟩) hS (fun q _ h => hFc q h) hFc (fun rr u t H1 locs ht hvm hw9 hB hz1 hk1 hS => ?_)
    have hw8 : v1 = rr := hw9.symm
    subst hw8
    obtain ⟨hP1, hK1, hD1⟩ := hB
    rw [ht] at hP1
    obtain ⟨hP, hD⟩ := va_join (wr := ([] : va_W)) (w1 := (wC cJ b1 b0 bw bq bf w en v2 v3 li ld fb)) hP hD [0, 1, 2, 3, 4] [] rfl rfl (by decide) (by decide) hk1 hFc hP1 hD1
    clear hk1 hP1 hK1 hD1 hvm hz1 hPc hDc hFc
    generalize H1 = H at hP hS ⊢
    have hP : va_P (dC, dI) vwCl (wC cJ b1 b0 bw bq bf w en v2 v3 li ld fb) H := hP
    have hD : va_D A (wC cJ b1 b0 bw bq bf w en v2 v3 li ld fb) := hD
    cases hj

set_option maxRecDepth 100000 in
theorem inn_X1_takeAll_X1 : ∀ w ∈ u_ws RX1 TX1 4, w ∈ wsX1_takeAll := by decide +kernel
def jL_X1_takeAll_12 (w : Nat → Int64) (en : Int32) (fb : Nat → Int64) (x1 : Int32) (x2 : Int32) : Nat → Int32 → Int32 → Int32 → (Nat → Int64) → Int32 → Option (Int32 × Int32 × Int32 × (Nat → Int64) × Int32)
  | 0, _, _, _, _, _ => none
  | n + 1, x3, pl, cu, li, ld => if (100 : Int32) ≤ x3 then (some (ld, pl, cu, li, ld)) else ((j_X1_readNext w en pl cu fb x1 x2).bind fun (v1202, v1203, v1204) => (if v1202 = (-1 : Int64) then (some (ld, v1203, v1204, li, ld)) else (jix x3 100 (jL_X1_takeAll_12 w en fb x1 x2 n (x3 + (1 : Int32)) v1203 v1204 (vp_updL li x3.toNatClampNeg v1202) (x3 + (1 : Int32))))))
set_option maxHeartbeats 4000000 in
set_option maxRecDepth 100000 in
theorem s_X1_takeAll_12 {p : Program} {l : Launch} {e : Env} {s : State} {m : MethodId} {args : Array Value} {below : List Frame} {meth : Method} {c : Code} {dC : Nat → ClassId} {dI : Nat → Nat → Nat} {cI cJ : ClassId} {A : Nat → Prop} (C0 : jCx p s m args meth c RX1 cX1_takeAll 6 (some .int) wsX1_takeAll) (hK : va_K (dC, dI) vwCl (jTy cI cJ) s) (hA : ∀ q : Nat, s.heap.size ≤ q → A q) (hN : jNs s) (b1 : Nat) (b0 : Nat) (bw : Nat) (bq : Nat) (bf : Nat) (w : Nat → Int64) (en : Int32) (fb : Nat → Int64) (x1 : Int32) (x2 : Int32) :
    ∀ (n : Nat) (x3 : Int32) (pl : Int32) (cu : Int32) (li : Nat → Int64) (ld : Int32) (r : Int32 × Int32 × Int32 × (Nat → Int64) × Int32), jL_X1_takeAll_12 w en fb x1 x2 n x3 pl cu li ld = some r → ∀ (H : Heap) (locs : List Loc) (ls : Array Slot), va_P (dC, dI) vwCl (wC cJ b1 b0 bw bq bf w en pl cu li ld fb) H → va_D A (wC cJ b1 b0 bw bq bf w en pl cu li ld fb) → va_S A s.heap H locs → lv_has ls 6 [(0, .ref b1), (1, .int x1), (2, .int x2), (3, .int x3)] → W p l e ({ frames := 7, cells := 0, slots := 0, locals := 158 } : Room) s m args below meth c H locs 0 0 (MQ below (va_Qi (fun (v : Int32) (_ : Unit) => v = r.1) (fun (_ : Unit) t => jPo dC dI cI cJ (wC cJ b1 b0 bw bq bf w en r.2.1 r.2.2.1 r.2.2.2.1 r.2.2.2.2 fb) A t) A) args s 0 0 A) (F0 m 12 ls []) := by
  obtain ⟨hx, hb, hr, hml, hown, hts, hlocks⟩ := id C0
  intro n
  induction n with
  | zero =>
    intro x3 pl cu li ld r hj
    exact nomatch (show (none : Option (Int32 × Int32 × Int32 × (Nat → Int64) × Int32)) = some r from hj)
  | succ n ih =>
    intro x3 pl cu li ld r hj H locs ls hP hD hS hl
    replace hj : (if (100 : Int32) ≤ x3 then (some (ld, pl, cu, li, ld)) else ((j_X1_readNext w en pl cu fb x1 x2).bind fun (v1202, v1203, v1204) => (if v1202 = (-1 : Int64) then (some (ld, v1203, v1204, li, ld)) else (jix x3 100 (jL_X1_takeAll_12 w en fb x1 x2 n (x3 + (1 : Int32)) v1203 v1204 (vp_updL li x3.toNatClampNeg v1202) (x3 + (1 : Int32))))))) = some r := hj
    refine lv_iload_n hx hb dX1_takeAll_12 rfl (lv_at hl 3 rfl) ?_
    refine lv_bipush (v := (100 : Int32)) hx hb dX1_takeAll_13 (by decide) ?_
    refine lv_icmp_ge (tgt := 59) hx hb dX1_takeAll_15 (by decide) (fun c1201 => ?_) (fun c1201 => ?_)
    · replace hj := ja_pos c1201 hj
      refine lv_aload_n hx hb dX1_takeAll_59 rfl (lv_at hl 0 rfl) ?_
      refine va_get (D := (dC, dI)) (ci := 1) (v := .int ld) (C := RX1) (T := TX1) (N := 4) hx hb hts inn_X1_takeAll_X1 hown hK hP 0 rfl rfl 3 (by decide) (hts (.fieldLink RX1 20 "SelfEndingCodes" "listed" "I") (by decide +kernel)) (fun _ h9 => h9) rfl dX1_takeAll_60 ?_
      have hr9 : (ld, pl, cu, li, ld) = r := Option.some.inj hj
      subst hr9
      exact W.iret (v := ld) hx hb hr (fun t ht hW => ⟨⟨ld, (), rfl, rfl, by rw [ht]; exact hP, va_K.moved hW.alike hK, hD⟩, hS.F ht⟩) hS.2.2 dX1_takeAll_63
    · replace hj := ja_neg c1201 hj
      refine lv_aload_n hx hb dX1_takeAll_18 rfl (lv_at hl 0 rfl) ?_
      refine lv_iload_n hx hb dX1_takeAll_19 rfl (lv_at hl 1 rfl) ?_
      refine lv_iload_n hx hb dX1_takeAll_20 rfl (lv_at hl 2 rfl) ?_
      obtain ⟨⟨v1202, v1203, v1204⟩, hc, hj⟩ := ja_bd hj
      try dsimp only at hj
      have hPc := hP.sub (ws' := (wC cJ b1 b0 bw bq bf w en pl cu li ld fb)) [0, 1, 2, 3, 4] rfl
      have hDc := hD.sub (ws' := (wC cJ b1 b0 bw bq bf w en pl cu li ld fb)) [0, 1, 2, 3, 4] (by decide) rfl
      have hFc := va_free (wc := (wC cJ b1 b0 bw bq bf w en pl cu li ld fb)) hD hS hA [0, 1, 2, 3, 4] rfl
      refine va_calll (va_runV (As := [.int x1, .int x2]) (rest := []) ⟨hx, hb, hml, hown, hts⟩ (c_X1_readNext l dC dI cI cJ b1 b0 bw bq bf H.size w en pl cu li ld fb x1 x2 _ hc) (cwV 2 hts gX1_takeAll_X1_readNext rfl rfl rfl (by decide +kernel) ⟨Nat.le_of_ble_eq_true rfl, Nat.le_of_ble_eq_true rfl⟩) ⟨fun a U g mk q => ⟨q.1, jPr.blind q.2.1, jNs.blind q.2.2⟩, va_recv hK hPc (ci := 1) (q0 := 0) rfl rfl, fun U hU hW => ⟨rfl, jPr.mk hU hW hPc hK hDc, jNs.warm hW hN⟩⟩ rfl rfl hl.1 rfl (lv_room (Nat.le_of_ble_eq_true rfl)) dX1_takeAll_21 ⟨Nat.le_of_ble_eq_true rfl, Nat.le_of_ble_eq_true rfl⟩) hS (fun q _ h => hFc q h) hFc (fun rr u t H1 locs ht hvm hw9 hB hz1 hk1 hS => ?_)
      have hw8 : v1202 = rr := hw9.symm
      subst hw8
      obtain ⟨hP1, hK1, hD1⟩ := hB
      rw [ht] at hP1
      obtain ⟨hP, hD⟩ := va_join (wr := ([] : va_W)) (w1 := (wC cJ b1 b0 bw bq bf w en v1203 v1204 li ld fb)) hP hD [0, 1, 2, 3, 4] [] rfl rfl (by decide) (by decide) hk1 hFc hP1 hD1
      clear hk1 hP1 hK1 hD1 hvm hz1 hPc hDc hFc
      generalize H1 = H at hP hS ⊢
      have hP : va_P (dC, dI) vwCl (wC cJ b1 b0 bw bq bf w en v1203 v1204 li ld fb) H := hP
      have hD : va_D A (wC cJ b1 b0 bw bq bf w en v1203 v1204 li ld fb) := hD
      refine lv_lstore (lv' := [(4, .long v1202), (0, .ref b1), (1, .int x1), (2, .int x2), (3, .int x3)]) hx hb dX1_takeAll_24 hl (by decide) rfl (fun ls hl => ?_)
      refine lv_lload hx hb dX1_takeAll_26 (lv_at hl 0 rfl) ?_
      refine lv_ldc2 (v := (-1 : Int64)) hx hb hown (hts (.constantLong RX1 97 (-1)) (by decide +kernel)) dX1_takeAll_28 ?_
      refine W.lcmp hx hb dX1_takeAll_31 ?_
      refine lv_if_ne (tgt := 38) hx hb dX1_takeAll_32 (by decide) (fun c1205 => ?_) (fun c1205 => ?_)
      · replace hj := ja_neg (fun h9 => c1205 ((lg_cmp_eq v1202 (-1 : Int64)).mpr h9)) hj
        refine lv_aload_n hx hb dX1_takeAll_38 rfl (lv_at hl 1 rfl) ?_
        refine va_get (D := (dC, dI)) (ci := 1) (v := .ref bq) (C := RX1) (T := TX1) (N := 4) hx hb hts inn_X1_takeAll_X1 hown hK hP 0 rfl rfl 1 (by decide) (hts (.fieldLink RX1 16 "SelfEndingCodes" "list" "[J") (by decide +kernel)) (fun _ h9 => h9) rfl dX1_takeAll_39 ?_
        refine lv_iload_n hx hb dX1_takeAll_42 rfl (lv_at hl 4 rfl) ?_
        refine lv_lload hx hb dX1_takeAll_43 (lv_at hl 0 rfl) ?_
        obtain ⟨hin, hj⟩ := ja_ix hj
        refine va_last hx hb hK hP hD hS 3 1 rfl rfl hin dX1_takeAll_45 (fun H locs hP hD hS => ?_)
        have hP : va_P (dC, dI) vwCl (wC cJ b1 b0 bw bq bf w en v1203 v1204 (vp_updL li x3.toNatClampNeg v1202) ld fb) H := hP
        have hD : va_D A (wC cJ b1 b0 bw bq bf w en v1203 v1204 (vp_updL li x3.toNatClampNeg v1202) ld fb) := hD
        refine lv_aload_n hx hb dX1_takeAll_46 rfl (lv_at hl 1 rfl) ?_
        refine lv_iload_n hx hb dX1_takeAll_47 rfl (lv_at hl 4 rfl) ?_
        refine lv_iconst (v := (1 : Int32)) hx hb dX1_takeAll_48 (by decide) ?_
        refine lv_iadd hx hb dX1_takeAll_49 ?_
        refine va_put (D := (dC, dI)) (ci := 1) (v := .int (x3 + (1 : Int32))) (ty := .int) (C := RX1) (T := TX1) (N := 4) hx hb hts inn_X1_takeAll_X1 tyX1 tyX1_ok nmX1 hown hK hP hD hS 0 rfl rfl 3 (by decide) (hts (.fieldLink RX1 20 "SelfEndingCodes" "listed" "I") (by decide +kernel)) (fun _ h9 => h9) rfl (by decide +kernel) rfl rfl (Nat.le_of_ble_eq_true rfl) dX1_takeAll_50 (fun H locs hP hD hS => ?_)
        have hP : va_P (dC, dI) vwCl (wC cJ b1 b0 bw bq bf w en v1203 v1204 (vp_updL li x3.toNatClampNeg v1202) (x3 + (1 : Int32)) fb) H := hP
        have hD : va_D A (wC cJ b1 b0 bw bq bf w en v1203 v1204 (vp_updL li x3.toNatClampNeg v1202) (x3 + (1 : Int32)) fb) := hD
        refine lv_iinc (v := x3 + (1 : Int32)) (lv' := [(3, .int (x3 + (1 : Int32))), (4, .long v1202), (0, .ref b1), (1, .int x1), (2, .int x2)]) hx hb dX1_takeAll_53 hl (k := 4) rfl (congrArg (fun z => x3 + z) (by decide)) (by decide) rfl (fun ls hl => ?_)
        refine lv_goto (tgt := 12) hx hb dX1_takeAll_56 (by decide) ?_
        exact ih (x3 + (1 : Int32)) v1203 v1204 (vp_updL li x3.toNatClampNeg v1202) (x3 + (1 : Int32)) _ hj _ _ _ (hP) (hD) hS (lv_sub hl [2, 3, 4, 0] rfl)
      · replace hj := ja_pos ((lg_cmp_eq v1202 (-1 : Int64)).mp c1205) hj
        refine lv_goto (tgt := 59) hx hb dX1_takeAll_35 (by decide) ?_
        refine lv_aload_n hx hb dX1_takeAll_59 rfl (lv_at hl 1 rfl) ?_
        refine va_get (D := (dC, dI)) (ci := 1) (v := .int ld) (C := RX1) (T := TX1) (N := 4) hx hb hts inn_X1_takeAll_X1 hown hK hP 0 rfl rfl 3 (by decide) (hts (.fieldLink RX1 20 "SelfEndingCodes" "listed" "I") (by decide +kernel)) (fun _ h9 => h9) rfl dX1_takeAll_60 ?_
        have hr9 : (ld, v1203, v1204, li, ld) = r := Option.some.inj hj
        subst hr9
        exact W.iret (v := ld) hx hb hr (fun t ht hW => ⟨⟨ld, (), rfl, rfl, by rw [ht]; exact hP, va_K.moved hW.alike hK, hD⟩, hS.F ht⟩) hS.2.2 dX1_takeAll_63
def j_X1_takeAll (w : Nat → Int64) (en : Int32) (pl : Int32) (cu : Int32) (li : Nat → Int64) (ld : Int32) (fb : Nat → Int64) (a1 : Int32) (a2 : Int32) : Option (Option (Int32 × Int32 × Int32 × (Nat → Int64) × Int32)) :=
  jtry (j_X1_requireCode a1 a2) fun _ => ((jL_X1_takeAll_12 w en fb a1 a2 jF (0 : Int32) pl cu li (0 : Int32)).bind fun q => some (some q))
set_option maxHeartbeats 4000000 in
set_option maxRecDepth 100000 in
theorem c_X1_takeAll (l : Launch) (dC : Nat → ClassId) (dI : Nat → Nat → Nat) (cI cJ : ClassId) (b1 : Nat) (b0 : Nat) (bw : Nat) (bq : Nat) (bf : Nat) (sz : Nat) (w : Nat → Int64) (en : Int32) (pl : Int32) (cu : Int32) (li : Nat → Int64) (ld : Int32) (fb : Nat → Int64) (a1 : Int32) (a2 : Int32) (r : Int32 × Int32 × Int32 × (Nat → Int64) × Int32) (hj : j_X1_takeAll w en pl cu li ld fb a1 a2 = some (some r)) : Met l yX1_takeAll wsX1_takeAll ({ frames := 7, cells := 0, slots := 0, locals := 158 } : Room) (va_Pc [.ref b1, .int a1, .int a2] (fun U => jPr dC dI cI cJ (wC cJ b1 b0 bw bq bf w en pl cu li ld fb) sz U ∧ jNs U)) (va_Qi (fun (v : Int32) (_ : Unit) => v = r.1) (fun (_ : Unit) t => jPo dC dI cI cJ (wC cJ b1 b0 bw bq bf w en r.2.1 r.2.2.1 r.2.2.2.1 r.2.2.2.2 fb) (va_A (wC cJ b1 b0 bw bq bf w en pl cu li ld fb) sz) t) (va_A (wC cJ b1 b0 bw bq bf w en pl cu li ld fb) sz)) 0 0 (va_A (wC cJ b1 b0 bw bq bf w en pl cu li ld fb) sz) := by
  refine Met.ofW (cc := cX1_takeAll) (maxL := 6) (ret := (some .int)) (by decide) rfl ?_
  intro p e s m args below meth c s₁ B hml hv
  obtain ⟨rfl, ⟨hsz, hP, hK, hD0⟩, hN⟩ := hv
  have hx := B.exec
  have hb := B.bytes
  have hr := B.returns
  have hts := atoms_spec (ws := wsX1_takeAll) B.pre
  have hown : s.vm.findClass RX1 = some m.cls := findClass_of_methodNamed B.named
  have hlocks := B.notSynchronized
  have C0 := jCx.of hx hb hr hml hown hts hlocks
  subst hsz
  have hD := hD0.self (sz := s.heap.size)
  generalize hAe : va_A (wC cJ b1 b0 bw bq bf w en pl cu li ld fb) s.heap.size = A at hD ⊢
  have hA : ∀ q : Nat, s.heap.size ≤ q → A q := fun q h => by rw [← hAe]; exact Or.inr h
  have hS : va_S A s.heap s.heap [] := va_S.rf
  have hP : va_P (dC, dI) vwCl (wC cJ b1 b0 bw bq bf w en pl cu li ld fb) s.heap := hP
  have hl := lv_entry ([.ref b1, .int a1, .int a2]) (n := 6) (Nat.le_of_ble_eq_true rfl)
  rw [lg_entry_eq]
  generalize (lg_sl ([.ref b1, .int a1, .int a2]) ++ List.replicate (6 - (lg_sl ([.ref b1, .int a1, .int a2])).length) Slot.unset).toArray = ls at hl ⊢
  have hl : lv_has ls 6 [(0, .ref b1), (1, .int a1), (2, .int a2)] := hl
  clear hD0 hAe
  unfold j_X1_takeAll at hj
  refine lv_iload_n hx hb dX1_takeAll_0 rfl (lv_at hl 1 rfl) ?_
  refine lv_iload_n hx hb dX1_takeAll_1 rfl (lv_at hl 2 rfl) ?_
  obtain ⟨⟨⟩, hc, hj⟩ := ja_try hj
  try dsimp only at hj
  have hPc := hP.sub (ws' := ([] : va_W)) [] rfl
  have hDc := hD.sub (ws' := ([] : va_W)) [] (by decide) rfl
  have hFc := va_free (wc := ([] : va_W)) hD hS hA [] rfl
  refine va_callv (va_runS (As := [.int a1, .int a2]) (rest := []) ⟨hx, hb, hml, hown, hts⟩ (c_X1_requireCode l dC dI cI cJ s.heap.size a1 a2 _ hc) (va_cwS 2 hts gX1_takeAll_X1_requireCode rfl rfl rfl (by decide +kernel) ⟨Nat.le_of_ble_eq_true rfl, Nat.le_of_ble_eq_true rfl⟩) ⟨fun a U g mk q => ⟨q.1, jPr.blind q.2⟩, fun U hU hW => ⟨rfl, jPr.mk hU hW hPc hK hDc⟩⟩ rfl rfl hl.1 rfl (lv_room (Nat.le_of_ble_eq_true rfl)) dX1_takeAll_2 ⟨Nat.le_of_ble_eq_true rfl, Nat.le_of_ble_eq_true rfl⟩) hS (fun q _ h => hFc q h) hFc (fun u t H1 locs ht hvm hw9 hB hz1 hk1 hS => ?_)
  obtain ⟨hP1, hK1, hD1⟩ := hB
  rw [ht] at hP1
  obtain ⟨hP, hD⟩ := va_join (wr := ([(b1, .inr (1, [.ref b0, .ref bq, .ref bf, .int ld])), (b0, .inr (0, [.ref bw, .int en, .int pl, .int cu])), (bw, .inl (cJ, 64, .inr (.inl w))), (bq, .inl (cJ, 100, .inr (.inl li))), (bf, .inl (cJ, 89, .inr (.inl fb)))] : va_W)) (w1 := ([] : va_W)) hP hD [] [0, 1, 2, 3, 4] rfl rfl (by decide) (by decide) hk1 hFc hP1 hD1
  clear hk1 hP1 hK1 hD1 hvm hz1 hPc hDc hFc
  generalize H1 = H at hP hS ⊢
  have hP : va_P (dC, dI) vwCl (wC cJ b1 b0 bw bq bf w en pl cu li ld fb) H := hP
  have hD : va_D A (wC cJ b1 b0 bw bq bf w en pl cu li ld fb) := hD
  refine lv_aload_n hx hb dX1_takeAll_5 rfl (lv_at hl 0 rfl) ?_
  refine lv_iconst (v := (0 : Int32)) hx hb dX1_takeAll_6 (by decide) ?_
  refine va_put (D := (dC, dI)) (ci := 1) (v := .int (0 : Int32)) (ty := .int) (C := RX1) (T := TX1) (N := 4) hx hb hts inn_X1_takeAll_X1 tyX1 tyX1_ok nmX1 hown hK hP hD hS 0 rfl rfl 3 (by decide) (hts (.fieldLink RX1 20 "SelfEndingCodes" "listed" "I") (by decide +kernel)) (fun _ h9 => h9) rfl (by decide +kernel) rfl rfl (Nat.le_of_ble_eq_true rfl) dX1_takeAll_7 (fun H locs hP hD hS => ?_)
  have hP : va_P (dC, dI) vwCl (wC cJ b1 b0 bw bq bf w en pl cu li (0 : Int32) fb) H := hP
  have hD : va_D A (wC cJ b1 b0 bw bq bf w en pl cu li (0 : Int32) fb) := hD
  refine lv_iconst (v := (0 : Int32)) hx hb dX1_takeAll_10 (by decide) ?_
  refine lv_istore_n (lv' := [(3, .int (0 : Int32)), (0, .ref b1), (1, .int a1), (2, .int a2)]) hx hb dX1_takeAll_11 rfl hl (by decide) rfl (fun ls hl => ?_)
  obtain ⟨q, hj, hq⟩ := ja_bd hj
  cases hq
  exact s_X1_takeAll_12 C0 hK hA hN b1 b0 bw bq bf w en fb a1 a2 jF (0 : Int32) pl cu li (0 : Int32) _ hj _ _ _ (hP) (hD) hS (lv_sub hl [1, 2, 3, 0] rfl)
set_option maxHeartbeats 4000000 in
set_option maxRecDepth 100000 in
theorem x_X1_takeAll (l : Launch) (hlt : l.stackTraces = false) (dC : Nat → ClassId) (dI : Nat → Nat → Nat) (cI cJ : ClassId) (b1 : Nat) (b0 : Nat) (bw : Nat) (bq : Nat) (bf : Nat) (sz : Nat) (w : Nat → Int64) (en : Int32) (pl : Int32) (cu : Int32) (li : Nat → Int64) (ld : Int32) (fb : Nat → Int64) (a1 : Int32) (a2 : Int32) (hj : j_X1_takeAll w en pl cu li ld fb a1 a2 = some none) : vx_Met l yX1_takeAll wsX1_takeAll ({ frames := 7, cells := 1, slots := 6, locals := 158 } : Room) (va_Pc [.ref b1, .int a1, .int a2] (fun U => jPr dC dI cI cJ (wC cJ b1 b0 bw bq bf w en pl cu li ld fb) sz U ∧ jNs U ∧ jXs (va_A (wC cJ b1 b0 bw bq bf w en pl cu li ld fb) sz) U)) (va_Qi (fun (_ : Int32) (_ : Unit) => False) (fun _ _ => True) (va_A (wC cJ b1 b0 bw bq bf w en pl cu li ld fb) sz)) (vx_X (fun _ : Unit => True) (fun E _ t => E = "java/lang/IllegalArgumentException" ∧ jPo dC dI cI cJ (wC cJ b1 b0 bw bq bf w en pl cu li ld fb) (va_A (wC cJ b1 b0 bw bq bf w en pl cu li ld fb) sz) t) (va_A (wC cJ b1 b0 bw bq bf w en pl cu li ld fb) sz)) 1 6 (va_A (wC cJ b1 b0 bw bq bf w en pl cu li ld fb) sz) := by
  refine vx_ofW (cc := cX1_takeAll) (maxL := 6) (ret := (some .int)) (by decide) rfl ?_
  intro p e s m args below meth c s₁ B hml htab hv
  obtain ⟨rfl, ⟨hsz, hP, hK, hD0⟩, hN, hXs⟩ := hv
  have hx := B.exec
  have hb := B.bytes
  have hr := B.returns
  have hts := atoms_spec (ws := wsX1_takeAll) B.pre
  have hown : s.vm.findClass RX1 = some m.cls := findClass_of_methodNamed B.named
  have hlocks := B.notSynchronized
  have C0 := jCx.of hx hb hr hml hown hts hlocks
  subst hsz
  have hD := hD0.self (sz := s.heap.size)
  generalize hAe : va_A (wC cJ b1 b0 bw bq bf w en pl cu li ld fb) s.heap.size = A at hD hXs ⊢
  have hA : ∀ q : Nat, s.heap.size ≤ q → A q := fun q h => by rw [← hAe]; exact Or.inr h
  have hS : va_S A s.heap s.heap [] := va_S.rf
  have hP : va_P (dC, dI) vwCl (wC cJ b1 b0 bw bq bf w en pl cu li ld fb) s.heap := hP
  have hl := lv_entry ([.ref b1, .int a1, .int a2]) (n := 6) (Nat.le_of_ble_eq_true rfl)
  rw [lg_entry_eq]
  generalize (lg_sl ([.ref b1, .int a1, .int a2]) ++ List.replicate (6 - (lg_sl ([.ref b1, .int a1, .int a2])).length) Slot.unset).toArray = ls at hl ⊢
  have hl : lv_has ls 6 [(0, .ref b1), (1, .int a1), (2, .int a2)] := hl
  clear hD0 hAe
  unfold j_X1_takeAll at hj
  refine lv_iload_n hx hb dX1_takeAll_0 rfl (lv_at hl 1 rfl) ?_
  refine lv_iload_n hx hb dX1_takeAll_1 rfl (lv_at hl 2 rfl) ?_
  rcases ja_tryx hj with hc | ⟨⟨⟩, hc, hj⟩
  · have hPc := hP.sub (ws' := ([] : va_W)) [] rfl
    have hDc := hD.sub (ws' := ([] : va_W)) [] (by decide) rfl
    have hFc := va_free (wc := ([] : va_W)) hD hS hA [] rfl
    refine vx_callv (vx_runS (As := [.int a1, .int a2]) (rest := []) ⟨hx, hb, hml, hown, hts⟩ (x_X1_requireCode l hlt dC dI cI cJ s.heap.size a1 a2 hc) (va_cwS 2 hts gX1_takeAll_X1_requireCode rfl rfl rfl (by decide +kernel) ⟨Nat.le_of_ble_eq_true rfl, Nat.le_of_ble_eq_true rfl⟩) ⟨fun a U g mk q => ⟨q.1, jPr.blind q.2.1, jXs.blind q.2.2⟩, fun U hU hW => ⟨rfl, jPr.mk hU hW hPc hK hDc, jXs.down hU hW hS hFc hXs⟩⟩ rfl rfl hl.1 rfl (lv_room (Nat.le_of_ble_eq_true rfl)) dX1_takeAll_2 ⟨Nat.le_of_ble_eq_true rfl, Nat.le_of_ble_eq_true rfl⟩) hS (fun q _ h => hFc q h) hFc (fun q _ h => hFc q h) (fun E ce q9 u t H1 locs1 ht hvm hpx hBX hz1 hk1 hS hce hcv hcl => ?_) (fun u t H1 locs1 ht hvm hw9 hB hz1 hk1 hS => hw9.elim)
    obtain ⟨rfl, hP1, hK1, hD1⟩ := hBX
    rw [ht] at hP1
    obtain ⟨hP, hD⟩ := va_join (wr := ([(b1, .inr (1, [.ref b0, .ref bq, .ref bf, .int ld])), (b0, .inr (0, [.ref bw, .int en, .int pl, .int cu])), (bw, .inl (cJ, 64, .inr (.inl w))), (bq, .inl (cJ, 100, .inr (.inl li))), (bf, .inl (cJ, 89, .inr (.inl fb)))] : va_W)) (w1 := ([] : va_W)) hP hD [] [0, 1, 2, 3, 4] rfl rfl (by decide) (by decide) hk1 hFc hP1 hD1
    exact vx_out (fun x hx9 => (htab x hx9).elim) hlocks hce hcv hcl (fun t2 ht2 hal => ⟨(), trivial, ⟨rfl, by rw [ht2]; exact hP, va_K.moved hal hK, hD⟩, hS.F ht2⟩) hS.2.2 (by decide) (by decide)
  · try dsimp only at hj
    have hPc := hP.sub (ws' := ([] : va_W)) [] rfl
    have hDc := hD.sub (ws' := ([] : va_W)) [] (by decide) rfl
    have hFc := va_free (wc := ([] : va_W)) hD hS hA [] rfl
    refine va_callv (va_runS (As := [.int a1, .int a2]) (rest := []) ⟨hx, hb, hml, hown, hts⟩ (c_X1_requireCode l dC dI cI cJ s.heap.size a1 a2 _ hc) (va_cwS 2 hts gX1_takeAll_X1_requireCode rfl rfl rfl (by decide +kernel) ⟨Nat.le_of_ble_eq_true rfl, Nat.le_of_ble_eq_true rfl⟩) ⟨fun a U g mk q => ⟨q.1, jPr.blind q.2⟩, fun U hU hW => ⟨rfl, jPr.mk hU hW hPc hK hDc⟩⟩ rfl rfl hl.1 rfl (lv_room (Nat.le_of_ble_eq_true rfl)) dX1_takeAll_2 ⟨Nat.le_of_ble_eq_true rfl, Nat.le_of_ble_eq_true rfl⟩) hS (fun q _ h => hFc q h) hFc (fun u t H1 locs ht hvm hw9 hB hz1 hk1 hS => ?_)
    obtain ⟨hP1, hK1, hD1⟩ := hB
    rw [ht] at hP1
    obtain ⟨hP, hD⟩ := va_join (wr := ([(b1, .inr (1, [.ref b0, .ref bq, .ref bf, .int ld])), (b0, .inr (0, [.ref bw, .int en, .int pl, .int cu])), (bw, .inl (cJ, 64, .inr (.inl w))), (bq, .inl (cJ, 100, .inr (.inl li))), (bf, .inl (cJ, 89, .inr (.inl fb)))] : va_W)) (w1 := ([] : va_W)) hP hD [] [0, 1, 2, 3, 4] rfl rfl (by decide) (by decide) hk1 hFc hP1 hD1
    clear hk1 hP1 hK1 hD1 hvm hz1 hPc hDc hFc
    generalize H1 = H at hP hS ⊢
    have hP : va_P (dC, dI) vwCl (wC cJ b1 b0 bw bq bf w en pl cu li ld fb) H := hP
    have hD : va_D A (wC cJ b1 b0 bw bq bf w en pl cu li ld fb) := hD
    refine lv_aload_n hx hb dX1_takeAll_5 rfl (lv_at hl 0 rfl) ?_
    refine lv_iconst (v := (0 : Int32)) hx hb dX1_takeAll_6 (by decide) ?_
    refine va_put (D := (dC, dI)) (ci := 1) (v := .int (0 : Int32)) (ty := .int) (C := RX1) (T := TX1) (N := 4) hx hb hts inn_X1_takeAll_X1 tyX1 tyX1_ok nmX1 hown hK hP hD hS 0 rfl rfl 3 (by decide) (hts (.fieldLink RX1 20 "SelfEndingCodes" "listed" "I") (by decide +kernel)) (fun _ h9 => h9) rfl (by decide +kernel) rfl rfl (Nat.le_of_ble_eq_true rfl) dX1_takeAll_7 (fun H locs hP hD hS => ?_)
    have hP : va_P (dC, dI) vwCl (wC cJ b1 b0 bw bq bf w en pl cu li (0 : Int32) fb) H := hP
    have hD : va_D A (wC cJ b1 b0 bw bq bf w en pl cu li (0 : Int32) fb) := hD
    refine lv_iconst (v := (0 : Int32)) hx hb dX1_takeAll_10 (by decide) ?_
    refine lv_istore_n (lv' := [(3, .int (0 : Int32)), (0, .ref b1), (1, .int a1), (2, .int a2)]) hx hb dX1_takeAll_11 rfl hl (by decide) rfl (fun ls hl => ?_)
    obtain ⟨q, hj, hq⟩ := ja_bd hj
    cases hq

def j_X1_total (li : Nat → Int64) (ld : Int32) (fb : Nat → Int64) (a1 : Int32) (a2 : Int32) : Option (Option (Int64)) :=
  jtry (j_X1_requireCode a1 a2) fun _ => ((j_X1_listLength li ld fb a1 a2).bind fun v1 => (some (some v1)))
set_option maxHeartbeats 4000000 in
set_option maxRecDepth 100000 in
theorem c_X1_total (l : Launch) (dC : Nat → ClassId) (dI : Nat → Nat → Nat) (cI cJ : ClassId) (b1 : Nat) (b0 : Nat) (bw : Nat) (bq : Nat) (bf : Nat) (sz : Nat) (w : Nat → Int64) (en : Int32) (pl : Int32) (cu : Int32) (li : Nat → Int64) (ld : Int32) (fb : Nat → Int64) (a1 : Int32) (a2 : Int32) (r : Int64) (hj : j_X1_total li ld fb a1 a2 = some (some r)) : Met l yX1_total wsX1_total ({ frames := 7, cells := 0, slots := 0, locals := 162 } : Room) (va_Pc [.ref b1, .int a1, .int a2] (fun U => jPr dC dI cI cJ (wC cJ b1 b0 bw bq bf w en pl cu li ld fb) sz U ∧ jNs U)) (va_Ql (fun (v : Int64) (_ : Unit) => v = r) (fun (_ : Unit) t => jPo dC dI cI cJ (wC cJ b1 b0 bw bq bf w en pl cu li ld fb) (va_A (wC cJ b1 b0 bw bq bf w en pl cu li ld fb) sz) t) (va_A (wC cJ b1 b0 bw bq bf w en pl cu li ld fb) sz)) 0 0 (va_A (wC cJ b1 b0 bw bq bf w en pl cu li ld fb) sz) := by
  refine Met.ofW (cc := cX1_total) (maxL := 3) (ret := (some .long)) (by decide) rfl ?_
  intro p e s m args below meth c s₁ B hml hv
  obtain ⟨rfl, ⟨hsz, hP, hK, hD0⟩, hN⟩ := hv
  have hx := B.exec
  have hb := B.bytes
  have hr := B.returns
  have hts := atoms_spec (ws := wsX1_total) B.pre
  have hown : s.vm.findClass RX1 = some m.cls := findClass_of_methodNamed B.named
  have hlocks := B.notSynchronized
  have C0 := jCx.of hx hb hr hml hown hts hlocks
  subst hsz
  have hD := hD0.self (sz := s.heap.size)
  generalize hAe : va_A (wC cJ b1 b0 bw bq bf w en pl cu li ld fb) s.heap.size = A at hD ⊢
  have hA : ∀ q : Nat, s.heap.size ≤ q → A q := fun q h => by rw [← hAe]; exact Or.inr h
  have hS : va_S A s.heap s.heap [] := va_S.rf
  have hP : va_P (dC, dI) vwCl (wC cJ b1 b0 bw bq bf w en pl cu li ld fb) s.heap := hP
  have hl := lv_entry ([.ref b1, .int a1, .int a2]) (n := 3) (Nat.le_of_ble_eq_true rfl)
  rw [lg_entry_eq]
  generalize (lg_sl ([.ref b1, .int a1, .int a2]) ++ List.replicate (3 - (lg_sl ([.ref b1, .int a1, .int a2])).length) Slot.unset).toArray = ls at hl ⊢
  have hl : lv_has ls 3 [(0, .ref b1), (1, .int a1), (2, .int a2)] := hl
  clear hD0 hAe
  unfold j_X1_total at hj
  refine lv_iload_n hx hb dX1_total_0 rfl (lv_at hl 1 rfl) ?_
  refine lv_iload_n hx hb dX1_total_1 rfl (lv_at hl 2 rfl) ?_
  obtain ⟨⟨⟩, hc, hj⟩ := ja_try hj
  try dsimp only at hj
  have hPc := hP.sub (ws' := ([] : va_W)) [] rfl
  have hDc := hD.sub (ws' := ([] : va_W)) [] (by decide) rfl
  have hFc := va_free (wc := ([] : va_W)) hD hS hA [] rfl
  refine va_callv (va_runS (As := [.int a1, .int a2]) (rest := []) ⟨hx, hb, hml, hown, hts⟩ (c_X1_requireCode l dC dI cI cJ s.heap.size a1 a2 _ hc) (va_cwS 2 hts gX1_total_X1_requireCode rfl rfl rfl (by decide +kernel) ⟨Nat.le_of_ble_eq_true rfl, Nat.le_of_ble_eq_true rfl⟩) ⟨fun a U g mk q => ⟨q.1, jPr.blind q.2⟩, fun U hU hW => ⟨rfl, jPr.mk hU hW hPc hK hDc⟩⟩ rfl rfl hl.1 rfl (lv_room (Nat.le_of_ble_eq_true rfl)) dX1_total_2 ⟨Nat.le_of_ble_eq_true rfl, Nat.le_of_ble_eq_true rfl⟩) hS (fun q _ h => hFc q h) hFc (fun u t H1 locs ht hvm hw9 hB hz1 hk1 hS => ?_)
  obtain ⟨hP1, hK1, hD1⟩ := hB
  rw [ht] at hP1
  obtain ⟨hP, hD⟩ := va_join (wr := ([(b1, .inr (1, [.ref b0, .ref bq, .ref bf, .int ld])), (b0, .inr (0, [.ref bw, .int en, .int pl, .int cu])), (bw, .inl (cJ, 64, .inr (.inl w))), (bq, .inl (cJ, 100, .inr (.inl li))), (bf, .inl (cJ, 89, .inr (.inl fb)))] : va_W)) (w1 := ([] : va_W)) hP hD [] [0, 1, 2, 3, 4] rfl rfl (by decide) (by decide) hk1 hFc hP1 hD1
  clear hk1 hP1 hK1 hD1 hvm hz1 hPc hDc hFc
  generalize H1 = H at hP hS ⊢
  have hP : va_P (dC, dI) vwCl (wC cJ b1 b0 bw bq bf w en pl cu li ld fb) H := hP
  have hD : va_D A (wC cJ b1 b0 bw bq bf w en pl cu li ld fb) := hD
  refine lv_aload_n hx hb dX1_total_5 rfl (lv_at hl 0 rfl) ?_
  refine lv_iload_n hx hb dX1_total_6 rfl (lv_at hl 1 rfl) ?_
  refine lv_iload_n hx hb dX1_total_7 rfl (lv_at hl 2 rfl) ?_
  obtain ⟨v1, hc, hj⟩ := ja_bd hj
  try dsimp only at hj
  have hPc := hP.sub (ws' := (wC cJ b1 b0 bw bq bf w en pl cu li ld fb)) [0, 1, 2, 3, 4] rfl
  have hDc := hD.sub (ws' := (wC cJ b1 b0 bw bq bf w en pl cu li ld fb)) [0, 1, 2, 3, 4] (by decide) rfl
  have hFc := va_free (wc := (wC cJ b1 b0 bw bq bf w en pl cu li ld fb)) hD hS hA [0, 1, 2, 3, 4] rfl
  refine va_calll (va_runV (As := [.int a1, .int a2]) (rest := []) ⟨hx, hb, hml, hown, hts⟩ (c_X1_listLength l dC dI cI cJ b1 b0 bw bq bf H.size w en pl cu li ld fb a1 a2 _ hc) (cwV 2 hts gX1_total_X1_listLength rfl rfl rfl (by decide +kernel) ⟨Nat.le_of_ble_eq_true rfl, Nat.le_of_ble_eq_true rfl⟩) ⟨fun a U g mk q => ⟨q.1, jPr.blind q.2.1, jNs.blind q.2.2⟩, va_recv hK hPc (ci := 1) (q0 := 0) rfl rfl, fun U hU hW => ⟨rfl, jPr.mk hU hW hPc hK hDc, jNs.warm hW hN⟩⟩ rfl rfl hl.1 rfl (lv_room (Nat.le_of_ble_eq_true rfl)) dX1_total_8 ⟨Nat.le_of_ble_eq_true rfl, Nat.le_of_ble_eq_true rfl⟩) hS (fun q _ h => hFc q h) hFc (fun rr u t H1 locs ht hvm hw9 hB hz1 hk1 hS => ?_)
  have hw8 : v1 = rr := hw9.symm
  subst hw8
  obtain ⟨hP1, hK1, hD1⟩ := hB
  rw [ht] at hP1
  obtain ⟨hP, hD⟩ := va_join (wr := ([] : va_W)) (w1 := (wC cJ b1 b0 bw bq bf w en pl cu li ld fb)) hP hD [0, 1, 2, 3, 4] [] rfl rfl (by decide) (by decide) hk1 hFc hP1 hD1
  clear hk1 hP1 hK1 hD1 hvm hz1 hPc hDc hFc
  generalize H1 = H at hP hS ⊢
  have hP : va_P (dC, dI) vwCl (wC cJ b1 b0 bw bq bf w en pl cu li ld fb) H := hP
  have hD : va_D A (wC cJ b1 b0 bw bq bf w en pl cu li ld fb) := hD
  have hr9 : v1 = r := Option.some.inj (Option.some.inj hj)
  subst hr9
  exact W.lret (v := v1) hx hb hr (fun t ht hW => ⟨⟨v1, (), rfl, rfl, by rw [ht]; exact hP, va_K.moved hW.alike hK, hD⟩, hS.F ht⟩) hS.2.2 dX1_total_11
set_option maxHeartbeats 4000000 in
set_option maxRecDepth 100000 in
theorem x_X1_total (l : Launch) (hlt : l.stackTraces = false) (dC : Nat → ClassId) (dI : Nat → Nat → Nat) (cI cJ : ClassId) (b1 : Nat) (b0 : Nat) (bw : Nat) (bq : Nat) (bf : Nat) (sz : Nat) (w : Nat → Int64) (en : Int32) (pl : Int32) (cu : Int32) (li : Nat → Int64) (ld : Int32) (fb : Nat → Int64) (a1 : Int32) (a2 : Int32) (hj : j_X1_total li ld fb a1 a2 = some none) : vx_Met l yX1_total wsX1_total ({ frames := 7, cells := 1, slots := 6, locals := 162 } : Room) (va_Pc [.ref b1, .int a1, .int a2] (fun U => jPr dC dI cI cJ (wC cJ b1 b0 bw bq bf w en pl cu li ld fb) sz U ∧ jNs U ∧ jXs (va_A (wC cJ b1 b0 bw bq bf w en pl cu li ld fb) sz) U)) (va_Ql (fun (_ : Int64) (_ : Unit) => False) (fun _ _ => True) (va_A (wC cJ b1 b0 bw bq bf w en pl cu li ld fb) sz)) (vx_X (fun _ : Unit => True) (fun E _ t => E = "java/lang/IllegalArgumentException" ∧ jPo dC dI cI cJ (wC cJ b1 b0 bw bq bf w en pl cu li ld fb) (va_A (wC cJ b1 b0 bw bq bf w en pl cu li ld fb) sz) t) (va_A (wC cJ b1 b0 bw bq bf w en pl cu li ld fb) sz)) 1 6 (va_A (wC cJ b1 b0 bw bq bf w en pl cu li ld fb) sz) := by
  refine vx_ofW (cc := cX1_total) (maxL := 3) (ret := (some .long)) (by decide) rfl ?_
  intro p e s m args below meth c s₁ B hml htab hv
  obtain ⟨rfl, ⟨hsz, hP, hK, hD0⟩, hN, hXs⟩ := hv
  have hx := B.exec
  have hb := B.bytes
  have hr := B.returns
  have hts := atoms_spec (ws := wsX1_total) B.pre
  have hown : s.vm.findClass RX1 = some m.cls := findClass_of_methodNamed B.named
  have hlocks := B.notSynchronized
  have C0 := jCx.of hx hb hr hml hown hts hlocks
  subst hsz
  have hD := hD0.self (sz := s.heap.size)
  generalize hAe : va_A (wC cJ b1 b0 bw bq bf w en pl cu li ld fb) s.heap.size = A at hD hXs ⊢
  have hA : ∀ q : Nat, s.heap.size ≤ q → A q := fun q h => by rw [← hAe]; exact Or.inr h
  have hS : va_S A s.heap s.heap [] := va_S.rf
  have hP : va_P (dC, dI) vwCl (wC cJ b1 b0 bw bq bf w en pl cu li ld fb) s.heap := hP
  have hl := lv_entry ([.ref b1, .int a1, .int a2]) (n := 3) (Nat.le_of_ble_eq_true rfl)
  rw [lg_entry_eq]
  generalize (lg_sl ([.ref b1, .int a1, .int a2]) ++ List.replicate (3 - (lg_sl ([.ref b1, .int a1, .int a2])).length) Slot.unset).toArray = ls at hl ⊢
  have hl : lv_has ls 3 [(0, .ref b1), (1, .int a1), (2, .int a2)] := hl
  clear hD0 hAe
  unfold j_X1_total at hj
  refine lv_iload_n hx hb dX1_total_0 rfl (lv_at hl 1 rfl) ?_
  refine lv_iload_n hx hb dX1_total_1 rfl (lv_at hl 2 rfl) ?_
  rcases ja_tryx hj with hc | ⟨⟨⟩, hc, hj⟩
  · have hPc := hP.sub (ws' := ([] : va_W)) [] rfl
    have hDc := hD.sub (ws' := ([] : va_W)) [] (by decide) rfl
    have hFc := va_free (wc := ([] : va_W)) hD hS hA [] rfl
    refine vx_callv (vx_runS (As := [.int a1, .int a2]) (rest := []) ⟨hx, hb, hml, hown, hts⟩ (x_X1_requireCode l hlt dC dI cI cJ s.heap.size a1 a2 hc) (va_cwS 2 hts gX1_total_X1_requireCode rfl rfl rfl (by decide +kernel) ⟨Nat.le_of_ble_eq_true rfl, Nat.le_of_ble_eq_true rfl⟩) ⟨fun a U g mk q => ⟨q.1, jPr.blind q.2.1, jXs.blind q.2.2⟩, fun U hU hW => ⟨rfl, jPr.mk hU hW hPc hK hDc, jXs.down hU hW hS hFc hXs⟩⟩ rfl rfl hl.1 rfl (lv_room (Nat.le_of_ble_eq_true rfl)) dX1_total_2 ⟨Nat.le_of_ble_eq_true rfl, Nat.le_of_ble_eq_true rfl⟩) hS (fun q _ h => hFc q h) hFc (fun q _ h => hFc q h) (fun E ce q9 u t H1 locs1 ht hvm hpx hBX hz1 hk1 hS hce hcv hcl => ?_) (fun u t H1 locs1 ht hvm hw9 hB hz1 hk1 hS => hw9.elim)
    obtain ⟨rfl, hP1, hK1, hD1⟩ := hBX
    rw [ht] at hP1
    obtain ⟨hP, hD⟩ := va_join (wr := ([(b1, .inr (1, [.ref b0, .ref bq, .ref bf, .int ld])), (b0, .inr (0, [.ref bw, .int en, .int pl, .int cu])), (bw, .inl (cJ, 64, .inr (.inl w))), (bq, .inl (cJ, 100, .inr (.inl li))), (bf, .inl (cJ, 89, .inr (.inl fb)))] : va_W)) (w1 := ([] : va_W)) hP hD [] [0, 1, 2, 3, 4] rfl rfl (by decide) (by decide) hk1 hFc hP1 hD1
    exact vx_out (fun x hx9 => (htab x hx9).elim) hlocks hce hcv hcl (fun t2 ht2 hal => ⟨(), trivial, ⟨rfl, by rw [ht2]; exact hP, va_K.moved hal hK, hD⟩, hS.F ht2⟩) hS.2.2 (by decide) (by decide)
  · try dsimp only at hj
    have hPc := hP.sub (ws' := ([] : va_W)) [] rfl
    have hDc := hD.sub (ws' := ([] : va_W)) [] (by decide) rfl
    have hFc := va_free (wc := ([] : va_W)) hD hS hA [] rfl
    refine va_callv (va_runS (As := [.int a1, .int a2]) (rest := []) ⟨hx, hb, hml, hown, hts⟩ (c_X1_requireCode l dC dI cI cJ s.heap.size a1 a2 _ hc) (va_cwS 2 hts gX1_total_X1_requireCode rfl rfl rfl (by decide +kernel) ⟨Nat.le_of_ble_eq_true rfl, Nat.le_of_ble_eq_true rfl⟩) ⟨fun a U g mk q => ⟨q.1, jPr.blind q.2⟩, fun U hU hW => ⟨rfl, jPr.mk hU hW hPc hK hDc⟩⟩ rfl rfl hl.1 rfl (lv_room (Nat.le_of_ble_eq_true rfl)) dX1_total_2 ⟨Nat.le_of_ble_eq_true rfl, Nat.le_of_ble_eq_true rfl⟩) hS (fun q _ h => hFc q h) hFc (fun u t H1 locs ht hvm hw9 hB hz1 hk1 hS => ?_)
    obtain ⟨hP1, hK1, hD1⟩ := hB
    rw [ht] at hP1
    obtain ⟨hP, hD⟩ := va_join (wr := ([(b1, .inr (1, [.ref b0, .ref bq, .ref bf, .int ld])), (b0, .inr (0, [.ref bw, .int en, .int pl, .int cu])), (bw, .inl (cJ, 64, .inr (.inl w))), (bq, .inl (cJ, 100, .inr (.inl li))), (bf, .inl (cJ, 89, .inr (.inl fb)))] : va_W)) (w1 := ([] : va_W)) hP hD [] [0, 1, 2, 3, 4] rfl rfl (by decide) (by decide) hk1 hFc hP1 hD1
    clear hk1 hP1 hK1 hD1 hvm hz1 hPc hDc hFc
    generalize H1 = H at hP hS ⊢
    have hP : va_P (dC, dI) vwCl (wC cJ b1 b0 bw bq bf w en pl cu li ld fb) H := hP
    have hD : va_D A (wC cJ b1 b0 bw bq bf w en pl cu li ld fb) := hD
    refine lv_aload_n hx hb dX1_total_5 rfl (lv_at hl 0 rfl) ?_
    refine lv_iload_n hx hb dX1_total_6 rfl (lv_at hl 1 rfl) ?_
    refine lv_iload_n hx hb dX1_total_7 rfl (lv_at hl 2 rfl) ?_
    obtain ⟨v1, hc, hj⟩ := ja_bd hj
    try dsimp only at hj
    have hPc := hP.sub (ws' := (wC cJ b1 b0 bw bq bf w en pl cu li ld fb)) [0, 1, 2, 3, 4] rfl
    have hDc := hD.sub (ws' := (wC cJ b1 b0 bw bq bf w en pl cu li ld fb)) [0, 1, 2, 3, 4] (by decide) rfl
    have hFc := va_free (wc := (wC cJ b1 b0 bw bq bf w en pl cu li ld fb)) hD hS hA [0, 1, 2, 3, 4] rfl
    refine va_calll (va_runV (As := [.int a1, .int a2]) (rest := []) ⟨hx, hb, hml, hown, hts⟩ (c_X1_listLength l dC dI cI cJ b1 b0 bw bq bf H.size w en pl cu li ld fb a1 a2 _ hc) (cwV 2 hts gX1_total_X1_listLength rfl rfl rfl (by decide +kernel) ⟨Nat.le_of_ble_eq_true rfl, Nat.le_of_ble_eq_true rfl⟩) ⟨fun a U g mk q => ⟨q.1, jPr.blind q.2.1, jNs.blind q.2.2⟩, va_recv hK hPc (ci := 1) (q0 := 0) rfl rfl, fun U hU hW => ⟨rfl, jPr.mk hU hW hPc hK hDc, jNs.warm hW hN⟩⟩ rfl rfl hl.1 rfl (lv_room (Nat.le_of_ble_eq_true rfl)) dX1_total_8 ⟨Nat.le_of_ble_eq_true rfl, Nat.le_of_ble_eq_true rfl⟩) hS (fun q _ h => hFc q h) hFc (fun rr u t H1 locs ht hvm hw9 hB hz1 hk1 hS => ?_)
    have hw8 : v1 = rr := hw9.symm
    subst hw8
    obtain ⟨hP1, hK1, hD1⟩ := hB
    rw [ht] at hP1
    obtain ⟨hP, hD⟩ := va_join (wr := ([] : va_W)) (w1 := (wC cJ b1 b0 bw bq bf w en pl cu li ld fb)) hP hD [0, 1, 2, 3, 4] [] rfl rfl (by decide) (by decide) hk1 hFc hP1 hD1
    clear hk1 hP1 hK1 hD1 hvm hz1 hPc hDc hFc
    generalize H1 = H at hP hS ⊢
    have hP : va_P (dC, dI) vwCl (wC cJ b1 b0 bw bq bf w en pl cu li ld fb) H := hP
    have hD : va_D A (wC cJ b1 b0 bw bq bf w en pl cu li ld fb) := hD
    cases hj

def j_X1_unfold (a1 : Int64) : Option (Option (Int64)) :=
  jtry (j_X1_requireNumber a1) fun _ => (if (a1 - a1 / (2 : Int64) * (2 : Int64)) = (0 : Int64) then (some (some (a1 / (2 : Int64)))) else (some (some (((1 : Int64) - a1) / (2 : Int64)))))
set_option maxHeartbeats 4000000 in
set_option maxRecDepth 100000 in
theorem c_X1_unfold (l : Launch) (dC : Nat → ClassId) (dI : Nat → Nat → Nat) (cI cJ : ClassId) (b1 : Nat) (b0 : Nat) (bw : Nat) (bq : Nat) (bf : Nat) (sz : Nat) (w : Nat → Int64) (en : Int32) (pl : Int32) (cu : Int32) (li : Nat → Int64) (ld : Int32) (fb : Nat → Int64) (a1 : Int64) (r : Int64) (hj : j_X1_unfold a1 = some (some r)) : Met l yX1_unfold wsX1_unfold ({ frames := 1, cells := 0, slots := 0, locals := 21 } : Room) (va_Pc [.ref b1, .long a1] (fun U => jPr dC dI cI cJ (wC cJ b1 b0 bw bq bf w en pl cu li ld fb) sz U ∧ jNs U)) (va_Ql (fun (v : Int64) (_ : Unit) => v = r) (fun (_ : Unit) t => jPo dC dI cI cJ (wC cJ b1 b0 bw bq bf w en pl cu li ld fb) (va_A (wC cJ b1 b0 bw bq bf w en pl cu li ld fb) sz) t) (va_A (wC cJ b1 b0 bw bq bf w en pl cu li ld fb) sz)) 0 0 (va_A (wC cJ b1 b0 bw bq bf w en pl cu li ld fb) sz) := by
  refine Met.ofW (cc := cX1_unfold) (maxL := 3) (ret := (some .long)) (by decide) rfl ?_
  intro p e s m args below meth c s₁ B hml hv
  obtain ⟨rfl, ⟨hsz, hP, hK, hD0⟩, hN⟩ := hv
  have hx := B.exec
  have hb := B.bytes
  have hr := B.returns
  have hts := atoms_spec (ws := wsX1_unfold) B.pre
  have hown : s.vm.findClass RX1 = some m.cls := findClass_of_methodNamed B.named
  have hlocks := B.notSynchronized
  have C0 := jCx.of hx hb hr hml hown hts hlocks
  subst hsz
  have hD := hD0.self (sz := s.heap.size)
  generalize hAe : va_A (wC cJ b1 b0 bw bq bf w en pl cu li ld fb) s.heap.size = A at hD ⊢
  have hA : ∀ q : Nat, s.heap.size ≤ q → A q := fun q h => by rw [← hAe]; exact Or.inr h
  have hS : va_S A s.heap s.heap [] := va_S.rf
  have hP : va_P (dC, dI) vwCl (wC cJ b1 b0 bw bq bf w en pl cu li ld fb) s.heap := hP
  have hl := lv_entry ([.ref b1, .long a1]) (n := 3) (Nat.le_of_ble_eq_true rfl)
  rw [lg_entry_eq]
  generalize (lg_sl ([.ref b1, .long a1]) ++ List.replicate (3 - (lg_sl ([.ref b1, .long a1])).length) Slot.unset).toArray = ls at hl ⊢
  have hl : lv_has ls 3 [(0, .ref b1), (1, .long a1)] := hl
  clear hD0 hAe
  unfold j_X1_unfold at hj
  refine lv_lload_n hx hb dX1_unfold_0 rfl (lv_at hl 1 rfl) ?_
  obtain ⟨⟨⟩, hc, hj⟩ := ja_try hj
  try dsimp only at hj
  have hPc := hP.sub (ws' := ([] : va_W)) [] rfl
  have hDc := hD.sub (ws' := ([] : va_W)) [] (by decide) rfl
  have hFc := va_free (wc := ([] : va_W)) hD hS hA [] rfl
  refine va_callv (va_runS (As := [.long a1]) (rest := []) ⟨hx, hb, hml, hown, hts⟩ (c_X1_requireNumber l dC dI cI cJ s.heap.size a1 _ hc) (va_cwS 1 hts gX1_unfold_X1_requireNumber rfl rfl rfl (by decide +kernel) ⟨Nat.le_of_ble_eq_true rfl, Nat.le_of_ble_eq_true rfl⟩) ⟨fun a U g mk q => ⟨q.1, jPr.blind q.2⟩, fun U hU hW => ⟨rfl, jPr.mk hU hW hPc hK hDc⟩⟩ rfl rfl hl.1 rfl (lv_room (Nat.le_of_ble_eq_true rfl)) dX1_unfold_1 ⟨Nat.le_of_ble_eq_true rfl, Nat.le_of_ble_eq_true rfl⟩) hS (fun q _ h => hFc q h) hFc (fun u t H1 locs ht hvm hw9 hB hz1 hk1 hS => ?_)
  obtain ⟨hP1, hK1, hD1⟩ := hB
  rw [ht] at hP1
  obtain ⟨hP, hD⟩ := va_join (wr := ([(b1, .inr (1, [.ref b0, .ref bq, .ref bf, .int ld])), (b0, .inr (0, [.ref bw, .int en, .int pl, .int cu])), (bw, .inl (cJ, 64, .inr (.inl w))), (bq, .inl (cJ, 100, .inr (.inl li))), (bf, .inl (cJ, 89, .inr (.inl fb)))] : va_W)) (w1 := ([] : va_W)) hP hD [] [0, 1, 2, 3, 4] rfl rfl (by decide) (by decide) hk1 hFc hP1 hD1
  clear hk1 hP1 hK1 hD1 hvm hz1 hPc hDc hFc
  generalize H1 = H at hP hS ⊢
  have hP : va_P (dC, dI) vwCl (wC cJ b1 b0 bw bq bf w en pl cu li ld fb) H := hP
  have hD : va_D A (wC cJ b1 b0 bw bq bf w en pl cu li ld fb) := hD
  refine lv_lload_n hx hb dX1_unfold_4 rfl (lv_at hl 1 rfl) ?_
  refine lv_ldc2 (v := (2 : Int64)) hx hb hown (hts (.constantLong RX1 27 (2)) (by decide +kernel)) dX1_unfold_5 ?_
  refine lv_lrem hx hb dX1_unfold_8 (by decide) ?_
  refine lv_lconst (v := (0 : Int64)) hx hb dX1_unfold_9 (by decide) ?_
  refine W.lcmp hx hb dX1_unfold_10 ?_
  refine lv_if_ne (tgt := 22) hx hb dX1_unfold_11 (by decide) (fun c1 => ?_) (fun c1 => ?_)
  · replace hj := ja_neg (fun h9 => c1 ((lg_cmp_eq (a1 - a1 / (2 : Int64) * (2 : Int64)) (0 : Int64)).mpr h9)) hj
    refine lv_lconst (v := (1 : Int64)) hx hb dX1_unfold_22 (by decide) ?_
    refine lv_lload_n hx hb dX1_unfold_23 rfl (lv_at hl 1 rfl) ?_
    refine lv_lsub hx hb dX1_unfold_24 ?_
    refine lv_ldc2 (v := (2 : Int64)) hx hb hown (hts (.constantLong RX1 27 (2)) (by decide +kernel)) dX1_unfold_25 ?_
    refine lv_ldiv hx hb dX1_unfold_28 (by decide) ?_
    have hr9 : (((1 : Int64) - a1) / (2 : Int64)) = r := Option.some.inj (Option.some.inj hj)
    subst hr9
    exact W.lret (v := ((1 : Int64) - a1) / (2 : Int64)) hx hb hr (fun t ht hW => ⟨⟨((1 : Int64) - a1) / (2 : Int64), (), rfl, rfl, by rw [ht]; exact hP, va_K.moved hW.alike hK, hD⟩, hS.F ht⟩) hS.2.2 dX1_unfold_29
  · replace hj := ja_pos ((lg_cmp_eq (a1 - a1 / (2 : Int64) * (2 : Int64)) (0 : Int64)).mp c1) hj
    refine lv_lload_n hx hb dX1_unfold_14 rfl (lv_at hl 1 rfl) ?_
    refine lv_ldc2 (v := (2 : Int64)) hx hb hown (hts (.constantLong RX1 27 (2)) (by decide +kernel)) dX1_unfold_15 ?_
    refine lv_ldiv hx hb dX1_unfold_18 (by decide) ?_
    refine lv_goto (tgt := 29) hx hb dX1_unfold_19 (by decide) ?_
    have hr9 : (a1 / (2 : Int64)) = r := Option.some.inj (Option.some.inj hj)
    subst hr9
    exact W.lret (v := a1 / (2 : Int64)) hx hb hr (fun t ht hW => ⟨⟨a1 / (2 : Int64), (), rfl, rfl, by rw [ht]; exact hP, va_K.moved hW.alike hK, hD⟩, hS.F ht⟩) hS.2.2 dX1_unfold_29
set_option maxHeartbeats 4000000 in
set_option maxRecDepth 100000 in
theorem x_X1_unfold (l : Launch) (hlt : l.stackTraces = false) (dC : Nat → ClassId) (dI : Nat → Nat → Nat) (cI cJ : ClassId) (b1 : Nat) (b0 : Nat) (bw : Nat) (bq : Nat) (bf : Nat) (sz : Nat) (w : Nat → Int64) (en : Int32) (pl : Int32) (cu : Int32) (li : Nat → Int64) (ld : Int32) (fb : Nat → Int64) (a1 : Int64) (hj : j_X1_unfold a1 = some none) : vx_Met l yX1_unfold wsX1_unfold ({ frames := 7, cells := 1, slots := 6, locals := 103 } : Room) (va_Pc [.ref b1, .long a1] (fun U => jPr dC dI cI cJ (wC cJ b1 b0 bw bq bf w en pl cu li ld fb) sz U ∧ jNs U ∧ jXs (va_A (wC cJ b1 b0 bw bq bf w en pl cu li ld fb) sz) U)) (va_Ql (fun (_ : Int64) (_ : Unit) => False) (fun _ _ => True) (va_A (wC cJ b1 b0 bw bq bf w en pl cu li ld fb) sz)) (vx_X (fun _ : Unit => True) (fun E _ t => E = "java/lang/IllegalArgumentException" ∧ jPo dC dI cI cJ (wC cJ b1 b0 bw bq bf w en pl cu li ld fb) (va_A (wC cJ b1 b0 bw bq bf w en pl cu li ld fb) sz) t) (va_A (wC cJ b1 b0 bw bq bf w en pl cu li ld fb) sz)) 1 6 (va_A (wC cJ b1 b0 bw bq bf w en pl cu li ld fb) sz) := by
  refine vx_ofW (cc := cX1_unfold) (maxL := 3) (ret := (some .long)) (by decide) rfl ?_
  intro p e s m args below meth c s₁ B hml htab hv
  obtain ⟨rfl, ⟨hsz, hP, hK, hD0⟩, hN, hXs⟩ := hv
  have hx := B.exec
  have hb := B.bytes
  have hr := B.returns
  have hts := atoms_spec (ws := wsX1_unfold) B.pre
  have hown : s.vm.findClass RX1 = some m.cls := findClass_of_methodNamed B.named
  have hlocks := B.notSynchronized
  have C0 := jCx.of hx hb hr hml hown hts hlocks
  subst hsz
  have hD := hD0.self (sz := s.heap.size)
  generalize hAe : va_A (wC cJ b1 b0 bw bq bf w en pl cu li ld fb) s.heap.size = A at hD hXs ⊢
  have hA : ∀ q : Nat, s.heap.size ≤ q → A q := fun q h => by rw [← hAe]; exact Or.inr h
  have hS : va_S A s.heap s.heap [] := va_S.rf
  have hP : va_P (dC, dI) vwCl (wC cJ b1 b0 bw bq bf w en pl cu li ld fb) s.heap := hP
  have hl := lv_entry ([.ref b1, .long a1]) (n := 3) (Nat.le_of_ble_eq_true rfl)
  rw [lg_entry_eq]
  generalize (lg_sl ([.ref b1, .long a1]) ++ List.replicate (3 - (lg_sl ([.ref b1, .long a1])).length) Slot.unset).toArray = ls at hl ⊢
  have hl : lv_has ls 3 [(0, .ref b1), (1, .long a1)] := hl
  clear hD0 hAe
  unfold j_X1_unfold at hj
  refine lv_lload_n hx hb dX1_unfold_0 rfl (lv_at hl 1 rfl) ?_
  rcases ja_tryx hj with hc | ⟨⟨⟩, hc, hj⟩
  · have hPc := hP.sub (ws' := ([] : va_W)) [] rfl
    have hDc := hD.sub (ws' := ([] : va_W)) [] (by decide) rfl
    have hFc := va_free (wc := ([] : va_W)) hD hS hA [] rfl
    refine vx_callv (vx_runS (As := [.long a1]) (rest := []) ⟨hx, hb, hml, hown, hts⟩ (x_X1_requireNumber l hlt dC dI cI cJ s.heap.size a1 hc) (va_cwS 1 hts gX1_unfold_X1_requireNumber rfl rfl rfl (by decide +kernel) ⟨Nat.le_of_ble_eq_true rfl, Nat.le_of_ble_eq_true rfl⟩) ⟨fun a U g mk q => ⟨q.1, jPr.blind q.2.1, jXs.blind q.2.2⟩, fun U hU hW => ⟨rfl, jPr.mk hU hW hPc hK hDc, jXs.down hU hW hS hFc hXs⟩⟩ rfl rfl hl.1 rfl (lv_room (Nat.le_of_ble_eq_true rfl)) dX1_unfold_1 ⟨Nat.le_of_ble_eq_true rfl, Nat.le_of_ble_eq_true rfl⟩) hS (fun q _ h => hFc q h) hFc (fun q _ h => hFc q h) (fun E ce q9 u t H1 locs1 ht hvm hpx hBX hz1 hk1 hS hce hcv hcl => ?_) (fun u t H1 locs1 ht hvm hw9 hB hz1 hk1 hS => hw9.elim)
    obtain ⟨rfl, hP1, hK1, hD1⟩ := hBX
    rw [ht] at hP1
    obtain ⟨hP, hD⟩ := va_join (wr := ([(b1, .inr (1, [.ref b0, .ref bq, .ref bf, .int ld])), (b0, .inr (0, [.ref bw, .int en, .int pl, .int cu])), (bw, .inl (cJ, 64, .inr (.inl w))), (bq, .inl (cJ, 100, .inr (.inl li))), (bf, .inl (cJ, 89, .inr (.inl fb)))] : va_W)) (w1 := ([] : va_W)) hP hD [] [0, 1, 2, 3, 4] rfl rfl (by decide) (by decide) hk1 hFc hP1 hD1
    exact vx_out (fun x hx9 => (htab x hx9).elim) hlocks hce hcv hcl (fun t2 ht2 hal => ⟨(), trivial, ⟨rfl, by rw [ht2]; exact hP, va_K.moved hal hK, hD⟩, hS.F ht2⟩) hS.2.2 (by decide) (by decide)
  · try dsimp only at hj
    have hPc := hP.sub (ws' := ([] : va_W)) [] rfl
    have hDc := hD.sub (ws' := ([] : va_W)) [] (by decide) rfl
    have hFc := va_free (wc := ([] : va_W)) hD hS hA [] rfl
    refine va_callv (va_runS (As := [.long a1]) (rest := []) ⟨hx, hb, hml, hown, hts⟩ (c_X1_requireNumber l dC dI cI cJ s.heap.size a1 _ hc) (va_cwS 1 hts gX1_unfold_X1_requireNumber rfl rfl rfl (by decide +kernel) ⟨Nat.le_of_ble_eq_true rfl, Nat.le_of_ble_eq_true rfl⟩) ⟨fun a U g mk q => ⟨q.1, jPr.blind q.2⟩, fun U hU hW => ⟨rfl, jPr.mk hU hW hPc hK hDc⟩⟩ rfl rfl hl.1 rfl (lv_room (Nat.le_of_ble_eq_true rfl)) dX1_unfold_1 ⟨Nat.le_of_ble_eq_true rfl, Nat.le_of_ble_eq_true rfl⟩) hS (fun q _ h => hFc q h) hFc (fun u t H1 locs ht hvm hw9 hB hz1 hk1 hS => ?_)
    obtain ⟨hP1, hK1, hD1⟩ := hB
    rw [ht] at hP1
    obtain ⟨hP, hD⟩ := va_join (wr := ([(b1, .inr (1, [.ref b0, .ref bq, .ref bf, .int ld])), (b0, .inr (0, [.ref bw, .int en, .int pl, .int cu])), (bw, .inl (cJ, 64, .inr (.inl w))), (bq, .inl (cJ, 100, .inr (.inl li))), (bf, .inl (cJ, 89, .inr (.inl fb)))] : va_W)) (w1 := ([] : va_W)) hP hD [] [0, 1, 2, 3, 4] rfl rfl (by decide) (by decide) hk1 hFc hP1 hD1
    clear hk1 hP1 hK1 hD1 hvm hz1 hPc hDc hFc
    generalize H1 = H at hP hS ⊢
    have hP : va_P (dC, dI) vwCl (wC cJ b1 b0 bw bq bf w en pl cu li ld fb) H := hP
    have hD : va_D A (wC cJ b1 b0 bw bq bf w en pl cu li ld fb) := hD
    refine lv_lload_n hx hb dX1_unfold_4 rfl (lv_at hl 1 rfl) ?_
    refine lv_ldc2 (v := (2 : Int64)) hx hb hown (hts (.constantLong RX1 27 (2)) (by decide +kernel)) dX1_unfold_5 ?_
    refine lv_lrem hx hb dX1_unfold_8 (by decide) ?_
    refine lv_lconst (v := (0 : Int64)) hx hb dX1_unfold_9 (by decide) ?_
    refine W.lcmp hx hb dX1_unfold_10 ?_
    refine lv_if_ne (tgt := 22) hx hb dX1_unfold_11 (by decide) (fun c1 => ?_) (fun c1 => ?_)
    · replace hj := ja_neg (fun h9 => c1 ((lg_cmp_eq (a1 - a1 / (2 : Int64) * (2 : Int64)) (0 : Int64)).mpr h9)) hj
      refine lv_lconst (v := (1 : Int64)) hx hb dX1_unfold_22 (by decide) ?_
      refine lv_lload_n hx hb dX1_unfold_23 rfl (lv_at hl 1 rfl) ?_
      refine lv_lsub hx hb dX1_unfold_24 ?_
      refine lv_ldc2 (v := (2 : Int64)) hx hb hown (hts (.constantLong RX1 27 (2)) (by decide +kernel)) dX1_unfold_25 ?_
      refine lv_ldiv hx hb dX1_unfold_28 (by decide) ?_
      cases hj
    · replace hj := ja_pos ((lg_cmp_eq (a1 - a1 / (2 : Int64) * (2 : Int64)) (0 : Int64)).mp c1) hj
      refine lv_lload_n hx hb dX1_unfold_14 rfl (lv_at hl 1 rfl) ?_
      refine lv_ldc2 (v := (2 : Int64)) hx hb hown (hts (.constantLong RX1 27 (2)) (by decide +kernel)) dX1_unfold_15 ?_
      refine lv_ldiv hx hb dX1_unfold_18 (by decide) ?_
      refine lv_goto (tgt := 29) hx hb dX1_unfold_19 (by decide) ?_
      cases hj

