/-! What the generated contracts share. -/
abbrev wB (cJ : ClassId) (h0 hw : Nat) (w : Nat → Int64) (en pl cu : Int32) : va_W := [(h0, .inr (0, [.ref hw, .int en, .int pl, .int cu])), (hw, .inl (cJ, 64, .inr (.inl w)))]
abbrev wC (cJ : ClassId) (h1 h0 hw hl hf : Nat) (w : Nat → Int64) (en pl cu : Int32) (li : Nat → Int64) (ld : Int32) (fb : Nat → Int64) : va_W := [(h1, .inr (1, [.ref h0, .ref hl, .ref hf, .int ld])), (h0, .inr (0, [.ref hw, .int en, .int pl, .int cu])), (hw, .inl (cJ, 64, .inr (.inl w))), (hl, .inl (cJ, 100, .inr (.inl li))), (hf, .inl (cJ, 89, .inr (.inl fb)))]
abbrev wM (cI cJ : ClassId) (g0 gr gl gw gs : Nat) (th : Int32) (rw : Nat → Int32) (mn at_ : Int32) (ml : Nat → Int64) (md_l : Int32) (wd : Nat → Int32) (md : Int32) (sm : Nat → Int64) (fr no : Int32) : va_W := [(g0, .inr (2, [.int th, .ref gr, .int mn, .int at_, .ref gl, .int md_l, .ref gw, .int md, .ref gs, .int fr, .int no])), (gr, .inl (cI, 4096, .inl rw)), (gl, .inl (cJ, 100, .inr (.inl ml))), (gw, .inl (cI, 4200, .inl wd)), (gs, .inl (cJ, 92, .inr (.inl sm)))]
abbrev wF (cJ : ClassId) (ha : Nat) (w : Nat → Int64) : va_W := [(ha, .inl (cJ, 64, .inr (.inl w)))]
abbrev jTy (cI cJ : ClassId) : List (ClassId × FieldType) := [(cI, .int), (cJ, .long)]
/-- what a contract asks of the world -/
def jPr (dC : Nat → ClassId) (dI : Nat → Nat → Nat) (cI cJ : ClassId) (ws : va_W) (sz : Nat) (U : State) : Prop := U.heap.size = sz ∧ va_P (dC, dI) vwCl ws U.heap ∧ va_K (dC, dI) vwCl (jTy cI cJ) U ∧ va_D (fun _ => True) ws
/-- what a contract gives back -/
def jPo (dC : Nat → ClassId) (dI : Nat → Nat → Nat) (cI cJ : ClassId) (ws : va_W) (A : Nat → Prop) (t : State) : Prop := va_P (dC, dI) vwCl ws t.heap ∧ va_K (dC, dI) vwCl (jTy cI cJ) t ∧ va_D A ws
theorem jPr.blind {dC : Nat → ClassId} {dI : Nat → Nat → Nat} {cI cJ : ClassId} {ws : va_W} {sz : Nat} {U : State} {g : JFrame} {mk : MethodId} {a : Array Value} (q : jPr dC dI cI cJ ws sz U) : jPr dC dI cI cJ ws sz (U.calling g mk a) :=
  ⟨q.1, q.2.1, va_K.moved (u := U) (U := U.calling g mk a) (Vm.Alike.refl U.vm) q.2.2.1, q.2.2.2⟩
theorem jPr.mk {dC : Nat → ClassId} {dI : Nat → Nat → Nat} {cI cJ : ClassId} {ws : va_W} {s U : State} {H : Heap} {A : Nat → Prop} (hU : U.heap = H) (hW : s.WarmedH U.vm) (hP : va_P (dC, dI) vwCl ws H) (hK : va_K (dC, dI) vwCl (jTy cI cJ) s) (hD : va_D A ws) : jPr dC dI cI cJ ws H.size U :=
  ⟨by rw [hU], by rw [hU]; exact hP, va_K.moved hW.alike hK, hD.weaken (fun _ _ _ _ => trivial)⟩
/-- the words on the nest mate's fields and constructor -/
def jNs (U : State) : Prop := va_Nw (.fieldLinkNest "SelfEndingCodes" 45 "SelfEndingCodes$BitRow" "end" "I" "SelfEndingCodes") U ∧ va_Nw (.fieldLinkNest "SelfEndingCodes" 71 "SelfEndingCodes$BitRow" "place" "I" "SelfEndingCodes") U ∧ va_Nw (.fieldLinkNest "SelfEndingCodes" 190 "SelfEndingCodes$BitRow" "cursor" "I" "SelfEndingCodes") U ∧ va_Nw (.methodLinkNest "SelfEndingCodes" 11 yX0_init "SelfEndingCodes") U
theorem jNs.blind {U : State} {g : JFrame} {mk : MethodId} {a : Array Value} (h : jNs U) : jNs (U.calling g mk a) :=
  ⟨va_Nw.same rfl (u := U) rfl h.1, va_Nw.same rfl (u := U) rfl h.2.1, va_Nw.same rfl (u := U) rfl h.2.2.1, va_Nw.same rfl (u := U) rfl h.2.2.2⟩
theorem jNs.warm {s U : State} (hW : s.WarmedH U.vm) (h : jNs s) : jNs U := ⟨va_Nw.warmF hW h.1, va_Nw.warmF hW h.2.1, va_Nw.warmF hW h.2.2.1, va_Nw.warmM hW h.2.2.2⟩
/-- where a method's body stands -/
def jCx (p : Program) (s : State) (m : MethodId) (args : Array Value) (meth : Method) (c : Code) (own : String) (cc : ByteArray) (nL : Nat) (ret : Option FieldType) (ws : List Cond) : Prop :=
  p.tables.exec = Jvm.exec ∧ c.code = cc ∧ meth.sig.returnType = ret ∧ c.maxLocals = nL ∧ s.vm.findClass own = some m.cls ∧ (∀ w ∈ ws, w.before args s = true) ∧ meth.locks = false
theorem jCx.of {p : Program} {s : State} {m : MethodId} {args : Array Value} {meth : Method} {c : Code} {own : String} {cc : ByteArray} {nL : Nat} {ret : Option FieldType} {ws : List Cond} (h1 : p.tables.exec = Jvm.exec) (h2 : c.code = cc) (h3 : meth.sig.returnType = ret) (h4 : c.maxLocals = nL) (h5 : s.vm.findClass own = some m.cls) (h6 : ∀ w ∈ ws, w.before args s = true) (h7 : meth.locks = false) : jCx p s m args meth c own cc nL ret ws := ⟨h1, h2, h3, h4, h5, h6, h7⟩
/-- how many times round a loop may go in the pure functions: far more than any needs -/
def jF : Nat := 1000000
def jix {α : Type} (i : Int32) (n : Nat) (k : Option α) : Option α := if i < 0 ∨ n ≤ i.toNatClampNeg then none else k
def jdvI {α : Type} (y : Int32) (k : Option α) : Option α := if y = 0 then none else k
def jdvJ {α : Type} (y : Int64) (k : Option α) : Option α := if y = 0 then none else k
theorem ja_ix {α : Type} {i : Int32} {n : Nat} {k : Option α} {r : α} (h : jix i n k = some r) : vp_in i n ∧ k = some r := by
  unfold jix at h
  by_cases c : i < 0 ∨ n ≤ i.toNatClampNeg
  · rw [if_pos c] at h; cases h
  · rw [if_neg c] at h; exact ⟨c, h⟩
theorem ja_dvI {α : Type} {y : Int32} {k : Option α} {r : α} (h : jdvI y k = some r) : ¬ y = 0 ∧ k = some r := by
  unfold jdvI at h
  by_cases c : y = 0
  · rw [if_pos c] at h; cases h
  · rw [if_neg c] at h; exact ⟨c, h⟩
theorem ja_dvJ {α : Type} {y : Int64} {k : Option α} {r : α} (h : jdvJ y k = some r) : ¬ y = 0 ∧ k = some r := by
  unfold jdvJ at h
  by_cases c : y = 0
  · rw [if_pos c] at h; cases h
  · rw [if_neg c] at h; exact ⟨c, h⟩
theorem ja_pos {α : Type} {c : Prop} [Decidable c] {a b : Option α} {r : α} (h : c) (hj : (if c then a else b) = some r) : a = some r := by rw [if_pos h] at hj; exact hj
theorem ja_neg {α : Type} {c : Prop} [Decidable c] {a b : Option α} {r : α} (h : ¬ c) (hj : (if c then a else b) = some r) : b = some r := by rw [if_neg h] at hj; exact hj
theorem ja_bd {α β : Type} {o : Option α} {f : α → Option β} {r : β} (h : o.bind f = some r) : ∃ q, o = some q ∧ f q = some r := by
  cases o with
  | none => cases h
  | some q => exact ⟨q, rfl, h⟩
theorem ja_sw {x k : Int32} {z : Int} (hz : k.toInt = z) (h : ¬ x = k) : ¬ x.toInt = z := fun e => h (Int32.toInt_inj.mp (e.trans hz.symm))

