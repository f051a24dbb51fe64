abbrev mS : Type := Nat → Nat → Int32
abbrev mG : Type := Nat → Nat → Int64
def mst (S : mS) (k j : Nat) (v : Int32) : mS := fun a => if a = k then upd (S k) j v else S a
def mstL (G : mG) (k j : Nat) (v : Int64) : mG := fun a => if a = k then vp_updL (G k) j v else G a
/-- the reference: its object and its arrays -/
def mW (cI cJ cZ : ClassId) (o : Nat) (ad : Nat → Nat) (S : mS) (G : mG) : va_W := [(o, .inr (10, [.int (S 0 0), .int (S 1 0), .ref (ad 2), .int (S 3 0), .int (S 4 0), .int (S 5 0), .ref (ad 6), .ref (ad 7), .ref (ad 8), .ref (ad 9), .ref (ad 10), .ref (ad 11), .ref (ad 12), .ref (ad 13), .ref (ad 14), .ref (ad 15), .ref (ad 16), .ref (ad 17), .ref (ad 18), .ref (ad 19), .ref (ad 20), .int (S 21 0), .ref (ad 22), .ref (ad 23), .ref (ad 24), .int (S 25 0), .ref (ad 26), .ref (ad 27), .ref (ad 28), .ref (ad 29), .ref (ad 30), .ref (ad 31), .ref (ad 32), .ref (ad 33), .ref (ad 34), .ref (ad 35), .ref (ad 36), .ref (ad 37)])), (ad 2, .inl (cI, 40, .inl (S 2))), (ad 6, .inl (cI, 24, .inl (S 6))), (ad 7, .inl (cI, 6, .inl (S 7))), (ad 8, .inl (cI, 2160, .inl (S 8))), (ad 9, .inl (cI, 180, .inl (S 9))), (ad 10, .inl (cI, 60, .inl (S 10))), (ad 11, .inl (cI, 60, .inl (S 11))), (ad 12, .inl (cI, 60, .inl (S 12))), (ad 13, .inl (cI, 60, .inl (S 13))), (ad 14, .inl (cI, 3840, .inl (S 14))), (ad 15, .inl (cI, 320, .inl (S 15))), (ad 16, .inl (cI, 40, .inl (S 16))), (ad 17, .inl (cJ, 40, .inr (.inl (G 17)))), (ad 18, .inl (cZ, 40, .inl (S 18))), (ad 19, .inl (cI, 4800, .inl (S 19))), (ad 20, .inl (cI, 8, .inl (S 20))), (ad 22, .inl (cI, 301, .inl (S 22))), (ad 23, .inl (cI, 301, .inl (S 23))), (ad 24, .inl (cI, 301, .inl (S 24))), (ad 26, .inl (cI, 301, .inl (S 26))), (ad 27, .inl (cI, 301, .inl (S 27))), (ad 28, .inl (cI, 301, .inl (S 28))), (ad 29, .inl (cI, 301, .inl (S 29))), (ad 30, .inl (cI, 301, .inl (S 30))), (ad 31, .inl (cI, 64, .inl (S 31))), (ad 32, .inl (cI, 600, .inl (S 32))), (ad 33, .inl (cJ, 41, .inr (.inl (G 33)))), (ad 34, .inl (cI, 40, .inl (S 34))), (ad 35, .inl (cI, 14, .inl (S 35))), (ad 36, .inl (cJ, 40, .inr (.inl (G 36)))), (ad 37, .inl (cJ, 40, .inr (.inl (G 37))))]
abbrev mTy (cI cJ cZ : ClassId) : List (ClassId × FieldType) := [(cI, .int), (cJ, .long), (cZ, .boolean)]
def mPre (dC : Nat → ClassId) (dI : Nat → Nat → Nat) (cI cJ cZ : ClassId) (o : Nat) (ad : Nat → Nat) (S : mS) (G : mG) (sz : Nat) : State → Prop := fun U => U.heap.size = sz ∧ va_P (dC, dI) vwCl (mW cI cJ cZ o ad S G) U.heap ∧ va_K (dC, dI) vwCl (mTy cI cJ cZ) U ∧ va_D (fun _ => True) (mW cI cJ cZ o ad S G)
def mB (dC : Nat → ClassId) (dI : Nat → Nat → Nat) (cI cJ cZ : ClassId) (o : Nat) (ad : Nat → Nat) (A : Nat → Prop) (u : mS × mG) (t : State) : Prop := va_P (dC, dI) vwCl (mW cI cJ cZ o ad u.1 u.2) t.heap ∧ va_K (dC, dI) vwCl (mTy cI cJ cZ) t ∧ va_D A (mW cI cJ cZ o ad u.1 u.2)
abbrev mA (cI cJ cZ : ClassId) (o : Nat) (ad : Nat → Nat) (S : mS) (G : mG) (sz : Nat) : Nat → Prop := va_A (mW cI cJ cZ o ad S G) sz
/-- what a walk of a method of the reference knows all along -/
def mCx (p : Program) (s : State) (m : MethodId) (args : Array Value) (meth : Method) (c : Code) (cc : ByteArray) (nL : Nat) (ret : Option FieldType) (Ts : List Cond) (A : Nat → Prop) (dC : Nat → ClassId) (dI : Nat → Nat → Nat) (cI cJ cZ : ClassId) : Prop :=
  p.tables.exec = Jvm.exec ∧ c.code = cc ∧ c.maxLocals = nL ∧ s.vm.findClass RX9 = some m.cls ∧ (∀ w ∈ Ts, w.before args s = true) ∧ meth.sig.returnType = ret ∧ meth.locks = false ∧ (∀ q : Nat, s.heap.size ≤ q → A q) ∧ va_K (dC, dI) vwCl (mTy cI cJ cZ) s
/-- the machine at pc, with these locals, this stack, the reference in the state S, G -/
def mAt (p : Program) (l : Launch) (e : Env) (R : Room) (s : State) (m : MethodId) (args : Array Value) (below : List Frame) (meth : Method) (c : Code) (dC : Nat → ClassId) (dI : Nat → Nat → Nat) (cI cJ cZ : ClassId) (o : Nat) (ad : Nat → Nat) (A : Nat → Prop) (Z : State → Prop) (pc nL : Nat) (lv : List (Nat × Value)) (st : List Value) (S : mS) (G : mG) : Prop :=
  ∀ (H : Heap) (locs : List Loc), va_P (dC, dI) vwCl (mW cI cJ cZ o ad S G) H → va_D A (mW cI cJ cZ o ad S G) → va_S A s.heap H locs → ∀ ls : Array Slot, lv_has ls nL lv → W p l e R s m args below meth c H locs 0 0 Z (F0 m pc ls st)
/-- the same of a static method that has numbers alone -/
def sCx (p : Program) (s : State) (m : MethodId) (args : Array Value) (meth : Method) (c : Code) (cc : ByteArray) (nL : Nat) (ret : Option FieldType) (own : String) (Ts : List Cond) : Prop :=
  p.tables.exec = Jvm.exec ∧ c.code = cc ∧ c.maxLocals = nL ∧ s.vm.findClass own = some m.cls ∧ (∀ w ∈ Ts, w.before args s = true) ∧ meth.sig.returnType = ret ∧ meth.locks = false
def sAt (p : Program) (l : Launch) (e : Env) (R : Room) (s : State) (m : MethodId) (args : Array Value) (below : List Frame) (meth : Method) (c : Code) (Z : State → Prop) (pc nL : Nat) (lv : List (Nat × Value)) (st : List Value) : Prop :=
  ∀ ls : Array Slot, lv_has ls nL lv → W p l e R s m args below meth c s.heap [] 0 0 Z (F0 m pc ls st)
theorem mPreV {s : State} {H : Heap} {dC : Nat → ClassId} {dI : Nat → Nat → Nat} {cI cJ cZ : ClassId} {o : Nat} {ad : Nat → Nat} {S : mS} {G : mG} {A : Nat → Prop} (As : List Value) (hK : va_K (dC, dI) vwCl (mTy cI cJ cZ) s) (hP : va_P (dC, dI) vwCl (mW cI cJ cZ o ad S G) H) (hD : va_D A (mW cI cJ cZ o ad S G)) :
    PreV s H RX9 o (va_Pc (.ref o :: As) (mPre dC dI cI cJ cZ o ad S G H.size)) As :=
  ⟨fun a U g mk q => by obtain ⟨q0, q1, qP, qK, qD⟩ := q; exact ⟨q0, q1, qP, va_K.moved (u := U) (U := U.calling g mk a) (Vm.Alike.refl U.vm) qK, qD⟩, va_recv hK hP (ci := 10) (q0 := 0) rfl rfl, fun U hU hW => ⟨rfl, by rw [hU], by rw [hU]; exact hP, va_K.moved hW.alike hK, hD.weaken (fun _ _ _ _ => trivial)⟩⟩
theorem mFree {s : State} {H : Heap} {locs : List Loc} {cI cJ cZ : ClassId} {o : Nat} {ad : Nat → Nat} {S : mS} {G : mG} {A : Nat → Prop} (hD : va_D A (mW cI cJ cZ o ad S G)) (hS : va_S A s.heap H locs) (hA : ∀ q : Nat, s.heap.size ≤ q → A q) : ∀ q : Nat, mA cI cJ cZ o ad S G H.size q → A q :=
  va_free (wc := mW cI cJ cZ o ad S G) hD hS hA (List.range 32) rfl
theorem mGain {cI cJ cZ : ClassId} {o : Nat} {ad : Nat → Nat} {S : mS} {G : mG} {A B : Nat → Prop} (hD : va_D B (mW cI cJ cZ o ad S G)) (h : ∀ q, B q → A q) : va_D A (mW cI cJ cZ o ad S G) := hD.weaken (fun _ _ _ hb => h _ hb)
theorem sw_int {x : Int32} {n : Int32} {k : Int} (hk : n.toInt = k) (h : ¬ x = n) : x.toInt ≠ k := fun q => h (Int32.toInt_inj.mp (q.trans hk.symm))
theorem sw_out4 {x : Int32} (h0 : ¬ x = 0) (h1 : ¬ x = 1) (h2 : ¬ x = 2) (h3 : ¬ x = 3) : x.toInt < 0 ∨ 3 < x.toInt := by
  have a0 := sw_int (n := 0) (k := 0) rfl h0
  have a1 := sw_int (n := 1) (k := 1) rfl h1
  have a2 := sw_int (n := 2) (k := 2) rfl h2
  have a3 := sw_int (n := 3) (k := 3) rfl h3
  omega
theorem sw_out5 {x : Int32} (h0 : ¬ x = 0) (h1 : ¬ x = 1) (h2 : ¬ x = 2) (h3 : ¬ x = 3) (h4 : ¬ x = 4) : x.toInt < 0 ∨ 4 < x.toInt := by
  have a0 := sw_int (n := 0) (k := 0) rfl h0
  have a1 := sw_int (n := 1) (k := 1) rfl h1
  have a2 := sw_int (n := 2) (k := 2) rfl h2
  have a3 := sw_int (n := 3) (k := 3) rfl h3
  have a4 := sw_int (n := 4) (k := 4) rfl h4
  omega
