/-! THE COMPONENT'S WORLD: a pool of cells, by their addresses (L) and what each holds (f) -/
abbrev pF : Type := Nat → va_E
abbrev pTy (dA : Nat → ClassId) : List (ClassId × FieldType) := [(dA 0, .byte), (dA 1, .int), (dA 2, .long), (dA 3, .object "TermKeeper$Row"), (dA 4, .object "java/lang/Object"), (dA 5, .boolean)]
def pStr : List (Nat × String) := [(77, "no such classes"), (92, "bits of no thing"), (126, "nothing such is told of a term"), (137, "no such byte"), (148, "no such use"), (165, "nothing such is told of a use"), (184, "no such thing of the ring"), (220, "no such total"), (222, "no such thing"), (224, "no such kind"), (229, "no such term"), (234, "no such text")]
/-- what a launch gives all along: links inside the nest, casts, texts of the throws -/
def pN (zz : Nat → Nat) (U : State) : Prop := va_Nw (.methodLinkNest RX2 99 yX8_isGreat RX8) U ∧ va_Nw (.methodLinkNest RX4 29 yX8_isGreat RX8) U ∧ va_Nw (.methodLinkNest RX4 33 yX8_isLetter RX8) U ∧ va_Nw (.methodLinkNest RX7 56 yX8_endsSentence RX8) U ∧ va_Nw (.methodLinkNest RX8 24 yX1_init RX8) U ∧ va_Nw (.methodLinkNest RX8 31 yX0_init RX8) U
  ∧ (va_Nw (.castable RX3 "java/lang/Object") U ∧ va_Nw (.castable RX4 "java/lang/Object") U ∧ va_Nw (.castable RX5 "java/lang/Object") U) ∧ (∀ q ∈ pStr, ∃ sa : Nat, vk_R RX8 q.1 q.2 sa U) ∧ va_AO "TermKeeper$Row" U ∧ va_AO "java/lang/Object" U ∧ va_Mi "[Ljava/lang/Object;" (zz 1) U ∧ va_Dc U ∧ (va_Nw (.declares (Bundle.initS "java/lang/RuntimeException")) U ∧ va_Nw (.declares (Bundle.initS "java/lang/Exception")) U ∧ va_Nw (.declares (Bundle.initS Bundle.tN)) U) ∧ va_Nw (.castable "java/lang/IllegalArgumentException" "java/lang/IllegalArgumentException") U ∧ va_Nw (.castable "java/util/NoSuchElementException" "java/util/NoSuchElementException") U ∧ va_Nc "java/lang/IllegalArgumentException" "java/util/NoSuchElementException" U ∧ va_Nc "java/util/NoSuchElementException" "java/lang/IllegalArgumentException" U
/-- statics that lie below the base: those that a throw reads, and the list's own empty row -/
def pSt (base : Nat) (zz : Nat → Nat) (U : State) (H : Heap) : Prop := vx_Zq Bundle.tN "UNASSIGNED_STACK" Bundle.steD (fun q => base ≤ q) U H ∧ vx_Zq Bundle.tN "SUPPRESSED_SENTINEL" Bundle.listD (fun q => base ≤ q) U H ∧ va_Z "java/util/ArrayList" "DEFAULTCAPACITY_EMPTY_ELEMENTDATA" "[Ljava/lang/Object;" (.ref (zz 0)) (fun q => base ≤ q) U H ∧ va_T (.object "java/lang/Object") (zz 0) 0 (fun _ => .null) (fun q => base ≤ q) U H
theorem pN_warm {zz : Nat → Nat} {s U : State} (hW : s.WarmedH U.vm) (h : pN zz s) : pN zz U := by
  obtain ⟨h1, h2, h3, h4, h5, h6, ⟨h7, h8, h9⟩, h10, h11, h12, h13, h14, ⟨h15, h16, h17⟩, h18, h19, h20, h21⟩ := h
  exact ⟨h1.warmM hW, h2.warmM hW, h3.warmM hW, h4.warmM hW, h5.warmM hW, h6.warmM hW, ⟨h7.warmC hW, h8.warmC hW, h9.warmC hW⟩, fun q hq => by obtain ⟨sa, h⟩ := h10 q hq; exact ⟨sa, h.warm hW⟩, va_AO.moved hW.alike h11, va_AO.moved hW.alike h12, va_Mi.moved hW.alike h13, va_Dc.moved hW.alike h14, ⟨h15.warmD hW, h16.warmD hW, h17.warmD hW⟩, h18.warmC hW, h19.warmC hW, h20.moved hW.alike, h21.moved hW.alike⟩
theorem pSt_moved {base : Nat} {zz : Nat → Nat} {u U : State} {H : Heap} (hvm : u.vm.Alike U.vm) (h : pSt base zz u H) : pSt base zz U H := ⟨h.1.moved hvm, h.2.1.moved hvm, h.2.2.1.moved hvm, h.2.2.2.moved hvm⟩
theorem pSt_kept {base : Nat} {zz : Nat → Nat} {U : State} {H H1 : Heap} (h : pSt base zz U H) (hq : ∀ a : Nat, a < H.size → ¬ base ≤ a → H1[a]? = H[a]?) : pSt base zz U H1 := ⟨h.1.kept hq, h.2.1.kept hq, h.2.2.1.kept hq, h.2.2.2.kept hq⟩
def pPre (dC : Nat → ClassId) (dI : Nat → Nat → Nat) (dA : Nat → ClassId) (zz : Nat → Nat) (base : Nat) (L : List Nat) (f : pF) (sz : Nat) : State → Prop := fun U => U.heap.size = sz ∧ va_P (dC, dI) vwCl (va_pl L f) U.heap ∧ va_K (dC, dI) vwCl (pTy dA) U ∧ va_D (fun q => base ≤ q) (va_pl L f) ∧ base ≤ sz ∧ pN zz U ∧ pSt base zz U U.heap
def pB (dC : Nat → ClassId) (dI : Nat → Nat → Nat) (dA : Nat → ClassId) (A : Nat → Prop) (u : List Nat × pF) (t : State) : Prop := va_P (dC, dI) vwCl (va_pl u.1 u.2) t.heap ∧ va_K (dC, dI) vwCl (pTy dA) t ∧ va_D A (va_pl u.1 u.2)
def pCx (p : Program) (s : State) (m : MethodId) (args : Array Value) (meth : Method) (c : Code) (cc : ByteArray) (nL : Nat) (ret : Option FieldType) (own : String) (Ts : List Cond) (A : Nat → Prop) (dC : Nat → ClassId) (dI : Nat → Nat → Nat) (dA : Nat → ClassId) (zz : Nat → Nat) (base : Nat) : Prop :=
  p.tables.exec = Jvm.exec ∧ c.code = cc ∧ c.maxLocals = nL ∧ s.vm.findClass own = some m.cls ∧ (∀ w ∈ Ts, w.before args s = true) ∧ meth.sig.returnType = ret ∧ meth.locks = false ∧ (∀ q : Nat, s.heap.size ≤ q → A q) ∧ va_K (dC, dI) vwCl (pTy dA) s ∧ (∀ q : Nat, A q → base ≤ q) ∧ base ≤ s.heap.size ∧ pN zz s ∧ pSt base zz s s.heap
def pAt (p : Program) (l : Launch) (e : Env) (R : Room) (s : State) (m : MethodId) (args : Array Value) (below : List Frame) (meth : Method) (c : Code) (dC : Nat → ClassId) (dI : Nat → Nat → Nat) (A : Nat → Prop) (Z : State → Prop) (cells slots pc nL : Nat) (lv : List (Nat × Value)) (st : List Value) (L : List Nat) (f : pF) : Prop :=
  ∀ (H : Heap) (locs : List Loc), va_P (dC, dI) vwCl (va_pl L f) H → va_D A (va_pl L f) → va_S A s.heap H locs → ∀ ls : Array Slot, lv_has ls nL lv → W p l e R s m args below meth c H locs cells slots Z (F0 m pc ls st)
-- the pool's rows
theorem p_at {L : List Nat} {f : pF} {a : Nat} {e : va_E} (h : a ∈ L) (hf : f a = e) : ∃ k : Nat, (va_pl L f)[k]? = some (a, e) := by
  obtain ⟨k, hk⟩ := va_pl_get (X := []) (f := f) h
  exact ⟨k, by rw [← hf]; exact hk⟩
theorem p_one {D : va_G} {cl : List vw_C} {L : List Nat} {f : pF} {H : Heap} {a : Nat} {e : va_E} (hP : va_P D cl (va_pl L f) H) (h : a ∈ L) (hf : f a = e) : va_P D cl [(a, e)] H := by
  obtain ⟨k, hk⟩ := p_at h hf
  intro j q hj
  match j, hj with
  | 0, hj => cases hj; exact hP k _ hk
  | j + 1, hj => simp at hj
theorem p_set {A : Nat → Prop} {L : List Nat} {f : pF} {a k : Nat} {e0 e : va_E} (hD : va_D A (va_pl L f)) (h : a ∈ L) (hf : f a = e0) (hk : (va_pl L f)[k]? = some (a, e0)) : (va_pl L f).set k (a, e) = va_pl L (va_up f a e) :=
  va_pl_set (X := []) hD h (by rw [hf]; exact hk)
theorem p_fresh {A : Nat → Prop} {L : List Nat} {f : pF} {q : Nat} {e : va_E} (hD : va_D A (va_pl L f ++ [(q, e)])) : q ∉ L := by
  intro h
  obtain ⟨k, hk⟩ := p_at (f := f) h rfl
  have hlt : k < (va_pl L f).length := (List.getElem?_eq_some_iff.mp hk).1
  have h1 : (va_pl L f ++ [(q, e)])[k]? = some (q, f q) := by rw [List.getElem?_append_left hlt]; exact hk
  have h2 : (va_pl L f ++ [(q, e)])[(va_pl L f).length]? = some (q, e) := by simp
  have := hD.1 k _ _ _ h1 h2 rfl
  omega
theorem p_nz {A : Nat → Prop} {base : Nat} {zz : Nat → Nat} {U : State} {H : Heap} {L : List Nat} {f : pF} {q : Nat} {e : va_E} (hB : ∀ q : Nat, A q → base ≤ q) (hT : pSt base zz U H) (hD : va_D A (va_pl L f ++ [(q, e)])) : q ≠ zz 0 := by
  intro h
  obtain ⟨_, -, -, -, -, -, -, hn⟩ := hT.2.2.2
  have h2 : (va_pl L f ++ [(q, e)])[(va_pl L f).length]? = some (q, e) := by simp
  exact hn (h ▸ hB _ (hD.2 _ _ h2))
theorem p_free {s : State} {A : Nat → Prop} {L : List Nat} {f : pF} {H : Heap} {locs : List Loc} (hD : va_D A (va_pl L f)) (hS : va_S A s.heap H locs) (hA : ∀ q : Nat, s.heap.size ≤ q → A q) : ∀ q : Nat, va_A (va_pl L f) H.size q → A q := by
  intro q h
  rcases h with ⟨k, e, h⟩ | h
  · exact hD.2 k _ h
  · exact hA q (Nat.le_trans hS.1 h)
theorem p_gain {A B : Nat → Prop} {L : List Nat} {f : pF} (hD : va_D B (va_pl L f)) (h : ∀ q, B q → A q) : va_D A (va_pl L f) := hD.weaken (fun _ _ _ hb => h _ hb)
theorem p_cA {D : va_G} {cl : List vw_C} {tys : List (ClassId × FieldType)} {U : State} {cA c1 : ClassId} {ty : FieldType} {t : Nat} (hK : va_K D cl (tys ++ [(cA, ty)]) U) (ht : tys[t]? = some (c1, ty)) : cA = c1 := by
  have h1 := (hK.2 tys.length (cA, ty) (by simp)).2
  have hlt : t < tys.length := (List.getElem?_eq_some_iff.mp ht).1
  have h2 := (hK.2 t (c1, ty) (by rw [List.getElem?_append_left hlt]; exact ht)).2
  revert h1 h2
  cases ty with
  | object C =>
    intro h1 h2
    obtain ⟨_, _, -, -, -, h1⟩ := h1
    obtain ⟨_, _, -, -, -, h2⟩ := h2
    exact Option.some.inj (h1.symm.trans h2)
  | _ => intro h1 h2; exact Option.some.inj (h1.symm.trans h2)
def isO (L : List Nat) (f : pF) (ci a : Nat) : Prop := a ∈ L ∧ ∃ fs : List Value, f a = .inr (ci, fs)
theorem p_recv {s : State} {H : Heap} {D : va_G} {tys : List (ClassId × FieldType)} {L : List Nat} {f : pF} {ci a : Nat} {q : vw_C} (hK : va_K D vwCl tys s) (hP : va_P D vwCl (va_pl L f) H) (hO : isO L f ci a) (hc : vwCl[ci]? = some q) : ∃ cell : Cell, H[a]? = some cell ∧ cell.vm.isStatics = false ∧ s.vm.findClass q.1 = some cell.cls := by
  obtain ⟨h, fs, hf⟩ := hO
  exact va_recv hK (p_one hP h hf) (ci := ci) (q0 := 0) hc rfl
theorem p_blind {dC : Nat → ClassId} {dI : Nat → Nat → Nat} {dA : Nat → ClassId} {zz : Nat → Nat} {base sz : Nat} {L : List Nat} {f : pF} {av : List Value} : FrameBlind (va_Pc av (pPre dC dI dA zz base L f sz)) := fun a U g mk q => by
  obtain ⟨q0, q1, qP, qK, qD, qb, qN, qS⟩ := q
  have hW : U.WarmedH (U.calling g mk a).vm := State.WarmedH.refl U
  exact ⟨q0, q1, qP, va_K.moved (u := U) (U := U.calling g mk a) (Vm.Alike.refl U.vm) qK, qD, qb, pN_warm hW qN, pSt_moved (u := U) (U := U.calling g mk a) (Vm.Alike.refl U.vm) qS⟩
theorem p_pre {s : State} {H : Heap} {locs : List Loc} {dC : Nat → ClassId} {dI : Nat → Nat → Nat} {dA : Nat → ClassId} {zz : Nat → Nat} {base : Nat} {L : List Nat} {f : pF} {A : Nat → Prop} (hK : va_K (dC, dI) vwCl (pTy dA) s) (hP : va_P (dC, dI) vwCl (va_pl L f) H) (hD : va_D A (va_pl L f)) (hS : va_S A s.heap H locs) (hB : ∀ q : Nat, A q → base ≤ q) (hz : base ≤ s.heap.size) (hN : pN zz s) (hT : pSt base zz s s.heap) {U : State} (hU : U.heap = H) (hW : s.WarmedH U.vm) : pPre dC dI dA zz base L f H.size U :=
  ⟨by rw [hU], by rw [hU]; exact hP, va_K.moved hW.alike hK, p_gain hD hB, Nat.le_trans hz hS.1, pN_warm hW hN, by rw [hU]; exact pSt_moved hW.alike (pSt_kept hT (fun a h1 h2 => hS.2.1 a h1 (fun h => h2 (hB a h))))⟩
theorem pPreV {s : State} {H : Heap} {locs : List Loc} {dC : Nat → ClassId} {dI : Nat → Nat → Nat} {dA : Nat → ClassId} {zz : Nat → Nat} {base : Nat} {L : List Nat} {f : pF} {A : Nat → Prop} {ci b : Nat} {q : vw_C} (As : List Value) (hc : vwCl[ci]? = some q) (hO : isO L f ci b) (hK : va_K (dC, dI) vwCl (pTy dA) s) (hP : va_P (dC, dI) vwCl (va_pl L f) H) (hD : va_D A (va_pl L f)) (hS : va_S A s.heap H locs) (hB : ∀ q : Nat, A q → base ≤ q) (hz : base ≤ s.heap.size) (hN : pN zz s) (hT : pSt base zz s s.heap) :
    PreV s H q.1 b (va_Pc (.ref b :: As) (pPre dC dI dA zz base L f H.size)) As := ⟨p_blind, p_recv hK hP hO hc, fun U hU hW => ⟨rfl, p_pre hK hP hD hS hB hz hN hT hU hW⟩⟩
theorem pPreS {s : State} {H : Heap} {locs : List Loc} {dC : Nat → ClassId} {dI : Nat → Nat → Nat} {dA : Nat → ClassId} {zz : Nat → Nat} {base : Nat} {L : List Nat} {f : pF} {A : Nat → Prop} (As : List Value) (hK : va_K (dC, dI) vwCl (pTy dA) s) (hP : va_P (dC, dI) vwCl (va_pl L f) H) (hD : va_D A (va_pl L f)) (hS : va_S A s.heap H locs) (hB : ∀ q : Nat, A q → base ≤ q) (hz : base ≤ s.heap.size) (hN : pN zz s) (hT : pSt base zz s s.heap) :
    PreS s H (va_Pc As (pPre dC dI dA zz base L f H.size)) As := ⟨p_blind, fun U hU hW => ⟨rfl, p_pre hK hP hD hS hB hz hN hT hU hW⟩⟩
-- what an access asks of the pool
def gI (L : List Nat) (f : pF) (ci a k : Nat) (K : Int32 → Prop) : Prop := ∃ (fs : List Value) (x : Int32), (a ∈ L ∧ f a = .inr (ci, fs) ∧ fs[k]? = some (.int x)) ∧ K x
def gJ (L : List Nat) (f : pF) (ci a k : Nat) (K : Int64 → Prop) : Prop := ∃ (fs : List Value) (x : Int64), (a ∈ L ∧ f a = .inr (ci, fs) ∧ fs[k]? = some (.long x)) ∧ K x
def gR (L : List Nat) (f : pF) (ci a k : Nat) (K : Nat → Prop) : Prop := ∃ (fs : List Value) (x : Nat), (a ∈ L ∧ f a = .inr (ci, fs) ∧ fs[k]? = some (.ref x)) ∧ K x
def gP (L : List Nat) (f : pF) (ci a k : Nat) (v : Value) (K : pF → Prop) : Prop := ∃ fs : List Value, (a ∈ L ∧ f a = .inr (ci, fs) ∧ k < fs.length) ∧ ∀ f' : pF, f' = va_up f a (.inr (ci, fs.set k v)) → K f'
def aI (L : List Nat) (f : pF) (cA : ClassId) (a : Nat) (i : Int32) (K : Int32 → Prop) : Prop := ∃ (n : Nat) (g : Nat → Int32), (a ∈ L ∧ f a = .inl (cA, n, .inl g) ∧ vp_in i n) ∧ K (g i.toNatClampNeg)
def aJ (L : List Nat) (f : pF) (cA : ClassId) (a : Nat) (i : Int32) (K : Int64 → Prop) : Prop := ∃ (n : Nat) (g : Nat → Int64), (a ∈ L ∧ f a = .inl (cA, n, .inr (.inl g)) ∧ vp_in i n) ∧ K (g i.toNatClampNeg)
def aR (L : List Nat) (f : pF) (cA : ClassId) (a : Nat) (i : Int32) (K : Nat → Prop) : Prop := ∃ (n : Nat) (g : Nat → Option Nat) (y : Nat), (a ∈ L ∧ f a = .inl (cA, n, .inr (.inr (.inr (.inr g)))) ∧ vp_in i n ∧ g i.toNatClampNeg = some y) ∧ K y
def aIs (L : List Nat) (f : pF) (cA : ClassId) (a : Nat) (i x : Int32) (K : pF → Prop) : Prop := ∃ (n : Nat) (g : Nat → Int32), (a ∈ L ∧ f a = .inl (cA, n, .inl g) ∧ vp_in i n) ∧ ∀ f' : pF, f' = va_up f a (.inl (cA, n, .inl (upd g i.toNatClampNeg x))) → K f'
def aJs (L : List Nat) (f : pF) (cA : ClassId) (a : Nat) (i : Int32) (x : Int64) (K : pF → Prop) : Prop := ∃ (n : Nat) (g : Nat → Int64), (a ∈ L ∧ f a = .inl (cA, n, .inr (.inl g)) ∧ vp_in i n) ∧ ∀ f' : pF, f' = va_up f a (.inl (cA, n, .inr (.inl (vp_updL g i.toNatClampNeg x)))) → K f'
def aRs (L : List Nat) (f : pF) (cA : ClassId) (a : Nat) (i : Int32) (v : Nat) (K : pF → Prop) : Prop := ∃ (n : Nat) (g : Nat → Option Nat), (a ∈ L ∧ f a = .inl (cA, n, .inr (.inr (.inr (.inr g)))) ∧ vp_in i n) ∧ ∀ f' : pF, f' = va_up f a (.inl (cA, n, .inr (.inr (.inr (.inr (va_up g i.toNatClampNeg (some v))))))) → K f'
def aN (L : List Nat) (f : pF) (cA : ClassId) (a : Nat) (K : Int32 → Prop) : Prop := ∃ x : vp_A, (a ∈ L ∧ f a = .inl (cA, x)) ∧ K (Int32.ofNat x.1)
def nO (zz : Nat → Nat) (L : List Nat) (f : pF) (e : va_E) (K : Nat → List Nat → pF → Prop) : Prop := ∀ q : Nat, q ∉ L → q ≠ zz 0 → ∀ (L' : List Nat) (f' : pF), L' = L ++ [q] → f' = va_up f q e → K q L' f'
def cI9 (L : List Nat) (f : pF) (d1 d2 : ClassId) (a0 a : Nat) (sp dp n : Int32) (K : pF → Prop) : Prop := ∃ (n0 n1 : Nat) (g h : Nat → Int32), (a0 ∈ L ∧ f a0 = .inl (d1, n0, .inl g) ∧ a ∈ L ∧ f a = .inl (d2, n1, .inl h) ∧ ¬ sp < 0 ∧ ¬ dp < 0 ∧ ¬ n < 0 ∧ sp.toNatClampNeg + n.toNatClampNeg ≤ n0 ∧ dp.toNatClampNeg + n.toNatClampNeg ≤ n1 ∧ ∀ i : Nat, i < n.toNatClampNeg → fits .byte (.int (g (sp.toNatClampNeg + i))) = true) ∧ ∀ f' : pF, f' = va_up f a (.inl (d2, n1, .inl (va_cpy g h sp.toNatClampNeg dp.toNatClampNeg n.toNatClampNeg))) → K f'
theorem pAB {base sz : Nat} {L : List Nat} {f : pF} (hD : va_D (fun q => base ≤ q) (va_pl L f)) (hz : base ≤ sz) : ∀ q : Nat, va_A (va_pl L f) sz q → base ≤ q := by
  intro q h
  rcases h with ⟨k, e, h⟩ | h
  · exact hD.2 k _ h
  · exact Nat.le_trans hz h
theorem p_keep {D : va_G} {cl : List vw_C} {L : List Nat} {f : pF} {H H1 : Heap} (hP : va_P D cl (va_pl L f) H) (hk : ∀ q : Nat, q < H.size → H1[q]? = H[q]?) : va_P D cl (va_pl L f) H1 := hP.kept (fun _ _ h => hk _ (vx_lt hP h))
theorem p_F {A : Nat → Prop} {s t : State} {H : Heap} {locs : List Loc} (hS : va_S A s.heap H locs) (hz : H.size ≤ t.heap.size) (hk : ∀ q : Nat, q < H.size → t.heap[q]? = H[q]?) : va_F A s t := ⟨Nat.le_trans hS.1 hz, fun q h1 h2 => (hk q (Nat.lt_of_lt_of_le h1 hS.1)).trans (hS.2.1 q h1 h2)⟩
section PXR
variable {p : Program} {l : Launch} {e : Env} {R : Room} {s : State} {m : MethodId} {args : Array Value} {below : List Frame} {meth : Method} {c : Code} {H : Heap} {locs : List Loc} {cells slots : Nat} {Q : State → Prop}
variable {mc ms pc : Nat} {free : Addr → Prop} {A0 A1 : Nat → Prop} {H0 : Heap} {a : Array Value} {ls : Array Slot} {st0 rest : List Value}
theorem vx_callr {S SX : Type} {post : S → Prop} {px : SX → Prop} {B : S → Nat → State → Prop} {BX : String → SX → State → Prop} {AX : Nat → Prop} (hr : vx_Run p l e R s m args below meth c H locs cells slots mc ms (F0 m pc ls st0) rest (va_Qr post B A1 a) (vx_X px BX AX) free) (hS : va_S A0 H0 H locs) (hA : ∀ q, q < H.size → A1 q → A0 q) (hf : ∀ q, free q → A0 q) (hAX : ∀ q, q < H.size → AX q → A0 q)
    (kx : ∀ (E : String) (ce : Cell) (q9 : Addr) (u : SX) (t : State) (H1 : Heap) (locs1 : List Loc), t.heap = H1 → s.vm.Alike t.vm → px u → BX E u t → H.size ≤ H1.size → (∀ q : Nat, q < H.size → ¬ AX q → H1[q]? = H[q]?) → va_S A0 H0 H1 locs1 → H1[q9]? = some ce → ce.vm = .none → s.vm.findClass E = some ce.cls → vx_W p l e R s m args below meth c H1 locs1 (cells + mc) (slots + ms) Q (F0 m pc ls rest) q9)
    (kk : ∀ (u : S) (ra : Nat) (t : State) (H1 : Heap) (locs1 : List Loc), t.heap = H1 → s.vm.Alike t.vm → post u → B u ra t → H.size ≤ H1.size → (∀ q : Nat, q < H.size → ¬ A1 q → H1[q]? = H[q]?) → va_S A0 H0 H1 locs1 → W p l e R s m args below meth c H1 locs1 (cells + mc) (slots + ms) Q (F0 m (pc + 3) ls (.ref ra :: rest))) : W p l e R s m args below meth c H locs cells slots Q (F0 m pc ls st0) := by
  intro T hT X
  rcases hr T hT X with ⟨v, st₀, t, T', L, h0, X', hL, e1, e2, ⟨⟨u, ra, hv, hp, hb⟩, hF⟩, st⟩ | ⟨q, st₀, t, T', L, E, ce, h0, X', hL, e1, e2, ⟨u, hp, hb, hF⟩, hce, hcv, hcl, st⟩
  · cases hv
    obtain ⟨k1, k2, k3⟩ := vx_keep h0 e1 hS hA hf hL hF
    obtain ⟨t2, a1, b1⟩ := kk u ra t T'.heap (locs ++ L) e1.symm (by rw [← e2]; exact X'.warmed.alike) hp hb k1 k2 k3 T' rfl X'
    exact ⟨t2, st t2 a1, b1⟩
  · obtain ⟨k1, k2, k3⟩ := vx_keep h0 e1 hS hAX hf hL hF
    obtain ⟨t2, a1, b1⟩ := kx E ce q u t T'.heap (locs ++ L) e1.symm (by rw [← e2]; exact X'.warmed.alike) hp hb k1 k2 k3 (by rw [e1]; exact hce) hcv hcl T' rfl X'
    exact ⟨t2, st.trans a1, b1⟩
end PXR
def isE (L : List Nat) (f : pF) (v : Nat) : Prop := ∃ ci : Nat, (ci = 4 ∨ ci = 5 ∨ ci = 6) ∧ isO L f ci v
theorem p_any {s : State} {H : Heap} {zz : Nat → Nat} {D : va_G} {tys : List (ClassId × FieldType)} {L : List Nat} {f : pF} {v : Nat} (hN : pN zz s) (hK : va_K D vwCl tys s) (hP : va_P D vwCl (va_pl L f) H) (h : isE L f v) : va_Any "java/lang/Object" s H v := by
  obtain ⟨h7, h8, h9⟩ := hN.2.2.2.2.2.2.1
  obtain ⟨ci, hci, hL, fs, hf⟩ := h
  have key : ∀ {C : String} {T : u_T} {N : Nat}, vwCl[ci]? = some (C, T, N) → va_Nw (.castable C "java/lang/Object") s → va_Any "java/lang/Object" s H v := by
    intro C T N hc hn
    refine va_rAny (q0 := 0) (ci := ci) (r := (C, T, N)) hK (p_one hP hL hf) rfl hc ?_
    intro comp c0 h1 h2
    obtain ⟨c3, c4, hc3, hc4, ha⟩ := Cond.castable_spec hn
    cases Option.some.inj (h1.symm.trans hc4)
    cases Option.some.inj (h2.symm.trans hc3)
    exact ha
  rcases hci with rfl | rfl | rfl
  · exact key rfl h7
  · exact key rfl h8
  · exact key rfl h9
def cR9 (L : List Nat) (f : pF) (d1 d2 : ClassId) (a0 a : Nat) (sp dp n : Int32) (K : pF → Prop) : Prop := ∃ (n0 n1 : Nat) (g h : Nat → Option Nat), (a0 ∈ L ∧ f a0 = .inl (d1, n0, .inr (.inr (.inr (.inr g)))) ∧ a ∈ L ∧ f a = .inl (d2, n1, .inr (.inr (.inr (.inr h)))) ∧ ¬ sp < 0 ∧ ¬ dp < 0 ∧ ¬ n < 0 ∧ sp.toNatClampNeg + n.toNatClampNeg ≤ n0 ∧ dp.toNatClampNeg + n.toNatClampNeg ≤ n1 ∧ ∀ i : Nat, i < n.toNatClampNeg → ∀ y : Nat, g (sp.toNatClampNeg + i) = some y → isE L f y) ∧ ∀ f' : pF, f' = va_up f a (.inl (d2, n1, .inr (.inr (.inr (.inr (va_cpy g h sp.toNatClampNeg dp.toNatClampNeg n.toNatClampNeg)))))) → K f'
theorem p_arr {s : State} {H : Heap} {D : va_G} {dA : Nat → ClassId} {L : List Nat} {f : pF} {a : Nat} {x : vp_A} (hK : va_K D vwCl (pTy dA) s) (hP : va_P D vwCl (va_pl L f) H) (hL : a ∈ L) (hf : f a = .inl (dA 4, x)) : ∃ cell : Cell, H[a]? = some cell ∧ cell.vm.isStatics = false ∧ s.vm.findClass "[Ljava/lang/Object;" = some cell.cls := by
  obtain ⟨_, _, -, -, -, h⟩ := (hK.2 4 (dA 4, .object "java/lang/Object") rfl).2
  have hc : H[a]? = some (vp_cell (dA 4) x) := p_one hP hL hf 0 _ rfl
  refine ⟨_, hc, ?_, ?_⟩
  · obtain ⟨n, g⟩ := x
    rcases g with g | g | g | g | g <;> rfl
  · obtain ⟨n, g⟩ := x
    rcases g with g | g | g | g | g <;> exact h
def pBad (X : String) : List Cond := [.declares (Bundle.initS "java/lang/RuntimeException"), .declares (Bundle.initS "java/lang/Exception"), .declares (Bundle.initS Bundle.tN), .castable X X]
theorem pBad_IAE : ∀ w ∈ (vx_atS RX8 79 "java/lang/IllegalArgumentException" ["java/lang/RuntimeException", "java/lang/Exception"]).filter (fun w => !goodWord w), w ∈ pBad "java/lang/IllegalArgumentException" := by decide +kernel
theorem pBad_NSE : ∀ w ∈ nsAt.filter (fun w => !goodWord w), w ∈ pBad "java/util/NoSuchElementException" := by decide +kernel
theorem pBad_of {X : String} {args : Array Value} {s : State} (h1 : va_Nw (.declares (Bundle.initS "java/lang/RuntimeException")) s ∧ va_Nw (.declares (Bundle.initS "java/lang/Exception")) s ∧ va_Nw (.declares (Bundle.initS Bundle.tN)) s) (h2 : va_Nw (.castable X X) s) : ∀ w ∈ pBad X, w.before args s = true :=
  vx_c (h1.1.use rfl) (vx_c (h1.2.1.use rfl) (vx_c (h1.2.2.use rfl) (vx_c (h2.use rfl) vx_n)))
