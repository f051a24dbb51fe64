-- ===== end of PART A; then your names; then what follows =====
/-! THE CLAIM OUT OF ONE WALK OF THE LAW'S BODY. Your part is whole_start (and what it stands on); all else here is the same for every law, but numbers. -/
def R_law : String := "TermKeeperLaw"
def lw_P (b : Addr) (xs : List Int32) (args : Array Value) (s : State) : Prop := args = #[.ref b] ∧ s.IntsAt b xs ∧ xs.length ≤ 3584 ∧ (Jvm.Cond.and given_1 narrow_1).before args s = true
def lw_Q (_ : Array Value) (s : State) (o : Outcome) (t : State) : Prop := o = .returned (some (.int 1)) ∧ Framed s o t [] 601024 7293034
def lw_Z (below : List Frame) (a : Array Value) (s : State) : State → Prop := fun t => ∃ o, t.status = .running ∧ Ended t below o ∧ lw_Q a s o t
/-- the law's own end, with 1 on the stack, nothing written that was there before, its room as the claim has it -/
theorem lw_ret {p : Program} {l : Launch} {e : Env} {s : State} {m : MethodId} {below : List Frame} {meth : Method} {c : Code} {b : Nat} (hx : p.tables.exec = Jvm.exec) (hb : c.code = code) (hr : meth.sig.returnType = ret) (hlocks : meth.locks = false) {pc : Nat} {H : Heap} {ls : Array Slot} (hdg : decode code pc = .ok (.ireturn, 1)) : W p l e room_1 s m #[Value.ref b] below meth c H [] 601024 7293034 (lw_Z below #[Value.ref b] s) (F0 m pc ls [.int 1]) := by
  intro T hT X
  obtain ⟨fs, hret, hrun, hended, hW, hframe⟩ := X.leave (v := some (.int 1)) (hlocks := hlocks) (fun h => by rw [hr] at h; cases h)
  have hmeth' : T.vm.method? m = some meth := X.method'
  refine ⟨T.setFrames fs, ?_, .returned (some (.int 1)), hrun, hended, rfl, ⟨_, rfl⟩, hW, hframe⟩
  jvm_step X.here [X.here.top, hx, hb, hdg, hmeth', hr, ret, narrow_b1]
  (try refine ⟨rfl, ?_⟩); (try refine ⟨rfl, ?_⟩)
  first | (intro acts; rw [hret _ acts rfl rfl rfl]) | rw [hret _ _ rfl rfl rfl]
  exact Steps.refl _
/-- what holds at the law's entry: the machine, the code, the tables' words (any of lw_tbl by 'hts w (by decide +kernel)'), the script of L ints xs at the cell b, what the Statement gives of the start (any of its parts by flat_of_before) -/
def lw_At (p : Program) (s : State) (m : MethodId) (meth : Method) (c : Code) (b L : Nat) (xs : Nat → Int32) : Prop :=
  p.tables.exec = Jvm.exec ∧ c.code = code ∧ meth.sig.returnType = ret ∧ c.maxLocals = 8 ∧ s.vm.findClass R_law = some m.cls ∧ (∀ w ∈ lw_tbl, w.before #[Value.ref b] s = true) ∧ va_X b L xs s s.heap ∧ b < s.heap.size ∧ meth.locks = false ∧ (Jvm.Cond.and given_1 narrow_1).before #[Value.ref b] s = true
theorem sw_out20 {x : Int32} (h0 : ¬ x = 0) (h1 : ¬ x = 1) (h2 : ¬ x = 2) (h3 : ¬ x = 3) (h4 : ¬ x = 4) (h5 : ¬ x = 5) (h6 : ¬ x = 6) (h7 : ¬ x = 7) (h8 : ¬ x = 8) (h9 : ¬ x = 9) (h10 : ¬ x = 10) (h11 : ¬ x = 11) (h12 : ¬ x = 12) (h13 : ¬ x = 13) (h14 : ¬ x = 14) (h15 : ¬ x = 15) (h16 : ¬ x = 16) (h17 : ¬ x = 17) (h18 : ¬ x = 18) (h19 : ¬ x = 19) : x.toInt < 0 ∨ 19 < x.toInt := by
  have a0 := sw_int (n := 0) (k := 0) rfl h0
  have a1 := sw_int (n := 1) (k := 1) rfl h1
  have a2 := sw_int (n := 2) (k := 2) rfl h2
  have a3 := sw_int (n := 3) (k := 3) rfl h3
  have a4 := sw_int (n := 4) (k := 4) rfl h4
  have a5 := sw_int (n := 5) (k := 5) rfl h5
  have a6 := sw_int (n := 6) (k := 6) rfl h6
  have a7 := sw_int (n := 7) (k := 7) rfl h7
  have a8 := sw_int (n := 8) (k := 8) rfl h8
  have a9 := sw_int (n := 9) (k := 9) rfl h9
  have a10 := sw_int (n := 10) (k := 10) rfl h10
  have a11 := sw_int (n := 11) (k := 11) rfl h11
  have a12 := sw_int (n := 12) (k := 12) rfl h12
  have a13 := sw_int (n := 13) (k := 13) rfl h13
  have a14 := sw_int (n := 14) (k := 14) rfl h14
  have a15 := sw_int (n := 15) (k := 15) rfl h15
  have a16 := sw_int (n := 16) (k := 16) rfl h16
  have a17 := sw_int (n := 17) (k := 17) rfl h17
  have a18 := sw_int (n := 18) (k := 18) rfl h18
  have a19 := sw_int (n := 19) (k := 19) rfl h19
  omega

abbrev lA (s : State) : Nat → Prop := fun q => s.heap.size ≤ q
def lCx (p : Program) (l : Launch) (s : State) (m : MethodId) (meth : Method) (c : Code) (dC : Nat → ClassId) (dI : Nat → Nat → Nat) (dA : Nat → ClassId) (zz : Nat → Nat) (b Ln : Nat) (xs : Nat → Int32) : Prop :=
  p.tables.exec = Jvm.exec ∧ c.code = cL_law ∧ c.maxLocals = 8 ∧ s.vm.findClass RL = some m.cls ∧ (∀ w ∈ wsL_law, w.before #[Value.ref b] s = true) ∧ meth.sig.returnType = ret ∧ meth.locks = false ∧ va_K (dC, dI) vwCl (pTy dA) s ∧ pN zz s ∧ pSt s.heap.size zz s s.heap ∧ l.stackTraces = false ∧ va_X b Ln xs s s.heap ∧ b < s.heap.size
theorem lCx_use {p : Program} {l : Launch} {s : State} {m : MethodId} {meth : Method} {c : Code} {dC : Nat → ClassId} {dI : Nat → Nat → Nat} {dA : Nat → ClassId} {zz : Nat → Nat} {b Ln : Nat} {xs : Nat → Int32} (C : lCx p l s m meth c dC dI dA zz b Ln xs) :
    p.tables.exec = Jvm.exec ∧ c.code = cL_law ∧ c.maxLocals = 8 ∧ s.vm.findClass RL = some m.cls ∧ (∀ w ∈ wsL_law, w.before #[Value.ref b] s = true) ∧ meth.sig.returnType = ret ∧ meth.locks = false ∧ (∀ q : Nat, s.heap.size ≤ q → lA s q) ∧ va_K (dC, dI) vwCl (pTy dA) s ∧ (∀ q : Nat, lA s q → s.heap.size ≤ q) ∧ s.heap.size ≤ s.heap.size ∧ pN zz s ∧ pSt s.heap.size zz s s.heap ∧ l.stackTraces = false ∧ va_X b Ln xs s s.heap ∧ b < s.heap.size ∧ ¬ lA s b := by
  obtain ⟨h1, h2, h3, h4, h5, h6, h7, h8, h9, h10, h11, h12, h13⟩ := C
  exact ⟨h1, h2, h3, h4, h5, h6, h7, fun _ h => h, h8, fun _ h => h, Nat.le_refl _, h9, h10, h11, h12, h13, Nat.not_le.mpr h13⟩
def lAt (p : Program) (l : Launch) (e : Env) (s : State) (m : MethodId) (below : List Frame) (meth : Method) (c : Code) (dC : Nat → ClassId) (dI : Nat → Nat → Nat) (dA : Nat → ClassId) (o : Nat) (ad : Nat → Nat) (b cells slots pc : Nat) (lv : List (Nat × Value)) (st : List Value) (S : mS) (G : mG) (L : List Nat) (f : pF) : Prop :=
  ∀ (H : Heap) (locs : List Loc), va_P (dC, dI) vwCl (mW (dA 1) (dA 2) (dA 5) o ad S G ++ va_pl L f) H → va_D (lA s) (mW (dA 1) (dA 2) (dA 5) o ad S G ++ va_pl L f) → va_S (lA s) s.heap H locs → ∀ ls : Array Slot, lv_has ls 8 lv → W p l e room_1 s m #[Value.ref b] below meth c H locs cells slots (lw_Z below #[Value.ref b] s) (F0 m pc ls st)
theorem lPool {D : va_G} {cl : List vw_C} {X Y : va_W} {H : Heap} (h : va_P D cl (X ++ Y) H) : va_P D cl Y H := fun k q hk => h (X.length + k) q (by rw [List.getElem?_append_right (Nat.le_add_right _ _), Nat.add_sub_cancel_left]; exact hk)
theorem lMod {D : va_G} {cl : List vw_C} {X Y : va_W} {H : Heap} (h : va_P D cl (X ++ Y) H) : va_P D cl X H := fun k q hk => h k q (by rw [List.getElem?_append_left (List.getElem?_eq_some_iff.mp hk).1]; exact hk)
theorem lPoolD {A : Nat → Prop} {X Y : va_W} (h : va_D A (X ++ Y)) : va_D A Y := by
  have hr : ∀ (k : Nat) (q : Nat × va_E), Y[k]? = some q → (X ++ Y)[X.length + k]? = some q := fun k q hk => by rw [List.getElem?_append_right (Nat.le_add_right _ _), Nat.add_sub_cancel_left]; exact hk
  exact ⟨fun i j p q hi hj e => by have := h.1 _ _ p q (hr i p hi) (hr j q hj) e; omega, fun k q hk => h.2 _ q (hr k q hk)⟩
theorem lModD {A : Nat → Prop} {X Y : va_W} (h : va_D A (X ++ Y)) : va_D A X := by
  have hr : ∀ (k : Nat) (q : Nat × va_E), X[k]? = some q → (X ++ Y)[k]? = some q := fun k q hk => by rw [List.getElem?_append_left (List.getElem?_eq_some_iff.mp hk).1]; exact hk
  exact ⟨fun i j p q hi hj e => h.1 _ _ p q (hr i p hi) (hr j q hj) e, fun k q hk => h.2 _ q (hr k q hk)⟩
theorem lKm {D : va_G} {dA : Nat → ClassId} {s : State} (hK : va_K D vwCl (pTy dA) s) : va_K D vwCl (mTy (dA 1) (dA 2) (dA 5)) s := hK.sub [1, 2, 5] rfl
theorem lCut {X Y : va_W} {k : Nat} {q : Nat × va_E} (h : (X ++ Y)[k]? = some q) : (k < X.length ∧ X[k]? = some q) ∨ (X.length ≤ k ∧ Y[k - X.length]? = some q) := by
  rcases Nat.lt_or_ge k X.length with h1 | h1
  · exact Or.inl ⟨h1, by rw [List.getElem?_append_left h1] at h; exact h⟩
  · exact Or.inr ⟨h1, by rw [List.getElem?_append_right h1] at h; exact h⟩
theorem lApart {A : Nat → Prop} {D : va_G} {cl : List vw_C} {X Y : va_W} {H : Heap} (hP : va_P D cl (X ++ Y) H) (hD : va_D A (X ++ Y)) : (∀ (k : Nat) (q : Nat × va_E), X[k]? = some q → q.1 < H.size ∧ ¬ va_A Y H.size q.1) ∧ (∀ (k : Nat) (q : Nat × va_E), Y[k]? = some q → q.1 < H.size ∧ ¬ va_A X H.size q.1) := by
  have hx : ∀ (k : Nat) (q : Nat × va_E), X[k]? = some q → (X ++ Y)[k]? = some q := fun k q hk => by rw [List.getElem?_append_left (List.getElem?_eq_some_iff.mp hk).1]; exact hk
  have hy : ∀ (k : Nat) (q : Nat × va_E), Y[k]? = some q → (X ++ Y)[X.length + k]? = some q := fun k q hk => by rw [List.getElem?_append_right (Nat.le_add_right _ _), Nat.add_sub_cancel_left]; exact hk
  refine ⟨fun k q hk => ?_, fun k q hk => ?_⟩
  · have hlt := vx_lt hP (hx k q hk)
    refine ⟨hlt, fun h => ?_⟩
    rcases h with ⟨j, e, hj⟩ | h
    · have h1 := hD.1 _ _ _ _ (hx k q hk) (hy j _ hj) rfl
      have h2 := (List.getElem?_eq_some_iff.mp hk).1
      omega
    · omega
  · have hlt := vx_lt hP (hy k q hk)
    refine ⟨hlt, fun h => ?_⟩
    rcases h with ⟨j, e, hj⟩ | h
    · have h1 := hD.1 _ _ _ _ (hy k q hk) (hx j _ hj) rfl
      have h2 := (List.getElem?_eq_some_iff.mp hj).1
      omega
    · omega
theorem lJoinP {A0 : Nat → Prop} {D : va_G} {cl : List vw_C} {X Y Y1 : va_W} {H H1 : Heap} (hP : va_P D cl (X ++ Y) H) (hD : va_D A0 (X ++ Y)) (hk : ∀ q : Nat, q < H.size → ¬ va_A Y H.size q → H1[q]? = H[q]?) (hF : ∀ q : Nat, va_A Y H.size q → A0 q) (hP1 : va_P D cl Y1 H1) (hD1 : va_D (va_A Y H.size) Y1) : va_P D cl (X ++ Y1) H1 ∧ va_D A0 (X ++ Y1) := by
  obtain ⟨ap, -⟩ := lApart hP hD
  refine ⟨fun k q h => ?_, fun i j p q hi hj e => ?_, fun k q h => ?_⟩
  · rcases lCut h with ⟨-, h⟩ | ⟨-, h⟩
    · exact (lMod hP).kept (fun k q h => hk _ (ap k q h).1 (ap k q h).2) k q h
    · exact hP1 _ q h
  · rcases lCut hi with ⟨ki, hi⟩ | ⟨ki, hi⟩ <;> rcases lCut hj with ⟨kj, hj⟩ | ⟨kj, hj⟩
    · exact (lModD hD).1 _ _ p q hi hj e
    · exact absurd (hD1.2 _ q hj) (by rw [← e]; exact (ap _ p hi).2)
    · exact absurd (hD1.2 _ p hi) (by rw [e]; exact (ap _ q hj).2)
    · have := hD1.1 _ _ p q hi hj e; omega
  · rcases lCut h with ⟨-, h⟩ | ⟨-, h⟩
    · exact (lModD hD).2 _ q h
    · exact hF _ (hD1.2 _ q h)
theorem lJoinM {A0 : Nat → Prop} {D : va_G} {cl : List vw_C} {X X1 Y : va_W} {H H1 : Heap} (hP : va_P D cl (X ++ Y) H) (hD : va_D A0 (X ++ Y)) (hk : ∀ q : Nat, q < H.size → ¬ va_A X H.size q → H1[q]? = H[q]?) (hF : ∀ q : Nat, va_A X H.size q → A0 q) (hP1 : va_P D cl X1 H1) (hD1 : va_D (va_A X H.size) X1) : va_P D cl (X1 ++ Y) H1 ∧ va_D A0 (X1 ++ Y) := by
  obtain ⟨-, ap⟩ := lApart hP hD
  refine ⟨fun k q h => ?_, fun i j p q hi hj e => ?_, fun k q h => ?_⟩
  · rcases lCut h with ⟨-, h⟩ | ⟨-, h⟩
    · exact hP1 _ q h
    · exact (lPool hP).kept (fun k q h => hk _ (ap k q h).1 (ap k q h).2) _ q h
  · rcases lCut hi with ⟨ki, hi⟩ | ⟨ki, hi⟩ <;> rcases lCut hj with ⟨kj, hj⟩ | ⟨kj, hj⟩
    · exact hD1.1 _ _ p q hi hj e
    · exact absurd (hD1.2 _ p hi) (by rw [e]; exact (ap _ q hj).2)
    · exact absurd (hD1.2 _ q hj) (by rw [← e]; exact (ap _ p hi).2)
    · have := (lPoolD hD).1 _ _ p q hi hj e; omega
  · rcases lCut h with ⟨-, h⟩ | ⟨-, h⟩
    · exact hF _ (hD1.2 _ q h)
    · exact (lPoolD hD).2 _ q h
