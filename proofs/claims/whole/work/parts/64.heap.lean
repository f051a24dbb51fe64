/-! pure: the component's cells, by sort c and number i -/
abbrev cV : Type := Nat → Nat → Nat → Int32
abbrev cZ : Type := Nat → Nat → Int64
/-- a list's elements: their sort, and the number of the first -/
def elS (i : Nat) : Nat := if i = 0 then 14 else if i = 1 then 16 else 17
def elF (i : Nat) : Nat := if i = 0 then 10 else 0
/-- what the cell of sort c and number i holds: 0 keeper 1 texts 2 glossary 3 lists 4 their rows 5 definitions 6 bits 7 steps, ringRow, members, needs 8 uses 9 its rows 10 words 11 its rows 12 near 13 mender 14 Rows 15 their bytes 16 terms 17 neighbours 18 out -/
def cC (dA : Nat → ClassId) (zz : Nat → Nat) (ad : Nat → Nat → Nat) (cp : Nat → Nat → Nat) (c i : Nat) (v : Nat → Int32) (z : Nat → Int64) : va_E :=
  match c with
  | 0 => .inr (9, [.ref (ad 14 0), .ref (ad 1 0), .ref (ad 2 0), .ref (ad 5 0), .ref (ad 8 0), .ref (ad 13 0)])
  | 1 => .inl (dA 3, 8, .inr (.inr (.inr (.inr (fun k => if k < 8 then some (ad 14 (k + 1)) else none)))))
  | 2 => .inr (2, [.ref (ad 3 0), .ref (ad 3 1), .ref (ad 3 2)])
  | 3 => .inr (0, [.int (v 0), .ref (if cp 4 i = 0 then zz 0 else ad 4 i), .int (nI (cp 3 i))])
  | 4 => .inl (dA 4, cp 4 i, .inr (.inr (.inr (.inr (fun k => if k < cp 3 i then some (ad (elS i) (elF i + k)) else none)))))
  | 5 => .inr (1, [.ref (ad 6 0), .long (z 0), .ref (ad 7 0), .ref (ad 7 1), .int (v 0), .ref (ad 7 2), .ref (ad 7 3), .int (v 1)])
  | 6 => .inl (dA 2, 40, .inr (.inl z))
  | 7 => .inl (dA 1, if i < 2 then 40 else 14, .inl v)
  | 8 => .inr (7, [.ref (ad 2 0), .ref (ad 5 0), .ref (ad 10 0), .ref (ad 9 0), .ref (ad 9 1), .ref (ad 9 2), .ref (ad 9 3), .ref (ad 9 4), .ref (ad 9 5), .int (v 0), .long (z 0), .long (z 1), .long (z 2)])
  | 9 => .inl (dA 1, if i = 0 then 60 else 300, .inl v)
  | 10 => .inr (8, [.ref (ad 2 0), .ref (ad 11 0), .ref (ad 11 1), .ref (ad 11 2), .ref (ad 12 0), .ref (ad 11 3), .int (v 0), .int (v 1)])
  | 11 => .inl (dA 1, if i = 3 then 40 else 300, .inl v)
  | 12 => .inl (dA 2, 300, .inr (.inl z))
  | 13 => .inr (3, [.ref (ad 2 0), .ref (ad 14 9), .int (v 0)])
  | 14 => .inr (5, [.ref (ad 15 i), .int (v 0)])
  | 15 => .inl (dA 0, cp 15 i, .inl v)
  | 16 => .inr (6, [.ref (ad 14 (16 + i)), .int (v 0), .int (v 1), .int (v 2), .int (v 3)])
  | 17 => .inr (4, [.ref (ad 14 (76 + i)), .int (v 0)])
  | _ => .inl (dA 2, 1, .inr (.inl z))
/-- which numbers of a sort there are -/
def lv (cp : Nat → Nat → Nat) (c i : Nat) : Prop :=
  match c with
  | 0 => i = 0 | 1 => i = 0 | 2 => i = 0 | 3 => i < 3 | 4 => i < 3 ∧ cp 4 i ≠ 0 | 5 => i = 0 | 6 => i = 0 | 7 => i < 4 | 8 => i = 0 | 9 => i < 6 | 10 => i = 0 | 11 => i < 4 | 12 => i = 0 | 13 => i = 0
  | 14 => i < 10 + cp 20 0 ∨ 16 ≤ i ∧ i < 16 + cp 20 1 ∨ 76 ≤ i ∧ i < 76 + cp 20 2
  | 15 => i < 10 + cp 20 0 ∨ 16 ≤ i ∧ i < 16 + cp 20 1 ∨ 76 ≤ i ∧ i < 76 + cp 20 2
  | 16 => i < cp 20 1 | 17 => i < cp 20 2 | 18 => i = 0 | _ => False
/-- the pool holds these cells, all different -/
def CH (dA : Nat → ClassId) (zz : Nat → Nat) (ad : Nat → Nat → Nat) (cp : Nat → Nat → Nat) (V : cV) (Z : cZ) (L : List Nat) (f : pF) : Prop :=
  (∀ c i, lv cp c i → ad c i ∈ L ∧ f (ad c i) = cC dA zz ad cp c i (V c i) (Z c)) ∧ (∀ c i c' i', lv cp c i → lv cp c' i' → ad c i = ad c' i' → c = c' ∧ i = i') ∧ (∀ i, i < 3 → cp 3 i ≤ cp 20 i ∧ cp 3 i ≤ cp 4 i ∧ cp 4 i ≤ 600 ∧ (cp 4 i ≠ 0 → ad 4 i ≠ zz 0))
def vst (V : cV) (c i j : Nat) (x : Int32) : cV := fun c' i' => if c' = c ∧ i' = i then upd (V c i) j x else V c' i'
def zst (Z : cZ) (c j : Nat) (x : Int64) : cZ := fun c' => if c' = c then vp_updL (Z c) j x else Z c'
theorem vst_s {V : cV} {c i j : Nat} {x : Int32} : vst V c i j x c i = upd (V c i) j x := if_pos ⟨rfl, rfl⟩
theorem vst_n {V : cV} {c i j : Nat} {x : Int32} {c' i' : Nat} (h : ¬ (c' = c ∧ i' = i)) : vst V c i j x c' i' = V c' i' := if_neg h
theorem vst_c {V : cV} {c i j : Nat} {x : Int32} {c' : Nat} (h : c' ≠ c) : vst V c i j x c' = V c' := funext fun _ => if_neg fun e => h e.1
theorem vst_v {V : cV} {c i j : Nat} {x : Int32} : vst V c i j x c i j = x := by rw [vst_s]; exact pk_us
theorem vst_j {V : cV} {c i j : Nat} {x : Int32} {j' : Nat} (h : j' ≠ j) : vst V c i j x c i j' = V c i j' := by rw [vst_s]; exact pk_un h
theorem zst_s {Z : cZ} {c j : Nat} {x : Int64} : zst Z c j x c = vp_updL (Z c) j x := if_pos rfl
theorem zst_c {Z : cZ} {c j : Nat} {x : Int64} {c' : Nat} (h : c' ≠ c) : zst Z c j x c' = Z c' := if_neg h
theorem zst_v {Z : cZ} {c j : Nat} {x : Int64} : zst Z c j x c j = x := by rw [zst_s]; exact pk_uLs
theorem zst_j {Z : cZ} {c j : Nat} {x : Int64} {j' : Nat} (h : j' ≠ j) : zst Z c j x c j' = Z c j' := by rw [zst_s]; exact pk_uLn h
theorem nmem {x q : Nat} {L : List Nat} (hx : x ∈ L) (hq : q ∉ L) : x ≠ q := fun e => hq (e ▸ hx)
section HP
variable {dA : Nat → ClassId} {zz : Nat → Nat} {ad : Nat → Nat → Nat} {cp : Nat → Nat → Nat} {V : cV} {Z : cZ} {L : List Nat} {f : pF}
theorem va_up_s {α : Type} {g : Nat → α} {k : Nat} {v : α} : va_up g k v k = v := if_pos rfl
theorem va_up_n {α : Type} {g : Nat → α} {k j : Nat} {v : α} (h : j ≠ k) : va_up g k v j = g j := if_neg h
/-- the pool grew, or other cells changed -/
theorem CH.ext {L' : List Nat} {f' : pF} (h : CH dA zz ad cp V Z L f) (hL : ∀ a ∈ L, a ∈ L') (hf : ∀ a ∈ L, f' a = f a) : CH dA zz ad cp V Z L' f' :=
  ⟨fun c i hl => ⟨hL _ (h.1 c i hl).1, (hf _ (h.1 c i hl).1).trans (h.1 c i hl).2⟩, h.2⟩
/-- a cell is written -/
theorem CH.put {c i : Nat} {e : va_E} {V' : cV} {Z' : cZ} (h : CH dA zz ad cp V Z L f) (hl : lv cp c i) (hV : ∀ c' i', ¬ (c' = c ∧ i' = i) → V' c' i' = V c' i') (hZ : ∀ c' i', ¬ (c' = c ∧ i' = i) → lv cp c' i' → Z' c' = Z c') (he : e = cC dA zz ad cp c i (V' c i) (Z' c)) : CH dA zz ad cp V' Z' L (va_up f (ad c i) e) := by
  refine ⟨fun c' i' hl' => ⟨(h.1 c' i' hl').1, ?_⟩, h.2⟩
  by_cases e1 : c' = c ∧ i' = i
  · obtain ⟨rfl, rfl⟩ := e1
    rw [va_up_s]; exact he
  · rw [va_up_n (fun e2 => e1 (h.2.1 c' i' c i hl' hl e2)), hV c' i' e1, hZ c' i' e1 hl']
    exact (h.1 c' i' hl').2
theorem CH.putV {c i j : Nat} {x : Int32} {e : va_E} (h : CH dA zz ad cp V Z L f) (hl : lv cp c i) (he : e = cC dA zz ad cp c i (upd (V c i) j x) (Z c)) : CH dA zz ad cp (vst V c i j x) Z L (va_up f (ad c i) e) :=
  h.put hl (fun _ _ hn => vst_n hn) (fun _ _ _ _ => rfl) (by rw [vst_s]; exact he)
theorem CH.putZ {c j : Nat} {x : Int64} {e : va_E} (h : CH dA zz ad cp V Z L f) (hl : lv cp c 0) (h0 : ∀ i, lv cp c i → i = 0) (he : e = cC dA zz ad cp c 0 (V c 0) (vp_updL (Z c) j x)) : CH dA zz ad cp V (zst Z c j x) L (va_up f (ad c 0) e) :=
  h.put hl (fun _ _ _ => rfl) (fun c' i' hn hl' => zst_c (fun e => hn ⟨e, h0 i' (e ▸ hl')⟩)) (by rw [zst_s]; exact he)
theorem cgI {c i ci k : Nat} {fs : List Value} {x : Int32} {K : Int32 → Prop} (h : CH dA zz ad cp V Z L f) (hl : lv cp c i) (e : cC dA zz ad cp c i (V c i) (Z c) = .inr (ci, fs)) (hk : fs[k]? = some (.int x)) (hK : K x) : gI L f ci (ad c i) k K := ⟨fs, x, ⟨(h.1 c i hl).1, (h.1 c i hl).2.trans e, hk⟩, hK⟩
theorem cgJ {c i ci k : Nat} {fs : List Value} {x : Int64} {K : Int64 → Prop} (h : CH dA zz ad cp V Z L f) (hl : lv cp c i) (e : cC dA zz ad cp c i (V c i) (Z c) = .inr (ci, fs)) (hk : fs[k]? = some (.long x)) (hK : K x) : gJ L f ci (ad c i) k K := ⟨fs, x, ⟨(h.1 c i hl).1, (h.1 c i hl).2.trans e, hk⟩, hK⟩
theorem cgR {c i ci k : Nat} {fs : List Value} {x : Nat} {K : Nat → Prop} (h : CH dA zz ad cp V Z L f) (hl : lv cp c i) (e : cC dA zz ad cp c i (V c i) (Z c) = .inr (ci, fs)) (hk : fs[k]? = some (.ref x)) (hK : K x) : gR L f ci (ad c i) k K := ⟨fs, x, ⟨(h.1 c i hl).1, (h.1 c i hl).2.trans e, hk⟩, hK⟩
theorem cO {c i ci : Nat} {fs : List Value} (h : CH dA zz ad cp V Z L f) (hl : lv cp c i) (e : cC dA zz ad cp c i (V c i) (Z c) = .inr (ci, fs)) : isO L f ci (ad c i) := ⟨(h.1 c i hl).1, fs, (h.1 c i hl).2.trans e⟩
theorem cgPi {c i ci k : Nat} {fs : List Value} {x : Int32} {K : pF → Prop} (h : CH dA zz ad cp V Z L f) (hl : lv cp c i) (e : cC dA zz ad cp c i (V c i) (Z c) = .inr (ci, fs)) (j : Nat) (hk : k < fs.length) (e2 : cC dA zz ad cp c i (upd (V c i) j x) (Z c) = .inr (ci, fs.set k (.int x))) (hK : ∀ f' : pF, CH dA zz ad cp (vst V c i j x) Z L f' → K f') : gP L f ci (ad c i) k (.int x) K :=
  ⟨fs, ⟨(h.1 c i hl).1, (h.1 c i hl).2.trans e, hk⟩, fun f' hf => hK f' (by rw [hf]; exact h.putV hl e2.symm)⟩
theorem cgPl {c ci k : Nat} {fs : List Value} {x : Int64} {K : pF → Prop} (h : CH dA zz ad cp V Z L f) (hl : lv cp c 0) (h0 : ∀ i, lv cp c i → i = 0) (e : cC dA zz ad cp c 0 (V c 0) (Z c) = .inr (ci, fs)) (j : Nat) (hk : k < fs.length) (e2 : cC dA zz ad cp c 0 (V c 0) (vp_updL (Z c) j x) = .inr (ci, fs.set k (.long x))) (hK : ∀ f' : pF, CH dA zz ad cp V (zst Z c j x) L f' → K f') : gP L f ci (ad c 0) k (.long x) K :=
  ⟨fs, ⟨(h.1 c 0 hl).1, (h.1 c 0 hl).2.trans e, hk⟩, fun f' hf => hK f' (by rw [hf]; exact h.putZ hl h0 e2.symm)⟩
theorem caI {c i n : Nat} {cA : ClassId} {K : Int32 → Prop} (h : CH dA zz ad cp V Z L f) (hl : lv cp c i) (e : cC dA zz ad cp c i (V c i) (Z c) = .inl (cA, n, .inl (V c i))) (k : Nat) {x : Int32} (hx : x = nI k) (hk : k < n) (hn : n < 2147483648) (hK : K (V c i k)) : aI L f cA (ad c i) x K :=
  ⟨n, V c i, ⟨(h.1 c i hl).1, (h.1 c i hl).2.trans e, by rw [hx]; exact n_in hk hn⟩, by rw [hx, n_cl (by omega)]; exact hK⟩
theorem caJ {c n : Nat} {cA : ClassId} {K : Int64 → Prop} (h : CH dA zz ad cp V Z L f) (hl : lv cp c 0) (e : cC dA zz ad cp c 0 (V c 0) (Z c) = .inl (cA, n, .inr (.inl (Z c)))) (k : Nat) {x : Int32} (hx : x = nI k) (hk : k < n) (hn : n < 2147483648) (hK : K (Z c k)) : aJ L f cA (ad c 0) x K :=
  ⟨n, Z c, ⟨(h.1 c 0 hl).1, (h.1 c 0 hl).2.trans e, by rw [hx]; exact n_in hk hn⟩, by rw [hx, n_cl (by omega)]; exact hK⟩
theorem caIs {c i n : Nat} {cA : ClassId} {y : Int32} {K : pF → Prop} (h : CH dA zz ad cp V Z L f) (hl : lv cp c i) (e : cC dA zz ad cp c i (V c i) (Z c) = .inl (cA, n, .inl (V c i))) (k : Nat) {x : Int32} (hx : x = nI k) (hk : k < n) (hn : n < 2147483648) (e2 : cC dA zz ad cp c i (upd (V c i) k y) (Z c) = .inl (cA, n, .inl (upd (V c i) k y))) (hK : ∀ f' : pF, CH dA zz ad cp (vst V c i k y) Z L f' → K f') : aIs L f cA (ad c i) x y K :=
  ⟨n, V c i, ⟨(h.1 c i hl).1, (h.1 c i hl).2.trans e, by rw [hx]; exact n_in hk hn⟩, fun f' hf => hK f' (by rw [hf, hx, n_cl (by omega)]; exact h.putV hl e2.symm)⟩
theorem caJs {c n : Nat} {cA : ClassId} {y : Int64} {K : pF → Prop} (h : CH dA zz ad cp V Z L f) (hl : lv cp c 0) (h0 : ∀ i, lv cp c i → i = 0) (e : cC dA zz ad cp c 0 (V c 0) (Z c) = .inl (cA, n, .inr (.inl (Z c)))) (k : Nat) {x : Int32} (hx : x = nI k) (hk : k < n) (hn : n < 2147483648) (e2 : cC dA zz ad cp c 0 (V c 0) (vp_updL (Z c) k y) = .inl (cA, n, .inr (.inl (vp_updL (Z c) k y)))) (hK : ∀ f' : pF, CH dA zz ad cp V (zst Z c k y) L f' → K f') : aJs L f cA (ad c 0) x y K :=
  ⟨n, Z c, ⟨(h.1 c 0 hl).1, (h.1 c 0 hl).2.trans e, by rw [hx]; exact n_in hk hn⟩, fun f' hf => hK f' (by rw [hf, hx, n_cl (by omega)]; exact h.putZ hl h0 e2.symm)⟩
end HP
