/-! pure: what the constructors make -/
/-- cell number k is at as k and holds e k -/
def PF (L : List Nat) (f : pF) (n : Nat) (as : Nat → Nat) (e : Nat → va_E) : Prop := (∀ k, k < n → as k ∈ L ∧ f (as k) = e k) ∧ ∀ j k, j < n → k < n → as j = as k → j = k
section PFS
variable {dA : Nat → ClassId} {zz : Nat → Nat} {L : List Nat} {f : pF} {n : Nat} {as : Nat → Nat} {e : Nat → va_E}
theorem PF.cong {e' : Nat → va_E} (h : PF L f n as e) (he : ∀ k, k < n → e k = e' k) : PF L f n as e' := ⟨fun k hk => ⟨(h.1 k hk).1, (h.1 k hk).2.trans (he k hk)⟩, h.2⟩
theorem PF.nO {c : va_E} {K : Nat → List Nat → pF → Prop} (h : PF L f n as e) (hK : ∀ (q : Nat) (L' : List Nat) (f' : pF), PF L' f' (n + 1) (va_up as n q) (va_up e n c) → K q L' f') : nO zz L f c K := by
  rintro q hq _ _ _ rfl rfl
  refine hK q _ _ ⟨fun k hk => ?_, fun j k hj hk hjk => ?_⟩
  · by_cases ek : k = n
    · subst ek
      rw [va_up_s, va_up_s, va_up_s]
      exact ⟨List.mem_append_right _ (List.mem_singleton.mpr rfl), rfl⟩
    · have h1 := h.1 k (by omega)
      rw [va_up_n ek, va_up_n ek, va_up_n (nmem h1.1 hq)]
      exact ⟨List.mem_append_left _ h1.1, h1.2⟩
  · by_cases ej : j = n
    · by_cases ek : k = n
      · rw [ej, ek]
      · rw [ej, va_up_s, va_up_n ek] at hjk
        exact absurd hjk.symm (nmem (h.1 k (by omega)).1 hq)
    · by_cases ek : k = n
      · rw [ek, va_up_s, va_up_n ej] at hjk
        exact absurd hjk (nmem (h.1 j (by omega)).1 hq)
      · rw [va_up_n ej, va_up_n ek] at hjk
        exact h.2 j k (by omega) (by omega) hjk
theorem PF.up (h : PF L f n as e) (k : Nat) (hk : k < n) (c : va_E) : PF L (va_up f (as k) c) n as (va_up e k c) := by
  refine ⟨fun i hi => ⟨(h.1 i hi).1, ?_⟩, h.2⟩
  by_cases ei : i = k
  · rw [ei, va_up_s, va_up_s]
  · rw [va_up_n ei, va_up_n (fun e9 => ei (h.2 i k hi hk e9))]
    exact (h.1 i hi).2
theorem PF.gP {ci a j : Nat} {fs : List Value} {v : Value} {K : pF → Prop} (h : PF L f n as e) (k : Nat) (hk : k < n) (ha : as k = a) (he : e k = .inr (ci, fs)) (hj : j < fs.length) (hK : ∀ f' : pF, PF L f' n as (va_up e k (.inr (ci, fs.set j v))) → K f') : gP L f ci a j v K := by
  subst ha
  refine ⟨fs, ⟨(h.1 k hk).1, (h.1 k hk).2.trans he, hj⟩, ?_⟩
  rintro _ rfl
  exact hK _ (h.up k hk _)
theorem PF.gR {ci a j x : Nat} {fs : List Value} {K : Nat → Prop} (h : PF L f n as e) (k : Nat) (hk : k < n) (ha : as k = a) (he : e k = .inr (ci, fs)) (hj : fs[j]? = some (.ref x)) (hK : K x) : gR L f ci a j K := by
  subst ha
  exact ⟨fs, x, ⟨(h.1 k hk).1, (h.1 k hk).2.trans he, hj⟩, hK⟩
theorem PF.O {ci a : Nat} {fs : List Value} (h : PF L f n as e) (k : Nat) (hk : k < n) (ha : as k = a) (he : e k = .inr (ci, fs)) : isO L f ci a := by
  subst ha
  exact ⟨(h.1 k hk).1, fs, (h.1 k hk).2.trans he⟩
theorem PF.aRs {cA : ClassId} {a m v : Nat} {g : Nat → Option Nat} {K : pF → Prop} {x : Int32} (h : PF L f n as e) (k : Nat) (hk : k < n) (ha : as k = a) (he : e k = .inl (cA, m, .inr (.inr (.inr (.inr g))))) (i : Nat) (hx : x = nI i) (hi : i < m) (hm : m < 2147483648) (hK : ∀ f' : pF, PF L f' n as (va_up e k (.inl (cA, m, .inr (.inr (.inr (.inr (va_up g i (some v)))))))) → K f') : aRs L f cA a x v K := by
  subst ha
  refine ⟨m, g, ⟨(h.1 k hk).1, (h.1 k hk).2.trans he, by rw [hx]; exact n_in hi hm⟩, ?_⟩
  rintro _ rfl
  rw [hx, n_cl (by omega)]
  exact hK _ (h.up k hk _)
/-- a Row is made -/
theorem PF.row {Q : List Nat → pF → Prop} {a : Nat} {x : Int32} (h : PF L f n as e) (k : Nat) (hk : k < n) (ha : as k = a) (he : e k = .inr (5, [.null, .int 0])) (cap : Nat) (hx : x = nI cap) (hc : cap ≤ 600) (hQ : ∀ (q : Nat) (L' : List Nat) (f' : pF), PF L' f' (n + 1) (va_up as n q) (va_up (va_up e n (.inl (dA 0, cap, .inl (fun _ => 0)))) k (.inr (5, [.ref q, .int 0]))) → Q L' f') : wp_X4_init_0 dA zz Q L f a x := by
  unfold wp_X4_init_0
  have hn : ¬ nI cap < 0 := n_lt0 (by omega)
  have hc2 : (nI cap).toNatClampNeg = cap := n_cl (by omega)
  rw [hx]
  have e0 : (if nI cap < (0 : Int32) then (0 : Int32) else nI cap) = nI cap := if_neg hn
  rw [e0]
  rintro _ rfl
  rw [hc2]
  refine ⟨⟨hn, hc⟩, h.nO (fun q L1 f1 h1 => h1.gP (fs := [.null, .int 0]) k (by omega) (by rw [va_up_n (by omega)]; exact ha) (by rw [va_up_n (by omega)]; exact he) (by show 0 < 2; decide) (fun f2 h2 => hQ q L1 f2 h2))⟩
/-- an ArrayList is made -/
theorem PF.list {Q : List Nat → pF → Prop} {a : Nat} (h : PF L f n as e) (k : Nat) (hk : k < n) (ha : as k = a) (he : e k = .inr (0, [.int 0, .null, .int 0])) (hQ : ∀ f' : pF, PF L f' n as (va_up e k (.inr (0, [.int 0, .ref (zz 0), .int 0]))) → Q L f') : wp_Jx4a65c_init_da8c8_0 dA zz Q L f a := by
  unfold wp_Jx4a65c_init_da8c8_0 wp_Jxc12de_init_da8c8_0 wp_Jxa1e45_init_da8c8_0
  refine h.gP (fs := [.int 0, .null, .int 0]) k hk ha he (by show 0 < 3; decide) (fun f1 h1 => h1.gP (fs := [.int 0, .null, .int 0]) k hk ha va_up_s (by show 1 < 3; decide) (fun f2 h2 => hQ f2 ?_))
  refine h2.cong (fun i hi => ?_)
  by_cases ei : i = k
  · rw [ei, va_up_s, va_up_s]; rfl
  · rw [va_up_n ei, va_up_n ei, va_up_n ei]
end PFS
/-- where the cell of sort c and number i comes to lie -/
def pos (c i : Nat) : Nat := match c with
  | 0 => 0 | 1 => 3 | 2 => 20 | 3 => 21 + i | 5 => 24 | 6 => 25 | 7 => 26 + i | 8 => 30 | 9 => 31 + i | 10 => 37
  | 11 => if i = 3 then 42 else 38 + i | 12 => 41 | 13 => 43
  | 14 => if i = 0 then 1 else if i = 9 then 44 else 2 + 2 * i
  | 15 => if i = 0 then 2 else if i = 9 then 45 else 3 + 2 * i | _ => 78
def cp0 (c i : Nat) : Nat := if c = 15 then (if i = 0 then 40 else if i = 9 then 44 else 600) else 0
def keys : List (Nat × Nat) := [(0, 0), (14, 0), (15, 0), (1, 0), (14, 1), (15, 1), (14, 2), (15, 2), (14, 3), (15, 3), (14, 4), (15, 4), (14, 5), (15, 5), (14, 6), (15, 6), (14, 7), (15, 7), (14, 8), (15, 8), (2, 0), (3, 0), (3, 1), (3, 2), (5, 0), (6, 0), (7, 0), (7, 1), (7, 2), (7, 3), (8, 0), (9, 0), (9, 1), (9, 2), (9, 3), (9, 4), (9, 5), (10, 0), (11, 0), (11, 1), (11, 2), (12, 0), (11, 3), (13, 0), (14, 9), (15, 9)]
def keyAt (k : Nat) : Nat × Nat := keys.getD k (18, 0)
/-- the component's cells as they are made -/
def eC (dA : Nat → ClassId) (zz : Nat → Nat) (as : Nat → Nat) (k : Nat) : va_E := cC dA zz (fun c i => as (pos c i)) cp0 (keyAt k).1 (keyAt k).2 (fun _ => 0) (fun _ => 0)
set_option maxHeartbeats 4000000 in
set_option maxRecDepth 100000 in
theorem i_X8 {dA : Nat → ClassId} {zz : Nat → Nat} {Q : List Nat → pF → Prop} {L : List Nat} {f : pF} {as : Nat → Nat} {e : Nat → va_E} (h : PF L f 1 as e) (he : e 0 = .inr (9, [.null, .null, .null, .null, .null, .null])) (hQ : ∀ (L' : List Nat) (f' : pF) (as' : Nat → Nat), as' 0 = as 0 → PF L' f' 46 as' (eC dA zz as') → Q L' f') : wp_X8_init_0 dA zz Q L f (as 0) := by
  have hz : ∀ k, k < 1 → e k = .inr (9, [.null, .null, .null, .null, .null, .null]) := by
    intro k hk
    have e0 : k = 0 := by omega
    rw [e0]
    exact he
  have h := h.cong (e' := fun _ => .inr (9, [.null, .null, .null, .null, .null, .null])) hz
  unfold wp_X8_init_0
  refine h.nO (fun q1 L1 f1 h => ?_)
  refine h.row (dA := dA) 1 (by decide) rfl rfl 40 rfl (by decide) (fun q2 L2 f2 h => ?_)
  refine h.gP 0 (by decide) rfl rfl (by show 0 < 6; decide) (fun f h => ?_)
  refine h.nO (fun q3 L3 f3 h => ?_)
  refine h.gP 0 (by decide) rfl rfl (by show 1 < 6; decide) (fun f h => ?_)
  refine h.gR 0 (by decide) rfl rfl rfl ?_
  refine h.nO (fun q4 L4 f4 h => ?_)
  refine h.row (dA := dA) 4 (by decide) rfl rfl 600 rfl (by decide) (fun q5 L5 f5 h => ?_)
  refine ⟨h.O 4 (by decide) rfl rfl, ?_⟩
  refine h.aRs 3 (by decide) rfl rfl 0 rfl (by decide) (by decide) (fun f h => ?_)
  refine h.gR 0 (by decide) rfl rfl rfl ?_
  refine h.nO (fun q6 L6 f6 h => ?_)
  refine h.row (dA := dA) 6 (by decide) rfl rfl 600 rfl (by decide) (fun q7 L7 f7 h => ?_)
  refine ⟨h.O 6 (by decide) rfl rfl, ?_⟩
  refine h.aRs 3 (by decide) rfl rfl 1 rfl (by decide) (by decide) (fun f h => ?_)
  refine h.gR 0 (by decide) rfl rfl rfl ?_
  refine h.nO (fun q8 L8 f8 h => ?_)
  refine h.row (dA := dA) 8 (by decide) rfl rfl 600 rfl (by decide) (fun q9 L9 f9 h => ?_)
  refine ⟨h.O 8 (by decide) rfl rfl, ?_⟩
  refine h.aRs 3 (by decide) rfl rfl 2 rfl (by decide) (by decide) (fun f h => ?_)
  refine h.gR 0 (by decide) rfl rfl rfl ?_
  refine h.nO (fun q10 L10 f10 h => ?_)
  refine h.row (dA := dA) 10 (by decide) rfl rfl 600 rfl (by decide) (fun q11 L11 f11 h => ?_)
  refine ⟨h.O 10 (by decide) rfl rfl, ?_⟩
  refine h.aRs 3 (by decide) rfl rfl 3 rfl (by decide) (by decide) (fun f h => ?_)
  refine h.gR 0 (by decide) rfl rfl rfl ?_
  refine h.nO (fun q12 L12 f12 h => ?_)
  refine h.row (dA := dA) 12 (by decide) rfl rfl 600 rfl (by decide) (fun q13 L13 f13 h => ?_)
  refine ⟨h.O 12 (by decide) rfl rfl, ?_⟩
  refine h.aRs 3 (by decide) rfl rfl 4 rfl (by decide) (by decide) (fun f h => ?_)
  refine h.gR 0 (by decide) rfl rfl rfl ?_
  refine h.nO (fun q14 L14 f14 h => ?_)
  refine h.row (dA := dA) 14 (by decide) rfl rfl 600 rfl (by decide) (fun q15 L15 f15 h => ?_)
  refine ⟨h.O 14 (by decide) rfl rfl, ?_⟩
  refine h.aRs 3 (by decide) rfl rfl 5 rfl (by decide) (by decide) (fun f h => ?_)
  refine h.gR 0 (by decide) rfl rfl rfl ?_
  refine h.nO (fun q16 L16 f16 h => ?_)
  refine h.row (dA := dA) 16 (by decide) rfl rfl 600 rfl (by decide) (fun q17 L17 f17 h => ?_)
  refine ⟨h.O 16 (by decide) rfl rfl, ?_⟩
  refine h.aRs 3 (by decide) rfl rfl 6 rfl (by decide) (by decide) (fun f h => ?_)
  refine h.gR 0 (by decide) rfl rfl rfl ?_
  refine h.nO (fun q18 L18 f18 h => ?_)
  refine h.row (dA := dA) 18 (by decide) rfl rfl 600 rfl (by decide) (fun q19 L19 f19 h => ?_)
  refine ⟨h.O 18 (by decide) rfl rfl, ?_⟩
  refine h.aRs 3 (by decide) rfl rfl 7 rfl (by decide) (by decide) (fun f h => ?_)
  refine h.nO (fun q20 L20 f20 h => ?_)
  unfold wp_X1_init_0
  refine h.nO (fun q21 L21 f21 h => ?_)
  refine h.list (dA := dA) 21 (by decide) rfl rfl (fun f h => ?_)
  refine h.gP 20 (by decide) rfl rfl (by show 0 < 3; decide) (fun f h => ?_)
  refine h.nO (fun q22 L22 f22 h => ?_)
  refine h.list (dA := dA) 22 (by decide) rfl rfl (fun f h => ?_)
  refine h.gP 20 (by decide) rfl rfl (by show 1 < 3; decide) (fun f h => ?_)
  refine h.nO (fun q23 L23 f23 h => ?_)
  refine h.list (dA := dA) 23 (by decide) rfl rfl (fun f h => ?_)
  refine h.gP 20 (by decide) rfl rfl (by show 2 < 3; decide) (fun f h => ?_)
  refine h.gP 0 (by decide) rfl rfl (by show 2 < 6; decide) (fun f h => ?_)
  refine h.nO (fun q24 L24 f24 h => ?_)
  unfold wp_X0_init_0
  refine h.nO (fun q25 L25 f25 h => ?_)
  refine h.gP 24 (by decide) rfl rfl (by show 0 < 8; decide) (fun f h => ?_)
  refine h.nO (fun q26 L26 f26 h => ?_)
  refine h.gP 24 (by decide) rfl rfl (by show 2 < 8; decide) (fun f h => ?_)
  refine h.nO (fun q27 L27 f27 h => ?_)
  refine h.gP 24 (by decide) rfl rfl (by show 3 < 8; decide) (fun f h => ?_)
  refine h.nO (fun q28 L28 f28 h => ?_)
  refine h.gP 24 (by decide) rfl rfl (by show 5 < 8; decide) (fun f h => ?_)
  refine h.nO (fun q29 L29 f29 h => ?_)
  refine h.gP 24 (by decide) rfl rfl (by show 6 < 8; decide) (fun f h => ?_)
  refine h.gP 0 (by decide) rfl rfl (by show 3 < 6; decide) (fun f h => ?_)
  refine h.nO (fun q30 L30 f30 h => ?_)
  refine h.gR 0 (by decide) rfl rfl rfl ?_
  refine h.gR 0 (by decide) rfl rfl rfl ?_
  unfold wp_X6_init_0
  refine h.nO (fun q31 L31 f31 h => ?_)
  refine h.gP 30 (by decide) rfl rfl (by show 3 < 13; decide) (fun f h => ?_)
  refine h.nO (fun q32 L32 f32 h => ?_)
  refine h.gP 30 (by decide) rfl rfl (by show 4 < 13; decide) (fun f h => ?_)
  refine h.nO (fun q33 L33 f33 h => ?_)
  refine h.gP 30 (by decide) rfl rfl (by show 5 < 13; decide) (fun f h => ?_)
  refine h.nO (fun q34 L34 f34 h => ?_)
  refine h.gP 30 (by decide) rfl rfl (by show 6 < 13; decide) (fun f h => ?_)
  refine h.nO (fun q35 L35 f35 h => ?_)
  refine h.gP 30 (by decide) rfl rfl (by show 7 < 13; decide) (fun f h => ?_)
  refine h.nO (fun q36 L36 f36 h => ?_)
  refine h.gP 30 (by decide) rfl rfl (by show 8 < 13; decide) (fun f h => ?_)
  refine h.gP 30 (by decide) rfl rfl (by show 0 < 13; decide) (fun f h => ?_)
  refine h.gP 30 (by decide) rfl rfl (by show 1 < 13; decide) (fun f h => ?_)
  refine h.nO (fun q37 L37 f37 h => ?_)
  unfold wp_X7_init_0
  refine h.nO (fun q38 L38 f38 h => ?_)
  refine h.gP 37 (by decide) rfl rfl (by show 1 < 8; decide) (fun f h => ?_)
  refine h.nO (fun q39 L39 f39 h => ?_)
  refine h.gP 37 (by decide) rfl rfl (by show 2 < 8; decide) (fun f h => ?_)
  refine h.nO (fun q40 L40 f40 h => ?_)
  refine h.gP 37 (by decide) rfl rfl (by show 3 < 8; decide) (fun f h => ?_)
  refine h.nO (fun q41 L41 f41 h => ?_)
  refine h.gP 37 (by decide) rfl rfl (by show 4 < 8; decide) (fun f h => ?_)
  refine h.nO (fun q42 L42 f42 h => ?_)
  refine h.gP 37 (by decide) rfl rfl (by show 5 < 8; decide) (fun f h => ?_)
  refine h.gP 37 (by decide) rfl rfl (by show 0 < 8; decide) (fun f h => ?_)
  refine h.gP 30 (by decide) rfl rfl (by show 2 < 13; decide) (fun f h => ?_)
  refine h.gP 0 (by decide) rfl rfl (by show 4 < 6; decide) (fun f h => ?_)
  refine h.nO (fun q43 L43 f43 h => ?_)
  refine h.gR 0 (by decide) rfl rfl rfl ?_
  unfold wp_X2_init_0
  refine h.nO (fun q44 L44 f44 h => ?_)
  refine h.row (dA := dA) 44 (by decide) rfl rfl 44 rfl (by decide) (fun q45 L45 f45 h => ?_)
  refine h.gP 43 (by decide) rfl rfl (by show 1 < 3; decide) (fun f h => ?_)
  refine h.gP 43 (by decide) rfl rfl (by show 0 < 3; decide) (fun f h => ?_)
  refine h.gP 0 (by decide) rfl rfl (by show 5 < 6; decide) (fun f h => ?_)
  refine hQ _ _ _ ?_ (h.cong (fun k hk => ?_))
  · rfl
  · have hk9 : k = 0 ∨ k = 1 ∨ k = 2 ∨ k = 3 ∨ k = 4 ∨ k = 5 ∨ k = 6 ∨ k = 7 ∨ k = 8 ∨ k = 9 ∨ k = 10 ∨ k = 11 ∨ k = 12 ∨ k = 13 ∨ k = 14 ∨ k = 15 ∨ k = 16 ∨ k = 17 ∨ k = 18 ∨ k = 19 ∨ k = 20 ∨ k = 21 ∨ k = 22 ∨ k = 23 ∨ k = 24 ∨ k = 25 ∨ k = 26 ∨ k = 27 ∨ k = 28 ∨ k = 29 ∨ k = 30 ∨ k = 31 ∨ k = 32 ∨ k = 33 ∨ k = 34 ∨ k = 35 ∨ k = 36 ∨ k = 37 ∨ k = 38 ∨ k = 39 ∨ k = 40 ∨ k = 41 ∨ k = 42 ∨ k = 43 ∨ k = 44 ∨ k = 45 := by omega
    rcases hk9 with rfl | rfl | rfl | rfl | rfl | rfl | rfl | rfl | rfl | rfl | rfl | rfl | rfl | rfl | rfl | rfl | rfl | rfl | rfl | rfl | rfl | rfl | rfl | rfl | rfl | rfl | rfl | rfl | rfl | rfl | rfl | rfl | rfl | rfl | rfl | rfl | rfl | rfl | rfl | rfl | rfl | rfl | rfl | rfl | rfl | rfl
    · rfl
    · rfl
    · rfl
    · refine congrArg (fun g => (Sum.inl (dA 3, 8, Sum.inr (Sum.inr (Sum.inr (Sum.inr g)))) : va_E)) (funext fun k => ?_)
      by_cases h8 : k < 8
      · have h9 : k = 0 ∨ k = 1 ∨ k = 2 ∨ k = 3 ∨ k = 4 ∨ k = 5 ∨ k = 6 ∨ k = 7 := by omega
        rcases h9 with rfl | rfl | rfl | rfl | rfl | rfl | rfl | rfl <;> rfl
      · rw [if_neg h8, va_up_n (by omega), va_up_n (by omega), va_up_n (by omega), va_up_n (by omega), va_up_n (by omega), va_up_n (by omega), va_up_n (by omega), va_up_n (by omega)]
    · rfl
    · rfl
    · rfl
    · rfl
    · rfl
    · rfl
    · rfl
    · rfl
    · rfl
    · rfl
    · rfl
    · rfl
    · rfl
    · rfl
    · rfl
    · rfl
    · rfl
    · rfl
    · rfl
    · rfl
    · rfl
    · rfl
    · rfl
    · rfl
    · rfl
    · rfl
    · rfl
    · rfl
    · rfl
    · rfl
    · rfl
    · rfl
    · rfl
    · rfl
    · rfl
    · rfl
    · rfl
    · rfl
    · rfl
    · rfl
    · rfl
    · rfl
