/-! pure: the state told, as the reference holds it, in numbers -/
abbrev mN : Type := Nat → Nat → Nat
def dur (k : Nat) : Bool := k = 1 || k = 2 || k = 3 || k = 4 || k = 6 || k = 7 || k = 8 || k = 9 || k = 10 || k = 11 || k = 12 || k = 13 || k = 14 || k = 15 || k = 16 || k = 18 || k = 19 || k = 20
def rS (M : mN) (S : mS) : Prop := ∀ k, dur k = true → ∀ j, S k j = nI (M k j)
def miW (M : mN) : Prop := M 1 0 ≤ 40 ∧ ∀ k, M 2 k ≤ 26
def miE (M : mN) : Prop := M 3 0 ≤ 6 ∧ ∀ e, e < M 3 0 → 1 ≤ M 7 e ∧ M 7 e ≤ 4 ∧ ∀ k, k < M 7 e → 1 ≤ M 6 (4 * e + k) ∧ M 6 (4 * e + k) ≤ 26
def tOK (M : mN) (t : Nat) : Prop := 1 ≤ M 10 t ∧ M 10 t ≤ 3 ∧ (∀ w, w < M 10 t → 1 ≤ M 9 (3 * t + w) ∧ M 9 (3 * t + w) ≤ 12 ∧ ∀ k, k < M 9 (3 * t + w) → 1 ≤ M 8 (36 * t + 12 * w + k) ∧ M 8 (36 * t + 12 * w + k) ≤ 26) ∧ (∀ w, w < 3 → M 10 t ≤ w → M 9 (3 * t + w) = 0) ∧ M 11 t < 40 ∧ M 12 t ≤ 3 ∧ M 13 t ≤ 63
def miT (M : mN) : Prop := M 4 0 ≤ 60 ∧ ∀ t, t < M 4 0 → tOK M t
def miN (M : mN) : Prop := ∀ g, g < 40 → M 16 g ≤ 8 ∧ (∀ i, i < M 16 g → 1 ≤ M 15 (8 * g + i) ∧ M 15 (8 * g + i) ≤ 12 ∧ ∀ k, k < M 15 (8 * g + i) → 1 ≤ M 14 (96 * g + 12 * i + k) ∧ M 14 (96 * g + 12 * i + k) ≤ 26) ∧ (∀ i j, i < M 16 g → j < M 16 g → M 15 (8 * g + i) = M 15 (8 * g + j) → (∀ k, k < M 15 (8 * g + i) → M 14 (96 * g + 12 * i + k) = M 14 (96 * g + 12 * j + k)) → i = j)
def miD (M : mN) (D : Nat → Int64) : Prop := ∀ g, g < 40 → lo40 (D g) ∧ M 18 g ≤ 1
def miX (M : mN) : Prop := ∀ x, x < 8 → M 20 x ≤ 600 ∧ ∀ k, k < M 20 x → M 19 (600 * x + k) < 256
def MI (M : mN) (D : Nat → Int64) : Prop := miW M ∧ miE M ∧ miT M ∧ miN M ∧ miD M D ∧ miX M
theorem miW_c {M M' : mN} (h1 : M' 1 = M 1) (h2 : M' 2 = M 2) (h : miW M) : miW M' := by unfold miW; rw [h1, h2]; exact h
theorem miE_c {M M' : mN} (h3 : M' 3 = M 3) (h6 : M' 6 = M 6) (h7 : M' 7 = M 7) (h : miE M) : miE M' := by unfold miE; rw [h3, h6, h7]; exact h
theorem miT_c {M M' : mN} (h4 : M' 4 = M 4) (h8 : M' 8 = M 8) (h9 : M' 9 = M 9) (h10 : M' 10 = M 10) (h11 : M' 11 = M 11) (h12 : M' 12 = M 12) (h13 : M' 13 = M 13) (h : miT M) : miT M' := by unfold miT tOK; rw [h4, h8, h9, h10, h11, h12, h13]; exact h
theorem miN_c {M M' : mN} (h14 : M' 14 = M 14) (h15 : M' 15 = M 15) (h16 : M' 16 = M 16) (h : miN M) : miN M' := by unfold miN; rw [h14, h15, h16]; exact h
theorem miD_c {M M' : mN} {D : Nat → Int64} (h18 : M' 18 = M 18) (h : miD M D) : miD M' D := by unfold miD; rw [h18]; exact h
theorem miX_c {M M' : mN} (h19 : M' 19 = M 19) (h20 : M' 20 = M 20) (h : miX M) : miX M' := by unfold miX; rw [h19, h20]; exact h
theorem ad2_f {M : mN} {k j v a : Nat} (h : a ≠ k) : ad2 M k j v a = M a := funext fun _ => if_neg (fun e => h e.1)
/-- the reference holds it -/
def RI (M : mN) (D : Nat → Int64) (mn : Int32) (S : mS) (G : mG) : Prop := rS M S ∧ (∀ j, G 17 j = D j) ∧ S 5 0 = mn ∧ MI M D
theorem rS.put {M : mN} {S : mS} (h : rS M S) (k j v : Nat) : rS (ad2 M k j v) (mst S k j (nI v)) := by
  intro a ha b
  by_cases e : a = k
  · subst e
    by_cases e2 : b = j
    · subst e2; rw [ms_same, ad2_s]
    · rw [ms_ne _ _ _ _ _ e2, ad2_i e2]; exact h a ha b
  · rw [ms_out _ _ _ _ _ e, ad2_f e]; exact h a ha b
theorem rS.out {M : mN} {S : mS} (h : rS M S) {k : Nat} (hk : dur k = false) (j : Nat) (x : Int32) : rS M (mst S k j x) := by
  intro a ha b
  have e : a ≠ k := fun e => by rw [e, hk] at ha; exact absurd ha (by decide)
  rw [ms_out _ _ _ _ _ e]; exact h a ha b
theorem RI.out {M : mN} {D : Nat → Int64} {mn : Int32} {S : mS} {G : mG} (h : RI M D mn S G) {k : Nat} (hk : dur k = false) (hk5 : k ≠ 5) (j : Nat) (x : Int32) : RI M D mn (mst S k j x) G := ⟨h.1.out hk j x, h.2.1, by rw [ms_out _ _ _ _ _ (Ne.symm hk5)]; exact h.2.2.1, h.2.2.2⟩
/-- how many bytes a term's row has, and which -/
def rowN (M : mN) (t : Nat) : Nat := M 9 (3 * t) + M 9 (3 * t + 1) + M 9 (3 * t + 2) + (M 10 t - 1)
def rowB (M : mN) (t k : Nat) : Nat :=
  if k < M 9 (3 * t) then 96 + M 8 (36 * t + k) else if k = M 9 (3 * t) then 32
  else if k < M 9 (3 * t) + 1 + M 9 (3 * t + 1) then 96 + M 8 (36 * t + 12 + (k - (M 9 (3 * t) + 1))) else if k = M 9 (3 * t) + 1 + M 9 (3 * t + 1) then 32
  else 96 + M 8 (36 * t + 24 + (k - (M 9 (3 * t) + M 9 (3 * t + 1) + 2)))
/-- a letter that waits, as a byte -/
def chr (w : Nat) : Nat := if w = 0 then 32 else 96 + w
theorem chr_lt {w : Nat} (h : w ≤ 26) : chr w < 256 := by unfold chr; by_cases e : w = 0 <;> simp only [e, if_true, if_false] <;> omega
theorem chr_L {w : Nat} (h : w ≤ 26) : isL (chr w) ↔ 0 < w := by unfold chr isL; by_cases e : w = 0 <;> simp only [e, if_true, if_false] <;> omega
/-- the component's cells hold it (ng: the things of its neighbours, one by one) -/
def ngI (ng : Nat → Nat) (j : Nat) : Nat := fb_ct (fun k => ng k == ng j) j
def CD (M : mN) (D : Nat → Int64) (mn : Int32) (cp : Nat → Nat → Nat) (V : cV) (Z : cZ) (ng : Nat → Nat) : Prop :=
  (cp 15 0 = 40 ∧ (∀ x, x < 8 → cp 15 (1 + x) = 600) ∧ cp 15 9 = 44 ∧ cp 3 0 = M 3 0 ∧ cp 3 1 = M 4 0 ∧ (∀ i, i < 3 → cp 20 i = cp 3 i) ∧ cp 3 2 = fb_sm (M 16) 40)
  ∧ (V 14 0 0 = nI (M 1 0) ∧ ∀ k, k < M 1 0 → V 15 0 k = sb (chr (M 2 k)))
  ∧ (∀ x, x < 8 → V 14 (1 + x) 0 = nI (M 20 x) ∧ ∀ k, k < M 20 x → V 15 (1 + x) k = sb (M 19 (600 * x + k)))
  ∧ (∃ n, n ≤ 44 ∧ V 14 9 0 = nI n)
  ∧ (∀ e, e < M 3 0 → cp 15 (10 + e) = M 7 e ∧ V 14 (10 + e) 0 = nI (M 7 e) ∧ ∀ k, k < M 7 e → V 15 (10 + e) k = sb (96 + M 6 (4 * e + k)))
  ∧ (∀ t, t < M 4 0 → (V 16 t 0 = nI (M 10 t) ∧ V 16 t 1 = nI (M 11 t) ∧ V 16 t 2 = nI (M 13 t) ∧ V 16 t 3 = nI (M 12 t)) ∧ cp 15 (16 + t) = rowN M t ∧ V 14 (16 + t) 0 = nI (rowN M t) ∧ ∀ k, k < rowN M t → V 15 (16 + t) k = sb (rowB M t k))
  ∧ (∀ j, j < cp 3 2 → ng j < 40 ∧ V 17 j 0 = nI (ng j) ∧ ngI ng j < M 16 (ng j) ∧ cp 15 (76 + j) = M 15 (8 * ng j + ngI ng j) ∧ V 14 (76 + j) 0 = nI (M 15 (8 * ng j + ngI ng j)) ∧ ∀ k, k < M 15 (8 * ng j + ngI ng j) → V 15 (76 + j) k = sb (96 + M 14 (96 * ng j + 12 * ngI ng j + k)))
  ∧ (∀ g, g < 40 → M 16 g = fb_ct (fun k => ng k == g) (cp 3 2))
  ∧ Z 6 = D ∧ (∀ g, g < 64 → tb (Z 5 0) g = decide (g < 40 ∧ M 18 g = 1)) ∧ V 13 0 0 = mn
def CI (dA : Nat → ClassId) (zz : Nat → Nat) (x0 ou : Nat) (M : mN) (D : Nat → Int64) (mn : Int32) (L : List Nat) (f : pF) : Prop :=
  ∃ (ad cp : Nat → Nat → Nat) (V : cV) (Z : cZ) (ng : Nat → Nat), CH dA zz ad cp V Z L f ∧ ad 0 0 = x0 ∧ ad 18 0 = ou ∧ CD M D mn cp V Z ng
/-- what isn't told of may change -/
theorem CD.fr {M : mN} {D : Nat → Int64} {mn : Int32} {cp : Nat → Nat → Nat} {V V' : cV} {Z Z' : cZ} {ng : Nat → Nat} (h : CD M D mn cp V Z ng) (h13 : V' 13 0 = V 13 0) (h14 : V' 14 = V 14) (h15 : V' 15 = V 15) (h16 : V' 16 = V 16) (h17 : V' 17 = V 17) (z5 : Z' 5 = Z 5) (z6 : Z' 6 = Z 6) : CD M D mn cp V' Z' ng := by
  unfold CD
  rw [h13, h14, h15, h16, h17, z5, z6]
  exact h
theorem CD.fr2 {M : mN} {D : Nat → Int64} {mn : Int32} {cp : Nat → Nat → Nat} {V V' : cV} {Z Z' : cZ} {ng : Nat → Nat} (h : CD M D mn cp V Z ng) (hV : ∀ c j, 13 ≤ c → V' c j = V c j) (z5 : Z' 5 = Z 5) (z6 : Z' 6 = Z 6) : CD M D mn cp V' Z' ng :=
  h.fr (hV 13 0 (by decide)) (funext fun j => hV 14 j (by decide)) (funext fun j => hV 15 j (by decide)) (funext fun j => hV 16 j (by decide)) (funext fun j => hV 17 j (by decide)) z5 z6
