/-! pure: mend and mendAll of the reference -/
/-- the first use that can be mended -/
def mdF (M : mN) (x : Nat) : Nat := fa_first (fun i => decide (mdOK M x i)) (uN M x)
/-- up to n mends: how many, and what is then -/
def mAll (x : Nat) : Nat → mN → Nat × mN
  | 0, M => (0, M)
  | n + 1, M => if mdF M x < uN M x then ((mAll x n (mdA M x (mdF M x))).1 + 1, (mAll x n (mdA M x (mdF M x))).2) else (0, M)
theorem mAll_y {x n : Nat} {M : mN} (h : mdF M x < uN M x) : mAll x (n + 1) M = ((mAll x n (mdA M x (mdF M x))).1 + 1, (mAll x n (mdA M x (mdF M x))).2) := if_pos h
theorem mAll_n {x n : Nat} {M : mN} (h : ¬ mdF M x < uN M x) : mAll x (n + 1) M = (0, M) := if_neg h
theorem mAll_le {x : Nat} : ∀ {n : Nat} {M : mN}, (mAll x n M).1 ≤ n
  | 0, M => Nat.le_refl _
  | n + 1, M => by
    by_cases h : mdF M x < uN M x
    · rw [mAll_y h]
      have := mAll_le (x := x) (n := n) (M := mdA M x (mdF M x))
      show (mAll x n (mdA M x (mdF M x))).1 + 1 ≤ n + 1
      omega
    · rw [mAll_n h]; exact Nat.zero_le _
theorem mn_s (mn : Int32) (c : Nat) : mn + 1 + nI c = mn + nI (c + 1) := by
  rw [Int32.add_assoc, Int32.add_comm 1 (nI c), nI_1]
section RMA
variable {M : mN} {D : Nat → Int64} {mn : Int32} {S : mS} {G : mG}
theorem rt_mend {Q : Int32 → mS → mG → Prop} (h : RI M D mn S G) (a b : Int32) (yes : ∀ x i, x < 8 → i < uN M x → mdOK M x i → a = nI x → b = nI i → ∀ S' : mS, RI (mdA M x i) D (mn + 1) S' G → S' 0 0 = 0 → Q 1 S' G) (nope : ∀ x, x < 8 → a = nI x → (¬ ∃ i, i < uN M x ∧ b = nI i ∧ mdOK M x i) → ∀ S' : mS, RI M D mn S' G → S' 0 0 = 0 → Q 0 S' G) (no : ¬ okN a 8 → ∀ S' : mS, RI M D mn S' G → S' 0 0 = 1 → Q 0 S' G) : wp_X9_mend_0 Q S G a b := by
  unfold wp_X9_mend_0
  refine rt_isText h a (fun ok S1 h1 z1 => bf2 (by decide) ?_) (fun ok S1 h1 z1 => bt2 rfl (no ok S1 h1 z1))
  obtain ⟨x, hx, rfl⟩ := okN_of ok (by decide)
  refine rt_reads h1 hx (fun S2 h2 z2 f2 u2 => ?_)
  have z2 := z2.trans z1
  have hM := h.2.2.2
  have hu := uN_le hM hx
  have u25 : S2 25 0 = nI (uN M x) := u2.1.1
  refine ⟨fun hb => nope x hx rfl (fun ⟨i, i1, i2, _⟩ => n_lt0 (show i < 2147483648 by omega) (by rw [← i2]; exact hb)) S2 h2 z2, fun hb => ?_⟩
  obtain ⟨i, hi, rfl⟩ := n_of hb
  refine bq (i_le (uN M x) i (hx := u25)) (fun k1 => nope x hx rfl (fun ⟨j, i1, i2, _⟩ => ?_) S2 h2 z2) (fun k1 => rt_mends h2 hx f2 u2 (by omega) (fun o S3 h3 z3 => bf1 (by decide) (yes x i hx (by omega) o rfl rfl S3 h3 (z3.trans z2))) (fun o S3 h3 z3 _ _ => bt1 rfl (nope x hx rfl (fun ⟨j, i1, i2, i3⟩ => ?_) S3 h3 (z3.trans z2))))
  · rw [n_eq hi (by omega)] at i2; omega
  · rw [n_eq hi (by omega)] at i2; rw [i2] at o; exact o i3
theorem rt_mendsOne {Q : Int32 → mS → mG → Prop} (h : RI M D mn S G) {x : Nat} (hx : x < 8) (yes : mdF M x < uN M x → ∀ S' : mS, RI (mdA M x (mdF M x)) D (mn + 1) S' G → S' 0 0 = S 0 0 → Q 1 S' G) (no : ¬ mdF M x < uN M x → ∀ S' : mS, RI M D mn S' G → S' 0 0 = S 0 0 → Q 0 S' G) : wp_X9_mendsOne_0 Q S G (nI x) := by
  have hM := h.2.2.2
  have hu := uN_le hM hx
  unfold wp_X9_mendsOne_0
  refine rt_reads h hx (fun S1 h1 z1 f1 u1 => ?_)
  have hy := fa_first_yes (fun i => decide (mdOK M x i)) (uN M x)
  have hn := fa_first_no (fun i => decide (mdOK M x i)) (uN M x)
  have hl := fa_first_le (fun i => decide (mdOK M x i)) (uN M x)
  have hF : mdF M x = fa_first (fun i => decide (mdOK M x i)) (uN M x) := rfl
  rw [← hF] at hy hn hl
  generalize mdF M x = T at hy hn hl yes no
  refine pk_loop (σ := mS) (fun n9 i s => wp_X9_mendsOne_7 Q n9 s G (nI x) (nI i)) (fun i s => RI M D mn s G ∧ s 0 0 = S 0 0 ∧ FD M x s ∧ UD M D x s) T 0 S1 (Nat.zero_le _) ⟨h1, z1, f1, u1⟩ ?_ ?_
  · rintro n9 s ⟨s1, s2, s3, s4⟩
    have u25 : s 25 0 = nI (uN M x) := s4.1.1
    unfold wp_X9_mendsOne_7
    refine bq (i_le (uN M x) T (hx := u25)) (fun k1 => no (by omega) s s1 s2) (fun k1 => ?_)
    have ok := of_decide_eq_true (hy (by omega))
    exact rt_mends s1 hx s3 s4 (by omega) (fun o S2 h2 z2 => bf1 (by decide) (yes (by omega) S2 h2 (z2.trans s2))) (fun o => absurd ok o)
  · rintro n9 i s hi ⟨s1, s2, s3, s4⟩ ih
    have u25 : s 25 0 = nI (uN M x) := s4.1.1
    have nok := of_decide_eq_false (hn i hi)
    unfold wp_X9_mendsOne_7
    refine bf1 (by rw [i_le (uN M x) i (hx := u25)]; omega) (rt_mends s1 hx s3 s4 (by omega) (fun o => absurd o nok) (fun o S2 h2 z2 f2 u2 => bt1 rfl ?_))
    rintro _ rfl
    rw [nI_1]
    exact ih S2 ⟨h2, z2.trans s2, f2, u2⟩
theorem rt_mendAll {Q : Int32 → mS → mG → Prop} (h : RI M D mn S G) (a : Int32) (yes : ∀ x, x < 8 → a = nI x → ∀ S' : mS, RI (mAll x 100 M).2 D (mn + nI (mAll x 100 M).1) S' G → S' 0 0 = 0 → Q (nI (mAll x 100 M).1) S' G) (no : ¬ okN a 8 → ∀ S' : mS, RI M D mn S' G → S' 0 0 = 1 → Q 0 S' G) : wp_X9_mendAll_0 Q S G a := by
  unfold wp_X9_mendAll_0
  refine rt_isText h a (fun ok S1 h1 z1 => bf2 (by decide) ?_) (fun ok S1 h1 z1 => bt2 rfl (no ok S1 h1 z1))
  obtain ⟨x, hx, rfl⟩ := okN_of ok (by decide)
  have y := yes x hx rfl
  clear yes
  obtain ⟨N, hN⟩ : ∃ N : Nat, N = 100 := ⟨_, rfl⟩
  rw [← hN] at y
  have main : ∀ (n : Nat) (M : mN) (mn : Int32) (S : mS) (d : Nat), d + n = N → RI M D mn S G → S 0 0 = 0 → (∀ S' : mS, RI (mAll x n M).2 D (mn + nI (mAll x n M).1) S' G → S' 0 0 = 0 → Q (nI (d + (mAll x n M).1)) S' G) → wp_X9_mendAll_12 Q (n + 1) S G (nI x) (nI d) := by
    intro n
    induction n with
    | zero =>
      intro M mn S d hd h z hQ
      unfold wp_X9_mendAll_12
      refine bt1 ((i_le 100 d).mpr (by omega)) (hQ S ?_ z)
      show RI M D (mn + nI 0) S G
      rw [show nI 0 = (0 : Int32) from rfl, Int32.add_zero]
      exact h
    | succ n ih =>
      intro M mn S d hd h z hQ
      unfold wp_X9_mendAll_12
      refine bf1 (by rw [i_le 100 d]; omega) (rt_mendsOne h hx (fun o S2 h2 z2 => bf1 (by decide) ?_) (fun o S2 h2 z2 => bt1 rfl ?_))
      · rintro _ rfl
        rw [nI_1]
        rw [mAll_y o] at hQ
        refine ih (mdA M x (mdF M x)) (mn + 1) S2 (d + 1) (by omega) h2 (z2.trans z) (fun S3 h3 z3 => ?_)
        rw [mn_s] at h3
        have := hQ S3 h3 z3
        dsimp only at this
        rw [show d + 1 + (mAll x n (mdA M x (mdF M x))).1 = d + ((mAll x n (mdA M x (mdF M x))).1 + 1) by omega]
        exact this
      · rw [mAll_n o] at hQ
        refine hQ S2 ?_ (z2.trans z)
        show RI M D (mn + nI 0) S2 G
        rw [show nI 0 = (0 : Int32) from rfl, Int32.add_zero]
        exact h2
  exact ⟨N + 1, main N M mn S1 0 (by omega) h1 z1 (fun S' r1 r2 => by rw [Nat.zero_add]; exact y S' r1 r2)⟩
end RMA
