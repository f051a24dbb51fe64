/-! pure: crossing, in the reference -/
/-- both texts mean the thing, and by no term in common -/
def crs (M : mN) (x y g : Nat) : Prop := (∃ t, mkA M x (uN M x) g t) ∧ (∃ t, mkA M y (uN M y) g t) ∧ ¬ ∃ t, mkA M x (uN M x) g t ∧ mkA M y (uN M y) g t
section RCX
variable {M : mN} {D : Nat → Int64} {mn : Int32} {S : mS} {G : mG}
theorem mk_lt (hM : MI M D) {x n g t : Nat} (h : mkA M x n g t) : t < 64 := by
  obtain ⟨i, _, h1, _⟩ := h
  have htl : tmU M x i ≤ M 4 0 := chT_le
  have := hM.2.2.1.1
  omega
theorem rt_crossing {Q : Int64 → mS → mG → Prop} (h : RI M D mn S G) (a b : Int32) (yes : ∀ x y, x < 8 → y < 8 → a = nI x → b = nI y → ∀ z : Int64, (∀ g, tb z g = true ↔ (g < 40 ∧ crs M x y g)) → ∀ (S' : mS) (G' : mG), RI M D mn S' G' → S' 0 0 = 0 → Q z S' G') (no : ¬ (okN a 8 ∧ okN b 8) → ∀ S' : mS, RI M D mn S' G → S' 0 0 = 1 → Q 0 S' G) : wp_X9_crossing_0 Q S G a b := by
  have hM := h.2.2.2
  unfold wp_X9_crossing_0
  refine rt_isText h a (fun ok S1 h1 z1 => bf1 (by decide) ?_) (fun ok S1 h1 z1 => bt1 rfl (no (fun o => ok o.1) S1 h1 z1))
  refine rt_isText h1 b (fun okb S2 h2 z2 => bf2 (by decide) ?_) (fun okb S2 h2 z2 => bt2 rfl (no (fun o => okb o.2) S2 h2 z2))
  obtain ⟨x, hx, rfl⟩ := okN_of ok (by decide)
  obtain ⟨y, hy, rfl⟩ := okN_of okb (by decide)
  have yes := yes x y hx hy rfl rfl
  refine rt_marks36 h2 hx (fun S3 G3 h3 z3 k3 m3 => ?_)
  refine rt_marks37 h3 hy (fun S4 G4 h4 z4 k4 m4 => ?_)
  rw [← k4 36 (by decide)] at m3
  have z4 : S4 0 0 = 0 := z4.trans (z3.trans z2)
  have n36 : ∀ g, g < 40 → (G4 36 g = 0 ↔ ¬ ∃ t, mkA M x (uN M x) g t) := fun g hg => by
    constructor
    · rintro e ⟨t, ht⟩
      have := (m3 g hg t).mpr ht
      rw [e, tb_0] at this
      exact absurd this (by decide)
    · intro hn
      apply Classical.byContradiction
      intro h9
      obtain ⟨t, _, ht⟩ := tb_nz.mp h9
      exact hn ⟨t, (m3 g hg t).mp ht⟩
  have n37 : ∀ g, g < 40 → (G4 37 g = 0 ↔ ¬ ∃ t, mkA M y (uN M y) g t) := fun g hg => by
    constructor
    · rintro e ⟨t, ht⟩
      have := (m4 g hg t).mpr ht
      rw [e, tb_0] at this
      exact absurd this (by decide)
    · intro hn
      apply Classical.byContradiction
      intro h9
      obtain ⟨t, _, ht⟩ := tb_nz.mp h9
      exact hn ⟨t, (m4 g hg t).mp ht⟩
  have nb : ∀ g, g < 40 → (G4 36 g &&& G4 37 g = 0 ↔ ¬ ∃ t, mkA M x (uN M x) g t ∧ mkA M y (uN M y) g t) := fun g hg => by
    constructor
    · rintro e ⟨t, t1, t2⟩
      exact absurd e (tb_meet.mpr ⟨t, mk_lt hM t1, (m3 g hg t).mpr t1, (m4 g hg t).mpr t2⟩)
    · intro hn
      apply Classical.byContradiction
      intro h9
      obtain ⟨t, _, t1, t2⟩ := tb_meet.mp h9
      exact hn ⟨t, (m3 g hg t).mp t1, (m4 g hg t).mp t2⟩
  obtain ⟨N, hN⟩ : ∃ N : Nat, N = 40 := ⟨_, rfl⟩
  refine pk_loop (σ := Int64) (fun n9 g z => wp_X9_crossing_41 Q n9 S4 G4 z (nI g)) (fun g z => ∀ k, tb z k = true ↔ (k < g ∧ crs M x y k)) N 0 0 (Nat.zero_le _) (fun k => ⟨fun h9 => by rw [tb_0] at h9; exact absurd h9 (by decide), fun o => absurd o.1 (Nat.not_lt_zero k)⟩) ?_ ?_
  · intro n9 z hI
    unfold wp_X9_crossing_41
    exact bt1 ((i_le 40 N).mpr (by omega)) (yes z (fun g => by rw [hI g, hN]) S4 G4 h4 z4)
  · intro n9 g z hg hI ih
    have hg40 : g < 40 := by omega
    have g40 : vp_in (nI g) 40 := n_in hg40 (by decide)
    have next : ∀ z2 : Int64, (∀ k, tb z2 k = true ↔ (tb z k = true ∨ (k = g ∧ crs M x y g))) → wp_X9_crossing_99 Q (wp_X9_crossing_41 Q n9) S4 G4 z2 (nI g) := by
      intro z2 hz2
      unfold wp_X9_crossing_99
      rintro _ rfl
      rw [nI_1]
      refine ih z2 (fun k => (hz2 k).trans ?_)
      rw [hI k]
      constructor
      · rintro (⟨k1, k2⟩ | ⟨k1, k2⟩)
        · exact ⟨by omega, k2⟩
        · exact ⟨by omega, by rw [k1]; exact k2⟩
      · rintro ⟨k1, k2⟩
        by_cases e : k = g
        · exact Or.inr ⟨e, by rw [← e]; exact k2⟩
        · exact Or.inl ⟨by omega, k2⟩
    have keep : ¬ crs M x y g → wp_X9_crossing_99 Q (wp_X9_crossing_41 Q n9) S4 G4 z (nI g) := fun hn => next z (fun k => ⟨Or.inl, fun o => o.elim id (fun o => absurd o.2 hn)⟩)
    unfold wp_X9_crossing_41
    rw [n_cl (show g < _ by omega)]
    refine bf1 (by rw [i_le 40 g]; omega) ⟨g40, bq (lc_0.trans (n36 g hg40)) (fun c1 => keep (fun o => c1 o.1)) (fun c1 => ⟨g40, bq (lc_0.trans (n37 g hg40)) (fun c2 => keep (fun o => c2 o.2.1)) (fun c2 => ⟨g40, g40, bn (lc_0.trans (nb g hg40)) (fun c3 => ?_) (fun c3 => keep (fun o => c3 o.2.2))⟩)⟩)⟩
    intro z2 hz2
    refine next z2 (fun k => ?_)
    rw [hz2, tb_set (by omega), Bool.or_eq_true, decide_eq_true_iff]
    exact or_congr Iff.rfl ⟨fun e => ⟨e, Classical.not_not.mp c1, Classical.not_not.mp c2, c3⟩, fun o => o.1⟩
end RCX
