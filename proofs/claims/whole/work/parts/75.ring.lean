/-! pure: rings -/
/-- g goes to s by just n steps -/
def rk (D : Nat → Int64) (s : Nat) : Nat → Nat → Bool
  | 0, g => g == s
  | n + 1, g => decide (g < 40) && (List.range 40).any (fun h => tb (D g) h && rk D s n h)
theorem rk_s {D : Nat → Int64} {s n g : Nat} : rk D s (n + 1) g = true ↔ g < 40 ∧ ∃ h, h < 40 ∧ tb (D g) h = true ∧ rk D s n h = true := by
  rw [rk, Bool.and_eq_true, decide_eq_true_eq, List.any_eq_true]
  constructor
  · rintro ⟨h1, h, h2, h3⟩
    rw [Bool.and_eq_true] at h3
    exact ⟨h1, h, List.mem_range.mp h2, h3.1, h3.2⟩
  · rintro ⟨h1, h, h2, h3, h4⟩
    exact ⟨h1, h, List.mem_range.mpr h2, by rw [Bool.and_eq_true]; exact ⟨h3, h4⟩⟩
theorem rk_lt {D : Nat → Int64} {s : Nat} (hs : s < 40) : ∀ {n g : Nat}, rk D s n g = true → g < 40
  | 0, g, h => by rw [rk, beq_iff_eq] at h; omega
  | n + 1, g, h => (rk_s.mp h).1
/-- the least such n from 1 to k; 0: there is none -/
def lst (D : Nat → Int64) (s g : Nat) : Nat → Nat
  | 0 => 0
  | k + 1 => if lst D s g k ≠ 0 then lst D s g k else if rk D s (k + 1) g then k + 1 else 0
theorem lst_le {D : Nat → Int64} {s g : Nat} : ∀ k, lst D s g k ≤ k
  | 0 => Nat.le_refl 0
  | k + 1 => by
    have ih := lst_le (D := D) (s := s) (g := g) k
    unfold lst
    by_cases h : lst D s g k ≠ 0
    · rw [if_pos h]; omega
    · rw [if_neg h]
      by_cases h2 : rk D s (k + 1) g = true
      · rw [if_pos h2]; omega
      · rw [if_neg h2]; omega
theorem lst_none {D : Nat → Int64} {s g : Nat} : ∀ {k}, lst D s g k = 0 → ∀ {m}, 1 ≤ m → m ≤ k → rk D s m g = false
  | 0, _, m, h1, h2 => by omega
  | k + 1, h, m, h1, h2 => by
    unfold lst at h
    by_cases h3 : lst D s g k ≠ 0
    · rw [if_pos h3] at h; exact absurd h h3
    · rw [if_neg h3] at h
      by_cases h4 : rk D s (k + 1) g = true
      · rw [if_pos h4] at h; omega
      · by_cases e : m = k + 1
        · subst e; simpa using h4
        · exact lst_none (Classical.not_not.mp h3) h1 (by omega)
theorem lst_yes {D : Nat → Int64} {s g : Nat} : ∀ {k}, lst D s g k ≠ 0 → rk D s (lst D s g k) g = true ∧ ∀ m, 1 ≤ m → m < lst D s g k → rk D s m g = false
  | 0, h => absurd rfl h
  | k + 1, h => by
    unfold lst at h ⊢
    by_cases h1 : lst D s g k ≠ 0
    · rw [if_pos h1]; exact lst_yes h1
    · rw [if_neg h1] at h ⊢
      by_cases h2 : rk D s (k + 1) g = true
      · rw [if_pos h2]
        exact ⟨h2, fun m hm1 hm2 => lst_none (Classical.not_not.mp h1) hm1 (by omega)⟩
      · rw [if_neg h2] at h; exact absurd rfl h
/-- reached within k: the least is told -/
theorem lst_of {D : Nat → Int64} {s g k m : Nat} (h1 : 1 ≤ m) (h2 : m ≤ k) (h : rk D s m g = true) : lst D s g k ≠ 0 ∧ lst D s g k ≤ m := by
  have hn : lst D s g k ≠ 0 := fun e => by rw [lst_none e h1 h2] at h; exact absurd h (by decide)
  refine ⟨hn, Nat.le_of_not_lt fun hl => ?_⟩
  rw [(lst_yes hn).2 m h1 hl] at h
  exact absurd h (by decide)
theorem lst_step {D : Nat → Int64} {s g k : Nat} : lst D s g (k + 1) = if lst D s g k = 0 ∧ rk D s (k + 1) g = true then k + 1 else lst D s g k := by
  rw [lst]
  by_cases h : lst D s g k = 0
  · rw [if_neg (by simp [h])]
    by_cases h2 : rk D s (k + 1) g = true
    · rw [if_pos h2, if_pos ⟨h, h2⟩]
    · rw [if_neg h2, if_neg (fun h9 => h2 h9.2), h]
  · rw [if_pos h, if_neg (fun h9 => h h9.1)]
/-- the front of a search behind k steps -/
def frn (D : Nat → Int64) (s k g : Nat) : Prop := g < 40 ∧ (if k = 0 then g = s else lst D s g k = k)
theorem frn_rk {D : Nat → Int64} {s k g : Nat} (h : frn D s k g) : rk D s k g = true := by
  obtain ⟨_, h⟩ := h
  by_cases e : k = 0
  · rw [if_pos e] at h; subst e; rw [rk, h, beq_self_eq_true]
  · rw [if_neg e] at h
    have := (lst_yes (D := D) (s := s) (g := g) (k := k) (by rw [h]; exact e)).1
    rwa [h] at this
theorem frn_key {D : Nat → Int64} {s k g : Nat} (hs : s < 40) (hg : g < 40) (h0 : lst D s g k = 0) : (∃ h, h < 40 ∧ tb (D g) h = true ∧ frn D s k h) ↔ rk D s (k + 1) g = true := by
  constructor
  · rintro ⟨h, h1, h2, h3⟩
    exact rk_s.mpr ⟨hg, h, h1, h2, frn_rk h3⟩
  · intro hr
    obtain ⟨_, h, h1, h2, h3⟩ := rk_s.mp hr
    refine ⟨h, h1, h2, h1, ?_⟩
    by_cases e : k = 0
    · rw [if_pos e]; subst e; rw [rk, beq_iff_eq] at h3; exact h3
    · rw [if_neg e]
      obtain ⟨q1, q2⟩ := lst_of (k := k) (by omega) (Nat.le_refl k) h3
      apply Classical.byContradiction
      intro hne
      have hm := (lst_yes q1).1
      have : rk D s (lst D s h k + 1) g = true := rk_s.mpr ⟨hg, h, h1, h2, hm⟩
      rw [lst_none h0 (by omega) (by omega)] at this
      exact absurd this (by decide)
theorem frn_next {D : Nat → Int64} {s k g : Nat} (hg : g < 40) : frn D s (k + 1) g ↔ lst D s g k = 0 ∧ rk D s (k + 1) g = true := by
  unfold frn
  rw [if_neg (by omega), lst_step]
  by_cases h : lst D s g k = 0 ∧ rk D s (k + 1) g = true
  · rw [if_pos h]; exact ⟨fun _ => h, fun _ => ⟨hg, rfl⟩⟩
  · rw [if_neg h]
    refine ⟨fun h9 => ?_, fun h9 => absurd h9 h⟩
    have := lst_le (D := D) (s := s) (g := g) k
    omega
theorem frn_stop {D : Nat → Int64} {s k : Nat} (hs : s < 40) (h : ∀ g, ¬ frn D s k g) : ∀ j, (∀ g, ¬ frn D s (k + j) g) ∧ ∀ g, g < 40 → lst D s g (k + j) = lst D s g k
  | 0 => ⟨h, fun _ _ => rfl⟩
  | j + 1 => by
    obtain ⟨i1, i2⟩ := frn_stop hs h j
    have key : ∀ g, g < 40 → ¬ (lst D s g (k + j) = 0 ∧ rk D s (k + j + 1) g = true) := by
      intro g hg h9
      obtain ⟨h, _, _, h3⟩ := (frn_key hs hg h9.1).mpr h9.2
      exact i1 h h3
    refine ⟨fun g hf => ?_, fun g hg => ?_⟩
    · exact key g hf.1 ((frn_next hf.1).mp hf)
    · show lst D s g (k + j + 1) = _
      rw [lst_step, if_neg (key g hg)]; exact i2 g hg
/-- the shortest ring, by the things below k: its length (41: none), its begin -/
def bst (D : Nat → Int64) : Nat → Nat × Nat
  | 0 => (41, 40)
  | k + 1 => if lst D k k 40 ≠ 0 ∧ lst D k k 40 < (bst D k).1 then (lst D k k 40, k) else bst D k
theorem bst_ok {D : Nat → Int64} : ∀ k, (bst D k = (41, 40)) ∨ ((bst D k).2 < k ∧ 1 ≤ (bst D k).1 ∧ (bst D k).1 ≤ 40 ∧ lst D (bst D k).2 (bst D k).2 40 = (bst D k).1)
  | 0 => Or.inl rfl
  | k + 1 => by
    have h40 := lst_le (D := D) (s := k) (g := k) 40
    unfold bst
    obtain ⟨n, hn⟩ : ∃ n, lst D k k 40 = n := ⟨_, rfl⟩
    rw [hn] at h40 ⊢
    by_cases h : n ≠ 0 ∧ n < (bst D k).1
    · rw [if_pos h]
      exact Or.inr ⟨Nat.lt_succ_self k, Nat.pos_of_ne_zero h.1, h40, hn⟩
    · rw [if_neg h]
      rcases bst_ok (D := D) k with h1 | h1
      · exact Or.inl h1
      · exact Or.inr ⟨by omega, h1.2⟩
/-- its row -/
def rrw (D : Nat → Int64) (s len : Nat) : Nat → Nat
  | 0 => s
  | i + 1 => fa_first (fun g => tb (D (rrw D s len i)) g && rk D s (len - (i + 1)) g) 40
theorem rrw_ok {D : Nat → Int64} {s len : Nat} (hs : s < 40) (hl : lst D s s 40 = len) (h1 : 1 ≤ len) : ∀ i, i < len → rrw D s len i < 40 ∧ rk D s (len - i) (rrw D s len i) = true ∧ ∀ m, rk D s m (rrw D s len i) = true → rk D s (m + i) s = true
  | 0, _ => by
    have := (lst_yes (D := D) (s := s) (g := s) (k := 40) (by omega)).1
    rw [hl] at this
    exact ⟨hs, this, fun m h => h⟩
  | i + 1, hi => by
    obtain ⟨a1, a2, a3⟩ := rrw_ok hs hl h1 i (by omega)
    rw [show len - i = (len - (i + 1)) + 1 by omega] at a2
    obtain ⟨_, h, b1, b2, b3⟩ := rk_s.mp a2
    have hf : fa_first (fun g => tb (D (rrw D s len i)) g && rk D s (len - (i + 1)) g) 40 < 40 := by
      apply Nat.lt_of_le_of_lt (m := h) _ b1
      apply Nat.le_of_not_lt
      intro hlt
      have := fa_first_no _ 40 h hlt
      simp [b2, b3] at this
    have hy := fa_first_yes _ 40 hf
    rw [Bool.and_eq_true] at hy
    refine ⟨hf, hy.2, fun m hm => ?_⟩
    have := a3 (m + 1) (rk_s.mpr ⟨a1, _, hf, hy.1, hm⟩)
    rwa [show m + 1 + i = m + (i + 1) by omega] at this
/-- a thing that the row goes to: as many steps away as are left, just where it is least so -/
theorem rrw_key {D : Nat → Int64} {s len i g : Nat} (hs : s < 40) (hl : lst D s s 40 = len) (h1 : 1 ≤ len) (hi : i + 1 < len) (he : tb (D (rrw D s len i)) g = true) (hg : g < 40) : lst D s g 40 = len - (i + 1) ↔ rk D s (len - (i + 1)) g = true := by
  have hlen : len ≤ 40 := by rw [← hl]; exact lst_le 40
  constructor
  · intro h
    have := (lst_yes (D := D) (s := s) (g := g) (k := 40) (by omega)).1
    rwa [h] at this
  · intro h
    obtain ⟨q1, q2⟩ := lst_of (k := 40) (by omega) (by omega) h
    apply Classical.byContradiction
    intro hne
    obtain ⟨a1, a2, a3⟩ := rrw_ok hs hl h1 i (by omega)
    have hm := (lst_yes q1).1
    have hc := a3 _ (rk_s.mpr ⟨a1, g, hg, he, hm⟩)
    have := (lst_yes (D := D) (s := s) (g := s) (k := 40) (by omega)).2 (lst D s g 40 + 1 + i) (by omega) (by omega)
    rw [this] at hc
    exact absurd hc (by decide)
