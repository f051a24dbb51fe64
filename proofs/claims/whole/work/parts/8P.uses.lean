/-! pure: the uses of a text -/
section US
variable {n : Nat} {b : Nat → Nat}
theorem tog_sn {w : Nat} (h : tog n b w) : snA b (wpA n b (w + 1)) = snA b (wpA n b w) := by
  obtain ⟨h1, h2, h3⟩ := h
  rw [h2, ← snA_word (n := n) (b := b) w]
  refine snA_same (by omega) (fun j j1 j2 => ?_)
  rw [show j = weA n b w by omega]
  unfold isE4
  omega
theorem CHc_len {s : Nat → Nat} {wd : Nat → Nat → Nat} {mE : Nat} {en : Nat → Nat} : ∀ (r u w : Nat), w < fnd n b → CHc n b s wd mE en (r + 1) u w → w + (r + 1) ≤ fnd n b ∧ ∀ v, v ≤ r → snA b (wpA n b (w + v)) = snA b (wpA n b w)
  | 0, u, w, hw, _ => ⟨hw, fun v hv => by rw [Nat.le_zero.mp hv, Nat.add_zero]⟩
  | r + 1, u, w, hw, h => by
    have h2 := h.2
    rcases h2 with h2 | ⟨h2, h3⟩
    · exact absurd h2 (Nat.succ_ne_zero r)
    · have e1 := tog_sn h2
      obtain ⟨a1, a2⟩ := CHc_len r (u + 1) (w + 1) h2.1 h3
      refine ⟨by omega, fun v hv => ?_⟩
      by_cases e : v = 0
      · rw [e, Nat.add_zero]
      · have := a2 (v - 1) (by omega)
        rw [show w + 1 + (v - 1) = w + v by omega] at this
        rw [this, e1]
end US
/-- a form at a word lies in one sentence -/
theorem wy_len {M : mN} {D : Nat → Int64} (hM : MI M D) {x w t : Nat} (hw : w < fnd (M 20 x) (tbx M x)) (ht : t < M 4 0) (h : wyA M x (wpA (M 20 x) (tbx M x) w) t ≠ 0) : w + M 10 t ≤ fnd (M 20 x) (tbx M x) ∧ ∀ v, v < M 10 t → snA (tbx M x) (wpA (M 20 x) (tbx M x) (w + v)) = snA (tbx M x) (wpA (M 20 x) (tbx M x) w) := by
  obtain ⟨q1, q2, q3, q4, _⟩ := hM.2.2.1.2 t ht
  have hlt := fnd_lt.mp hw
  have hs : ∀ j, 0 ≤ j → j < 0 + (M 10 t - 1 + 1) → 1 ≤ sOf M t j ∧ ∀ k, k < sOf M t j → 1 ≤ wdOf M t j k ∧ wdOf M t j k ≤ 26 := fun j _ hj => by
    obtain ⟨a1, a2, a3⟩ := q3 j (by omega)
    exact ⟨a1, a3⟩
  have st : ∀ (mE : Nat) (en : Nat → Nat), (∀ k, k < mE → 1 ≤ en k ∧ en k ≤ 26) → (fmR M x (wpA (M 20 x) (tbx M x) w) t ∧ mat (M 20 x) (tbx M x) (wpA (M 20 x) (tbx M x) w + rowN M t) mE (fun k => 96 + en k) ∧ ¬ ltA (M 20 x) (tbx M x) (wpA (M 20 x) (tbx M x) w + rowN M t + mE)) → w + M 10 t ≤ fnd (M 20 x) (tbx M x) ∧ ∀ v, v < M 10 t → snA (tbx M x) (wpA (M 20 x) (tbx M x) (w + v)) = snA (tbx M x) (wpA (M 20 x) (tbx M x) w) := by
    intro mE en hen hf
    have h1 := CF_iff (n := M 20 x) (b := tbx M x) (s := sOf M t) (wd := wdOf M t) (mE := mE) (en := en) hen (M 10 t - 1) 0 w hs hlt
    rw [show M 10 t - 1 + 1 = M 10 t by omega] at h1
    have h2 := h1.mpr ((FM_row hM ht).mpr hf)
    rw [show M 10 t = M 10 t - 1 + 1 by omega] at h2
    obtain ⟨a1, a2⟩ := CHc_len _ _ _ hw h2
    exact ⟨by omega, fun v hv => a2 v (by omega)⟩
  unfold wyA at h
  by_cases hr : fmR M x (wpA (M 20 x) (tbx M x) w) t
  · rw [if_pos hr] at h
    by_cases hl : ltA (M 20 x) (tbx M x) (wpA (M 20 x) (tbx M x) w + rowN M t)
    · rw [if_pos hl] at h
      have hy := fa_first_yes (eok M x (wpA (M 20 x) (tbx M x) w + rowN M t) t) (M 3 0)
      generalize fa_first (eok M x (wpA (M 20 x) (tbx M x) w + rowN M t) t) (M 3 0) = e at h hy
      by_cases he : e < M 3 0
      · obtain ⟨k1, k2, k3⟩ := eok_t.mp (hy he)
        exact st (M 7 e) (fun k => M 6 (4 * e + k)) (fun k hk => (hM.2.1.2 e he).2.2 k hk) ⟨hr, k2, k3⟩
      · rw [if_neg he] at h; exact absurd rfl h
    · exact st 0 (fun _ => 1) (fun k hk => absurd hk (Nat.not_lt_zero k)) ⟨hr, fun k hk => absurd hk (Nat.not_lt_zero k), hl⟩
  · rw [if_neg hr] at h; exact absurd rfl h
/-- how many words the longest form at p has, of the terms ahead of k -/
def mwA (M : mN) (x p : Nat) : Nat → Nat
  | 0 => 0
  | t + 1 => if wyA M x p t ≠ 0 ∧ mwA M x p t < M 10 t then M 10 t else mwA M x p t
theorem mwA_s (M : mN) (x p t : Nat) : mwA M x p (t + 1) = if wyA M x p t ≠ 0 ∧ mwA M x p t < M 10 t then M 10 t else mwA M x p t := rfl
theorem mwA_in {M : mN} {x p : Nat} : ∀ {k : Nat}, mwA M x p k ≠ 0 → ∃ t, t < k ∧ M 10 t = mwA M x p k ∧ wyA M x p t ≠ 0
  | 0, h => absurd rfl h
  | k + 1, h => by
    rw [mwA_s] at h ⊢
    by_cases hc : wyA M x p k ≠ 0 ∧ mwA M x p k < M 10 k
    · rw [if_pos hc]; exact ⟨k, Nat.lt_succ_self k, rfl, hc.1⟩
    · rw [if_neg hc] at h ⊢
      obtain ⟨t, h1, h2, h3⟩ := mwA_in h
      exact ⟨t, by omega, h2, h3⟩
theorem mwA_ge {M : mN} {x p : Nat} : ∀ {k t : Nat}, t < k → wyA M x p t ≠ 0 → M 10 t ≤ mwA M x p k
  | 0, t, ht, _ => absurd ht (Nat.not_lt_zero t)
  | k + 1, t, ht, h => by
    rw [mwA_s]
    by_cases e : t = k
    · rw [← e]
      by_cases hc : wyA M x p t ≠ 0 ∧ mwA M x p t < M 10 t
      · rw [if_pos hc]; exact Nat.le_refl _
      · rw [if_neg hc]
        apply Classical.byContradiction
        intro h9
        exact hc ⟨h, by omega⟩
    · have := mwA_ge (M := M) (x := x) (p := p) (k := k) (t := t) (by omega) h
      by_cases hc : wyA M x p k ≠ 0 ∧ mwA M x p k < M 10 k
      · rw [if_pos hc]; omega
      · rw [if_neg hc]; exact this
/-- at word w -/
def mw (M : mN) (x w : Nat) : Nat := mwA M x (wpA (M 20 x) (tbx M x) w) (M 4 0)
theorem mw_ok {M : mN} {D : Nat → Int64} (hM : MI M D) {x w : Nat} (hw : w < fnd (M 20 x) (tbx M x)) : mw M x w ≤ 3 ∧ w + mw M x w ≤ fnd (M 20 x) (tbx M x) ∧ (mw M x w ≠ 0 → (∃ t, t < M 4 0 ∧ M 10 t = mw M x w ∧ wyA M x (wpA (M 20 x) (tbx M x) w) t ≠ 0) ∧ ∀ v, v < mw M x w → snA (tbx M x) (wpA (M 20 x) (tbx M x) (w + v)) = snA (tbx M x) (wpA (M 20 x) (tbx M x) w)) := by
  by_cases h0 : mw M x w = 0
  · exact ⟨by omega, by omega, fun h => absurd h0 h⟩
  · obtain ⟨t, h1, h2, h3⟩ := mwA_in h0
    have h2 : M 10 t = mw M x w := h2
    obtain ⟨a1, a2⟩ := wy_len hM hw h1 h3
    have := (hM.2.2.1.2 t h1).2.1
    rw [h2] at a1 a2
    exact ⟨by omega, a1, fun _ => ⟨⟨t, h1, h2, h3⟩, a2⟩⟩
/-- (the word behind the last use, how many uses, where each begins, how many words each has), of the words ahead of w -/
def us (M : mN) (x : Nat) : Nat → Nat × Nat × (Nat → Nat) × (Nat → Nat)
  | 0 => (0, 0, fun _ => 0, fun _ => 0)
  | w + 1 => if (us M x w).1 ≤ w ∧ mw M x w ≠ 0 then (w + mw M x w, (us M x w).2.1 + 1, (fun i => if i = (us M x w).2.1 then w else (us M x w).2.2.1 i), (fun i => if i = (us M x w).2.1 then mw M x w else (us M x w).2.2.2 i)) else us M x w
theorem us_s (M : mN) (x w : Nat) : us M x (w + 1) = if (us M x w).1 ≤ w ∧ mw M x w ≠ 0 then (w + mw M x w, (us M x w).2.1 + 1, (fun i => if i = (us M x w).2.1 then w else (us M x w).2.2.1 i), (fun i => if i = (us M x w).2.1 then mw M x w else (us M x w).2.2.2 i)) else us M x w := rfl
theorem us_in {M : mN} {x w : Nat} (h : w < (us M x w).1) : us M x (w + 1) = us M x w := by rw [us_s, if_neg (fun o => by have := o.1; omega)]
/-- over a use -/
theorem us_j {M : mN} {x w : Nat} : ∀ {j : Nat}, w + j ≤ (us M x w).1 → us M x (w + j) = us M x w
  | 0, _ => rfl
  | j + 1, h => by
    have ih := us_j (M := M) (x := x) (w := w) (j := j) (by omega)
    rw [← Nat.add_assoc, us_in (by rw [ih]; omega), ih]
def usI (M : mN) (x w : Nat) : Prop := (us M x w).1 ≤ fnd (M 20 x) (tbx M x) ∧ (us M x w).2.1 ≤ (us M x w).1 ∧ (us M x w).2.1 ≤ w ∧ (∀ i, i < (us M x w).2.1 → (us M x w).2.2.1 i < w ∧ (us M x w).2.2.2 i = mw M x ((us M x w).2.2.1 i) ∧ (us M x w).2.2.2 i ≠ 0 ∧ (us M x w).2.2.1 i + (us M x w).2.2.2 i ≤ (us M x w).1) ∧ (∀ i j, i < j → j < (us M x w).2.1 → (us M x w).2.2.1 i + (us M x w).2.2.2 i ≤ (us M x w).2.2.1 j)
theorem us_ok {M : mN} {D : Nat → Int64} (hM : MI M D) {x : Nat} : ∀ {w : Nat}, w ≤ fnd (M 20 x) (tbx M x) → usI M x w
  | 0, _ => ⟨Nat.zero_le _, Nat.le_refl _, Nat.le_refl _, fun i hi => absurd hi (Nat.not_lt_zero i), fun i j _ hj => absurd hj (Nat.not_lt_zero j)⟩
  | w + 1, hw => by
    obtain ⟨a1, a2, a3, a4, a5⟩ := us_ok hM (x := x) (w := w) (by omega)
    obtain ⟨m1, m2, m3⟩ := mw_ok hM (x := x) (w := w) (by omega)
    by_cases hc : (us M x w).1 ≤ w ∧ mw M x w ≠ 0
    · have e := us_s M x w
      rw [if_pos hc] at e
      generalize us M x w = c at a1 a2 a3 a4 a5 hc e
      have hc2 := hc.2
      unfold usI
      rw [e]
      dsimp only
      refine ⟨?_, ?_, ?_, ?_, ?_⟩
      · exact m2
      · omega
      · omega
      · intro i hi
        by_cases ei : i = c.2.1
        · rw [if_pos ei, if_pos ei]; exact ⟨by omega, rfl, hc2, Nat.le_refl _⟩
        · rw [if_neg ei, if_neg ei]
          obtain ⟨k1, k2, k3, k4⟩ := a4 i (by omega)
          exact ⟨by omega, k2, k3, by omega⟩
      · intro i j hij hj
        rw [if_neg (show i ≠ c.2.1 by omega), if_neg (show i ≠ c.2.1 by omega)]
        by_cases ej : j = c.2.1
        · rw [if_pos ej]
          have := (a4 i (by omega)).2.2.2
          omega
        · rw [if_neg ej]; exact a5 i j hij (by omega)
    · have e := us_s M x w
      rw [if_neg hc] at e
      unfold usI
      rw [e]
      refine ⟨?_, ?_, ?_, ?_, ?_⟩
      · exact a1
      · exact a2
      · omega
      · intro i hi
        obtain ⟨k1, k2, k3, k4⟩ := a4 i hi
        exact ⟨by omega, k2, k3, k4⟩
      · exact a5
