/-! pure: the thing chosen, and the least term of it -/
/-- (what is meant, the highest score), each by one more; 0: none -/
def chs (pp : Nat → Bool) (sc : Nat → Nat) : Nat → Nat × Nat
  | 0 => (0, 0)
  | g + 1 => if pp g = true then (if (chs pp sc g).2 < sc g + 1 then (g + 1, sc g + 1) else if (chs pp sc g).2 = sc g + 1 then (0, (chs pp sc g).2) else chs pp sc g) else chs pp sc g
theorem chs_no {pp : Nat → Bool} {sc : Nat → Nat} : ∀ {n : Nat}, (∀ g, g < n → pp g = false) → chs pp sc n = (0, 0)
  | 0, _ => rfl
  | n + 1, h => by
    have hn := h n (Nat.lt_succ_self n)
    unfold chs
    rw [if_neg (by rw [hn]; decide)]
    exact chs_no (fun g hg => h g (by omega))
theorem chs_one {pp : Nat → Bool} {sc : Nat → Nat} {g0 : Nat} (h0 : pp g0 = true) (h : ∀ g, pp g = true → g = g0) : ∀ {n : Nat}, g0 < n → (chs pp sc n).1 = g0 + 1
  | 0, hn => absurd hn (Nat.not_lt_zero g0)
  | n + 1, hn => by
    unfold chs
    by_cases e : n = g0
    · rw [chs_no (n := n) (fun g hg => ?_), e, if_pos h0, if_pos (Nat.succ_pos _)]
      apply Classical.byContradiction
      intro h9
      have := h g (by simpa using h9)
      omega
    · rw [if_neg (fun h9 => e (h n h9))]
      exact chs_one h0 h (by omega)
theorem chs_cong {pp qq : Nat → Bool} {sc sd : Nat → Nat} : ∀ {n : Nat}, (∀ g, g < n → pp g = qq g) → (∀ g, g < n → pp g = true → sc g = sd g) → chs pp sc n = chs qq sd n
  | 0, _, _ => rfl
  | n + 1, h1, h2 => by
    have ih := chs_cong (n := n) (fun g hg => h1 g (by omega)) (fun g hg => h2 g (by omega))
    unfold chs
    rw [← h1 n (by omega), ih]
    by_cases hp : pp n = true
    · rw [h2 n (by omega) hp]
    · rw [if_neg hp, if_neg hp]
/-- what is meant is one of those -/
theorem chs_in {pp : Nat → Bool} {sc : Nat → Nat} : ∀ {n : Nat}, (chs pp sc n).1 ≠ 0 → (chs pp sc n).1 - 1 < n ∧ pp ((chs pp sc n).1 - 1) = true
  | 0, h => absurd rfl h
  | n + 1, h => by
    have ih := chs_in (pp := pp) (sc := sc) (n := n)
    unfold chs at h ⊢
    by_cases hp : pp n = true
    · rw [if_pos hp] at h ⊢
      by_cases h1 : (chs pp sc n).2 < sc n + 1
      · rw [if_pos h1]; exact ⟨by show n + 1 - 1 < n + 1; omega, hp⟩
      · rw [if_neg h1] at h ⊢
        by_cases h2 : (chs pp sc n).2 = sc n + 1
        · rw [if_pos h2] at h; exact absurd rfl h
        · rw [if_neg h2] at h ⊢
          obtain ⟨a, b⟩ := ih h
          exact ⟨by omega, b⟩
    · rw [if_neg hp] at h ⊢
      obtain ⟨a, b⟩ := ih h
      exact ⟨by omega, b⟩
theorem chs_h {pp : Nat → Bool} {sc : Nat → Nat} : ∀ {n : Nat}, (∃ g, g < n ∧ pp g = true) → (chs pp sc n).2 ≠ 0
  | 0, h => by obtain ⟨g, hg, _⟩ := h; exact absurd hg (Nat.not_lt_zero g)
  | n + 1, h => by
    unfold chs
    by_cases hp : pp n = true
    · rw [if_pos hp]
      by_cases h1 : (chs pp sc n).2 < sc n + 1
      · rw [if_pos h1]; exact Nat.succ_ne_zero _
      · rw [if_neg h1]
        by_cases h2 : (chs pp sc n).2 = sc n + 1
        · rw [if_pos h2]; show (chs pp sc n).2 ≠ 0; omega
        · rw [if_neg h2]; omega
    · rw [if_neg hp]
      refine chs_h ?_
      obtain ⟨g, hg, hb⟩ := h
      have : g ≠ n := fun e => hp (e ▸ hb)
      exact ⟨g, by omega, hb⟩
/-- term t, of m words, of thing g, has a form at p -/
def tmB (M : mN) (x p m g t : Nat) : Bool := decide (M 10 t = m ∧ M 11 t = g ∧ wyA M x p t ≠ 0)
def tmP (M : mN) (x p m g : Nat) : Bool := decide (fa_first (tmB M x p m g) (M 4 0) < M 4 0)
theorem tmP_iff {M : mN} {x p m g : Nat} : tmP M x p m g = true ↔ ∃ t, t < M 4 0 ∧ tmB M x p m g t = true := by
  unfold tmP
  constructor
  · intro h
    have h := of_decide_eq_true h
    exact ⟨_, h, fa_first_yes _ _ h⟩
  · rintro ⟨t, ht, hb⟩
    apply decide_eq_true
    apply Classical.byContradiction
    intro h9
    have := fa_first_no (tmB M x p m g) (M 4 0) t (by have := fa_first_le (tmB M x p m g) (M 4 0); omega)
    rw [this] at hb
    exact absurd hb (by decide)
/-- the thing meant at word w by m words (one more; 0: none), and the term -/
def chG (M : mN) (x w m : Nat) : Nat := (chs (tmP M x (wpA (M 20 x) (tbx M x) w) m) (sco M x w m) 40).1
def chT (M : mN) (x w m : Nat) : Nat := if chG M x w m = 0 then 0 else fa_first (tmB M x (wpA (M 20 x) (tbx M x) w) m (chG M x w m - 1)) (M 4 0) + 1
theorem wyA_le {M : mN} {x p t : Nat} : wyA M x p t ≤ M 3 0 + 1 := by
  unfold wyA
  generalize fa_first (eok M x (p + rowN M t) t) (M 3 0) = c
  split
  · split
    · split <;> omega
    · omega
  · omega
theorem wyR_n {c : Nat} (h : c < 2147483648) : wyR c < 0 ↔ c = 0 := by
  unfold wyR
  by_cases e : c = 0
  · rw [if_pos e]; exact ⟨fun _ => e, fun _ => by decide⟩
  · rw [if_neg e]; exact ⟨fun h9 => absurd h9 (n_lt0 (by omega)), fun h9 => absurd h9 e⟩
theorem wyR_p {c : Nat} (h : c < 2147483648) : 0 ≤ wyR c ↔ c ≠ 0 := by
  unfold wyR
  by_cases e : c = 0
  · rw [if_pos e]; exact ⟨fun h9 => absurd h9 (by decide), fun h9 => absurd e h9⟩
  · rw [if_neg e]; exact ⟨fun _ => e, fun _ => (n_le (a := 0) (by decide) (by omega)).mpr (Nat.zero_le _)⟩
theorem wyR_lt {a b : Nat} (ha : a < 2147483648) (hb : b < 2147483648) : wyR a < wyR b ↔ a < b := by
  unfold wyR
  by_cases e : a = 0
  · rw [if_pos e]
    by_cases e2 : b = 0
    · rw [if_pos e2]; exact ⟨fun h9 => absurd h9 (by decide), fun h9 => by omega⟩
    · rw [if_neg e2]; exact ⟨fun _ => by omega, fun _ => n_m1_lt (by omega)⟩
  · rw [if_neg e]
    by_cases e2 : b = 0
    · rw [if_pos e2]; refine ⟨fun h9 => absurd h9 ?_, fun h9 => by omega⟩
      rw [fa_lt, nI_toInt (by omega), nm1]; omega
    · rw [if_neg e2, n_lt (by omega) (by omega)]; omega
theorem wyR_le {a b : Nat} (ha : a < 2147483648) (hb : b < 2147483648) : wyR a ≤ wyR b ↔ a ≤ b := by
  unfold wyR
  by_cases e : a = 0
  · rw [if_pos e]
    by_cases e2 : b = 0
    · rw [if_pos e2]; exact ⟨fun _ => by omega, fun _ => by decide⟩
    · rw [if_neg e2]; refine ⟨fun _ => by omega, fun _ => ?_⟩
      rw [fa_le, nI_toInt (by omega), nm1]; omega
  · rw [if_neg e]
    by_cases e2 : b = 0
    · rw [if_pos e2]; exact ⟨fun h9 => absurd h9 (n_le_m1 (by omega)), fun h9 => by omega⟩
    · rw [if_neg e2, n_le (by omega) (by omega)]; omega
theorem wyR_eq {a b : Nat} (ha : a < 2147483648) (hb : b < 2147483648) : wyR a = wyR b ↔ a = b := by
  unfold wyR
  by_cases e : a = 0
  · rw [if_pos e]
    by_cases e2 : b = 0
    · rw [if_pos e2]; exact ⟨fun _ => by omega, fun _ => rfl⟩
    · rw [if_neg e2]; exact ⟨fun h9 => absurd h9.symm (n_m1 (by omega)), fun _ => by omega⟩
  · rw [if_neg e]
    by_cases e2 : b = 0
    · rw [if_pos e2]; exact ⟨fun h9 => absurd h9 (n_m1 (by omega)), fun _ => by omega⟩
    · rw [if_neg e2, n_eq (by omega) (by omega)]; omega
