/-! pure: findings, in the reference -/
/-- a use ahead of i means thing g (by a good term) -/
abbrev ahd (M : mN) (tm : Nat → Nat) (i g : Nat) (gd : Bool) : Prop := ∃ k, k < i ∧ (tm k ≠ 0 ∧ M 11 (tm k - 1) = g ∧ (gd = true → M 12 (tm k - 1) = 0))
/-- a thing in the definition that is not known and not ahead -/
abbrev unk (M : mN) (D : Nat → Int64) (tm : Nat → Nat) (i d g : Nat) : Prop := tb (D d) g = true ∧ M 18 g = 0 ∧ ¬ ahd M tm i g false
def fdA (M : mN) (D : Nat → Int64) (tm : Nat → Nat) (i : Nat) : Nat := if tm i = 0 then 1 else if M 12 (tm i - 1) = 1 then 2 else if M 12 (tm i - 1) = 2 ∧ ¬ ahd M tm i (M 11 (tm i - 1)) true then 3 else if fa_first (fun g => decide (unk M D tm i (M 11 (tm i - 1)) g)) 40 < 40 then 4 else 0
section RFI
variable {M : mN} {D : Nat → Int64} {mn : Int32} {S : mS} {G : mG}
theorem rt_isAhead {Q : Int32 → mS → mG → Prop} (h : RI M D mn S G) {tm : Nat → Nat} {i g : Nat} {gd : Bool} {a3 : Int32} (hi : i ≤ 301) (ht : ∀ k, k < i → tm k ≤ M 4 0 ∧ S 28 k = wyR (tm k)) (hg : g < 40) (ha3 : a3 = 0 ↔ gd = false) (yes : ahd M tm i g gd → Q 1 S G) (no : ¬ ahd M tm i g gd → Q 0 S G) : wp_X9_isAhead_0 Q S G (nI i) (nI g) a3 := by
  have hM := h.2.2.2
  have h60 := hM.2.2.1.1
  unfold wp_X9_isAhead_0
  refine pk_loop (σ := Int32) (fun n9 k st => wp_X9_isAhead_6 Q n9 S G (nI i) (nI g) a3 st (nI k)) (fun k st => (st = 1 ∧ ahd M tm k g gd) ∨ (st = 0 ∧ ¬ ahd M tm k g gd)) i 0 0 (Nat.zero_le _) (Or.inr ⟨rfl, fun ⟨k, hk, _⟩ => absurd hk (Nat.not_lt_zero k)⟩) ?_ ?_
  · intro n9 st hI
    unfold wp_X9_isAhead_6
    refine bt1 ((i_le i i).mpr (Nat.le_refl _)) ?_
    rcases hI with ⟨e, hI⟩ | ⟨e, hI⟩
    · rw [e]; exact ⟨rfl, yes hI⟩
    · rw [e]; exact ⟨rfl, no hI⟩
  · intro n9 k st hk hI ih
    obtain ⟨t1, t2⟩ := ht k hk
    have y : ahd M tm (k + 1) g gd → wp_X9_isAhead_63 Q (wp_X9_isAhead_6 Q n9) S G (nI i) (nI g) a3 (nI k) := by
      intro ho
      unfold wp_X9_isAhead_63 wp_X9_isAhead_68
      rintro _ rfl
      rw [nI_1]
      exact ih 1 (Or.inl ⟨rfl, ho⟩)
    have z : ¬ ahd M tm (k + 1) g gd → wp_X9_isAhead_67 Q (wp_X9_isAhead_6 Q n9) S G (nI i) (nI g) a3 (nI k) := by
      intro ho
      unfold wp_X9_isAhead_67 wp_X9_isAhead_68
      rintro _ rfl
      rw [nI_1]
      exact ih 0 (Or.inr ⟨rfl, ho⟩)
    have sp : ∀ {pr : Prop}, (¬ ahd M tm k g gd) → ((tm k ≠ 0 ∧ M 11 (tm k - 1) = g ∧ (gd = true → M 12 (tm k - 1) = 0)) → pr) → ahd M tm (k + 1) g gd → pr := by
      intro pr hn hp ho
      obtain ⟨j, hj, hb⟩ := ho
      by_cases e : j = k
      · rw [e] at hb; exact hp hb
      · exact absurd ⟨j, by omega, hb⟩ hn
    unfold wp_X9_isAhead_6
    rw [n_cl (show k < _ by omega)]
    refine bf1 (by rw [i_le i k]; omega) ?_
    rcases hI with ⟨e, hI⟩ | ⟨e, hI⟩
    · refine bf2 (by rw [e]; decide) (y ?_)
      obtain ⟨j, hj, hb⟩ := hI
      exact ⟨j, by omega, hb⟩
    · refine bt2 e ⟨n_in (by omega) (by decide), ?_⟩
      by_cases e0 : tm k = 0
      · rw [e0] at t2
        exact bt1 t2 (z (fun o => sp hI (fun hb => hb.1 e0) o))
      · obtain ⟨t, et⟩ : ∃ t, tm k = t + 1 := ⟨tm k - 1, by omega⟩
        rw [et, wyR_s] at t2
        have et2 : tm k - 1 = t := by omega
        have q := hM.2.2.1.2 t (by omega)
        have q11 := q.2.2.2.2.1
        have q12 := q.2.2.2.2.2.1
        rw [t2, n_cl (show t < _ by omega)]
        have t60 : vp_in (nI t) 60 := n_in (by omega) (by decide)
        refine bf1 (n_m1 (by omega)) ⟨n_in (by omega) (by decide), t60, bn (i_eq (M 11 t) g (hx := h.g 11 t)) (fun h1 => bq ha3 (fun h2 => y ⟨k, Nat.lt_succ_self k, e0, by rw [et2]; exact h1, fun h9 => by rw [h2] at h9; exact absurd h9 (by decide)⟩) (fun h2 => ⟨n_in (by omega) (by decide), t60, bn (i_eq (M 12 t) 0 (hx := h.g 12 t)) (fun h3 => y ⟨k, Nat.lt_succ_self k, e0, by rw [et2]; exact h1, fun _ => by rw [et2]; exact h3⟩) (fun h3 => z (fun o => sp hI (fun hb => h3 ?_) o))⟩)) (fun h1 => z (fun o => sp hI (fun hb => h1 (by rw [← et2]; exact hb.2.1)) o))⟩
        have := hb.2.2 (by simpa using h2)
        rw [et2] at this
        exact this
theorem rt_finding {Q : Int32 → mS → mG → Prop} (h : RI M D mn S G) {tm : Nat → Nat} {i : Nat} (hi : i < 301) (ht : ∀ k, k ≤ i → tm k ≤ M 4 0 ∧ S 28 k = wyR (tm k)) (hQ : Q (nI (fdA M D tm i)) S G) : wp_X9_finding_0 Q S G (nI i) := by
  have hM := h.2.2.2
  have h60 := hM.2.2.1.1
  obtain ⟨t1, t2⟩ := ht i (Nat.le_refl _)
  unfold wp_X9_finding_0
  rw [n_cl (show i < _ by omega)]
  refine ⟨n_in (by omega) (by decide), fun v hv => ?_⟩
  rw [hv]
  unfold fdA at hQ
  by_cases e0 : tm i = 0
  · rw [e0] at t2
    rw [if_pos e0] at hQ
    exact bt2 t2 hQ
  · obtain ⟨t, et⟩ : ∃ t, t = tm i - 1 := ⟨_, rfl⟩
    rw [if_neg e0, ← et] at hQ
    rw [show tm i = t + 1 by omega, wyR_s] at t2
    have q := hM.2.2.1.2 t (by omega)
    have q11 := q.2.2.2.2.1
    have q12 := q.2.2.2.2.2.1
    have t60 : vp_in (nI t) 60 := n_in (by omega) (by decide)
    rw [t2]
    have ct : (nI t).toNatClampNeg = t := n_cl (by omega)
    -- the definition
    have rest : M 12 t ≠ 1 → ¬ (M 12 t = 2 ∧ ¬ ahd M tm i (M 11 t) true) → wp_X9_finding_53 Q S G (nI i) (nI t) := by
      intro h1 h2
      rw [if_neg h1, if_neg h2] at hQ
      have hy := fa_first_yes (fun g => decide (unk M D tm i (M 11 t) g)) 40
      have hn := fa_first_no (fun g => decide (unk M D tm i (M 11 t) g)) 40
      have hle := fa_first_le (fun g => decide (unk M D tm i (M 11 t) g)) 40
      generalize fa_first (fun g => decide (unk M D tm i (M 11 t) g)) 40 = T at hQ hy hn hle
      unfold wp_X9_finding_53
      refine pk_loop (σ := Unit) (fun n9 g _ => wp_X9_finding_55 Q n9 S G (nI i) (nI t) (nI g)) (fun _ _ => True) T 0 () (Nat.zero_le _) trivial ?_ ?_
      · intro n9 _ _
        unfold wp_X9_finding_55
        by_cases hT : T < 40
        · rw [if_pos hT] at hQ
          obtain ⟨k1, k2, k3⟩ := of_decide_eq_true (hy hT)
          rw [ct, h.g 11 t, n_cl (show M 11 t < _ by omega), h.2.1 (M 11 t), n_cl (show T < _ by omega)]
          refine bf1 (by rw [i_le 40 T]; omega) ⟨t60, n_in (by omega) (by decide), bt2 ((tb_c1 (by omega)).mpr k1) ⟨n_in (by omega) (by decide), bt2 (by rw [h.g 18 T, k2]; rfl) (rt_isAhead h (gd := false) (by omega) (fun k hk => ht k (by omega)) hT ⟨fun _ => rfl, fun _ => rfl⟩ (fun o => absurd o k3) (fun _ => bt2 rfl hQ))⟩⟩
        · rw [if_neg hT] at hQ
          exact bt1 ((i_le 40 T).mpr (by omega)) hQ
      · intro n9 g _ hg _ ih
        have hno := of_decide_eq_false (hn g hg)
        have next : wp_X9_finding_102 Q (wp_X9_finding_55 Q n9) S G (nI i) (nI t) (nI g) := by
          unfold wp_X9_finding_102
          rintro _ rfl
          rw [nI_1]
          exact ih () trivial
        have m18 := (hM.2.2.2.2.1 g (by omega)).2
        unfold wp_X9_finding_55
        rw [ct, h.g 11 t, n_cl (show M 11 t < _ by omega), h.2.1 (M 11 t), n_cl (show g < _ by omega)]
        exact bf1 (by rw [i_le 40 g]; omega) ⟨t60, n_in (by omega) (by decide), bn (tb_c1 (by omega)) (fun k1 => ⟨n_in (by omega) (by decide), bn (i_eq (M 18 g) 0 (hx := h.g 18 g)) (fun k2 => rt_isAhead h (gd := false) (by omega) (fun k hk => ht k (by omega)) (by omega) ⟨fun _ => rfl, fun _ => rfl⟩ (fun o => bf2 (by decide) next) (fun o => absurd ⟨k1, k2, o⟩ hno)) (fun _ => next)⟩) (fun _ => next)⟩
    rw [ct]
    refine bf2 (n_m1 (by omega)) ⟨t60, bn (i_eq (M 12 t) 1 (hx := h.g 12 t)) (fun h1 => by rw [if_pos h1] at hQ; exact hQ) (fun h1 => ⟨t60, bn (i_eq (M 12 t) 2 (hx := h.g 12 t)) (fun h2 => ⟨t60, ?_⟩) (fun h2 => rest h1 (fun o => h2 o.1))⟩)⟩
    rw [h.g 11 t]
    refine rt_isAhead h (gd := true) (by omega) (fun k hk => ht k (by omega)) q11 ⟨fun h9 => absurd h9 (by decide), fun h9 => absurd h9 (by decide)⟩ (fun o => bf2 (by decide) (rest h1 (fun o2 => o2.2 o))) (fun o => bt2 rfl ?_)
    rw [if_neg h1, if_pos ⟨h2, o⟩] at hQ
    exact hQ
end RFI
