/-! pure: by which ending, in the reference -/
section RY
variable {M : mN} {D : Nat → Int64} {mn : Int32} {S : mS} {G : mG}
theorem t3_c1 {x : Int32} {k : Nat} (hk : k < 32) : (x >>> (nI k &&& 31)) &&& 1 = 1 ↔ t3 x k = true := by
  constructor
  · intro h
    apply Classical.byContradiction
    intro h9
    have := (t3_c0 hk).mpr (by simpa using h9)
    rw [this] at h
    exact absurd h (by decide)
  · intro h
    apply t3_ext
    intro g hg
    rw [t3_and, t3_1]
    by_cases e : g = 0
    · subst e; rw [t3_shr hk, h]; rfl
    · simp [e]
/-- the ending is one that the term takes -/
theorem rt_isForm {Q : Int32 → mS → mG → Prop} (h : RI M D mn S G) {t e : Nat} (ht : t < M 4 0) (he : e < 6) (yes : e < M 3 0 → (M 13 t).testBit e = true → Q 1 S G) (no : ¬ (e < M 3 0 ∧ (M 13 t).testBit e = true) → Q 0 S G) : wp_X9_isForm_0 Q S G (nI t) (nI e) := by
  have h60 := h.2.2.2.2.2.1.1
  have h6 := h.2.2.2.2.1.1
  obtain ⟨q1, q2, q3, q4, _⟩ := h.2.2.2.2.2.1.2 t ht
  have z := (q3 (M 10 t - 1) (by omega)).2.1
  have t60 : vp_in (nI t) 60 := n_in (by omega) (by decide)
  unfold wp_X9_isForm_0
  refine bf2 (n_m1 (by omega)) (bq (i_le (M 3 0) e (hx := h.g 3 0)) (fun h1 => no (fun o => by have := o.1; omega)) (fun h1 => ⟨t60, ?_⟩))
  have z7 := (h.2.2.2.2.1.2 e (by omega)).2.1
  have ei : (3 : Int32) * nI t + nI (M 10 t) - 1 = nI (3 * t + (M 10 t - 1)) := by
    rw [show (3 : Int32) * nI t = nI (3 * t) from pk_mul 3 t, nI_add, n_sub1 (by omega)]; congr 1; omega
  rw [n_cl (show t < _ by omega), n_cl (show e < _ by omega), h.g 13 t, h.g 10 t, ei, n_cl (show 3 * t + (M 10 t - 1) < _ by omega), h.g 9 (3 * t + (M 10 t - 1)), h.g 7 e, nI_add]
  refine bn (t3_c1 (by omega)) (fun hb => ⟨t60, n_in (by omega) (by decide), n_in (by omega) (by decide), bf1 (by rw [i_lt 16 (M 9 (3 * t + (M 10 t - 1)) + M 7 e)]; omega) ?_⟩) (fun hb => no (fun o => hb ?_))
  · rw [t3_nI _ (by omega)] at hb
    exact yes (by omega) hb
  · rw [t3_nI _ (by omega)]; exact o.2
theorem rt_isForm_m {Q : Int32 → mS → mG → Prop} {t : Int32} (yes : Q 1 S G) : wp_X9_isForm_0 Q S G t (-1) := by
  unfold wp_X9_isForm_0
  exact bt2 rfl yes
def wyR (c : Nat) : Int32 := if c = 0 then -1 else nI (c - 1)
theorem rt_way {Q : Int32 → mS → mG → Prop} (h : RI M D mn S G) {x w t : Nat} (hx : x < 8) (hF : FD M x S) (hw : w < fnd (M 20 x) (tbx M x)) (ht : t < M 4 0) (hQ : Q (wyR (wyA M x (wpA (M 20 x) (tbx M x) w) t)) S G) : wp_X9_way_0 Q S G (nI x) (nI w) (nI t) := by
  have hM := h.2.2.2
  have h6 := hM.2.1.1
  obtain ⟨q1, q2, q3, q4, _⟩ := hM.2.2.1.2 t ht
  have hlt := fnd_lt.mp hw
  have hs : ∀ j, 0 ≤ j → j < 0 + (M 10 t - 1 + 1) → 1 ≤ sOf M t j ∧ ∀ k, k < sOf M t j → 1 ≤ wdOf M t j k ∧ wdOf M t j k ≤ 26 := fun j _ hj => by
    obtain ⟨a1, a2, a3⟩ := q3 j (by omega)
    exact ⟨a1, a3⟩
  obtain ⟨p, hp⟩ : ∃ p, wpA (M 20 x) (tbx M x) w = p := ⟨_, rfl⟩
  -- what stands says, by bytes
  have st : ∀ (mE : Nat) (en : Nat → Nat), (∀ k, k < mE → 1 ≤ en k ∧ en k ≤ 26) → (CHc (M 20 x) (tbx M x) (sOf M t) (wdOf M t) mE en (M 10 t) 0 w ↔ (fmR M x p t ∧ mat (M 20 x) (tbx M x) (p + rowN M t) mE (fun k => 96 + en k) ∧ ¬ ltA (M 20 x) (tbx M x) (p + rowN M t + mE))) := by
    intro mE en hen
    have h1 := CF_iff (n := M 20 x) (b := tbx M x) (s := sOf M t) (wd := wdOf M t) (mE := mE) (en := en) hen (M 10 t - 1) 0 w hs hlt
    rw [show M 10 t - 1 + 1 = M 10 t by omega, hp] at h1
    exact h1.trans (FM_row hM ht)
  have stE : ∀ e, e < M 3 0 → (CHc (M 20 x) (tbx M x) (sOf M t) (wdOf M t) (M 7 e) (fun k => M 6 (4 * e + k)) (M 10 t) 0 w ↔ (fmR M x p t ∧ fmE M x (p + rowN M t) e ∧ ¬ ltA (M 20 x) (tbx M x) (p + rowN M t + M 7 e))) := fun e he => st (M 7 e) (fun k => M 6 (4 * e + k)) (fun k hk => (hM.2.1.2 e he).2.2 k hk)
  have st0 : CHc (M 20 x) (tbx M x) (sOf M t) (wdOf M t) 0 (fun _ => 1) (M 10 t) 0 w ↔ (fmR M x p t ∧ ¬ ltA (M 20 x) (tbx M x) (p + rowN M t)) := by
    have := st 0 (fun _ => 1) (fun k hk => absurd hk (Nat.not_lt_zero k))
    rw [Nat.add_zero] at this
    exact this.trans ⟨fun o => ⟨o.1, o.2.2⟩, fun o => ⟨o.1, fun k hk => absurd hk (Nat.not_lt_zero k), o.2⟩⟩
  rw [hp] at hQ
  -- the endings, one by one
  have rest : ¬ (fmR M x p t ∧ ¬ ltA (M 20 x) (tbx M x) (p + rowN M t)) → ∃ n9, wp_X9_way_3 Q n9 S G (nI x) (nI w) (nI t) (nI 0) := by
    intro h0
    generalize hpr : eok M x (p + rowN M t) t = pr
    refine pk_loop (σ := Unit) (fun n9 e _ => wp_X9_way_3 Q n9 S G (nI x) (nI w) (nI t) (nI e)) (fun e _ => ∀ j, j < e → ¬ (fmR M x p t ∧ pr j = true)) (M 3 0) 0 () (Nat.zero_le _) (fun j hj => absurd hj (Nat.not_lt_zero j)) ?_ ?_
    · intro n9 _ hI
      unfold wp_X9_way_3
      refine bt1 ((i_le _ _ (hx := h.g 3 0)).mpr (Nat.le_refl _)) ?_
      have : wyA M x p t = 0 := by
        unfold wyA
        by_cases hr : fmR M x p t
        · rw [if_pos hr, if_pos (Classical.not_not.mp (fun h9 => h0 ⟨hr, h9⟩)), hpr, if_neg (fun h9 => hI _ h9 ⟨hr, fa_first_yes pr _ h9⟩)]
        · rw [if_neg hr]
      rw [this] at hQ
      exact hQ
    · intro n9 e _ he hI ih
      have next : ¬ (fmR M x p t ∧ pr e = true) → wp_X9_way_39 Q (wp_X9_way_3 Q n9) S G (nI x) (nI w) (nI t) (nI e) := by
        intro hn
        unfold wp_X9_way_39
        rintro _ rfl
        rw [nI_1]
        exact ih () (lt_s hI hn)
      unfold wp_X9_way_3
      refine bf1 (by rw [i_le (M 3 0) e (hx := h.g 3 0)]; omega) (rt_isForm h ht (by omega) (fun _ hb => bf1 (by decide) ?_) (fun hb => bt1 rfl (next (fun o => hb ⟨he, ?_⟩))))
      · refine rt_stands h hx hF hw ht (mE := M 7 e) (en := fun k => M 6 (4 * e + k)) (Or.inr ⟨e, he, rfl, rfl, fun _ => rfl⟩) (fun o => bf1 (by decide) ?_) (fun o => bt1 rfl (next (fun o2 => o ((stE e he).mpr ?_))))
        · obtain ⟨a1, a2, a3⟩ := (stE e he).mp o
          have hpe : pr e = true := by rw [← hpr]; exact eok_t.mpr ⟨hb, a2, a3⟩
          have ef : fa_first pr (M 3 0) = e := by
            rcases Nat.lt_trichotomy (fa_first pr (M 3 0)) e with h3 | h3 | h3
            · exact absurd ⟨a1, fa_first_yes pr _ (by omega)⟩ (hI _ h3)
            · exact h3
            · rw [fa_first_no pr _ e h3] at hpe
              exact absurd hpe (by decide)
          have hw2 : wyA M x p t = e + 2 := by
            unfold wyA
            rw [if_pos a1, if_pos (Classical.not_not.mp (fun h9 => h0 ⟨a1, h9⟩)), hpr, ef, if_pos he]
          unfold wp_X9_way_34
          rw [hw2] at hQ
          unfold wyR at hQ
          rw [if_neg (by omega), show e + 2 - 1 = e + 1 by omega] at hQ
          rw [nI_1]
          exact hQ
        · have := o2.2
          rw [← hpr] at this
          obtain ⟨b1, b2, b3⟩ := eok_t.mp this
          exact ⟨o2.1, b2, b3⟩
      · have := o.2
        rw [← hpr] at this
        exact (eok_t.mp this).1
  unfold wp_X9_way_0
  -- the row alone first
  by_cases h0 : fmR M x p t ∧ ¬ ltA (M 20 x) (tbx M x) (p + rowN M t)
  · refine ⟨1, ?_⟩
    unfold wp_X9_way_3
    refine bf1 (by rw [h.g 3 0]; exact n_le_m1 (by omega)) (rt_isForm_m (bf1 (by decide) ?_))
    refine rt_stands h hx hF hw ht (mE := 0) (en := fun _ => 1) (Or.inl ⟨rfl, rfl⟩) (fun o => bf1 (by decide) ?_) (fun o => absurd (st0.mpr h0) o)
    unfold wp_X9_way_34
    have hw2 : wyA M x p t = 1 := by unfold wyA; rw [if_pos h0.1, if_neg h0.2]
    rw [hw2] at hQ
    exact hQ
  · obtain ⟨n9, hn9⟩ := rest h0
    refine ⟨n9 + 1, ?_⟩
    unfold wp_X9_way_3
    refine bf1 (by rw [h.g 3 0]; exact n_le_m1 (by omega)) (rt_isForm_m (bf1 (by decide) ?_))
    refine rt_stands h hx hF hw ht (mE := 0) (en := fun _ => 1) (Or.inl ⟨rfl, rfl⟩) (fun o => absurd (st0.mp o) h0) (fun o => bt1 rfl ?_)
    unfold wp_X9_way_39
    rintro _ rfl
    exact hn9
end RY
