/-! pure: forms at a place, in the component -/
theorem rowB_lt {M : mN} {D : Nat → Int64} (hM : MI M D) {t k : Nat} (ht : t < M 4 0) (hk : k < rowN M t) : rowB M t k < 256 := by
  obtain ⟨q1, q2, q3, q4, _⟩ := hM.2.2.1.2 t ht
  unfold rowN at hk
  have z0 := q3 0 (by omega)
  unfold rowB
  by_cases h1 : k < M 9 (3 * t)
  · rw [if_pos h1]
    have := (z0.2.2 k h1).2
    rw [show 36 * t + 12 * 0 + k = 36 * t + k by omega] at this
    omega
  · rw [if_neg h1]
    by_cases h2 : k = M 9 (3 * t)
    · rw [if_pos h2]; decide
    · rw [if_neg h2]
      have w1 : 1 < M 10 t := by
        apply Classical.byContradiction
        intro h9
        have a1 := q4 1 (by decide) (by omega)
        have a2 := q4 2 (by decide) (by omega)
        omega
      have z1 := q3 1 w1
      by_cases h3 : k < M 9 (3 * t) + 1 + M 9 (3 * t + 1)
      · rw [if_pos h3]
        have := (z1.2.2 (k - (M 9 (3 * t) + 1)) (by omega)).2
        rw [show 36 * t + 12 * 1 + (k - (M 9 (3 * t) + 1)) = 36 * t + 12 + (k - (M 9 (3 * t) + 1)) by omega] at this
        omega
      · rw [if_neg h3]
        by_cases h4 : k = M 9 (3 * t) + 1 + M 9 (3 * t + 1)
        · rw [if_pos h4]; decide
        · rw [if_neg h4]
          have w2 : 2 < M 10 t := by
            apply Classical.byContradiction
            intro h9
            have a2 := q4 2 (by decide) (by omega)
            omega
          have z2 := q3 2 w2
          have := (z2.2.2 (k - (M 9 (3 * t) + M 9 (3 * t + 1) + 2)) (by omega)).2
          rw [show 36 * t + 12 * 2 + (k - (M 9 (3 * t) + M 9 (3 * t + 1) + 2)) = 36 * t + 24 + (k - (M 9 (3 * t) + M 9 (3 * t + 1) + 2)) by omega] at this
          omega
/-- a term's row stands at p; an ending stands there -/
abbrev fmR (M : mN) (x p t : Nat) : Prop := mat (M 20 x) (tbx M x) p (rowN M t) (rowB M t)
abbrev fmE (M : mN) (x p e : Nat) : Prop := mat (M 20 x) (tbx M x) p (M 7 e) (fun k => 96 + M 6 (4 * e + k))
def eok (M : mN) (x q t e : Nat) : Bool := (M 13 t).testBit e && decide (fmE M x q e ∧ ¬ ltA (M 20 x) (tbx M x) (q + M 7 e))
theorem eok_t {M : mN} {x q t e : Nat} : eok M x q t e = true ↔ (M 13 t).testBit e = true ∧ fmE M x q e ∧ ¬ ltA (M 20 x) (tbx M x) (q + M 7 e) := by unfold eok; rw [Bool.and_eq_true, decide_eq_true_eq]
/-- by which ending a form of the term stands at p: 0 none, 1 its row alone, 2 ending 0 .. -/
def wyA (M : mN) (x p t : Nat) : Nat := if fmR M x p t then (if ltA (M 20 x) (tbx M x) (p + rowN M t) then (if fa_first (eok M x (p + rowN M t) t) (M 3 0) < M 3 0 then fa_first (eok M x (p + rowN M t) t) (M 3 0) + 2 else 0) else 1) else 0
def wyV (c : Nat) : Int32 := if c = 0 then -2 else if c = 1 then -1 else nI (c - 2)
section CY
variable {dA : Nat → ClassId} {zz : Nat → Nat} {M : mN} {D : Nat → Int64} {mn : Int32} {L : List Nat} {f : pF}
variable {ad cp : Nat → Nat → Nat} {V : cV} {Z : cZ} {ng : Nat → Nat}
theorem kT (h : CH dA zz ad cp V Z L f) (hd : CD M D mn cp V Z ng) (hM : MI M D) {t : Nat} (ht : t < M 4 0) : isRow dA L f (ad 14 (16 + t)) (ad 15 (16 + t)) (cp 15 (16 + t)) (rowN M t) (rowB M t) := by
  obtain ⟨_, r1, r2, r3⟩ := hd.T ht
  have hl := (rowN_le hM ht).1
  exact h.row (lv_rt h (by rw [hd.c31]; exact ht)) r2 (fun k hk => ⟨rowB_lt hM ht hk, r3 k hk⟩) (by rw [r1]; exact Nat.le_refl _) (by rw [r1]; omega)
theorem CD.E (hd : CD M D mn cp V Z ng) {e : Nat} (he : e < M 3 0) : cp 15 (10 + e) = M 7 e ∧ V 14 (10 + e) 0 = nI (M 7 e) ∧ ∀ k, k < M 7 e → V 15 (10 + e) k = sb (96 + M 6 (4 * e + k)) := hd.2.2.2.2.1 e he
theorem kE (h : CH dA zz ad cp V Z L f) (hd : CD M D mn cp V Z ng) (hM : MI M D) {e : Nat} (he : e < M 3 0) : isRow dA L f (ad 14 (10 + e)) (ad 15 (10 + e)) (cp 15 (10 + e)) (M 7 e) (fun k => 96 + M 6 (4 * e + k)) := by
  obtain ⟨r1, r2, r3⟩ := hd.E he
  obtain ⟨b1, b2, b3⟩ := hM.2.1.2 e he
  exact h.row (lv_re h (by rw [hd.c30]; exact he)) r2 (fun k hk => ⟨by have := (b3 k hk).2; show 96 + _ < 256; omega, r3 k hk⟩) (by rw [r1]; exact Nat.le_refl _) (by rw [r1]; omega)
theorem c_takes {Q : Int32 → List Nat → pF → Prop} (h : CH dA zz ad cp V Z L f) (hd : CD M D mn cp V Z ng) (hM : MI M D) {t e : Nat} (ht : t < M 4 0) (he : e < 32) (hQ : Q (bI ((M 13 t).testBit e = true)) L f) : wp_X5_takesEnding_0 dA zz Q L f (ad 16 t) (nI e) := by
  unfold wp_X5_takesEnding_0
  refine cgI (c := 16) h (lv_16 h (by rw [hd.c31]; exact ht)) rfl rfl ?_
  rw [(hd.T ht).1.2.2.1]
  refine bq (t3_c0 he) (fun h1 => ?_) (fun h1 => ?_)
  · rw [t3_nI _ he] at h1
    rwa [bI_f (by rw [h1]; decide)] at hQ
  · rw [t3_nI _ he] at h1
    rwa [bI_t (by simpa using h1)] at hQ
theorem c_wayAt {Q : Int32 → List Nat → pF → Prop} (h : CH dA zz ad cp V Z L f) (hd : CD M D mn cp V Z ng) (hM : MI M D) {x p t : Nat} (hx : x < 8) (hp : p ≤ 600) (ht : t < M 4 0) (hQ : Q (wyV (wyA M x p t)) L f) : wp_X1_wayAt_0 dA zz Q L f (ad 2 0) (ad 14 (1 + x)) (nI p) (ad 16 t) := by
  have hrow := kX h hd hM hx
  have l16 : lv cp 16 t := lv_16 h (by rw [hd.c31]; exact ht)
  have hrl := (rowN_le hM ht).1
  have b6 := hM.2.1.1
  have c30 := hd.c30
  unfold wyA at hQ
  unfold wp_X1_wayAt_0
  refine cgR (c := 16) h l16 rfl rfl ⟨hrow.O, rw_eof hrow (kT h hd hM ht) p (by omega) ?_⟩
  by_cases hr : fmR M x p t
  rotate_left
  · rw [if_neg hr] at hQ ⊢
    exact bt2 rfl hQ
  · rw [if_pos hr] at hQ ⊢
    refine bf2 (n_m1 (by omega)) ⟨hrow.O, rw_letter hrow (p + rowN M t) (by omega) ?_⟩
    by_cases hl : ltA (M 20 x) (tbx M x) (p + rowN M t)
    rotate_left
    · rw [if_neg hl] at hQ
      rw [bI_f hl]
      exact bt2 rfl hQ
    · rw [if_pos hl] at hQ
      rw [bI_t hl]
      refine bf2 (by decide) ?_
      generalize hp2 : eok M x (p + rowN M t) t = pr at hQ
      refine pk_loop (σ := Unit) (fun n9 i _ => wp_X1_wayAt_34 dA zz Q n9 L f (ad 2 0) (ad 14 (1 + x)) (ad 16 t) (nI (p + rowN M t)) (nI i)) (fun i _ => ∀ j, j < i → pr j = false) (M 3 0) 0 () (Nat.zero_le _) (fun j hj => absurd hj (Nat.not_lt_zero j)) ?_ ?_
      · intro n9 _ hI
        have hn : ¬ fa_first pr (M 3 0) < M 3 0 := fun h9 => by
          have := hI _ h9
          rw [fa_first_yes pr _ h9] at this
          exact absurd this (by decide)
        rw [if_neg hn] at hQ
        unfold wp_X1_wayAt_34
        exact cgR (c := 2) h rfl rfl rfl ⟨l_O h (by decide), l_size h (by decide) (bt1 ((i_le (cp 3 0) (M 3 0)).mpr (by omega)) hQ)⟩
      · intro n9 i _ hi hI ih
        have next : pr i = false → wp_X1_wayAt_93 dA zz Q (wp_X1_wayAt_34 dA zz Q n9) L f (ad 2 0) (ad 14 (1 + x)) (ad 16 t) (nI (p + rowN M t)) (nI i) := by
          intro hn
          unfold wp_X1_wayAt_93
          rintro _ rfl
          rw [nI_1]
          exact ih () (lt_s hI hn)
        have b4 := (hM.2.1.2 i hi).2.1
        unfold wp_X1_wayAt_34
        refine cgR (c := 2) h rfl rfl rfl ⟨l_O h (by decide), l_size h (by decide) (bf1 (by rw [i_le (cp 3 0) i]; omega) ⟨cO (c := 16) h l16 rfl, c_takes h hd hM ht (by omega) ?_⟩)⟩
        by_cases hb : (M 13 t).testBit i = true
        rotate_left
        · rw [bI_f hb]
          exact bt1 rfl (next (by rw [← hp2]; exact Bool.eq_false_iff.mpr (fun h9 => hb (eok_t.mp h9).1)))
        · rw [bI_t hb]
          refine bf1 (by decide) (cgR (c := 2) h rfl rfl rfl ⟨l_O h (by decide), l_get0 h i (by omega) ⟨cO (c := 14) h (lv_re h (by omega)) rfl, hrow.O, rw_eof hrow (kE h hd hM hi) (p + rowN M t) (by omega) ?_⟩⟩)
          by_cases hm : fmE M x (p + rowN M t) i
          rotate_left
          · rw [if_neg hm]
            exact bt1 rfl (next (by rw [← hp2]; exact Bool.eq_false_iff.mpr (fun h9 => hm (eok_t.mp h9).2.1)))
          · rw [if_pos hm]
            refine bf1 (n_m1 (by omega)) ⟨hrow.O, rw_letter hrow (p + rowN M t + M 7 i) (by omega) ?_⟩
            by_cases hl2 : ltA (M 20 x) (tbx M x) (p + rowN M t + M 7 i)
            · rw [bI_t hl2]
              exact bf2 (by decide) (next (by rw [← hp2]; exact Bool.eq_false_iff.mpr (fun h9 => (eok_t.mp h9).2.2 hl2)))
            · rw [bI_f hl2]
              refine bt2 rfl ?_
              have hpi : pr i = true := by rw [← hp2]; exact eok_t.mpr ⟨hb, hm, hl2⟩
              have e : fa_first pr (M 3 0) = i := by
                rcases Nat.lt_trichotomy (fa_first pr (M 3 0)) i with h3 | h3 | h3
                · have := hI _ h3
                  rw [fa_first_yes pr _ (by omega)] at this
                  exact absurd this (by decide)
                · exact h3
                · rw [fa_first_no pr _ i h3] at hpi
                  exact absurd hpi (by decide)
              rw [e, if_pos hi] at hQ
              unfold wyV at hQ
              rw [if_neg (by omega), if_neg (by omega), Nat.add_sub_cancel] at hQ
              exact hQ
end CY
