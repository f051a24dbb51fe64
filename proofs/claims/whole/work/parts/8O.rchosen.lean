/-! pure: the term chosen, in the reference -/
theorem wyR_s (c : Nat) : wyR (c + 1) = nI c := by unfold wyR; rw [if_neg (Nat.succ_ne_zero c), Nat.add_sub_cancel]
theorem sco_le {M : mN} {x w m g : Nat} : sco M x w m g ≤ fnd (M 20 x) (tbx M x) := fb_ct_le _ _
section CHO
variable {M : mN} {D : Nat → Int64} {mn : Int32} {S : mS} {G : mG}
/-- how the loop of the reference holds what chs tells -/
def chI (c : Nat × Nat) (st : Int32 × Int32 × Int32) : Prop := c.2 ≤ 1000 ∧ st.2.1 = wyR c.2 ∧ (c.1 ≠ 0 → st.2.2 = 0 ∧ st.1 = wyR c.1) ∧ (c.1 = 0 → c.2 ≠ 0 → st.2.2 = 1) ∧ (c.1 = 0 → c.2 = 0 → st.2.2 = 0)
theorem rt_chosen {Q : Int32 → mS → mG → Prop} (h : RI M D mn S G) {x w m : Nat} (hx : x < 8) (hF : FD M x S) (hw : w < fnd (M 20 x) (tbx M x)) (hm : w + m ≤ fnd (M 20 x) (tbx M x)) (hex : ∃ t, t < M 4 0 ∧ M 10 t = m ∧ wyA M x (wpA (M 20 x) (tbx M x) w) t ≠ 0) (hQ : Q (wyR (chT M x w m)) S G) : wp_X9_chosen_0 Q S G (nI x) (nI w) (nI m) := by
  have hM := h.2.2.2
  have h60 := hM.2.2.1.1
  have h6 := hM.2.1.1
  have hfl := fnd_le (n := M 20 x) (b := tbx M x)
  obtain ⟨b600, _⟩ := hM.2.2.2.2.2 x hx
  have hQ2 : ∀ c1, c1 = chG M x w m → Q (wyR (if c1 = 0 then 0 else fa_first (tmB M x (wpA (M 20 x) (tbx M x) w) m (c1 - 1)) (M 4 0) + 1)) S G := by
    rintro _ rfl
    exact hQ
  have hcg : chG M x w m = (chs (tmP M x (wpA (M 20 x) (tbx M x) w) m) (sco M x w m) 40).1 := rfl
  obtain ⟨p, hp⟩ : ∃ p, wpA (M 20 x) (tbx M x) w = p := ⟨_, rfl⟩
  rw [hp] at hQ2 hex hcg
  have hwl : ∀ t, wyA M x p t < 2147483648 := fun t => by have := wyA_le (M := M) (x := x) (p := p) (t := t); omega
  have way : ∀ {Q2 : Int32 → mS → mG → Prop} {t : Nat}, t < M 4 0 → Q2 (wyR (wyA M x p t)) S G → wp_X9_way_0 Q2 S G (nI x) (nI w) (nI t) := fun {Q2} {t} ht hq => rt_way h hx hF hw ht (by rw [hp]; exact hq)
  have hq1 : ∀ t, t < M 4 0 → M 10 t ≤ 3 ∧ M 11 t < 40 := fun t ht => ⟨(hM.2.2.1.2 t ht).2.1, (hM.2.2.1.2 t ht).2.2.2.2.1⟩
  obtain ⟨pp, hpp⟩ : ∃ pp, pp = tmP M x p m := ⟨_, rfl⟩
  rw [← hpp] at hcg
  have hp40 : ∀ g, pp g = true → g < 40 := fun g hg => by
    rw [hpp] at hg
    obtain ⟨t, ht, hb⟩ := tmP_iff.mp hg
    have := (of_decide_eq_true hb).2.1
    have := (hq1 t ht).2
    omega
  have hpe : ∃ g, g < 40 ∧ pp g = true := by
    obtain ⟨t, ht, h1, h2⟩ := hex
    exact ⟨M 11 t, (hq1 t ht).2, by rw [hpp]; exact tmP_iff.mpr ⟨t, ht, decide_eq_true ⟨h1, rfl, h2⟩⟩⟩
  obtain ⟨N, hN⟩ : ∃ N : Nat, N = 40 := ⟨_, rfl⟩
  rw [← hN] at hcg hpe
  -- the least term of the thing
  have least : ∀ b, b < 40 → pp b = true → Q (nI (fa_first (tmB M x p m b) (M 4 0))) S G → ∃ n9, wp_X9_chosen_178 Q n9 S G (nI x) (nI w) (nI m) (nI b) (nI 0) := by
    intro b hb hpb hq
    rw [hpp] at hpb
    have hT := of_decide_eq_true hpb
    have hTy := fa_first_yes _ _ hT
    have hTn := fa_first_no (tmB M x p m b) (M 4 0)
    generalize fa_first (tmB M x p m b) (M 4 0) = T at hT hTy hTn hq
    obtain ⟨t1, t2, t3⟩ := of_decide_eq_true hTy
    refine pk_loop (σ := Unit) (fun n9 t _ => wp_X9_chosen_178 Q n9 S G (nI x) (nI w) (nI m) (nI b) (nI t)) (fun _ _ => True) T 0 () (Nat.zero_le _) trivial ?_ ?_
    · intro n9 _ _
      have := hq1 T hT
      unfold wp_X9_chosen_178
      rw [n_cl (show T < _ by omega)]
      refine ⟨n_in (by omega) (by decide), bt2 ((i_eq (M 10 T) m (hx := h.g 10 T)).mpr t1) ⟨n_in (by omega) (by decide), bt2 ((i_eq (M 11 T) b (hx := h.g 11 T)).mpr t2) (way hT (bt1 ((wyR_p (hwl T)).mpr t3) hq))⟩⟩
    · intro n9 t _ ht _ ih
      have := hq1 t (by omega)
      have hno := of_decide_eq_false (hTn t ht)
      have next : wp_X9_chosen_212 Q (wp_X9_chosen_178 Q n9) S G (nI x) (nI w) (nI m) (nI b) (nI t) := by
        unfold wp_X9_chosen_212
        rintro _ rfl
        rw [nI_1]
        exact ih () trivial
      unfold wp_X9_chosen_178
      rw [n_cl (show t < _ by omega)]
      exact ⟨n_in (by omega) (by decide), bn (i_eq (M 10 t) m (hx := h.g 10 t)) (fun h1 => ⟨n_in (by omega) (by decide), bn (i_eq (M 11 t) b (hx := h.g 11 t)) (fun h2 => way (by omega) (bq (wyR_p (hwl t)) (fun h3 => absurd ⟨h1, h2, h3⟩ hno) (fun _ => next))) (fun _ => next)⟩) (fun _ => next)⟩
  -- the thing
  have fin : ∀ z : Int64, (∀ g, tb z g = true ↔ pp g = true) → wp_X9_chosen_57 Q S G (nI x) (nI w) (nI m) z := by
    intro z hz
    obtain ⟨sd, hsd⟩ : ∃ sd : Nat → Nat, sd = fun g => if z = (1 : Int64) <<< ((nI g).toInt64 &&& 63) then 0 else sco M x w m g := ⟨_, rfl⟩
    have hsl : ∀ g, sd g ≤ 600 := fun g => by
      have := sco_le (M := M) (x := x) (w := w) (m := m) (g := g)
      rw [hsd]
      show (if _ then 0 else sco M x w m g) ≤ 600
      split <;> omega
    have hsame : (chs pp sd N).1 = chG M x w m := by
      rw [hcg]
      by_cases ho : ∃ g, g < 40 ∧ z = (1 : Int64) <<< ((nI g).toInt64 &&& 63)
      · obtain ⟨g0, hg0, hz0⟩ := ho
        have hone : ∀ g, pp g = true ↔ g = g0 := fun g => by
          rw [← hz g, hz0, tb_sh (by omega)]
          exact decide_eq_true_iff
        rw [chs_one ((hone g0).mpr rfl) (fun g hg => (hone g).mp hg) (by omega), chs_one ((hone g0).mpr rfl) (fun g hg => (hone g).mp hg) (by omega)]
      · rw [chs_cong (fun _ _ => rfl) (fun g hg _ => ?_)]
        rw [hsd]
        exact if_neg (fun e => ho ⟨g, by omega, e⟩)
    unfold wp_X9_chosen_57
    refine pk_loop (σ := Int32 × Int32 × Int32) (fun n9 g st => wp_X9_chosen_69 Q n9 S G (nI x) (nI w) (nI m) z st.1 st.2.1 st.2.2 (nI g)) (fun g st => chI (chs pp sd g) st) N 0 (-1, -1, 0) (Nat.zero_le _) ⟨Nat.zero_le _, rfl, fun h9 => absurd rfl h9, fun _ h9 => absurd rfl h9, fun _ _ => rfl⟩ ?_ ?_
    · intro n9 st hI
      obtain ⟨a6, a7, a8⟩ := st
      have hin := chs_in (pp := pp) (sc := sd) (n := N)
      have hh := chs_h (pp := pp) (sc := sd) (n := N) hpe
      generalize chs pp sd N = c at hI hin hh hsame
      obtain ⟨i1, i2, i3, i4, i5⟩ := hI
      have hq := hQ2 c.1 hsame
      dsimp only
      unfold wp_X9_chosen_69
      refine bt1 ((i_le 40 N).mpr (by omega)) ?_
      unfold wp_X9_chosen_168
      by_cases hc : c.1 = 0
      · have e1 : a8 = 1 := i4 hc hh
        rw [if_pos hc] at hq
        exact bf1 (by rw [e1]; decide) hq
      · obtain ⟨e1, e2⟩ := i3 hc
        have e1 : a8 = 0 := e1
        have e2 : a6 = wyR c.1 := e2
        obtain ⟨k1, k2⟩ := hin hc
        rw [if_neg hc, wyR_s] at hq
        have e3 : a6 = nI (c.1 - 1) := by rw [e2]; unfold wyR; rw [if_neg hc]
        rw [e3]
        exact bt1 e1 (least _ (by omega) k2 hq)
    · intro n9 g st hg hI ih
      obtain ⟨a6, a7, a8⟩ := st
      dsimp only
      have n162 : ∀ b6 b7 b8 : Int32, chI (chs pp sd (g + 1)) (b6, b7, b8) → wp_X9_chosen_162 Q (wp_X9_chosen_69 Q n9) S G (nI x) (nI w) (nI m) z b6 b7 b8 (nI g) := by
        intro b6 b7 b8 hI2
        unfold wp_X9_chosen_162
        rintro _ rfl
        rw [nI_1]
        exact ih (b6, b7, b8) hI2
      have hc1 : chs pp sd (g + 1) = if pp g = true then (if (chs pp sd g).2 < sd g + 1 then (g + 1, sd g + 1) else if (chs pp sd g).2 = sd g + 1 then (0, (chs pp sd g).2) else chs pp sd g) else chs pp sd g := rfl
      generalize chs pp sd (g + 1) = d at hc1 n162
      generalize chs pp sd g = c at hc1 hI
      have hI0 := hI
      obtain ⟨i1, i2, i3, i4, i5⟩ := hI
      have i1 : c.2 ≤ 1000 := i1
      have i2 : a7 = wyR c.2 := i2
      have hsg := hsl g
      have go116 : pp g = true → wp_X9_chosen_116 Q (wp_X9_chosen_69 Q n9) S G (nI x) (nI w) (nI m) z a6 a7 a8 (nI g) (nI (sd g)) := by
        intro hpg
        rw [if_pos hpg] at hc1
        have eR := wyR_s (sd g)
        have up : c.2 < sd g + 1 → wp_X9_chosen_141 Q (wp_X9_chosen_69 Q n9) S G (nI x) (nI w) (nI m) z a6 a7 (nI g) (nI (sd g)) := by
          intro hlt
          rw [if_pos hlt] at hc1
          unfold wp_X9_chosen_141 wp_X9_chosen_142
          refine bt1 (by rw [i2, ← eR, wyR_lt (by omega) (by omega)]; exact hlt) (n162 _ _ _ ?_)
          rw [hc1]
          exact ⟨by show sd g + 1 ≤ 1000; omega, eR.symm, fun _ => ⟨rfl, (wyR_s g).symm⟩, fun h9 => absurd h9 (Nat.succ_ne_zero g), fun h9 => absurd h9 (Nat.succ_ne_zero g)⟩
        unfold wp_X9_chosen_116
        refine bq (show nI (sd g) = a7 ↔ sd g + 1 = c.2 by rw [i2, ← eR, wyR_eq (by omega) (by omega)]) (fun h1 => ?_) (fun h1 => bq Iff.rfl (fun h2 => ?_) (fun h2 => bq (show a7 ≤ nI (sd g) ↔ c.2 ≤ sd g + 1 by rw [i2, ← eR, wyR_le (by omega) (by omega)]) (fun h3 => up (by omega)) (fun h3 => ?_)))
        · rw [if_neg (by omega), if_pos h1.symm] at hc1
          unfold wp_X9_chosen_137 wp_X9_chosen_142
          refine bf1 (by rw [i2, ← eR, wyR_lt (by omega) (by omega)]; omega) (n162 _ _ _ ?_)
          rw [hc1]
          exact ⟨i1, i2, fun h9 => absurd rfl h9, fun _ _ => rfl, fun _ h9 => by have h9 : c.2 = 0 := h9; omega⟩
        · by_cases hlt : c.2 < sd g + 1
          · exact up hlt
          · rw [if_neg hlt, if_neg (by omega)] at hc1
            unfold wp_X9_chosen_141 wp_X9_chosen_142
            refine bf1 (by rw [i2, ← eR, wyR_lt (by omega) (by omega)]; omega) (n162 _ _ _ ?_)
            rw [hc1, ← h2]
            exact hI0
        · rw [if_neg (by omega), if_neg (by omega)] at hc1
          unfold wp_X9_chosen_137 wp_X9_chosen_142
          refine bf1 (by rw [i2, ← eR, wyR_lt (by omega) (by omega)]; omega) (n162 _ _ _ ?_)
          have e8 : a8 = 1 := by
            by_cases k1 : c.1 = 0
            · exact i4 k1 (by omega)
            · exact absurd (i3 k1).1 h2
          rw [hc1, ← e8]
          exact hI0
      unfold wp_X9_chosen_69
      refine bf1 (by rw [i_le 40 g]; omega) (bn (tb_c0 (by omega)) (fun hb => n162 _ _ _ ?_) (fun hb => ?_))
      · rw [hc1, if_neg (fun h9 => by rw [(hz g).mpr h9] at hb; exact absurd hb (by decide))]
        exact hI0
      · have hpg : pp g = true := (hz g).mp (by simpa using hb)
        refine bn lc_0 (fun he => ?_) (fun he => ?_)
        · have e0 : sd g = 0 := by rw [hsd]; exact if_pos he
          have := go116 hpg
          rw [e0] at this
          exact this
        · have e0 : sd g = sco M x w m g := by rw [hsd]; exact if_neg he
          have := go116 hpg
          rw [e0] at this
          rw [nI_add]
          exact rt_score h hx hF hw hm (by omega) this
  -- which things
  unfold wp_X9_chosen_0
  refine pk_loop (σ := Int64) (fun n9 k z => wp_X9_chosen_6 Q n9 S G (nI x) (nI w) (nI m) z (nI k)) (fun k z => ∀ g, tb z g = true ↔ ∃ t, t < k ∧ tmB M x p m g t = true) (M 4 0) 0 0 (Nat.zero_le _) (fun g => ⟨fun h9 => by rw [tb_0] at h9; exact absurd h9 (by decide), fun ⟨t, ht, _⟩ => absurd ht (Nat.not_lt_zero t)⟩) ?_ ?_
  · intro n9 z hI
    unfold wp_X9_chosen_6
    refine bt1 ((i_le _ _ (hx := h.g 4 0)).mpr (Nat.le_refl _)) (fin z (fun g => ?_))
    rw [hI g, hpp]
    exact tmP_iff.symm
  · intro n9 k z hk hI ih
    have := hq1 k hk
    have next : ∀ z2 : Int64, (∀ g, tb z2 g = true ↔ tb z g = true ∨ tmB M x p m g k = true) → wp_X9_chosen_51 Q (wp_X9_chosen_6 Q n9) S G (nI x) (nI w) (nI m) z2 (nI k) := by
      intro z2 hz2
      unfold wp_X9_chosen_51
      rintro _ rfl
      rw [nI_1]
      refine ih z2 (fun g => (hz2 g).trans ?_)
      rw [hI g]
      constructor
      · rintro (⟨t, ht, hb⟩ | hb)
        · exact ⟨t, by omega, hb⟩
        · exact ⟨k, Nat.lt_succ_self k, hb⟩
      · rintro ⟨t, ht, hb⟩
        by_cases e : t = k
        · rw [e] at hb; exact Or.inr hb
        · exact Or.inl ⟨t, by omega, hb⟩
    have keep : (∀ g, ¬ tmB M x p m g k = true) → wp_X9_chosen_51 Q (wp_X9_chosen_6 Q n9) S G (nI x) (nI w) (nI m) z (nI k) := fun hn => next z (fun g => ⟨Or.inl, fun o => o.elim id (fun h9 => absurd h9 (hn g))⟩)
    obtain ⟨t0, ht0, hm0, _⟩ := id hex
    have hm3 := (hq1 t0 ht0).1
    unfold wp_X9_chosen_6
    rw [n_cl (show k < _ by omega)]
    refine bf1 (by rw [i_le (M 4 0) k (hx := h.g 4 0)]; omega) ⟨n_in (by omega) (by decide), bn (i_eq (M 10 k) m (hx := h.g 10 k)) (fun h1 => way hk (bq (wyR_n (hwl k)) (fun h2 => keep (fun g o => (of_decide_eq_true o).2.2 h2)) (fun h2 => ⟨n_in (by omega) (by decide), ?_⟩))) (fun h1 => keep (fun g o => h1 (of_decide_eq_true o).1))⟩
    intro z2 hz2
    rw [h.g 11 k] at hz2
    refine next z2 (fun g => ?_)
    rw [hz2, tb_set (by omega), Bool.or_eq_true, decide_eq_true_iff]
    unfold tmB
    rw [decide_eq_true_iff]
    exact or_congr Iff.rfl ⟨fun e => ⟨h1, e.symm, h2⟩, fun o => o.2.1.symm⟩
end CHO
