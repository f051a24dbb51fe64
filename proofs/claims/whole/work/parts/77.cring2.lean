/-! pure: the component's ring, and what it tells -/
section CR2
variable {dA : Nat → ClassId} {zz : Nat → Nat} {ad : Nat → Nat → Nat} {cp : Nat → Nat → Nat} {V : cV} {Z : cZ} {L : List Nat} {f : pF}
theorem c_least {Q : Int32 → List Nat → pF → Prop} {st : Nat → Nat} {a l : Nat} (h : CH dA zz ad cp V Z L f) (ha : a < 40) (hl : l < 1000) (hst : ∀ g, g < 40 → V 7 0 g = nI (st g) ∧ st g < 1000) (yes : fa_first (fun g => tb (Z 6 a) g && st g == l) 40 < 40 → Q (nI (fa_first (fun g => tb (Z 6 a) g && st g == l) 40)) L f) (no : ¬ fa_first (fun g => tb (Z 6 a) g && st g == l) 40 < 40 → Q (-1) L f) : wp_X0_leastNext_0 dA zz Q L f (ad 5 0) (nI a) (nI l) := by
  unfold wp_X0_leastNext_0
  refine bf1 (n_lt0 (by omega)) (bt1 ((i_lt a 40).mpr ha) ?_)
  generalize hp : (fun g => tb (Z 6 a) g && st g == l) = p at yes no
  refine pk_loop (σ := Unit) (fun n9 i _ => wp_X0_leastNext_14 dA zz Q n9 L f (ad 5 0) (nI a) (nI l) (nI i)) (fun i _ => ∀ g, g < i → p g = false) 40 0 () (Nat.zero_le _) (fun g hg => absurd hg (Nat.not_lt_zero g)) ?_ ?_
  · intro n9 _ hI
    unfold wp_X0_leastNext_14
    refine bt1 (by decide) (no (fun h9 => ?_))
    have := hI _ h9
    rw [fa_first_yes p 40 h9] at this
    exact absurd this (by decide)
  · intro n9 i _ hi hI ih
    obtain ⟨s1, s2⟩ := hst i hi
    unfold wp_X0_leastNext_14
    have next : p i = false → wp_X0_leastNext_47 dA zz Q (wp_X0_leastNext_14 dA zz Q n9) L f (ad 5 0) (nI a) (nI l) (nI i) := by
      intro hn
      unfold wp_X0_leastNext_47
      rintro _ rfl
      rw [nI_1]
      exact ih () (lt_s hI hn)
    refine bf1 (by rw [i_le 40 i]; omega) (cgR (c := 5) h rfl rfl rfl (caJ (c := 6) (n := 40) h rfl rfl a rfl ha (by decide) ?_))
    refine bq (tb_c0 (by omega)) (fun h1 => next (by rw [← hp]; simp [h1])) (fun h1 => ?_)
    refine cgR (c := 5) h rfl rfl rfl (caI (c := 7) (i := 0) (n := 40) h (lv_7 (by decide)) rfl i rfl hi (by decide) ?_)
    refine bn (i_eq (st i) l (hx := s1)) (fun h2 => ?_) (fun h2 => next (by rw [← hp]; simp [h2]))
    have hpi : p i = true := by rw [← hp]; simp [h2]; simpa using h1
    have e : fa_first p 40 = i := by
      rcases Nat.lt_trichotomy (fa_first p 40) i with h3 | h3 | h3
      · have := hI _ h3
        rw [fa_first_yes p 40 (by omega)] at this
        exact absurd this (by decide)
      · exact h3
      · rw [fa_first_no p 40 i h3] at hpi
        exact absurd hpi (by decide)
    rw [e] at yes
    exact yes hi
theorem c_walk {Q : List Nat → pF → Prop} {s len : Nat} (h : CH dA zz ad cp V Z L f) (hs : s < 40) (hl : lst (Z 6) s s 40 = len) (h1 : 1 ≤ len) (h40 : len ≤ 40) (h5 : V 5 0 0 = nI len) (hst : ∀ g, g < 40 → V 7 0 g = nI (lst (Z 6) s g 40)) (hQ : ∀ (V' : cV) (f' : pF), CH dA zz ad cp V' Z L f' → (∀ c j, ¬ (c = 7 ∧ j = 1) → V' c j = V c j) → (∀ i, i < len → V' 7 1 i = nI (rrw (Z 6) s len i)) → Q L f') : wp_X0_walkRing_0 dA zz Q L f (ad 5 0) (nI s) := by
  unfold wp_X0_walkRing_0
  refine pk_loop (σ := cV × pF × Int32) (fun n9 i st => wp_X0_walkRing_4 dA zz Q n9 L st.2.1 (ad 5 0) st.2.2 (nI i)) (fun i st => CH dA zz ad cp st.1 Z L st.2.1 ∧ (∀ c j, ¬ (c = 7 ∧ j = 1) → st.1 c j = V c j) ∧ (∀ k, k < i → st.1 7 1 k = nI (rrw (Z 6) s len k)) ∧ (i < len → st.2.2 = nI (rrw (Z 6) s len i))) len 0 (V, f, nI s) (Nat.zero_le _) ⟨h, fun _ _ _ => rfl, fun g hg => absurd hg (Nat.not_lt_zero g), fun _ => rfl⟩ ?_ ?_
  · rintro n9 ⟨V1, f1, x⟩ ⟨k1, k2, k3, k4⟩
    have e5 : V1 5 0 0 = nI len := by rw [show V1 5 0 = V 5 0 from k2 5 0 (by decide)]; exact h5
    unfold wp_X0_walkRing_4
    exact cgI (c := 5) k1 rfl rfl rfl (bt1 ((i_le len len (hx := e5)).mpr (Nat.le_refl _)) (hQ V1 f1 k1 k2 k3))
  · rintro n9 i ⟨V1, f1, x⟩ hi ⟨k1, k2, k3, k4⟩ ih
    have k3 : ∀ k, k < i → V1 7 1 k = nI (rrw (Z 6) s len k) := k3
    have e5 : V1 5 0 0 = nI len := by rw [show V1 5 0 = V 5 0 from k2 5 0 (by decide)]; exact h5
    have ex : x = nI (rrw (Z 6) s len i) := k4 hi
    subst ex
    obtain ⟨a1, a2, a3⟩ := rrw_ok hs hl h1 i hi
    unfold wp_X0_walkRing_4
    refine cgI (c := 5) k1 rfl rfl rfl (bf1 (by rw [i_le len i (hx := e5)]; omega) (bf1 (by rw [i_le 40 i]; omega) (cgR (c := 5) k1 rfl rfl rfl ?_)))
    refine caIs (c := 7) (i := 1) (n := 40) k1 (lv_7 (by decide)) rfl i rfl (by omega) (by decide) rfl ?_
    intro f2 k5
    have e52 : vst V1 7 1 i (nI (rrw (Z 6) s len i)) 5 0 0 = nI len := by rw [vst_c (by decide)]; exact e5
    refine cgI (c := 5) k5 rfl rfl rfl ⟨cO (c := 5) k5 rfl rfl, ?_⟩
    have el : vst V1 7 1 i (nI (rrw (Z 6) s len i)) 5 0 0 - nI i - 1 = nI (len - (i + 1)) := by
      rw [e52, n_sub (by omega), n_sub1 (by omega)]; congr 1
    rw [el]
    have hV : ∀ g, g < 40 → vst V1 7 1 i (nI (rrw (Z 6) s len i)) 7 0 g = nI (lst (Z 6) s g 40) ∧ lst (Z 6) s g 40 < 1000 := by
      intro g hg
      have hb := lst_le (D := Z 6) (s := s) (g := g) 40
      refine ⟨?_, Nat.lt_of_le_of_lt hb (by decide)⟩
      rw [vst_n (by decide), show V1 7 0 = V 7 0 from k2 7 0 (by decide)]
      exact hst g hg
    have base : ∀ y : Int32, (i + 1 < len → y = nI (rrw (Z 6) s len (i + 1))) → wp_X0_walkRing_4 dA zz Q n9 L f2 (ad 5 0) y (nI i + 1) := by
      intro y hy
      rw [nI_1]
      refine ih (_, f2, y) ⟨k5, fun c j hn => by show vst V1 7 1 i _ c j = _; rw [vst_n hn]; exact k2 c j hn, fun k hk => ?_, hy⟩
      show vst V1 7 1 i _ 7 1 k = _
      by_cases e : k = i
      · subst e; rw [vst_v]
      · rw [vst_j e]; exact k3 k (by omega)
    have key : i + 1 < len → fa_first (fun g => tb (Z 6 (rrw (Z 6) s len i)) g && lst (Z 6) s g 40 == len - (i + 1)) 40 = rrw (Z 6) s len (i + 1) := by
      intro hi2
      show _ = fa_first (fun g => tb (Z 6 (rrw (Z 6) s len i)) g && rk (Z 6) s (len - (i + 1)) g) 40
      have : ∀ n, n ≤ 40 → fa_first (fun g => tb (Z 6 (rrw (Z 6) s len i)) g && lst (Z 6) s g 40 == len - (i + 1)) n = fa_first (fun g => tb (Z 6 (rrw (Z 6) s len i)) g && rk (Z 6) s (len - (i + 1)) g) n := by
        intro n
        induction n with
        | zero => intro _; rw [fa_first, fa_first]
        | succ n ihn =>
          intro hn
          have e : (tb (Z 6 (rrw (Z 6) s len i)) n && lst (Z 6) s n 40 == len - (i + 1)) = (tb (Z 6 (rrw (Z 6) s len i)) n && rk (Z 6) s (len - (i + 1)) n) := by
            by_cases ht : tb (Z 6 (rrw (Z 6) s len i)) n = true
            · have hk := rrw_key hs hl h1 hi2 ht (by omega)
              rw [ht, Bool.true_and, Bool.true_and]
              by_cases hr : rk (Z 6) s (len - (i + 1)) n = true
              · rw [hr]; exact beq_iff_eq.mpr (hk.mpr hr)
              · rw [Bool.eq_false_iff.mpr hr]
                exact Bool.eq_false_iff.mpr (fun h9 => hr (hk.mp (beq_iff_eq.mp h9)))
            · rw [Bool.eq_false_iff.mpr ht, Bool.false_and, Bool.false_and]
          unfold fa_first
          rw [ihn (by omega), e]
      exact this 40 (Nat.le_refl _)
    refine c_least k5 a1 (by omega) hV (fun hf => ?_) (fun hf => ?_)
    · rintro _ rfl
      exact base _ (fun hi2 => by rw [key hi2])
    · rintro _ rfl
      refine base _ (fun hi2 => ?_)
      rw [key hi2] at hf
      exact absurd (rrw_ok hs hl h1 (i + 1) hi2).1 hf
/-- how long the ring is (0: there is none) -/
def rgl (D : Nat → Int64) : Nat := if (bst D 40).1 = 41 then 0 else (bst D 40).1
theorem rgl_le {D : Nat → Int64} : rgl D ≤ 40 := by
  unfold rgl
  rcases bst_ok (D := D) 40 with h | h
  · rw [h]; simp
  · split
    · omega
    · exact h.2.2.1
def rgA (D : Nat → Int64) (i : Nat) : Nat := rrw D (bst D 40).2 (bst D 40).1 i
theorem rgA_lt {D : Nat → Int64} {i : Nat} (h : i < rgl D) : rgA D i < 40 := by
  unfold rgl at h
  unfold rgA
  rcases bst_ok (D := D) 40 with h1 | h1
  · rw [h1] at h; simp at h
  · split at h
    · omega
    · exact (rrw_ok h1.1 h1.2.2.2 h1.2.1 i h).1
theorem c_findRing {Q : List Nat → pF → Prop} (h : CH dA zz ad cp V Z L f) (hD : ∀ g, g < 40 → lo40 (Z 6 g)) (hQ : ∀ (V' : cV) (f' : pF), CH dA zz ad cp V' Z L f' → (∀ c j, c ≠ 7 → c ≠ 5 → V' c j = V c j) → V' 5 0 0 = nI (rgl (Z 6)) → (∀ i, i < rgl (Z 6) → V' 7 1 i = nI (rgA (Z 6) i)) → Q L f') : wp_X0_findRing_0 dA zz Q L f (ad 5 0) := by
  unfold wp_X0_findRing_0
  refine cgPi (c := 5) h rfl rfl 0 (by show 4 < 8; decide) rfl ?_
  intro f1 h1
  refine pk_loop (σ := cV × pF) (fun n9 i st => wp_X0_findRing_9 dA zz Q n9 L st.2 (ad 5 0) (if (bst (Z 6) i).1 = 41 then -1 else nI (bst (Z 6) i).2) (nI i)) (fun i st => CH dA zz ad cp st.1 Z L st.2 ∧ (∀ c j, c ≠ 7 → c ≠ 5 → st.1 c j = V c j) ∧ st.1 5 0 0 = nI (if (bst (Z 6) i).1 = 41 then 0 else (bst (Z 6) i).1)) 40 0 (_, f1) (Nat.zero_le _) ⟨h1, fun c j _ h5 => by show vst V 5 0 0 0 c j = _; rw [vst_c h5], by show vst V 5 0 0 0 5 0 0 = _; rw [vst_v]; rfl⟩ ?_ ?_
  · rintro n9 ⟨V1, f2⟩ ⟨k1, k2, k3⟩
    have k3 : V1 5 0 0 = nI (rgl (Z 6)) := k3
    unfold wp_X0_findRing_9
    refine bt1 (by decide) ?_
    unfold wp_X0_findRing_51
    rcases bst_ok (D := Z 6) 40 with hb | hb
    · have e0 : rgl (Z 6) = 0 := by unfold rgl; rw [hb]; rfl
      rw [hb]
      refine bt1 rfl (hQ V1 f2 k1 k2 k3 (fun i hi => ?_))
      rw [e0] at hi
      exact absurd hi (Nat.not_lt_zero i)
    · have en : ¬ (bst (Z 6) 40).1 = 41 := by omega
      have er : rgl (Z 6) = (bst (Z 6) 40).1 := by unfold rgl; rw [if_neg en]
      rw [if_neg en]
      refine bf1 (n_m1 (by omega)) ⟨cO (c := 5) k1 rfl rfl, c_steps k1 hD _ hb.1 ?_⟩
      intro V3 f3 j1 j2 j3
      refine ⟨cO (c := 5) j1 rfl rfl, c_walk j1 hb.1 hb.2.2.2 hb.2.1 hb.2.2.1 ?_ j3 ?_⟩
      · rw [show V3 5 0 = V1 5 0 from j2 5 0 (by decide), k3, er]
      · intro V4 f4 i1 i2 i3
        refine hQ V4 f4 i1 (fun c j h7 h5 => ?_) ?_ (fun i hi => ?_)
        · rw [i2 c j (fun e => h7 e.1), j2 c j (fun e => h7 e.1)]; exact k2 c j h7 h5
        · rw [show V4 5 0 = V3 5 0 from i2 5 0 (by decide), show V3 5 0 = V1 5 0 from j2 5 0 (by decide)]; exact k3
        · rw [er] at hi
          exact i3 i hi
  · rintro n9 i ⟨V1, f2⟩ hi ⟨k1, k2, k3⟩ ih
    have k3 : V1 5 0 0 = nI (if (bst (Z 6) i).1 = 41 then 0 else (bst (Z 6) i).1) := k3
    unfold wp_X0_findRing_9
    refine bf1 (by rw [i_le 40 i]; omega) ⟨cO (c := 5) k1 rfl rfl, c_steps k1 hD i hi ?_⟩
    intro V3 f3 j1 j2 j3
    have hb := bst_ok (D := Z 6) i
    have hb1 : (bst (Z 6) i).1 ≤ 41 := by
      rcases hb with hb | hb
      · rw [hb]; exact Nat.le_refl _
      · omega
    have hle := lst_le (D := Z 6) (s := i) (g := i) 40
    have hstep : bst (Z 6) (i + 1) = if lst (Z 6) i i 40 ≠ 0 ∧ lst (Z 6) i i 40 < (bst (Z 6) i).1 then (lst (Z 6) i i 40, i) else bst (Z 6) i := rfl
    obtain ⟨n, hn⟩ : ∃ n, lst (Z 6) i i 40 = n := ⟨_, rfl⟩
    rw [hn] at hle hstep ⊢
    have e5 : V3 5 0 0 = nI (if (bst (Z 6) i).1 = 41 then 0 else (bst (Z 6) i).1) := by rw [show V3 5 0 = V1 5 0 from j2 5 0 (by decide)]; exact k3
    have fr : ∀ c j, c ≠ 7 → c ≠ 5 → V3 c j = V c j := fun c j h7 h5 => by rw [j2 c j (fun e => h7 e.1)]; exact k2 c j h7 h5
    have stay : ¬ (n ≠ 0 ∧ n < (bst (Z 6) i).1) → wp_X0_findRing_45 dA zz Q (wp_X0_findRing_9 dA zz Q n9) L f3 (ad 5 0) (if (bst (Z 6) i).1 = 41 then -1 else nI (bst (Z 6) i).2) (nI i) := by
      intro hno
      rw [if_neg hno] at hstep
      unfold wp_X0_findRing_45
      rintro _ rfl
      rw [nI_1]
      have := ih (V3, f3) ⟨j1, fr, by rw [hstep]; exact e5⟩
      rw [hstep] at this
      exact this
    have move : (n ≠ 0 ∧ n < (bst (Z 6) i).1) → wp_X0_findRing_38 dA zz Q (wp_X0_findRing_9 dA zz Q n9) L f3 (ad 5 0) (nI i) (nI n) := by
      intro hyes
      rw [if_pos hyes] at hstep
      unfold wp_X0_findRing_38
      refine cgPi (c := 5) j1 rfl rfl 0 (by show 4 < 8; decide) rfl ?_
      intro f4 i1
      unfold wp_X0_findRing_45
      rintro _ rfl
      rw [nI_1]
      have hn41 : ¬ n = 41 := by omega
      have := ih (_, f4) ⟨i1, fun c j h7 h5 => by show vst V3 5 0 0 _ c j = _; rw [vst_c h5]; exact fr c j h7 h5, by rw [hstep]; show vst V3 5 0 0 (nI n) 5 0 0 = nI (if n = 41 then 0 else n); rw [vst_v, if_neg hn41]⟩
      rw [hstep] at this
      have this : wp_X0_findRing_9 dA zz Q n9 L f4 (ad 5 0) (if n = 41 then -1 else nI i) (nI (i + 1)) := this
      rw [if_neg hn41] at this
      exact this
    refine bq (i_le n 0) (fun h0 => stay (fun h9 => h9.1 (by omega))) (fun h0 => ?_)
    by_cases h41 : (bst (Z 6) i).1 = 41
    · rw [if_pos h41] at stay ⊢
      exact bt1 rfl (move ⟨by omega, by omega⟩)
    · have hb2 : (bst (Z 6) i).2 < i := by
        rcases hb with hb | hb
        · rw [hb] at h41; exact absurd rfl h41
        · exact hb.1
      rw [if_neg h41] at stay e5 ⊢
      refine bf1 (n_m1 (by omega)) (cgI (c := 5) j1 rfl rfl rfl (bq (i_le (bst (Z 6) i).1 n (hx := e5)) (fun h9 => stay (by omega)) (fun h9 => move ⟨by omega, by omega⟩)))
end CR2
