/-! pure: the tally of a sentence, in the component -/
/-- the words of sentence s that are neighbours of thing g -/
def tlp (M : mN) (x s g v : Nat) : Bool := decide (snA (tbx M x) (wpA (M 20 x) (tbx M x) v) = s ∧ nbr M x g (wpA (M 20 x) (tbx M x) v) (weA (M 20 x) (tbx M x) v))
def tly (M : mN) (x s g : Nat) : Nat := fb_ct (tlp M x s g) (fnd (M 20 x) (tbx M x))
def WT (M : mN) (x : Nat) (V : cV) (Z : cZ) : Prop := V 10 0 0 = nI (fnd (M 20 x) (tbx M x)) ∧ (∀ k, k < fnd (M 20 x) (tbx M x) → V 11 0 k = nI (wpA (M 20 x) (tbx M x) k) ∧ V 11 1 k = nI (weA (M 20 x) (tbx M x) k) ∧ V 11 2 k = nI (snA (tbx M x) (wpA (M 20 x) (tbx M x) k))) ∧ (∀ k, k < fnd (M 20 x) (tbx M x) → ∀ g, tb (Z 12 k) g = decide (g < 40 ∧ nbr M x g (wpA (M 20 x) (tbx M x) k) (weA (M 20 x) (tbx M x) k))) ∧ (V 10 0 1 = -1 ∨ ∃ s, s ≤ 600 ∧ V 10 0 1 = nI s ∧ ∀ g, g < 40 → V 11 3 g = nI (tly M x s g))
theorem WR.wt {M : mN} {x : Nat} {V : cV} {Z : cZ} (h : WR M x V Z) : WT M x V Z := ⟨h.1, h.2.2.1, h.2.2.2, Or.inl h.2.1⟩
section CTL
variable {dA : Nat → ClassId} {zz : Nat → Nat} {M : mN} {D : Nat → Int64} {L : List Nat} {f : pF}
variable {ad cp : Nat → Nat → Nat} {V : cV} {Z : cZ}
set_option maxHeartbeats 1000000 in
theorem c_tally {Q : List Nat → pF → Prop} (h : CH dA zz ad cp V Z L f) (hM : MI M D) {x w : Nat} (hx : x < 8) (hT : WT M x V Z) (hw : w < fnd (M 20 x) (tbx M x)) (hQ : ∀ (V' : cV) (f' : pF), CH dA zz ad cp V' Z L f' → (∀ c j, c ≠ 10 → c ≠ 11 → V' c j = V c j) → WT M x V' Z → (∀ g, g < 40 → V' 11 3 g = nI (tly M x (snA (tbx M x) (wpA (M 20 x) (tbx M x) w)) g)) → Q L f') : wp_X7_tallySentenceOf_0 dA zz Q L f (ad 10 0) (nI w) := by
  have b600 := (hM.2.2.2.2.2 x hx).1
  have hfl := fnd_le (n := M 20 x) (b := tbx M x)
  obtain ⟨t1, t2, t3, t4⟩ := id hT
  have hsl : snA (tbx M x) (wpA (M 20 x) (tbx M x) w) ≤ 600 := by
    have h1 := snA_le (b := tbx M x) (wpA (M 20 x) (tbx M x) w)
    have h2 := wpA_le (n := M 20 x) (b := tbx M x) w
    omega
  have hsv : ∀ v, snA (tbx M x) (wpA (M 20 x) (tbx M x) v) ≤ 600 := fun v => by
    have h1 := snA_le (b := tbx M x) (wpA (M 20 x) (tbx M x) v)
    have h2 := wpA_le (n := M 20 x) (b := tbx M x) v
    omega
  obtain ⟨s, hs⟩ : ∃ s, s = snA (tbx M x) (wpA (M 20 x) (tbx M x) w) := ⟨_, rfl⟩
  have e2 : V 11 2 w = nI s := by rw [hs]; exact (t2 w hw).2.2
  rw [← hs] at hQ hsl
  obtain ⟨K, hK⟩ : ∃ K, K = fnd (M 20 x) (tbx M x) := ⟨_, rfl⟩
  rw [← hK] at hw t1 t2 t3 hfl
  unfold wp_X7_tallySentenceOf_0
  refine bf1 (n_lt0 (by omega)) (cgI (c := 10) h rfl rfl rfl (bf1 (by rw [i_le K w (hx := t1)]; omega) (cgR (c := 10) h rfl rfl rfl (caI (c := 11) (i := 2) (n := 300) h (lv_11 (by decide)) rfl w rfl (by omega) (by decide) ?_))))
  rw [e2]
  unfold wp_X7_tallySentenceOf_22
  refine cgI (c := 10) h rfl rfl rfl ?_
  by_cases hc : nI s = V 10 0 1
  · refine bt2 hc (hQ V f h (fun _ _ _ _ => rfl) hT ?_)
    rcases t4 with t4 | ⟨s2, s3, s4, s5⟩
    · rw [t4] at hc; exact absurd hc (n_m1 (by omega))
    · rw [s4, n_eq (by omega) (by omega)] at hc
      rw [hc]; exact s5
  · refine bf2 hc (cgPi (c := 10) h rfl rfl 1 (by show 7 < 8; decide) rfl ?_)
    intro f1 h1
    obtain ⟨V1, hV1⟩ : ∃ V1, V1 = vst V 10 0 1 (nI s) := ⟨_, rfl⟩
    rw [← hV1] at h1
    have a1 : V1 10 0 0 = nI K := by rw [hV1, vst_j (by decide)]; exact t1
    have a2 : V1 11 = V 11 := by rw [hV1, vst_c (by decide)]
    have a3 : V1 10 0 1 = nI s := by rw [hV1, vst_v]
    obtain ⟨N, hN⟩ : ∃ N : Nat, N = 40 := ⟨_, rfl⟩
    obtain ⟨pr, hpr⟩ : ∃ pr : Nat → Nat → Bool, pr = fun g v => tlp M x s g v := ⟨_, rfl⟩
    -- the words
    have words : ∀ (V2 : cV) (f2 : pF), CH dA zz ad cp V2 Z L f2 → (∀ c j, ¬ (c = 11 ∧ j = 3) → V2 c j = V1 c j) → (∀ g, g < N → V2 11 3 g = nI 0) → wp_X7_tallySentenceOf_58 dA zz Q L f2 (ad 10 0) (nI s) := by
      intro V2 f2 h2 fr2 z2
      unfold wp_X7_tallySentenceOf_58
      refine pk_loop (σ := cV × pF) (fun n9 i st => wp_X7_tallySentenceOf_60 dA zz Q n9 L st.2 (ad 10 0) (nI s) (nI i)) (fun i st => CH dA zz ad cp st.1 Z L st.2 ∧ (∀ c j, ¬ (c = 11 ∧ j = 3) → st.1 c j = V1 c j) ∧ ∀ g, g < N → st.1 11 3 g = nI (fb_ct (pr g) i)) K 0 (V2, f2) (Nat.zero_le _) ⟨h2, fr2, z2⟩ ?_ ?_
      · rintro n9 ⟨V3, f3⟩ ⟨h3, fr3, z3⟩
        have h3 : CH dA zz ad cp V3 Z L f3 := h3
        have fr3 : ∀ c j, ¬ (c = 11 ∧ j = 3) → V3 c j = V1 c j := fr3
        have z3 : ∀ g, g < N → V3 11 3 g = nI (fb_ct (pr g) K) := z3
        have b1 : V3 10 0 0 = nI K := by rw [fr3 10 0 (by decide)]; exact a1
        dsimp only
        unfold wp_X7_tallySentenceOf_60
        have z4 : ∀ g, g < 40 → V3 11 3 g = nI (tly M x s g) := fun g hg => by rw [z3 g (by omega), hpr, hK]; rfl
        refine cgI (c := 10) h3 rfl rfl rfl (bt1 ((i_le K K (hx := b1)).mpr (Nat.le_refl _)) (hQ V3 f3 h3 (fun c j hc1 hc2 => ?_) ⟨?_, ?_, ?_, Or.inr ⟨s, hsl, ?_, z4⟩⟩ z4))
        · rw [fr3 c j (fun o => hc2 o.1), hV1, vst_c hc1]
        · rw [← hK]; exact b1
        · rw [← hK]; intro k hk
          rw [fr3 11 0 (by decide), fr3 11 1 (by decide), fr3 11 2 (by decide), a2]; exact t2 k hk
        · rw [← hK]; exact t3
        · rw [fr3 10 0 (by decide)]; exact a3
      · rintro n9 i ⟨V3, f3⟩ hi ⟨h3, fr3, z3⟩ ih
        have h3 : CH dA zz ad cp V3 Z L f3 := h3
        have fr3 : ∀ c j, ¬ (c = 11 ∧ j = 3) → V3 c j = V1 c j := fr3
        have z3 : ∀ g, g < N → V3 11 3 g = nI (fb_ct (pr g) i) := z3
        have b1 : V3 10 0 0 = nI K := by rw [fr3 10 0 (by decide)]; exact a1
        have b2 : V3 11 2 i = nI (snA (tbx M x) (wpA (M 20 x) (tbx M x) i)) := by rw [fr3 11 2 (by decide), a2]; exact (t2 i hi).2.2
        have hsi := hsv i
        have next : ∀ (V4 : cV) (f4 : pF), CH dA zz ad cp V4 Z L f4 → (∀ c j, ¬ (c = 11 ∧ j = 3) → V4 c j = V1 c j) → (∀ g, g < N → V4 11 3 g = nI (fb_ct (pr g) (i + 1))) → wp_X7_tallySentenceOf_127 dA zz Q (wp_X7_tallySentenceOf_60 dA zz Q n9) L f4 (ad 10 0) (nI s) (nI i) := by
          intro V4 f4 h4 fr4 z4
          unfold wp_X7_tallySentenceOf_127
          rintro _ rfl
          rw [nI_1]
          exact ih (V4, f4) ⟨h4, fr4, z4⟩
        have same : (∀ g, g < N → pr g i = false) → wp_X7_tallySentenceOf_127 dA zz Q (wp_X7_tallySentenceOf_60 dA zz Q n9) L f3 (ad 10 0) (nI s) (nI i) := fun hn => next V3 f3 h3 fr3 (fun g hg => by rw [z3 g hg, fb_ct_succ, hn g hg]; rfl)
        dsimp only
        unfold wp_X7_tallySentenceOf_60
        refine cgI (c := 10) h3 rfl rfl rfl (bf1 (by rw [i_le K i (hx := b1)]; omega) (cgR (c := 10) h3 rfl rfl rfl (caI (c := 11) (i := 2) (n := 300) h3 (lv_11 (by decide)) rfl i rfl (by omega) (by decide) ?_)))
        rw [b2]
        refine bn (i_eq _ s) (fun hq => ?_) (fun hq => same (fun g hg => by rw [hpr]; exact decide_eq_false (fun o => hq o.1)))
        refine cgR (c := 10) h3 rfl rfl rfl (caJ (c := 12) (n := 300) h3 rfl rfl i rfl (by omega) (by decide) (bq lc_0 (fun h0 => same (fun g hg => ?_)) (fun h0 => ?_)))
        · rw [hpr]
          refine decide_eq_false (fun o => ?_)
          have := t3 i hi g
          rw [h0, tb_0] at this
          exact (of_decide_eq_false this.symm) ⟨by omega, o.2⟩
        · have hbit : ∀ g, g < N → pr g i = tb (Z 12 i) g := fun g hg => by
            rw [hpr, t3 i hi g]
            exact decide_eq_decide.mpr ⟨fun o => ⟨by omega, o.2⟩, fun o => ⟨hq, o.2⟩⟩
          refine pk_loop (σ := cV × pF) (fun n8 g st => wp_X7_tallySentenceOf_92 dA zz Q (wp_X7_tallySentenceOf_60 dA zz Q n9) n8 L st.2 (ad 10 0) (nI s) (nI i) (nI g)) (fun g st => CH dA zz ad cp st.1 Z L st.2 ∧ (∀ c j, ¬ (c = 11 ∧ j = 3) → st.1 c j = V1 c j) ∧ (∀ k, k < g → st.1 11 3 k = nI (fb_ct (pr k) (i + 1))) ∧ ∀ k, g ≤ k → k < N → st.1 11 3 k = nI (fb_ct (pr k) i)) N 0 (V3, f3) (Nat.zero_le _) ⟨h3, fr3, fun k hk => absurd hk (Nat.not_lt_zero k), fun k _ hk => z3 k hk⟩ ?_ ?_
          · rintro n8 ⟨V4, f4⟩ ⟨h4, fr4, z4, _⟩
            dsimp only
            unfold wp_X7_tallySentenceOf_92
            exact bt1 ((i_le 40 N).mpr (by omega)) (next V4 f4 h4 fr4 z4)
          · rintro n8 g ⟨V4, f4⟩ hg ⟨h4, fr4, z4, y4⟩ jh
            have h4 : CH dA zz ad cp V4 Z L f4 := h4
            have fr4 : ∀ c j, ¬ (c = 11 ∧ j = 3) → V4 c j = V1 c j := fr4
            have z4 : ∀ k, k < g → V4 11 3 k = nI (fb_ct (pr k) (i + 1)) := z4
            have y4 : ∀ k, g ≤ k → k < N → V4 11 3 k = nI (fb_ct (pr k) i) := y4
            dsimp only
            unfold wp_X7_tallySentenceOf_92
            refine bf1 (by rw [i_le 40 g]; omega) (cgR (c := 10) h4 rfl rfl rfl (caI (c := 11) (i := 3) (n := 40) h4 (lv_11 (by decide)) rfl g rfl (by omega) (by decide) (cgR (c := 10) h4 rfl rfl rfl (caJ (c := 12) (n := 300) h4 rfl rfl i rfl (by omega) (by decide) (caIs (c := 11) (i := 3) (n := 40) h4 (lv_11 (by decide)) rfl g rfl (by omega) (by decide) rfl ?_)))))
            intro f5 h5
            rw [y4 g (Nat.le_refl _) hg, tb_i32 (by omega), ← hbit g hg, nI_add, ← fb_ct_succ] at h5
            rintro _ rfl
            rw [nI_1]
            refine jh (vst V4 11 3 g (nI (fb_ct (pr g) (i + 1))), f5) ⟨h5, fun c j hcj => ?_, fun k hk => ?_, fun k hk1 hk2 => ?_⟩
            · show vst V4 11 3 g (nI (fb_ct (pr g) (i + 1))) c j = V1 c j
              rw [vst_n hcj]; exact fr4 c j hcj
            · show vst V4 11 3 g (nI (fb_ct (pr g) (i + 1))) 11 3 k = _
              by_cases e : k = g
              · rw [e, vst_v]
              · rw [vst_j e]; exact z4 k (by omega)
            · show vst V4 11 3 g (nI (fb_ct (pr g) (i + 1))) 11 3 k = _
              rw [vst_j (by omega)]; exact y4 k (by omega) hk2
    refine pk_loop (σ := cV × pF) (fun n9 g st => wp_X7_tallySentenceOf_39 dA zz Q n9 L st.2 (ad 10 0) (nI s) (nI g)) (fun g st => CH dA zz ad cp st.1 Z L st.2 ∧ (∀ c j, ¬ (c = 11 ∧ j = 3) → st.1 c j = V1 c j) ∧ ∀ k, k < g → st.1 11 3 k = nI 0) N 0 (V1, f1) (Nat.zero_le _) ⟨h1, fun _ _ _ => rfl, fun k hk => absurd hk (Nat.not_lt_zero k)⟩ ?_ ?_
    · rintro n9 ⟨V2, f2⟩ ⟨h2, fr2, z2⟩
      dsimp only
      unfold wp_X7_tallySentenceOf_39
      exact bt1 ((i_le 40 N).mpr (by omega)) (words V2 f2 h2 fr2 z2)
    · rintro n9 g ⟨V2, f2⟩ hg ⟨h2, fr2, z2⟩ ih
      have h2 : CH dA zz ad cp V2 Z L f2 := h2
      have fr2 : ∀ c j, ¬ (c = 11 ∧ j = 3) → V2 c j = V1 c j := fr2
      have z2 : ∀ k, k < g → V2 11 3 k = nI 0 := z2
      dsimp only
      unfold wp_X7_tallySentenceOf_39
      refine bf1 (by rw [i_le 40 g]; omega) (cgR (c := 10) h2 rfl rfl rfl (caIs (c := 11) (i := 3) (n := 40) h2 (lv_11 (by decide)) rfl g rfl (by omega) (by decide) rfl ?_))
      intro f3 h3
      rintro _ rfl
      rw [nI_1]
      refine ih (vst V2 11 3 g 0, f3) ⟨h3, fun c j hcj => ?_, fun k hk => ?_⟩
      · show vst V2 11 3 g 0 c j = V1 c j
        rw [vst_n hcj]; exact fr2 c j hcj
      · show vst V2 11 3 g 0 11 3 k = _
        by_cases e : k = g
        · rw [e, vst_v]; rfl
        · rw [vst_j e]; exact z2 k (by omega)
end CTL
