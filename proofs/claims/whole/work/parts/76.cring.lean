/-! pure: rings in the component -/
theorem lv_3 {cp : Nat → Nat → Nat} {i : Nat} (h : i < 3) : lv cp 3 i := h
theorem lv_7 {cp : Nat → Nat → Nat} {i : Nat} (h : i < 4) : lv cp 7 i := h
theorem lv_9 {cp : Nat → Nat → Nat} {i : Nat} (h : i < 6) : lv cp 9 i := h
theorem lv_11 {cp : Nat → Nat → Nat} {i : Nat} (h : i < 4) : lv cp 11 i := h
theorem lv_r {cp : Nat → Nat → Nat} {i : Nat} (h : i < 10) : lv cp 14 i := Or.inl (by omega)
theorem l0_5 {cp : Nat → Nat → Nat} : ∀ i, lv cp 5 i → i = 0 := fun _ h => h
theorem l0_6 {cp : Nat → Nat → Nat} : ∀ i, lv cp 6 i → i = 0 := fun _ h => h
theorem l0_8 {cp : Nat → Nat → Nat} : ∀ i, lv cp 8 i → i = 0 := fun _ h => h
theorem l0_12 {cp : Nat → Nat → Nat} : ∀ i, lv cp 12 i → i = 0 := fun _ h => h
theorem l0_18 {cp : Nat → Nat → Nat} : ∀ i, lv cp 18 i → i = 0 := fun _ h => h
section CR
variable {dA : Nat → ClassId} {zz : Nat → Nat} {ad : Nat → Nat → Nat} {cp : Nat → Nat → Nat} {V : cV} {Z : cZ} {L : List Nat} {f : pF}
set_option maxHeartbeats 1000000 in
theorem c_steps {Q : Int32 → List Nat → pF → Prop} (h : CH dA zz ad cp V Z L f) (hD : ∀ g, g < 40 → lo40 (Z 6 g)) (s : Nat) (hs : s < 40) (hQ : ∀ (V' : cV) (f' : pF), CH dA zz ad cp V' Z L f' → (∀ c j, ¬ (c = 7 ∧ j = 0) → V' c j = V c j) → (∀ g, g < 40 → V' 7 0 g = nI (lst (Z 6) s g 40)) → Q (nI (lst (Z 6) s s 40)) L f') : wp_X0_stepsBackTo_0 dA zz Q L f (ad 5 0) (nI s) := by
  have fin : ∀ (V' : cV) (f' : pF), CH dA zz ad cp V' Z L f' → (∀ c j, ¬ (c = 7 ∧ j = 0) → V' c j = V c j) → (∀ g, g < 40 → V' 7 0 g = nI (lst (Z 6) s g 40)) → wp_X0_stepsBackTo_111 dA zz Q L f' (ad 5 0) (nI s) := by
    intro V' f' h1 h2 h3
    unfold wp_X0_stepsBackTo_111
    refine bf1 (n_lt0 (by omega)) (bf1 (by rw [i_le 40 s]; omega) (cgR (c := 5) h1 rfl rfl rfl ?_))
    refine caI (c := 7) (i := 0) (n := 40) h1 (lv_7 (by decide)) rfl s rfl hs (by decide) ?_
    rw [h3 s hs]
    exact hQ V' f' h1 h2 h3
  unfold wp_X0_stepsBackTo_0
  refine pk_loop (σ := cV × pF) (fun n9 i st => wp_X0_stepsBackTo_2 dA zz Q n9 L st.2 (ad 5 0) (nI s) (nI i)) (fun i st => CH dA zz ad cp st.1 Z L st.2 ∧ (∀ c j, ¬ (c = 7 ∧ j = 0) → st.1 c j = V c j) ∧ ∀ g, g < i → st.1 7 0 g = 0) 40 0 (V, f) (Nat.zero_le _) ⟨h, fun _ _ _ => rfl, fun g hg => absurd hg (Nat.not_lt_zero g)⟩ ?_ ?_
  rotate_left
  · rintro n9 i ⟨V1, f1⟩ hi ⟨h1, h2, h3⟩ ih
    unfold wp_X0_stepsBackTo_2
    refine bf1 (by rw [i_le 40 i]; omega) (cgR (c := 5) h1 rfl rfl rfl ?_)
    refine caIs (c := 7) (i := 0) (n := 40) h1 (lv_7 (by decide)) rfl i rfl hi (by decide) rfl ?_
    intro f2 h4
    rintro _ rfl
    rw [nI_1]
    refine ih (_, f2) ⟨h4, fun c j hn => by show vst V1 7 0 i 0 c j = _; rw [vst_n hn]; exact h2 c j hn, fun g hg => ?_⟩
    show vst V1 7 0 i 0 7 0 g = 0
    by_cases e : g = i
    · subst e; rw [vst_v]
    · rw [vst_j e]; exact h3 g (by omega)
  · rintro n9 ⟨V1, f1⟩ ⟨h1, h2, h3⟩
    unfold wp_X0_stepsBackTo_2
    refine bt1 (by decide) ?_
    unfold wp_X0_stepsBackTo_21
    rintro _ rfl
    refine pk_loop (σ := cV × pF × Int64) (fun n9 k st => wp_X0_stepsBackTo_28 dA zz Q n9 L st.2.1 (ad 5 0) (nI s) st.2.2 (nI (k + 1))) (fun k st => CH dA zz ad cp st.1 Z L st.2.1 ∧ (∀ c j, ¬ (c = 7 ∧ j = 0) → st.1 c j = V c j) ∧ (∀ g, g < 40 → st.1 7 0 g = nI (lst (Z 6) s g k)) ∧ ∀ g, g < 64 → (tb st.2.2 g = true ↔ frn (Z 6) s k g)) 40 0 (V1, f1, _) (Nat.zero_le _) ⟨h1, h2, h3, fun g hg => ?_⟩ ?_ ?_
    · show tb ((1 : Int64) <<< ((nI s).toInt64 &&& 63)) g = true ↔ _
      rw [tb_sh (by omega), decide_eq_true_eq]
      unfold frn
      rw [if_pos rfl]
      exact ⟨fun e => ⟨by omega, e⟩, fun e => e.2⟩
    · rintro n9 ⟨V2, f2, fr⟩ ⟨g1, g2, g3, g4⟩
      unfold wp_X0_stepsBackTo_28
      exact bt1 (by decide) (fin V2 f2 g1 g2 g3)
    · rintro n9 k ⟨V2, f2, fr⟩ hk ⟨g1, g2, g3, g4⟩ ih
      have g3 : ∀ g, g < 40 → V2 7 0 g = nI (lst (Z 6) s g k) := g3
      have g4 : ∀ g, g < 64 → (tb fr g = true ↔ frn (Z 6) s k g) := g4
      unfold wp_X0_stepsBackTo_28
      refine bf1 (by rw [i_lt 40 (k + 1)]; omega) (bq lc_0 (fun hf => ?_) (fun hf => ?_))
      · refine fin V2 f2 g1 g2 (fun g hg => ?_)
        have hno : ∀ g, ¬ frn (Z 6) s k g := fun g hg => by
          have hg40 := hg.1
          have := (g4 g (by omega)).mpr hg
          have hf : fr = 0 := hf
          rw [hf, tb_0] at this
          exact absurd this (by decide)
        have := (frn_stop hs hno (40 - k)).2 g hg
        rw [show k + (40 - k) = 40 by omega] at this
        rw [this]
        exact g3 g hg
      · refine pk_loop (σ := cV × pF × Int64) (fun n8 j st => wp_X0_stepsBackTo_47 dA zz Q (wp_X0_stepsBackTo_28 dA zz Q n9) n8 L st.2.1 (ad 5 0) (nI s) fr (nI (k + 1)) st.2.2 (nI j)) (fun j st => CH dA zz ad cp st.1 Z L st.2.1 ∧ (∀ c j, ¬ (c = 7 ∧ j = 0) → st.1 c j = V c j) ∧ (∀ g, g < 40 → st.1 7 0 g = nI (if g < j then lst (Z 6) s g (k + 1) else lst (Z 6) s g k)) ∧ ∀ g, g < 64 → (tb st.2.2 g = true ↔ g < j ∧ frn (Z 6) s (k + 1) g)) 40 0 (V2, f2, 0) (Nat.zero_le _) ⟨g1, g2, fun g hg => by rw [if_neg (Nat.not_lt_zero g)]; exact g3 g hg, fun g hg => by show tb 0 g = true ↔ _; rw [tb_0]; exact ⟨fun e => absurd e (by decide), fun e => absurd e.1 (Nat.not_lt_zero g)⟩⟩ ?_ ?_
        · rintro n8 ⟨V3, f3, nx⟩ ⟨k1, k2, k3, k4⟩
          unfold wp_X0_stepsBackTo_47
          refine bt1 (by decide) ?_
          unfold wp_X0_stepsBackTo_102
          rintro _ rfl
          rw [nI_1]
          refine ih (V3, f3, nx) ⟨k1, k2, fun g hg => ?_, fun g hg => ?_⟩
          · have := k3 g hg
            rw [if_pos hg] at this
            exact this
          · refine (k4 g hg).trans ⟨fun e => e.2, fun e => ⟨e.1, e⟩⟩
        · rintro n8 j ⟨V3, f3, nx⟩ hj ⟨k1, k2, k3, k4⟩ jh
          have k3 : ∀ g, g < 40 → V3 7 0 g = nI (if g < j then lst (Z 6) s g (k + 1) else lst (Z 6) s g k) := k3
          have k4 : ∀ g, g < 64 → (tb nx g = true ↔ g < j ∧ frn (Z 6) s (k + 1) g) := k4
          have kj := k3 j hj
          rw [if_neg (Nat.lt_irrefl j)] at kj
          have hle := lst_le (D := Z 6) (s := s) (g := j) k
          have same : ¬ (lst (Z 6) s j k = 0 ∧ rk (Z 6) s (k + 1) j = true) → wp_X0_stepsBackTo_96 dA zz Q (wp_X0_stepsBackTo_28 dA zz Q n9) (wp_X0_stepsBackTo_47 dA zz Q (wp_X0_stepsBackTo_28 dA zz Q n9) n8) L f3 (ad 5 0) (nI s) fr (nI (k + 1)) nx (nI j) := by
            intro hn
            unfold wp_X0_stepsBackTo_96
            rintro _ rfl
            rw [nI_1]
            refine jh (V3, f3, nx) ⟨k1, k2, fun g hg => ?_, fun g hg => ?_⟩
            · show V3 7 0 g = _
              rw [k3 g hg]
              by_cases e : g = j
              · subst e
                rw [if_neg (Nat.lt_irrefl g), if_pos (Nat.lt_succ_self g), lst_step, if_neg hn]
              · by_cases e2 : g < j
                · rw [if_pos e2, if_pos (by omega)]
                · rw [if_neg e2, if_neg (by omega)]
            · refine (k4 g hg).trans ⟨fun e => ⟨by omega, e.2⟩, fun e => ⟨?_, e.2⟩⟩
              by_cases e2 : g = j
              · subst e2; exact absurd ((frn_next hj).mp e.2) hn
              · omega
          unfold wp_X0_stepsBackTo_47
          refine bf1 (by rw [i_le 40 j]; omega) (cgR (c := 5) k1 rfl rfl rfl ?_)
          refine caI (c := 7) (i := 0) (n := 40) k1 (lv_7 (by decide)) rfl j rfl hj (by decide) ?_
          refine bn (i_eq (lst (Z 6) s j k) 0 (hx := kj)) (fun h0 => ?_) (fun h0 => same (fun h9 => h0 h9.1))
          refine cgR (c := 5) k1 rfl rfl rfl (caJ (c := 6) (n := 40) k1 rfl rfl j rfl hj (by decide) ?_)
          have hmeet : Z 6 j &&& fr ≠ 0 ↔ rk (Z 6) s (k + 1) j = true := by
            rw [tb_meet, ← frn_key hs hj h0]
            constructor
            · rintro ⟨g, q1, q2, q3⟩
              have hg40 : g < 40 := by
                apply Classical.byContradiction
                intro h9
                rw [hD j hj g (by omega)] at q2
                exact absurd q2 (by decide)
              exact ⟨g, hg40, q2, (g4 g q1).mp q3⟩
            · rintro ⟨g, q1, q2, q3⟩
              exact ⟨g, by omega, q2, (g4 g (by omega)).mpr q3⟩
          refine bq lc_0 (fun hz => same (fun h9 => hmeet.mpr h9.2 hz)) (fun hz => ?_)
          have hr := hmeet.mp hz
          refine cgR (c := 5) k1 rfl rfl rfl (caIs (c := 7) (i := 0) (n := 40) k1 (lv_7 (by decide)) rfl j rfl hj (by decide) rfl ?_)
          intro f4 k5
          rintro _ rfl
          unfold wp_X0_stepsBackTo_96
          rintro _ rfl
          rw [nI_1]
          refine jh (_, f4, _) ⟨k5, fun c i hn => by show vst V3 7 0 j _ c i = _; rw [vst_n hn]; exact k2 c i hn, fun g hg => ?_, fun g hg => ?_⟩
          · show vst V3 7 0 j _ 7 0 g = _
            by_cases e : g = j
            · subst e
              rw [vst_v, if_pos (Nat.lt_succ_self g), lst_step, if_pos ⟨h0, hr⟩]
            · rw [vst_j e, k3 g hg]
              by_cases e2 : g < j
              · rw [if_pos e2, if_pos (by omega)]
              · rw [if_neg e2, if_neg (by omega)]
          · show tb (nx ||| ((1 : Int64) <<< ((nI j).toInt64 &&& 63))) g = true ↔ _
            rw [tb_set (by omega), Bool.or_eq_true, decide_eq_true_eq, k4 g hg]
            constructor
            · rintro (e | e)
              · exact ⟨by omega, e.2⟩
              · subst e; exact ⟨Nat.lt_succ_self g, (frn_next hj).mpr ⟨h0, hr⟩⟩
            · rintro ⟨e1, e2⟩
              by_cases e : g = j
              · exact Or.inr e
              · exact Or.inl ⟨by omega, e2⟩
end CR
