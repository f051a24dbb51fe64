/-! pure: the longest form at a word, in the component -/
theorem wyV_2 {c : Nat} (h : c < 2147483648) : wyV c = -2 ↔ c = 0 := by
  unfold wyV
  by_cases e : c = 0
  · rw [if_pos e]; exact ⟨fun _ => e, fun _ => rfl⟩
  · rw [if_neg e]
    by_cases e1 : c = 1
    · rw [if_pos e1]; exact ⟨fun h9 => absurd h9 (by decide), fun h9 => absurd h9 e⟩
    · rw [if_neg e1]; exact ⟨fun h9 => absurd h9 (n_m2 (by omega)), fun h9 => absurd h9 e⟩
/-- the ways that are kept: of the forms of m words -/
def wyK (M : mN) (x p m t : Nat) : Nat := if M 10 t = m then wyA M x p t else 0
theorem wyK_lt {M : mN} {D : Nat → Int64} (hM : MI M D) {x p m t : Nat} : wyK M x p m t < 2147483648 := by
  have h1 := wyA_le (M := M) (x := x) (p := p) (t := t)
  have h6 := hM.2.1.1
  unfold wyK
  split <;> omega
section CMO
variable {dA : Nat → ClassId} {zz : Nat → Nat} {M : mN} {D : Nat → Int64} {mn : Int32} {L : List Nat} {f : pF}
variable {ad cp : Nat → Nat → Nat} {V : cV} {Z : cZ} {ng : Nat → Nat}
theorem c_held {Q : Int32 → List Nat → pF → Prop} (h : CH dA zz ad cp V Z L f) (hd : CD M D mn cp V Z ng) (hQ : Q (nI (M 4 0)) L f) : wp_X1_termsHeld_0 dA zz Q L f (ad 2 0) := by
  unfold wp_X1_termsHeld_0
  refine cgR (c := 2) h rfl rfl rfl ⟨l_O h (by decide), l_size h (by decide) ?_⟩
  rw [hd.c31]; exact hQ
theorem min60 (hM : MI M D) : (if (60 : Int32) < nI (M 4 0) then (60 : Int32) else nI (M 4 0)) = nI (M 4 0) := by
  have h60 := hM.2.2.1.1
  rw [if_neg (by rw [i_lt 60 (M 4 0)]; omega)]
theorem c_most {Q : Int32 → List Nat → pF → Prop} (h : CH dA zz ad cp V Z L f) (hd : CD M D mn cp V Z ng) (hM : MI M D) {x p : Nat} (hx : x < 8) (hp : p ≤ 600) (hQ : ∀ (V' : cV) (f' : pF), CH dA zz ad cp V' Z L f' → (∀ c j, ¬ (c = 9 ∧ j = 0) → V' c j = V c j) → (∀ t, t < M 4 0 → V' 9 0 t = wyV (wyK M x p (mwA M x p (M 4 0)) t)) → Q (nI (mwA M x p (M 4 0))) L f') : wp_X6_mostWordsAt_0 dA zz Q L f (ad 8 0) (ad 14 (1 + x)) (nI p) := by
  have h60 := hM.2.2.1.1
  have h6 := hM.2.1.1
  have hwl : ∀ t, wyA M x p t < 2147483648 := fun t => by have := wyA_le (M := M) (x := x) (p := p) (t := t); omega
  have cdOf : ∀ {V' : cV}, (∀ c j, ¬ (c = 9 ∧ j = 0) → V' c j = V c j) → CD M D mn cp V' Z ng := fun hv => hd.fr2 (fun c j hc => hv c j (by omega)) rfl rfl
  have m3 : ∀ k, k ≤ M 4 0 → mwA M x p k ≤ 3 := fun k hk => by
    by_cases h0 : mwA M x p k = 0
    · omega
    · obtain ⟨t, t1, t2, _⟩ := mwA_in h0
      have := (hM.2.2.1.2 t (by omega)).2.1
      omega
  unfold wp_X6_mostWordsAt_0
  refine cgR (c := 8) h rfl rfl rfl ⟨cO (c := 2) h rfl rfl, c_held h hd ?_⟩
  rintro _ rfl
  rw [min60 hM]
  refine pk_loop (σ := cV × pF) (fun n9 t st => wp_X6_mostWordsAt_19 dA zz Q n9 L st.2 (ad 8 0) (ad 14 (1 + x)) (nI p) (nI (M 4 0)) (nI (mwA M x p t)) (nI t)) (fun t st => CH dA zz ad cp st.1 Z L st.2 ∧ (∀ c j, ¬ (c = 9 ∧ j = 0) → st.1 c j = V c j) ∧ ∀ k, k < t → st.1 9 0 k = wyV (wyA M x p k)) (M 4 0) 0 (V, f) (Nat.zero_le _) ⟨h, fun _ _ _ => rfl, fun k hk => absurd hk (Nat.not_lt_zero k)⟩ ?_ ?_
  · rintro n9 ⟨V1, f1⟩ ⟨h1, fr1, y1⟩
    have h1 : CH dA zz ad cp V1 Z L f1 := h1
    have fr1 : ∀ c j, ¬ (c = 9 ∧ j = 0) → V1 c j = V c j := fr1
    have y1 : ∀ k, k < M 4 0 → V1 9 0 k = wyV (wyA M x p k) := y1
    dsimp only
    unfold wp_X6_mostWordsAt_19
    refine bt1 ((i_le (M 4 0) (M 4 0)).mpr (Nat.le_refl _)) ?_
    unfold wp_X6_mostWordsAt_84
    have mm := m3 (M 4 0) (Nat.le_refl _)
    generalize mwA M x p (M 4 0) = m at hQ mm
    refine pk_loop (σ := cV × pF) (fun n8 t st => wp_X6_mostWordsAt_87 dA zz Q n8 L st.2 (ad 8 0) (nI (M 4 0)) (nI m) (nI t)) (fun t st => CH dA zz ad cp st.1 Z L st.2 ∧ (∀ c j, ¬ (c = 9 ∧ j = 0) → st.1 c j = V c j) ∧ (∀ k, k < t → st.1 9 0 k = wyV (wyK M x p m k)) ∧ ∀ k, t ≤ k → k < M 4 0 → st.1 9 0 k = wyV (wyA M x p k)) (M 4 0) 0 (V1, f1) (Nat.zero_le _) ⟨h1, fr1, fun k hk => absurd hk (Nat.not_lt_zero k), fun k _ hk => y1 k hk⟩ ?_ ?_
    · rintro n8 ⟨V2, f2⟩ ⟨h2, fr2, y2, _⟩
      dsimp only
      unfold wp_X6_mostWordsAt_87
      exact bt1 ((i_le (M 4 0) (M 4 0)).mpr (Nat.le_refl _)) (hQ V2 f2 h2 fr2 y2)
    · rintro n8 t ⟨V2, f2⟩ ht ⟨h2, fr2, y2, z2⟩ ih
      have h2 : CH dA zz ad cp V2 Z L f2 := h2
      have fr2 : ∀ c j, ¬ (c = 9 ∧ j = 0) → V2 c j = V c j := fr2
      have y2 : ∀ k, k < t → V2 9 0 k = wyV (wyK M x p m k) := y2
      have z2 : ∀ k, t ≤ k → k < M 4 0 → V2 9 0 k = wyV (wyA M x p k) := z2
      have d2 := cdOf fr2
      have l16 : t < cp 3 1 := by rw [hd.c31]; exact ht
      have q := (hM.2.2.1.2 t ht).2.1
      dsimp only
      unfold wp_X6_mostWordsAt_87
      refine bf1 (by rw [i_le (M 4 0) t]; omega) (cgR (c := 8) h2 rfl rfl rfl ⟨cO (c := 2) h2 rfl rfl, c_termAt h2 t l16 (cgI (c := 16) h2 (lv_16 h2 l16) rfl rfl (bq (i_eq (M 10 t) m (hx := (d2.T ht).1.1)) (fun e => ?_) (fun e => ?_)))⟩)
      · unfold wp_X6_mostWordsAt_119
        rintro _ rfl
        rw [nI_1]
        refine ih (V2, f2) ⟨h2, fr2, lt_s y2 ?_, fun k hk1 hk2 => z2 k (by omega) hk2⟩
        show V2 9 0 t = _
        rw [z2 t (Nat.le_refl _) ht]
        unfold wyK
        rw [if_pos e]
      · refine cgR (c := 8) h2 rfl rfl rfl (caIs (c := 9) (i := 0) (n := 60) h2 (lv_9 (by decide)) rfl t rfl (by omega) (by decide) rfl ?_)
        intro f3 h3
        unfold wp_X6_mostWordsAt_119
        rintro _ rfl
        rw [nI_1]
        refine ih (vst V2 9 0 t (-2), f3) ⟨h3, fun c j hcj => ?_, fun k hk => ?_, fun k hk1 hk2 => ?_⟩
        · show vst V2 9 0 t (-2) c j = V c j
          rw [vst_n hcj]; exact fr2 c j hcj
        · show vst V2 9 0 t (-2) 9 0 k = _
          by_cases ek : k = t
          · rw [ek, vst_v]; unfold wyK; rw [if_neg e]; rfl
          · rw [vst_j ek]; exact y2 k (by omega)
        · show vst V2 9 0 t (-2) 9 0 k = _
          rw [vst_j (by omega)]; exact z2 k (by omega) hk2
  · rintro n9 t ⟨V1, f1⟩ ht ⟨h1, fr1, y1⟩ ih
    have h1 : CH dA zz ad cp V1 Z L f1 := h1
    have fr1 : ∀ c j, ¬ (c = 9 ∧ j = 0) → V1 c j = V c j := fr1
    have y1 : ∀ k, k < t → V1 9 0 k = wyV (wyA M x p k) := y1
    have d1 := cdOf fr1
    have l16 : t < cp 3 1 := by rw [hd.c31]; exact ht
    have q := (hM.2.2.1.2 t ht).2.1
    have mm := m3 t (by omega)
    have hs := mwA_s M x p t
    dsimp only
    unfold wp_X6_mostWordsAt_19
    refine bf1 (by rw [i_le (M 4 0) t]; omega) (cgR (c := 8) h1 rfl rfl rfl ⟨cO (c := 2) h1 rfl rfl, c_termAt h1 t l16 (cgR (c := 8) h1 rfl rfl rfl (cgR (c := 8) h1 rfl rfl rfl ⟨cO (c := 2) h1 rfl rfl, c_wayAt h1 d1 hM hx hp ht (caIs (c := 9) (i := 0) (n := 60) h1 (lv_9 (by decide)) rfl t rfl (by omega) (by decide) rfl ?_)⟩))⟩)
    intro f2 h2
    obtain ⟨V2, hV2⟩ : ∃ V2, V2 = vst V1 9 0 t (wyV (wyA M x p t)) := ⟨_, rfl⟩
    rw [← hV2] at h2
    have fr2 : ∀ c j, ¬ (c = 9 ∧ j = 0) → V2 c j = V c j := fun c j hcj => by rw [hV2, vst_n hcj]; exact fr1 c j hcj
    have y2 : ∀ k, k < t + 1 → V2 9 0 k = wyV (wyA M x p k) := fun k hk => by
      rw [hV2]
      by_cases ek : k = t
      · rw [ek, vst_v]
      · rw [vst_j ek]; exact y1 k (by omega)
    have d2 := cdOf fr2
    have next : ∀ c, c = mwA M x p (t + 1) → wp_X6_mostWordsAt_78 dA zz Q (wp_X6_mostWordsAt_19 dA zz Q n9) L f2 (ad 8 0) (ad 14 (1 + x)) (nI p) (nI (M 4 0)) (nI c) (nI t) := by
      intro c hc
      unfold wp_X6_mostWordsAt_78
      rintro _ rfl
      rw [nI_1, hc]
      exact ih (V2, f2) ⟨h2, fr2, y2⟩
    refine cgR (c := 8) h2 rfl rfl rfl (caI (c := 9) (i := 0) (n := 60) h2 (lv_9 (by decide)) rfl t rfl (by omega) (by decide) ?_)
    rw [y2 t (Nat.lt_succ_self t)]
    refine bq (wyV_2 (hwl t)) (fun e => next _ (by rw [hs, if_neg (fun o => o.1 e)])) (fun e => cgI (c := 16) h2 (lv_16 h2 l16) rfl rfl ?_)
    rw [(d2.T ht).1.1]
    rintro _ rfl
    by_cases hl : mwA M x p t < M 10 t
    · rw [if_pos ((i_lt _ _).mpr hl)]
      exact next _ (by rw [hs, if_pos ⟨e, hl⟩])
    · rw [if_neg (by rw [i_lt (mwA M x p t) (M 10 t)]; exact hl)]
      exact next _ (by rw [hs, if_neg (fun o => hl o.2)])
end CMO
