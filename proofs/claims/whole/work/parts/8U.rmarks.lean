/-! pure: marks, in the reference -/
/-- term t is used in text x, of thing g, in the uses ahead of n -/
abbrev mkA (M : mN) (x n g t : Nat) : Prop := ∃ i, i < n ∧ (tmU M x i = t + 1 ∧ M 11 t = g)
section RMK
variable {M : mN} {D : Nat → Int64} {mn : Int32} {S : mS} {G : mG}
theorem RI.outL (h : RI M D mn S G) {k : Nat} (hk : k ≠ 17) (j : Nat) (v : Int64) : RI M D mn S (mstL G k j v) := ⟨h.1, fun i => by rw [ml_out _ _ _ _ _ (Ne.symm hk)]; exact h.2.1 i, h.2.2⟩
theorem rt_marks36 {Q : mS → mG → Prop} (h : RI M D mn S G) {x : Nat} (hx : x < 8) (hQ : ∀ (S' : mS) (G' : mG), RI M D mn S' G' → S' 0 0 = S 0 0 → (∀ k, k ≠ 36 → G' k = G k) → (∀ g, g < 40 → ∀ t, tb (G' 36 g) t = true ↔ mkA M x (uN M x) g t) → Q S' G') : wp_X9_marks_36_0 Q S G (nI x) := by
  have hM := h.2.2.2
  have h60 := hM.2.2.1.1
  have hle := uN_le hM hx
  obtain ⟨N, hN⟩ : ∃ N : Nat, N = 40 := ⟨_, rfl⟩
  unfold wp_X9_marks_36_0
  refine pk_loop (σ := mG) (fun n9 g G1 => wp_X9_marks_36_2 Q n9 S G1 (nI x) (nI g)) (fun g G1 => RI M D mn S G1 ∧ (∀ k, k ≠ 36 → G1 k = G k) ∧ ∀ j, j < g → G1 36 j = 0) N 0 G (Nat.zero_le _) ⟨h, fun _ _ => rfl, fun j hj => absurd hj (Nat.not_lt_zero j)⟩ ?_ ?_
  · rintro n9 G1 ⟨h1, k1, z1⟩
    unfold wp_X9_marks_36_2
    refine bt1 ((i_le 40 N).mpr (by omega)) ?_
    unfold wp_X9_marks_36_18
    refine rt_reads h1 hx (fun S2 h2 z2 _ u2 => ?_)
    have e25 : S2 25 0 = nI (uN M x) := u2.1.1
    have e28 : ∀ i, i < uN M x → S2 28 i = wyR (tmU M x i) := fun i hi => (u2.1.2 i hi).2.2.1
    refine pk_loop (σ := mG) (fun n8 i G3 => wp_X9_marks_36_25 Q n8 S2 G3 (nI i)) (fun i G3 => RI M D mn S2 G3 ∧ (∀ k, k ≠ 36 → G3 k = G k) ∧ ∀ g, g < 40 → ∀ t, tb (G3 36 g) t = true ↔ mkA M x i g t) (uN M x) 0 G1 (Nat.zero_le _) ⟨h2, k1, fun g hg t => ?_⟩ ?_ ?_
    · rw [z1 g (by omega), tb_0]
      exact ⟨fun h9 => absurd h9 (by decide), fun ⟨i, hi, _⟩ => absurd hi (Nat.not_lt_zero i)⟩
    · rintro n8 G3 ⟨h3, k3, m3⟩
      unfold wp_X9_marks_36_25
      exact bt1 ((i_le _ _ (hx := e25)).mpr (Nat.le_refl _)) (hQ S2 G3 h3 z2 k3 m3)
    · rintro n8 i G3 hi ⟨h3, k3, m3⟩ ih
      have htl : tmU M x i ≤ M 4 0 := chT_le
      have next : ∀ G4 : mG, RI M D mn S2 G4 → (∀ k, k ≠ 36 → G4 k = G k) → (∀ g, g < 40 → ∀ t, tb (G4 36 g) t = true ↔ (tb (G3 36 g) t = true ∨ (tmU M x i = t + 1 ∧ M 11 t = g))) → wp_X9_marks_36_67 Q (wp_X9_marks_36_25 Q n8) S2 G4 (nI i) := by
        intro G4 h4 k4 m4
        unfold wp_X9_marks_36_67
        rintro _ rfl
        rw [nI_1]
        refine ih G4 ⟨h4, k4, fun g hg t => (m4 g hg t).trans ?_⟩
        rw [m3 g hg t]
        constructor
        · rintro (⟨j, hj, hb⟩ | hb)
          · exact ⟨j, by omega, hb⟩
          · exact ⟨i, Nat.lt_succ_self i, hb⟩
        · rintro ⟨j, hj, hb⟩
          by_cases e : j = i
          · rw [e] at hb; exact Or.inr hb
          · exact Or.inl ⟨j, by omega, hb⟩
      unfold wp_X9_marks_36_25
      rw [n_cl (show i < _ by omega), e28 i hi]
      refine bf1 (by rw [i_le (uN M x) i (hx := e25)]; omega) ⟨n_in (by omega) (by decide), ?_⟩
      by_cases e0 : tmU M x i = 0
      · refine bt1 (by rw [e0]; rfl) (next G3 h3 k3 (fun g hg t => ⟨Or.inl, fun o => o.elim id (fun hb => absurd hb.1 (by omega))⟩))
      · obtain ⟨t, et⟩ : ∃ t, tmU M x i = t + 1 := ⟨tmU M x i - 1, by omega⟩
        have q11 := (hM.2.2.1.2 t (by omega)).2.2.2.2.1
        rw [et, wyR_s, n_cl (show t < _ by omega), h2.g 11 t, n_cl (show M 11 t < _ by omega)]
        have i301 : vp_in (nI i) 301 := n_in (by omega) (by decide)
        have g40 : vp_in (nI (M 11 t)) 40 := n_in (by omega) (by decide)
        refine bf1 (n_m1 (by omega)) ⟨i301, n_in (by omega) (by decide), g40, i301, g40, ?_⟩
        intro G4 hG4
        refine next G4 (by rw [hG4]; exact h3.outL (by decide) _ _) (fun k hk => by rw [hG4, ml_out _ _ _ _ _ hk]; exact k3 k hk) (fun g hg u => ?_)
        rw [hG4, et]
        by_cases eg : g = M 11 t
        · rw [eg, ml_same, tb_set (by omega), Bool.or_eq_true, decide_eq_true_iff]
          exact or_congr Iff.rfl ⟨fun e => ⟨by omega, by rw [e]⟩, fun o => by have := o.1; omega⟩
        · rw [ml_ne _ _ _ _ _ eg]
          exact ⟨Or.inl, fun o => o.elim id (fun hb => absurd (by rw [← hb.2, show u = t by have := hb.1; omega]) eg)⟩
  · rintro n9 g G1 hg ⟨h1, k1, z1⟩ ih
    unfold wp_X9_marks_36_2
    rw [n_cl (show g < _ by omega)]
    refine bf1 (by rw [i_le 40 g]; omega) ⟨n_in (by omega) (by decide), ?_⟩
    intro G2 hG2
    rintro _ rfl
    rw [nI_1]
    refine ih G2 ?_
    rw [hG2]
    refine ⟨h1.outL (by decide) _ _, fun k hk => by rw [ml_out _ _ _ _ _ hk]; exact k1 k hk, fun j hj => ?_⟩
    by_cases e : j = g
    · rw [e, ml_same]
    · rw [ml_ne _ _ _ _ _ e]; exact z1 j (by omega)
theorem rt_marks37 {Q : mS → mG → Prop} (h : RI M D mn S G) {x : Nat} (hx : x < 8) (hQ : ∀ (S' : mS) (G' : mG), RI M D mn S' G' → S' 0 0 = S 0 0 → (∀ k, k ≠ 37 → G' k = G k) → (∀ g, g < 40 → ∀ t, tb (G' 37 g) t = true ↔ mkA M x (uN M x) g t) → Q S' G') : wp_X9_marks_37_0 Q S G (nI x) := by
  have hM := h.2.2.2
  have h60 := hM.2.2.1.1
  have hle := uN_le hM hx
  obtain ⟨N, hN⟩ : ∃ N : Nat, N = 40 := ⟨_, rfl⟩
  unfold wp_X9_marks_37_0
  refine pk_loop (σ := mG) (fun n9 g G1 => wp_X9_marks_37_2 Q n9 S G1 (nI x) (nI g)) (fun g G1 => RI M D mn S G1 ∧ (∀ k, k ≠ 37 → G1 k = G k) ∧ ∀ j, j < g → G1 37 j = 0) N 0 G (Nat.zero_le _) ⟨h, fun _ _ => rfl, fun j hj => absurd hj (Nat.not_lt_zero j)⟩ ?_ ?_
  · rintro n9 G1 ⟨h1, k1, z1⟩
    unfold wp_X9_marks_37_2
    refine bt1 ((i_le 40 N).mpr (by omega)) ?_
    unfold wp_X9_marks_37_18
    refine rt_reads h1 hx (fun S2 h2 z2 _ u2 => ?_)
    have e25 : S2 25 0 = nI (uN M x) := u2.1.1
    have e28 : ∀ i, i < uN M x → S2 28 i = wyR (tmU M x i) := fun i hi => (u2.1.2 i hi).2.2.1
    refine pk_loop (σ := mG) (fun n8 i G3 => wp_X9_marks_37_25 Q n8 S2 G3 (nI i)) (fun i G3 => RI M D mn S2 G3 ∧ (∀ k, k ≠ 37 → G3 k = G k) ∧ ∀ g, g < 40 → ∀ t, tb (G3 37 g) t = true ↔ mkA M x i g t) (uN M x) 0 G1 (Nat.zero_le _) ⟨h2, k1, fun g hg t => ?_⟩ ?_ ?_
    · rw [z1 g (by omega), tb_0]
      exact ⟨fun h9 => absurd h9 (by decide), fun ⟨i, hi, _⟩ => absurd hi (Nat.not_lt_zero i)⟩
    · rintro n8 G3 ⟨h3, k3, m3⟩
      unfold wp_X9_marks_37_25
      exact bt1 ((i_le _ _ (hx := e25)).mpr (Nat.le_refl _)) (hQ S2 G3 h3 z2 k3 m3)
    · rintro n8 i G3 hi ⟨h3, k3, m3⟩ ih
      have htl : tmU M x i ≤ M 4 0 := chT_le
      have next : ∀ G4 : mG, RI M D mn S2 G4 → (∀ k, k ≠ 37 → G4 k = G k) → (∀ g, g < 40 → ∀ t, tb (G4 37 g) t = true ↔ (tb (G3 37 g) t = true ∨ (tmU M x i = t + 1 ∧ M 11 t = g))) → wp_X9_marks_37_67 Q (wp_X9_marks_37_25 Q n8) S2 G4 (nI i) := by
        intro G4 h4 k4 m4
        unfold wp_X9_marks_37_67
        rintro _ rfl
        rw [nI_1]
        refine ih G4 ⟨h4, k4, fun g hg t => (m4 g hg t).trans ?_⟩
        rw [m3 g hg t]
        constructor
        · rintro (⟨j, hj, hb⟩ | hb)
          · exact ⟨j, by omega, hb⟩
          · exact ⟨i, Nat.lt_succ_self i, hb⟩
        · rintro ⟨j, hj, hb⟩
          by_cases e : j = i
          · rw [e] at hb; exact Or.inr hb
          · exact Or.inl ⟨j, by omega, hb⟩
      unfold wp_X9_marks_37_25
      rw [n_cl (show i < _ by omega), e28 i hi]
      refine bf1 (by rw [i_le (uN M x) i (hx := e25)]; omega) ⟨n_in (by omega) (by decide), ?_⟩
      by_cases e0 : tmU M x i = 0
      · refine bt1 (by rw [e0]; rfl) (next G3 h3 k3 (fun g hg t => ⟨Or.inl, fun o => o.elim id (fun hb => absurd hb.1 (by omega))⟩))
      · obtain ⟨t, et⟩ : ∃ t, tmU M x i = t + 1 := ⟨tmU M x i - 1, by omega⟩
        have q11 := (hM.2.2.1.2 t (by omega)).2.2.2.2.1
        rw [et, wyR_s, n_cl (show t < _ by omega), h2.g 11 t, n_cl (show M 11 t < _ by omega)]
        have i301 : vp_in (nI i) 301 := n_in (by omega) (by decide)
        have g40 : vp_in (nI (M 11 t)) 40 := n_in (by omega) (by decide)
        refine bf1 (n_m1 (by omega)) ⟨i301, n_in (by omega) (by decide), g40, i301, g40, ?_⟩
        intro G4 hG4
        refine next G4 (by rw [hG4]; exact h3.outL (by decide) _ _) (fun k hk => by rw [hG4, ml_out _ _ _ _ _ hk]; exact k3 k hk) (fun g hg u => ?_)
        rw [hG4, et]
        by_cases eg : g = M 11 t
        · rw [eg, ml_same, tb_set (by omega), Bool.or_eq_true, decide_eq_true_iff]
          exact or_congr Iff.rfl ⟨fun e => ⟨by omega, by rw [e]⟩, fun o => by have := o.1; omega⟩
        · rw [ml_ne _ _ _ _ _ eg]
          exact ⟨Or.inl, fun o => o.elim id (fun hb => absurd (by rw [← hb.2, show u = t by have := hb.1; omega]) eg)⟩
  · rintro n9 g G1 hg ⟨h1, k1, z1⟩ ih
    unfold wp_X9_marks_37_2
    rw [n_cl (show g < _ by omega)]
    refine bf1 (by rw [i_le 40 g]; omega) ⟨n_in (by omega) (by decide), ?_⟩
    intro G2 hG2
    rintro _ rfl
    rw [nI_1]
    refine ih G2 ?_
    rw [hG2]
    refine ⟨h1.outL (by decide) _ _, fun k hk => by rw [ml_out _ _ _ _ _ hk]; exact k1 k hk, fun j hj => ?_⟩
    by_cases e : j = g
    · rw [e, ml_same]
    · rw [ml_ne _ _ _ _ _ e]; exact z1 j (by omega)
end RMK
