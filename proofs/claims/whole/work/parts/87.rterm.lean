/-! pure: the reference's neighbour and term -/
theorem wwn_le {most : Nat} {w : Nat → Nat} {n : Nat} : wwn most w n ≤ n + 1 := by
  unfold wwn
  match h9 : wsc most w n with
  | none => simp
  | some (m, i) =>
    have := wsc_le h9
    by_cases h2 : i = 0
    · simp [h2]
    · simp [h2]; omega
theorem wsc_mono {most : Nat} {w : Nat → Nat} {k m i : Nat} (h : wsc most w k = some (m, i)) : ∀ {j m' i' : Nat}, wsc most w (k + j) = some (m', i') → m ≤ m'
  | 0, m', i', h' => by rw [Nat.add_zero, h] at h'; cases h'; exact Nat.le_refl _
  | j + 1, m', i', h' => by
    have h' : wsc most w ((k + j) + 1) = some (m', i') := h'
    unfold wsc at h'
    match h9 : wsc most w (k + j) with
    | none => rw [h9] at h'; exact absurd h' (by simp)
    | some (m1, i1) =>
      rw [h9] at h'
      have ih := wsc_mono h h9
      by_cases h1 : 0 < w (k + j)
      · by_cases h2 : most < i1 + 1
        · simp [h1, h2] at h'
        · simp [h1, h2] at h'; omega
      · by_cases h2 : i1 = 0
        · simp [h1, h2] at h'
        · simp [h1, h2] at h'; omega
section RN
variable {M : mN} {D : Nat → Int64} {mn : Int32} {S : mS} {G : mG}
theorem rt_neighbour {Q : Int32 → mS → mG → Prop} (h : RI M D mn S G) (a : Int32) (yes : ∀ g, g < 40 → a = nI g → okNb M g → ∀ S' : mS, RI (aNb M g) D mn S' G → S' 0 0 = 0 → Q (nI (M 16 g + 1)) S' G) (none : ∀ g, g < 40 → a = nI g → ¬ okNb M g → ∀ S' : mS, RI (ad2 M 1 0 0) D mn S' G → S' 0 0 = 0 → Q (-1) S' G) (no : ¬ okN a 40 → ∀ S' : mS, RI M D mn S' G → S' 0 0 = 1 → Q 0 S' G) : wp_X9_neighbour_0 Q S G a := by
  unfold wp_X9_neighbour_0
  rintro _ rfl
  have h1 := h.thr 0
  have z1 : mst S 0 0 0 0 0 = 0 := ms_same _ _ _ _
  generalize mst S 0 0 0 = S1 at h1 z1 ⊢
  refine x9_thing (fun ok => rt_right1 z1 (bf2 (by decide) ?_)) (fun ok => rt_right0 z1 (by decide) (bt2 rfl (no ok _ (h1.thr 1) (ms_same _ _ _ _))))
  obtain ⟨g, hg, rfl⟩ := okN_of ok (by decide)
  have hw := h1.2.2.2.1
  obtain ⟨q1, q2, q3⟩ := h1.2.2.2.2.2.2.1 g hg
  have hwl := wwn_le (most := 12) (w := M 2) (n := M 1 0)
  have h40 := hw.1
  have e1 := h1.g 1 0
  have e16 := h1.g 16 g
  have cg : (nI g).toNatClampNeg = g := n_cl (by omega)
  -- the search from any begin of the flag
  have out0 : ¬ okNb M g → wp_X9_neighbour_161 Q S1 G (nI g) 0 := by
    intro hn
    unfold wp_X9_neighbour_161
    refine bt1 rfl ?_
    unfold wp_X9_neighbour_239
    rintro _ rfl
    exact bt1 rfl (none g hg rfl hn _ (h1.put 1 0 0 (by decide) h1.2.2.2.w0) (by rw [ms_out _ _ _ _ _ (by decide)]; exact z1))
  have out1 : okNb M g → wp_X9_neighbour_161 Q S1 G (nI g) 1 := by
    intro ok
    obtain ⟨o1, o2, o3⟩ := id ok
    obtain ⟨n1, n2, n3⟩ := wwn_one.mp o1
    unfold wp_X9_neighbour_161
    refine bf1 (by decide) ⟨n_in hg (by decide), ?_⟩
    rw [cg, e16]
    rintro _ rfl
    refine pk_loop (σ := mS) (fun n9 i s => wp_X9_neighbour_175 Q n9 s G (nI g) 1 (nI (M 16 g)) (nI i)) (fun i s => rS (mf M 14 (fb_put (M 14) (M 2) (96 * g + 12 * M 16 g) i)) s ∧ s 5 0 = mn ∧ s 0 0 = 0) (M 1 0) 0 S1 (Nat.zero_le _) ⟨?_, h1.2.2.1, z1⟩ ?_ ?_
    · rw [fb_put_0, mf_self]; exact h1.1
    · rintro n9 s ⟨hs, hs5, hs0⟩
      have f1 : s 1 0 = nI (M 1 0) := by rw [hs 1 rfl, mf_n (by decide)]
      have f16 : s 16 g = nI (M 16 g) := by rw [hs 16 rfl, mf_n (by decide)]
      have e8 : (8 : Int32) * nI g + nI (M 16 g) = nI (8 * g + M 16 g) := (congrArg (· + nI (M 16 g)) (pk_mul 8 g)).trans (nI_add _ _)
      unfold wp_X9_neighbour_175
      refine bt1 ((i_le _ _ (hx := f1)).mpr (Nat.le_refl _)) ?_
      unfold wp_X9_neighbour_214
      rw [e8, n_cl (show 8 * g + M 16 g < _ by omega), cg, f1]
      refine ⟨n_in (by omega) (by decide), ?_⟩
      rintro _ rfl
      refine ⟨n_in hg (by decide), n_in hg (by decide), ?_⟩
      rintro _ rfl
      unfold wp_X9_neighbour_239
      rintro _ rfl
      rw [ms_out _ _ _ _ _ (show (16 : Nat) ≠ 15 by decide), f16, nI_1]
      refine bf1 (by decide) ⟨n_in hg (by decide), ?_⟩
      rw [cg, ms_out _ _ _ _ _ (show (16 : Nat) ≠ 1 by decide), ms_same]
      refine yes g hg rfl ok _ ⟨((hs.put 15 (8 * g + M 16 g) (M 1 0)).put 16 g (M 16 g + 1)).put 1 0 0, h1.2.1, ?_, aNb_MI h1.2.2.2 hg ok⟩ ?_
      · rw [ms_out _ _ _ _ _ (by decide), ms_out _ _ _ _ _ (by decide), ms_out _ _ _ _ _ (by decide)]; exact hs5
      · rw [ms_out _ _ _ _ _ (by decide), ms_out _ _ _ _ _ (by decide), ms_out _ _ _ _ _ (by decide)]; exact hs0
    · rintro n9 i s hi ⟨hs, hs5, hs0⟩ ih
      have f1 : s 1 0 = nI (M 1 0) := by rw [hs 1 rfl, mf_n (by decide)]
      have f2 : s 2 i = nI (M 2 i) := by rw [hs 2 rfl, mf_n (by decide)]
      have e96 : (96 : Int32) * nI g + (12 : Int32) * nI (M 16 g) + nI i = nI (96 * g + 12 * M 16 g + i) := by
        rw [show (96 : Int32) * nI g = nI (96 * g) from pk_mul 96 g, show (12 : Int32) * nI (M 16 g) = nI (12 * M 16 g) from pk_mul 12 _, nI_add, nI_add]
      unfold wp_X9_neighbour_175
      rw [e96, n_cl (show i < _ by omega), n_cl (show 96 * g + 12 * M 16 g + i < _ by omega), f2]
      refine bf1 (by rw [i_le (M 1 0) i (hx := f1)]; omega) ⟨n_in (by omega) (by decide), n_in (by omega) (by decide), ?_⟩
      rintro _ rfl
      rintro _ rfl
      rw [nI_1]
      refine ih _ ⟨?_, by rw [ms_out _ _ _ _ _ (by decide)]; exact hs5, by rw [ms_out _ _ _ _ _ (by decide)]; exact hs0⟩
      have := hs.put 14 (96 * g + 12 * M 16 g + i) (M 2 i)
      rw [mf_put rfl] at this
      exact this
  have mt : Nat → Prop := fun i => M 15 (8 * g + i) = M 1 0 ∧ ∀ k, k < M 1 0 → M 14 (96 * g + 12 * i + k) = M 2 k
  have search : ∀ s : Int32, (s = 1 ∧ wwn 12 (M 2) (M 1 0) = 1 ∧ M 16 g < 8 ∨ s = 0 ∧ ¬ okNb M g) → wp_X9_neighbour_45 Q S1 G (nI g) s := by
    intro s0 hs0
    unfold wp_X9_neighbour_45
    refine pk_loop (σ := Int32) (fun n9 i s => wp_X9_neighbour_48 Q n9 S1 G (nI g) s (nI i)) (fun i s => (s = 1 ∧ (wwn 12 (M 2) (M 1 0) = 1 ∧ M 16 g < 8) ∧ ∀ j, j < i → ¬ (M 15 (8 * g + j) = M 1 0 ∧ ∀ k, k < M 1 0 → M 14 (96 * g + 12 * j + k) = M 2 k)) ∨ (s = 0 ∧ ¬ okNb M g)) (M 16 g) 0 s0 (Nat.zero_le _) ?_ ?_ ?_
    · rcases hs0 with ⟨a1, a2⟩ | a1
      · exact Or.inl ⟨a1, a2, fun j hj => absurd hj (Nat.not_lt_zero j)⟩
      · exact Or.inr a1
    · rintro n9 s hI
      unfold wp_X9_neighbour_48
      rw [cg]
      refine ⟨n_in hg (by decide), bt1 ((i_le _ _ (hx := e16)).mpr (Nat.le_refl _)) ?_⟩
      rcases hI with ⟨rfl, a2, a3⟩ | ⟨rfl, a2⟩
      · exact out1 ⟨a2.1, a2.2, fun ⟨j, hj, hm⟩ => a3 j hj hm⟩
      · exact out0 a2
    · rintro n9 i s hi hI ih
      unfold wp_X9_neighbour_48
      rw [cg]
      refine ⟨n_in hg (by decide), bf1 (by rw [i_le (M 16 g) i (hx := e16)]; omega) ?_⟩
      rcases hI with ⟨rfl, a2, a3⟩ | ⟨rfl, a2⟩
      rotate_left
      · exact bt1 rfl (out0 a2)
      · refine bf1 (by decide) ?_
        have e8 : (8 : Int32) * nI g + nI i = nI (8 * g + i) := (congrArg (· + nI i) (pk_mul 8 g)).trans (nI_add _ _)
        obtain ⟨n1, n2, n3⟩ := wwn_one.mp a2.1
        have h12 := (q2 i hi).2.1
        have done : ∀ x : Int32, (x = 1 ∧ (M 15 (8 * g + i) = M 1 0 ∧ ∀ k, k < M 1 0 → M 14 (96 * g + 12 * i + k) = M 2 k) ∨ x = 0 ∧ ¬ (M 15 (8 * g + i) = M 1 0 ∧ ∀ k, k < M 1 0 → M 14 (96 * g + 12 * i + k) = M 2 k)) → wp_X9_neighbour_144 Q (wp_X9_neighbour_48 Q n9) S1 G (nI g) (nI i) x := by
          intro x hx
          unfold wp_X9_neighbour_144 wp_X9_neighbour_154
          rcases hx with ⟨rfl, hm⟩ | ⟨rfl, hm⟩
          · refine bf2 (by decide) ?_
            rintro _ rfl
            rw [nI_1]
            exact ih 0 (Or.inr ⟨rfl, fun ok => ok.2.2 ⟨i, hi, hm⟩⟩)
          · refine bt2 rfl ?_
            rintro _ rfl
            rw [nI_1]
            exact ih 1 (Or.inl ⟨rfl, a2, lt_s a3 hm⟩)
        have inner : ∀ x : Int32, (x = 1 ∧ M 15 (8 * g + i) = M 1 0 ∨ x = 0 ∧ ¬ M 15 (8 * g + i) = M 1 0) → wp_X9_neighbour_85 Q (wp_X9_neighbour_48 Q n9) S1 G (nI g) (nI i) x := by
          intro x hx
          unfold wp_X9_neighbour_85
          refine pk_loop (σ := Int32) (fun n8 k y => wp_X9_neighbour_90 Q (wp_X9_neighbour_48 Q n9) n8 S1 G (nI g) (nI i) y (nI k)) (fun k y => (y = 1 ∧ M 15 (8 * g + i) = M 1 0 ∧ ∀ j, j < k → M 14 (96 * g + 12 * i + j) = M 2 j) ∨ (y = 0 ∧ ¬ (M 15 (8 * g + i) = M 1 0 ∧ ∀ k, k < M 1 0 → M 14 (96 * g + 12 * i + k) = M 2 k))) (M 1 0) 0 x (Nat.zero_le _) ?_ ?_ ?_
          · rcases hx with ⟨b1, b2⟩ | ⟨b1, b2⟩
            · exact Or.inl ⟨b1, b2, fun j hj => absurd hj (Nat.not_lt_zero j)⟩
            · exact Or.inr ⟨b1, fun h9 => b2 h9.1⟩
          · rintro n8 y hy
            unfold wp_X9_neighbour_90
            refine bt1 ((i_le _ _ (hx := e1)).mpr (Nat.le_refl _)) (done y ?_)
            rcases hy with hy | hy
            · exact Or.inl hy
            · exact Or.inr hy
          · rintro n8 k y hk hy kh
            unfold wp_X9_neighbour_90
            refine bf1 (by rw [i_le (M 1 0) k (hx := e1)]; omega) ?_
            rcases hy with ⟨rfl, b2, b3⟩ | ⟨rfl, b2⟩
            rotate_left
            · exact bt1 rfl (done 0 (Or.inr ⟨rfl, b2⟩))
            · refine bf1 (by decide) ?_
              have e96 : (96 : Int32) * nI g + (12 : Int32) * nI i + nI k = nI (96 * g + 12 * i + k) := by
                rw [show (96 : Int32) * nI g = nI (96 * g) from pk_mul 96 g, show (12 : Int32) * nI i = nI (12 * i) from pk_mul 12 _, nI_add, nI_add]
              have l14 := ((q2 i hi).2.2 k (by omega)).2
              have l2 := hw.2 k
              rw [e96, n_cl (show 96 * g + 12 * i + k < _ by omega), n_cl (show k < _ by omega), h1.g 14 (96 * g + 12 * i + k), h1.g 2 k]
              refine ⟨n_in (by omega) (by decide), n_in (by omega) (by decide), bn (i_eq _ _) (fun he => ?_) (fun he => ?_)⟩
              · unfold wp_X9_neighbour_136
                rintro _ rfl
                rw [nI_1]
                exact kh 1 (Or.inl ⟨rfl, b2, lt_s b3 he⟩)
              · unfold wp_X9_neighbour_136
                rintro _ rfl
                rw [nI_1]
                exact kh 0 (Or.inr ⟨rfl, fun h9 => he (h9.2 k hk)⟩)
        rw [e8, n_cl (show 8 * g + i < _ by omega), h1.g 15 (8 * g + i), e1]
        refine ⟨n_in (by omega) (by decide), bn (i_eq _ _) (fun he => inner 1 (Or.inl ⟨rfl, he⟩)) (fun he => inner 0 (Or.inr ⟨rfl, he⟩))⟩
  refine rt_ww h1 12 (by decide) ?_
  refine bn (i_eq _ 1) (fun hk => ⟨n_in hg (by decide), ?_⟩) (fun hk => ?_)
  · rw [cg, e16]
    refine bq (i_le 8 (M 16 g)) (fun h8 => ?_) (fun h8 => search 1 (Or.inl ⟨rfl, hk, by omega⟩))
    unfold wp_X9_neighbour_44
    exact search 0 (Or.inr ⟨rfl, fun o => by have := o.2.1; omega⟩)
  · unfold wp_X9_neighbour_44
    exact search 0 (Or.inr ⟨rfl, fun o => hk o.1⟩)
end RN
