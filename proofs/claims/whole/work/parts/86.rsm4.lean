/-! pure: the reference's small calls, fourth part -/
/-- things of terms told as bits -/
def thI (M : mN) (N : Int64) : Nat → Int64
  | 0 => 0
  | k + 1 => if tb N k then thI M N k ||| ((1 : Int64) <<< ((nI (M 11 k)).toInt64 &&& 63)) else thI M N k
theorem thI_in {M : mN} {D : Nat → Int64} (h : MI M D) {N : Int64} : ∀ {k : Nat}, k ≤ M 4 0 → ∀ {g : Nat}, (tb (thI M N k) g = true ↔ ∃ t, t < k ∧ tb N t = true ∧ M 11 t = g)
  | 0, _, g => by rw [thI, tb_0]; exact ⟨fun h => absurd h (by decide), fun ⟨t, h1, _⟩ => absurd h1 (Nat.not_lt_zero t)⟩
  | k + 1, hk, g => by
    have ih := thI_in h (N := N) (k := k) (by omega) (g := g)
    have h40 := (h.2.2.1.2 k (by omega)).2.2.2.2.1
    rw [thI]
    by_cases hn : tb N k = true
    · rw [if_pos hn, tb_set (by omega), Bool.or_eq_true, decide_eq_true_eq, ih]
      constructor
      · rintro (⟨t, h1, h2⟩ | e)
        · exact ⟨t, by omega, h2⟩
        · exact ⟨k, Nat.lt_succ_self k, hn, e.symm⟩
      · rintro ⟨t, h1, h2, h3⟩
        by_cases e : t = k
        · subst e; exact Or.inr h3.symm
        · exact Or.inl ⟨t, by omega, h2, h3⟩
    · rw [if_neg hn, ih]
      constructor
      · rintro ⟨t, h1, h2⟩; exact ⟨t, by omega, h2⟩
      · rintro ⟨t, h1, h2, h3⟩
        by_cases e : t = k
        · subst e; exact absurd h2 hn
        · exact ⟨t, by omega, h2, h3⟩
theorem thI_lo {M : mN} {D : Nat → Int64} (h : MI M D) {N : Int64} {k : Nat} (hk : k ≤ M 4 0) : lo40 (thI M N k) := by
  intro g hg
  apply Bool.eq_false_iff.mpr
  intro h9
  obtain ⟨t, h1, h2, h3⟩ := (thI_in h hk).mp h9
  have := (h.2.2.1.2 t (by omega)).2.2.2.2.1
  omega
def aTot (M : mN) (mn : Int32) (k : Nat) : Int32 := if k = 0 then nI (M 3 0) else if k = 1 then nI (M 4 0) else if k = 2 then nI (M 1 0) else if k = 3 then nI (fb_ct (tb (thI M (-1) (M 4 0))) 40) else mn
section RS4
variable {M : mN} {D : Nat → Int64} {mn : Int32} {S : mS} {G : mG}
theorem rt_total {Q : Int32 → mS → mG → Prop} (h : RI M D mn S G) (a : Int32) (yes : ∀ k, k < 5 → a = nI k → ∀ S' : mS, RI M D mn S' G → S' 0 0 = 0 → Q (aTot M mn k) S' G) (no : ¬ okN a 5 → ∀ S' : mS, RI M D mn S' G → S' 0 0 = 1 → Q 0 S' G) : wp_X9_total_0 Q S G a := by
  unfold wp_X9_total_0
  rintro _ rfl
  have h1 := h.thr 0
  have z1 : mst S 0 0 0 0 0 = 0 := ms_same _ _ _ _
  generalize mst S 0 0 0 = S1 at h1 z1 ⊢
  have bad : ¬ okN a 5 → wp_X9_total_19 Q S1 G a := by
    intro hn
    unfold wp_X9_total_19 wp_X9_total_20
    exact rt_right0 z1 (by decide) (bt2 rfl (no hn _ (h1.thr 1) (ms_same _ _ _ _)))
  have e4 : (nI 5).toInt = 5 := rfl
  have e3 : (4 : Int32).toInt = 4 := rfl
  refine ⟨fun h9 => bad (fun o => o.1 h9), fun h9 => ⟨fun h8 => bad (fun o => ?_), fun h8 => ?_⟩⟩
  · rw [fa_lt] at h8
    have := o.2
    rw [fa_lt] at this
    omega
  · have o : okN a 5 := ⟨h9, by rw [fa_lt]; rw [fa_lt] at h8; omega⟩
    obtain ⟨k, hk, rfl⟩ := okN_of o (by decide)
    have hy := yes k hk rfl S1 h1 z1
    have hb := h1.2.2.2.2.2.1.1
    unfold wp_X9_total_20
    refine rt_right1 z1 (bf2 (by decide) ?_)
    have hk5 : k = 0 ∨ k = 1 ∨ k = 2 ∨ k = 3 ∨ k = 4 := by omega
    refine ⟨fun e => ?_, fun e => ?_, fun e => ?_, fun e => ?_, fun q0 q1 q2 q3 => ?_⟩
    · have e := (i_eq k 0).mp e; subst e; rw [h1.g 3 0]; exact hy
    · have e := (i_eq k 1).mp e; subst e; rw [h1.g 4 0]; exact hy
    · have e := (i_eq k 2).mp e; subst e; rw [h1.g 1 0]; exact hy
    · have e := (i_eq k 3).mp e; subst e
      refine pk_loop (σ := Unit) (fun n9 i _ => wp_X9_total_80 Q n9 S1 G (thI M (-1) i) (nI i)) (fun _ _ => True) (M 4 0) 0 () (Nat.zero_le _) trivial ?_ ?_
      · intro n9 _ _
        unfold wp_X9_total_80
        refine bt1 ((i_le _ _ (hx := h1.g 4 0)).mpr (Nat.le_refl _)) ?_
        unfold wp_X9_total_107
        refine pk_loop (σ := Unit) (fun n9 i _ => wp_X9_total_113 Q n9 S1 G (thI M (-1) (M 4 0)) (nI (fb_ct (tb (thI M (-1) (M 4 0))) i)) (nI i)) (fun _ _ => True) 40 0 () (Nat.zero_le _) trivial ?_ ?_
        · intro n8 _ _
          unfold wp_X9_total_113
          exact bt1 (by decide) hy
        · intro n8 i _ hi _ ih
          have es := fb_ct_succ (tb (thI M (-1) (M 4 0))) i
          unfold wp_X9_total_113
          refine bf1 (by rw [i_le 40 i]; omega) (bn (tb_c1 (by omega)) (fun ht => ?_) (fun ht => ?_))
          · rw [if_pos ht] at es
            rintro _ rfl
            unfold wp_X9_total_134
            rintro _ rfl
            rw [nI_1, nI_1, ← es]
            exact ih () trivial
          · rw [if_neg ht] at es
            unfold wp_X9_total_134
            rintro _ rfl
            rw [nI_1]
            have := ih () trivial
            rw [es] at this
            exact this
      · intro n9 i _ hi _ ih
        have ei : thI M (-1) (i + 1) = if tb (-1) i then thI M (-1) i ||| ((1 : Int64) <<< ((nI (M 11 i)).toInt64 &&& 63)) else thI M (-1) i := rfl
        rw [tb_m1 (by omega)] at ei
        unfold wp_X9_total_80
        refine bf1 (by rw [i_le (M 4 0) i (hx := h1.g 4 0)]; omega) ⟨n_in (by omega) (by decide), ?_⟩
        rw [n_cl (by omega), h1.g 11 i]
        rintro _ rfl
        rintro _ rfl
        rw [nI_1]
        have := ih () trivial
        rw [ei] at this
        exact this
    · have e : k = 4 := by
        rcases hk5 with e | e | e | e | e
        · exact absurd (by rw [e]; rfl) q0
        · exact absurd (by rw [e]; rfl) q1
        · exact absurd (by rw [e]; rfl) q2
        · exact absurd (by rw [e]; rfl) q3
        · exact e
      subst e; rw [h1.2.2.1]; exact hy
theorem rt_lay1 {Q : mS → mG → Prop} {x k n : Nat} {v : Int32} (h : RI M D mn S G) (hx : x < 8) (hn : M 20 x < 600) (hk : k ≤ 24) (hQ : ∀ S' : mS, RI (wrB M x (byN v k)) D mn S' G → S' 0 0 = S 0 0 → wp_X9_lays_3 Q n S' G (nI x) v (nI k + (-8))) : wp_X9_lays_3 Q (n + 1) S G (nI x) v (nI k) := by
  unfold wp_X9_lays_3
  have e20 : S 20 x = nI (M 20 x) := h.g 20 x
  have ei : (600 : Int32) * nI x + nI (M 20 x) = nI (600 * x + M 20 x) := (congrArg (· + nI (M 20 x)) (pk_mul 600 x)).trans (nI_add _ _)
  obtain ⟨b1, b2⟩ := byN_ok v k
  rw [n_cl (show x < _ by omega), e20, ei, n_cl (by omega), b2]
  refine bf1 (n_lt0 (by omega)) ⟨n_in hx (by decide), n_in (by omega) (by decide), ?_⟩
  rintro _ rfl
  refine ⟨n_in hx (by decide), n_in hx (by decide), ?_⟩
  rintro _ rfl
  rintro _ rfl
  rw [ms_out _ _ _ _ _ (show (20 : Nat) ≠ 19 by decide), e20, nI_1]
  refine hQ _ ⟨(h.1.put 19 (600 * x + M 20 x) (byN v k)).put 20 x (M 20 x + 1), h.2.1, ?_, wrB_MI h.2.2.2 hx hn b1⟩ ?_
  · rw [ms_out _ _ _ _ _ (by decide), ms_out _ _ _ _ _ (by decide)]; exact h.2.2.1
  · rw [ms_out _ _ _ _ _ (by decide), ms_out _ _ _ _ _ (by decide)]
theorem rt_lays {Q : mS → mG → Prop} {x : Nat} {v : Int32} (h : RI M D mn S G) (hx : x < 8) (hn : M 20 x + 4 ≤ 600) (hQ : ∀ S' : mS, RI (wr4 M x v) D mn S' G → S' 0 0 = S 0 0 → Q S' G) : wp_X9_lays_0 Q S G (nI x) v := by
  unfold wp_X9_lays_0
  refine ⟨5, rt_lay1 (k := 24) h hx (by omega) (by decide) (fun S1 h1 z1 => ?_)⟩
  rw [show nI 24 + (-8) = nI 16 by decide]
  refine rt_lay1 (k := 16) h1 hx (by rw [wrB_20]; omega) (by decide) (fun S2 h2 z2 => ?_)
  rw [show nI 16 + (-8) = nI 8 by decide]
  refine rt_lay1 (k := 8) h2 hx (by rw [wrB_20, wrB_20]; omega) (by decide) (fun S3 h3 z3 => ?_)
  rw [show nI 8 + (-8) = nI 0 by decide]
  refine rt_lay1 (k := 0) h3 hx (by rw [wrB_20, wrB_20, wrB_20]; omega) (by decide) (fun S4 h4 z4 => ?_)
  unfold wp_X9_lays_3
  exact bt1 (by decide) (hQ S4 h4 (by rw [z4, z3, z2, z1]))
def wr20 (M : mN) (x : Nat) (a b c d e : Int32) : mN := wr4 (wr4 (wr4 (wr4 (wr4 M x a) x b) x c) x d) x e
theorem rt_write {Q : Int32 → mS → mG → Prop} (h : RI M D mn S G) (t a b c d e : Int32) (yes : ∀ x, x < 8 → t = nI x → M 20 x + 20 ≤ 600 → ∀ S' : mS, RI (wr20 M x a b c d e) D mn S' G → S' 0 0 = 0 → Q (nI (M 20 x + 20)) S' G) (full : ∀ x, x < 8 → t = nI x → ¬ M 20 x + 20 ≤ 600 → ∀ S' : mS, RI M D mn S' G → S' 0 0 = 0 → Q (-1) S' G) (no : ¬ okN t 8 → ∀ S' : mS, RI M D mn S' G → S' 0 0 = 1 → Q 0 S' G) : wp_X9_write_0 Q S G t a b c d e := by
  unfold wp_X9_write_0
  refine rt_isText h t (fun ok S1 h1 z1 => bf2 (by decide) ?_) (fun ok S1 h1 z1 => bt2 rfl (no ok S1 h1 z1))
  obtain ⟨x, hx, rfl⟩ := okN_of ok (by decide)
  have hb := (h1.2.2.2.2.2.2.2.2 x hx).1
  refine ⟨n_in hx (by decide), ?_⟩
  rw [n_cl (by omega), h1.g 20 x]
  refine bq (i_le (M 20 x + 20) 600 (hx := nI_add _ 20)) (fun h20 => ?_) (fun h20 => full x hx rfl h20 S1 h1 z1)
  refine rt_lays h1 hx (by omega) (fun S2 h2 z2 => rt_lays h2 hx (by rw [wr4_20]; omega) (fun S3 h3 z3 => rt_lays h3 hx (by rw [wr4_20, wr4_20]; omega) (fun S4 h4 z4 => rt_lays h4 hx (by rw [wr4_20, wr4_20, wr4_20]; omega) (fun S5 h5 z5 => rt_lays h5 hx (by rw [wr4_20, wr4_20, wr4_20, wr4_20]; omega) (fun S6 h6 z6 => ⟨n_in hx (by decide), ?_⟩)))))
  rw [h6.g 20 x, wr4_20, wr4_20, wr4_20, wr4_20, wr4_20]
  exact yes x hx rfl h20 S6 h6 (by rw [z6, z5, z4, z3, z2, z1])
theorem c20_MI (h : MI M D) {x n : Nat} (hn : n ≤ M 20 x) : MI (ad2 M 20 x n) D := by
  obtain ⟨m1, m2, m3, m4, m5, m6⟩ := h
  have e : ∀ a, a ≠ 20 → ad2 M 20 x n a = M a := fun a ha => ad2_f ha
  refine ⟨miW_c (e 1 (by decide)) (e 2 (by decide)) m1, miE_c (e 3 (by decide)) (e 6 (by decide)) (e 7 (by decide)) m2, miT_c (e 4 (by decide)) (e 8 (by decide)) (e 9 (by decide)) (e 10 (by decide)) (e 11 (by decide)) (e 12 (by decide)) (e 13 (by decide)) m3, miN_c (e 14 (by decide)) (e 15 (by decide)) (e 16 (by decide)) m4, miD_c (e 18 (by decide)) m5, fun y hy => ?_⟩
  obtain ⟨q1, q2⟩ := m6 y hy
  rw [e 19 (by decide)]
  by_cases ey : y = x
  · subst ey; rw [ad2_s]; exact ⟨by omega, fun k hk => q2 k (by omega)⟩
  · rw [ad2_i ey]; exact ⟨q1, q2⟩
theorem rt_cut {Q : Int32 → mS → mG → Prop} (h : RI M D mn S G) (t a : Int32) (yes : ∀ x n, x < 8 → n ≤ M 20 x → t = nI x → a = nI n → ∀ S' : mS, RI (ad2 M 20 x n) D mn S' G → S' 0 0 = 0 → Q (nI (M 20 x - n)) S' G) (none : ∀ x, x < 8 → t = nI x → ¬ (¬ a < 0 ∧ a ≤ nI (M 20 x)) → ∀ S' : mS, RI M D mn S' G → S' 0 0 = 0 → Q (-1) S' G) (no : ¬ okN t 8 → ∀ S' : mS, RI M D mn S' G → S' 0 0 = 1 → Q 0 S' G) : wp_X9_cut_0 Q S G t a := by
  unfold wp_X9_cut_0
  refine rt_isText h t (fun ok S1 h1 z1 => bf2 (by decide) ?_) (fun ok S1 h1 z1 => bt2 rfl (no ok S1 h1 z1))
  obtain ⟨x, hx, rfl⟩ := okN_of ok (by decide)
  have hb := (h1.2.2.2.2.2.2.2.2 x hx).1
  refine ⟨fun h9 => none x hx rfl (fun o => o.1 h9) S1 h1 z1, fun h9 => ⟨n_in hx (by decide), ?_⟩⟩
  rw [n_cl (by omega), h1.g 20 x]
  refine ⟨fun h8 => ⟨n_in hx (by decide), ?_⟩, fun h8 => none x hx rfl (fun o => h8 o.2) S1 h1 z1⟩
  obtain ⟨n, hn, rfl⟩ := n_of h9
  have hn2 : n ≤ M 20 x := (n_le hn (by omega)).mp h8
  rintro _ rfl
  refine ⟨n_in hx (by decide), ?_⟩
  rintro _ rfl
  rw [n_sub hn2]
  refine yes x n hx hn2 rfl rfl _ (h1.put 20 x n (by decide) (c20_MI h1.2.2.2 hn2)) ?_
  rw [ms_out _ _ _ _ _ (by decide)]; exact z1
theorem rt_byteAt {Q : Int32 → mS → mG → Prop} (h : RI M D mn S G) (t a : Int32) (size : ∀ x, x < 8 → t = nI x → a = -1 → ∀ S' : mS, RI M D mn S' G → S' 0 0 = 0 → Q (nI (M 20 x)) S' G) (yes : ∀ x k, x < 8 → k < M 20 x → t = nI x → a = nI k → ∀ S' : mS, RI M D mn S' G → S' 0 0 = 0 → Q (nI (M 19 (600 * x + k))) S' G) (none : ∀ x, x < 8 → t = nI x → ¬ a = -1 → ¬ okN a (M 20 x) → ∀ S' : mS, RI M D mn S' G → S' 0 0 = 2 → Q 0 S' G) (no : ¬ okN t 8 → ∀ S' : mS, RI M D mn S' G → S' 0 0 = 1 → Q 0 S' G) : wp_X9_byteAt_0 Q S G t a := by
  unfold wp_X9_byteAt_0
  refine rt_isText h t (fun ok S1 h1 z1 => bf1 (by decide) ?_) (fun ok S1 h1 z1 => bt1 rfl (no ok S1 h1 z1))
  obtain ⟨x, hx, rfl⟩ := okN_of ok (by decide)
  have hb := (h1.2.2.2.2.2.2.2.2 x hx).1
  have e0 : (0 : Int32).toInt = 0 := rfl
  have bad : ¬ a = -1 → ¬ okN a (M 20 x) → wp_X9_byteAt_28 Q S1 G (nI x) a := by
    intro hn hn2
    unfold wp_X9_byteAt_28 wp_X9_byteAt_29
    exact rt_right0 z1 (by decide) (bt2 rfl (none x hx rfl hn hn2 _ (h1.thr 2) (ms_same _ _ _ _)))
  refine ⟨fun h9 => bad (fun e => by rw [e] at h9; exact absurd h9 (by decide)) (fun o => ?_), fun h9 => ⟨n_in hx (by decide), ?_⟩⟩
  · have := o.1
    rw [fa_lt, nm1] at h9
    rw [fa_lt] at this
    omega
  · rw [n_cl (by omega), h1.g 20 x]
    have ei : (600 : Int32) * nI x = nI (600 * x) := pk_mul 600 x
    refine ⟨fun h8 => bad (fun e => ?_) (fun o => ?_), fun h8 => ?_⟩
    · rw [e] at h8; exact n_le_m1 (by omega) h8
    · have := o.2
      rw [fa_le] at h8
      rw [fa_lt] at this
      omega
    · unfold wp_X9_byteAt_29
      refine rt_right1 z1 (bf2 (by decide) ?_)
      rw [ei]
      by_cases e : a = -1
      · refine bt2 e ⟨n_in hx (by decide), ?_⟩
        rw [n_cl (by omega), h1.g 20 x]
        exact size x hx rfl e S1 h1 z1
      · have hnn : ¬ a < 0 := by
          intro h7
          rw [fa_lt] at h7
          rw [fa_lt, nm1] at h9
          rw [fa_eq, nm1] at e
          omega
        obtain ⟨k, hk, rfl⟩ := n_of hnn
        have hk2 : k < M 20 x := by
          apply Classical.byContradiction
          intro h7
          exact h8 (nI_le (by omega) hk)
        rw [nI_add]
        refine bf2 e ⟨n_in (by omega) (by decide), ?_⟩
        rw [n_cl (by omega), h1.g 19 (600 * x + k)]
        exact yes x k hx hk2 rfl rfl S1 h1 z1
/-- neighbours: one more -/
abbrev dupN (M : mN) (g : Nat) : Prop := ∃ i, i < M 16 g ∧ M 15 (8 * g + i) = M 1 0 ∧ ∀ k, k < M 1 0 → M 14 (96 * g + 12 * i + k) = M 2 k
def okNb (M : mN) (g : Nat) : Prop := wwn 12 (M 2) (M 1 0) = 1 ∧ M 16 g < 8 ∧ ¬ dupN M g
def aNb (M : mN) (g : Nat) : mN := ad2 (ad2 (ad2 (mf M 14 (fb_put (M 14) (M 2) (96 * g + 12 * M 16 g) (M 1 0))) 15 (8 * g + M 16 g) (M 1 0)) 16 g (M 16 g + 1)) 1 0 0
theorem aNb_f {a g : Nat} (h1 : a ≠ 1) (h14 : a ≠ 14) (h15 : a ≠ 15) (h16 : a ≠ 16) : aNb M g a = M a := by unfold aNb; rw [ad2_f h1, ad2_f h16, ad2_f h15, mf_n h14]
theorem aNb_1 {g : Nat} : aNb M g 1 0 = 0 := by unfold aNb; rw [ad2_s]
theorem aNb_16 {g h : Nat} : aNb M g 16 h = if h = g then M 16 g + 1 else M 16 h := by
  unfold aNb; rw [ad2_f (by decide)]
  by_cases e : h = g
  · rw [if_pos e, e, ad2_s]
  · rw [if_neg e, ad2_i e, ad2_f (by decide), mf_n (by decide)]
theorem aNb_15 {g j : Nat} : aNb M g 15 j = if j = 8 * g + M 16 g then M 1 0 else M 15 j := by
  unfold aNb; rw [ad2_f (by decide), ad2_f (by decide)]
  by_cases e : j = 8 * g + M 16 g
  · rw [if_pos e, e, ad2_s]
  · rw [if_neg e, ad2_i e, mf_n (by decide)]
theorem aNb_14 {g j : Nat} : aNb M g 14 j = fb_put (M 14) (M 2) (96 * g + 12 * M 16 g) (M 1 0) j := by unfold aNb; rw [ad2_f (by decide), ad2_f (by decide), ad2_f (by decide), mf_s]
theorem aNb_new {g k : Nat} (hk : k < M 1 0) : aNb M g 14 (96 * g + 12 * M 16 g + k) = M 2 k := by rw [aNb_14, fb_put_in (by omega) (by omega)]; congr 1; omega
theorem aNb_old {g h i k : Nat} (h12 : M 1 0 ≤ 12) (hg : M 16 g < 8) (hi : i < 8) (hk : k < 12) (hne : ¬ (h = g ∧ i = M 16 g)) : aNb M g 14 (96 * h + 12 * i + k) = M 14 (96 * h + 12 * i + k) := by rw [aNb_14, fb_put_out (by omega)]
theorem aNb_MI (h : MI M D) {g : Nat} (hg : g < 40) (ok : okNb M g) : MI (aNb M g) D := by
  obtain ⟨m1, m2, m3, m4, m5, m6⟩ := h
  obtain ⟨o1, o2, o3⟩ := ok
  obtain ⟨n1, n2, n3⟩ := wwn_one.mp o1
  have e : ∀ a, a ≠ 1 → a ≠ 14 → a ≠ 15 → a ≠ 16 → aNb M g a = M a := fun a => aNb_f
  refine ⟨⟨by rw [aNb_1]; omega, fun k => by rw [e 2 (by decide) (by decide) (by decide) (by decide)]; exact m1.2 k⟩, miE_c (e 3 (by decide) (by decide) (by decide) (by decide)) (e 6 (by decide) (by decide) (by decide) (by decide)) (e 7 (by decide) (by decide) (by decide) (by decide)) m2, miT_c (e 4 (by decide) (by decide) (by decide) (by decide)) (e 8 (by decide) (by decide) (by decide) (by decide)) (e 9 (by decide) (by decide) (by decide) (by decide)) (e 10 (by decide) (by decide) (by decide) (by decide)) (e 11 (by decide) (by decide) (by decide) (by decide)) (e 12 (by decide) (by decide) (by decide) (by decide)) (e 13 (by decide) (by decide) (by decide) (by decide)) m3, ?_, miD_c (e 18 (by decide) (by decide) (by decide) (by decide)) m5, miX_c (e 19 (by decide) (by decide) (by decide) (by decide)) (e 20 (by decide) (by decide) (by decide) (by decide)) m6⟩
  intro h hh
  obtain ⟨q1, q2, q3⟩ := m4 h hh
  by_cases eh : h = g
  · subst eh
    rw [aNb_16, if_pos rfl]
    have old15 : ∀ i, i < M 16 h → aNb M h 15 (8 * h + i) = M 15 (8 * h + i) := fun i hi => by rw [aNb_15, if_neg (by omega)]
    have new15 : aNb M h 15 (8 * h + M 16 h) = M 1 0 := by rw [aNb_15, if_pos rfl]
    have old14 : ∀ i k, i < M 16 h → k < 12 → aNb M h 14 (96 * h + 12 * i + k) = M 14 (96 * h + 12 * i + k) := fun i k hi hk => aNb_old n2 o2 (by omega) hk (by omega)
    refine ⟨by omega, fun i hi => ?_, fun i j hi hj e1 e2 => ?_⟩
    · by_cases ei : i = M 16 h
      · subst ei
        rw [new15]
        exact ⟨n1, n2, fun k hk => by rw [aNb_new hk]; exact ⟨n3 k hk, m1.2 k⟩⟩
      · rw [old15 i (by omega)]
        obtain ⟨r1, r2, r3⟩ := q2 i (by omega)
        exact ⟨r1, r2, fun k hk => by rw [old14 i k (by omega) (by omega)]; exact r3 k hk⟩
    · by_cases ei : i = M 16 h
      · by_cases ej : j = M 16 h
        · omega
        · rw [ei, new15, old15 j (by omega)] at e1
          rw [ei, new15] at e2
          have := (q2 j (by omega)).2.1
          exact absurd ⟨j, by omega, e1.symm, fun k hk => by have := e2 k hk; rw [aNb_new hk, old14 j k (by omega) (by omega)] at this; exact this.symm⟩ o3
      · by_cases ej : j = M 16 h
        · rw [ej, new15, old15 i (by omega)] at e1
          rw [ej, old15 i (by omega), e1] at e2
          have := (q2 i (by omega)).2.1
          exact absurd ⟨i, by omega, e1, fun k hk => by have := e2 k hk; rw [aNb_new hk, old14 i k (by omega) (by omega)] at this; exact this⟩ o3
        · rw [old15 i (by omega), old15 j (by omega)] at e1
          rw [old15 i (by omega)] at e2
          have := (q2 i (by omega)).2.1
          exact q3 i j (by omega) (by omega) e1 (fun k hk => by have := e2 k hk; rw [old14 i k (by omega) (by omega), old14 j k (by omega) (by omega)] at this; exact this)
  · rw [aNb_16, if_neg eh]
    have old15 : ∀ i, i < M 16 h → aNb M g 15 (8 * h + i) = M 15 (8 * h + i) := fun i hi => by rw [aNb_15, if_neg (by omega)]
    have old14 : ∀ i k, i < M 16 h → k < 12 → aNb M g 14 (96 * h + 12 * i + k) = M 14 (96 * h + 12 * i + k) := fun i k hi hk => aNb_old n2 o2 (by omega) hk (by omega)
    refine ⟨q1, fun i hi => ?_, fun i j hi hj e1 e2 => ?_⟩
    · rw [old15 i hi]
      obtain ⟨r1, r2, r3⟩ := q2 i hi
      exact ⟨r1, r2, fun k hk => by rw [old14 i k hi (by omega)]; exact r3 k hk⟩
    · rw [old15 i hi, old15 j hj] at e1
      rw [old15 i hi] at e2
      have := (q2 i hi).2.1
      exact q3 i j hi hj e1 (fun k hk => by have := e2 k hk; rw [old14 i k hi (by omega), old14 j k hj (by omega)] at this; exact this)
end RS4
