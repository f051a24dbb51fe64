/-! pure: reading a text, in the reference -/
/-- the ending of the chosen term's form, by one more -/
def enU (M : mN) (x w m : Nat) : Nat := if chT M x w m = 0 then 0 else wyA M x (wpA (M 20 x) (tbx M x) w) (chT M x w m - 1) - 1
/-- the uses that the reference holds, of the words ahead of w -/
def UP (M : mN) (x w : Nat) (S : mS) : Prop := S 25 0 = nI (us M x w).2.1 ∧ ∀ i, i < (us M x w).2.1 → S 26 i = nI ((us M x w).2.2.1 i) ∧ S 27 i = nI ((us M x w).2.2.1 i + (us M x w).2.2.2 i) ∧ S 28 i = wyR (chT M x ((us M x w).2.2.1 i) ((us M x w).2.2.2 i)) ∧ S 29 i = wyR (enU M x ((us M x w).2.2.1 i) ((us M x w).2.2.2 i))
/-- the term of use i, by one more -/
def tmU (M : mN) (x i : Nat) : Nat := chT M x ((us M x (fnd (M 20 x) (tbx M x))).2.2.1 i) ((us M x (fnd (M 20 x) (tbx M x))).2.2.2 i)
def UD (M : mN) (D : Nat → Int64) (x : Nat) (S : mS) : Prop := UP M x (fnd (M 20 x) (tbx M x)) S ∧ ∀ i, i < (us M x (fnd (M 20 x) (tbx M x))).2.1 → S 30 i = nI (fdA M D (tmU M x) i)
theorem FD_out {M : mN} {x : Nat} {S : mS} (h : FD M x S) {k : Nat} (hk : 25 ≤ k) (j : Nat) (v : Int32) : FD M x (mst S k j v) := by
  refine ⟨by rw [ms_out _ _ _ _ _ (show 21 ≠ k by omega)]; exact h.1, fun i hi => ?_⟩
  rw [ms_out _ _ _ _ _ (show 22 ≠ k by omega), ms_out _ _ _ _ _ (show 23 ≠ k by omega), ms_out _ _ _ _ _ (show 24 ≠ k by omega)]
  exact h.2 i hi
theorem chT_le {M : mN} {x w m : Nat} : chT M x w m ≤ M 4 0 := by
  unfold chT
  by_cases h0 : chG M x w m = 0
  · rw [if_pos h0]; exact Nat.zero_le _
  · rw [if_neg h0]
    obtain ⟨_, h2⟩ := chs_in (pp := tmP M x (wpA (M 20 x) (tbx M x) w) m) (sc := sco M x w m) (n := 40) h0
    exact of_decide_eq_true h2
section RRD
variable {M : mN} {D : Nat → Int64} {mn : Int32} {G : mG}
/-- the most words at a word -/
theorem rt_most {Q : mS → mG → Prop} {S : mS} {k6 : mS → mG → Int32 → Int32 → Prop} (h : RI M D mn S G) {x w : Nat} (hx : x < 8) (hF : FD M x S) (hw : w < fnd (M 20 x) (tbx M x)) (hQ : wp_X9_reads_70 Q k6 S G (nI x) (nI w) (nI (mw M x w))) : ∃ n9, wp_X9_reads_25 Q k6 n9 S G (nI x) (nI w) (nI 0) (nI 0) := by
  have hM := h.2.2.2
  have h60 := hM.2.2.1.1
  have h6 := hM.2.1.1
  have hwl : ∀ t, wyA M x (wpA (M 20 x) (tbx M x) w) t < 2147483648 := fun t => by have := wyA_le (M := M) (x := x) (p := wpA (M 20 x) (tbx M x) w) (t := t); omega
  refine pk_loop (σ := Unit) (fun n9 t _ => wp_X9_reads_25 Q k6 n9 S G (nI x) (nI w) (nI (mwA M x (wpA (M 20 x) (tbx M x) w) t)) (nI t)) (fun t _ => mwA M x (wpA (M 20 x) (tbx M x) w) t ≤ 3) (M 4 0) 0 () (Nat.zero_le _) (Nat.zero_le _) ?_ ?_
  · intro n9 _ _
    unfold wp_X9_reads_25
    exact bt1 ((i_le _ _ (hx := h.g 4 0)).mpr (Nat.le_refl _)) hQ
  · intro n9 t _ ht hI ih
    have q := (hM.2.2.1.2 t ht).2.1
    have hs := mwA_s M x (wpA (M 20 x) (tbx M x) w) t
    have next : ∀ c, c = mwA M x (wpA (M 20 x) (tbx M x) w) (t + 1) → c ≤ 3 → wp_X9_reads_64 Q k6 (wp_X9_reads_25 Q k6 n9) S G (nI x) (nI w) (nI c) (nI t) := by
      intro c hc hc3
      unfold wp_X9_reads_64
      rintro _ rfl
      rw [nI_1, hc]
      exact ih () (by rw [← hc]; exact hc3)
    unfold wp_X9_reads_25
    rw [n_cl (show t < _ by omega)]
    refine bf1 (by rw [i_le (M 4 0) t (hx := h.g 4 0)]; omega) ⟨n_in (by omega) (by decide), bq (i_le (M 10 t) (mwA M x (wpA (M 20 x) (tbx M x) w) t) (hx := h.g 10 t)) (fun h1 => next _ (by rw [hs, if_neg (fun o => by have := o.2; omega)]) hI) (fun h1 => rt_way h hx hF hw ht (bq (wyR_n (hwl t)) (fun h2 => next _ (by rw [hs, if_neg (fun o => o.1 h2)]) hI) (fun h2 => ⟨n_in (by omega) (by decide), ?_⟩)))⟩
    intro v hv
    rw [hv, h.g 10 t]
    exact next _ (by rw [hs, if_pos ⟨h2, by omega⟩]) q
theorem rt_reads {Q : mS → mG → Prop} {S : mS} (h : RI M D mn S G) {x : Nat} (hx : x < 8) (hQ : ∀ S' : mS, RI M D mn S' G → S' 0 0 = S 0 0 → FD M x S' → UD M D x S' → Q S' G) : wp_X9_reads_0 Q S G (nI x) := by
  have hM := h.2.2.2
  have h60 := hM.2.2.1.1
  have h6 := hM.2.1.1
  obtain ⟨b600, _⟩ := hM.2.2.2.2.2 x hx
  have hfl := fnd_le (n := M 20 x) (b := tbx M x)
  obtain ⟨z0, hz0⟩ : ∃ z0, z0 = S 0 0 := ⟨_, rfl⟩
  rw [← hz0] at hQ
  obtain ⟨K, hK⟩ : ∃ K, K = fnd (M 20 x) (tbx M x) := ⟨_, rfl⟩
  -- the findings
  have fin : ∀ S' : mS, RI M D mn S' G → S' 0 0 = z0 → FD M x S' → UP M x K S' → wp_X9_reads_168 Q S' G := by
    intro S1 r1 r2 r3 r4
    unfold wp_X9_reads_168
    have hok := us_ok hM (x := x) (w := K) (by omega)
    have hc3 := hok.2.2.1
    obtain ⟨c, hc⟩ : ∃ c, c = (us M x K).2.1 := ⟨_, rfl⟩
    refine pk_loop (σ := mS) (fun n9 i S2 => wp_X9_reads_170 Q n9 S2 G (nI i)) (fun i S2 => RI M D mn S2 G ∧ S2 0 0 = z0 ∧ FD M x S2 ∧ UP M x K S2 ∧ ∀ k, k < i → S2 30 k = nI (fdA M D (tmU M x) k)) c 0 S1 (Nat.zero_le _) ⟨r1, r2, r3, r4, fun k hk => absurd hk (Nat.not_lt_zero k)⟩ ?_ ?_
    · rintro n9 S2 ⟨a1, a2, a3, a4, a5⟩
      unfold wp_X9_reads_170
      refine bt1 ((i_le c c (hx := by rw [hc]; exact a4.1)).mpr (Nat.le_refl _)) (hQ S2 a1 a2 a3 ⟨by rw [← hK]; exact a4, fun i hi => a5 i (by rw [hc, hK]; exact hi)⟩)
    · rintro n9 i S2 hi ⟨a1, a2, a3, a4, a5⟩ ih
      unfold wp_X9_reads_170
      refine bf1 (by rw [i_le c i (hx := by rw [hc]; exact a4.1)]; omega) (rt_finding a1 (tm := tmU M x) (by omega) (fun k hk => ⟨chT_le, ?_⟩) ⟨n_in (by omega) (by decide), ?_⟩)
      · have := (a4.2 k (by omega)).2.2.1
        unfold tmU
        rw [← hK]
        exact this
      · intro S3 hS3
        rw [n_cl (show i < _ by omega)] at hS3
        rintro _ rfl
        rw [nI_1]
        refine ih S3 ?_
        rw [hS3]
        refine ⟨a1.out rfl (by decide) _ _, by rw [ms_out _ _ _ _ _ (by decide)]; exact a2, FD_out a3 (by decide) _ _, ⟨by rw [ms_out _ _ _ _ _ (by decide)]; exact a4.1, fun k hk => ?_⟩, fun k hk => ?_⟩
        · rw [ms_out _ _ _ _ _ (show 26 ≠ 30 by decide), ms_out _ _ _ _ _ (show 27 ≠ 30 by decide), ms_out _ _ _ _ _ (show 28 ≠ 30 by decide), ms_out _ _ _ _ _ (show 29 ≠ 30 by decide)]
          exact a4.2 k hk
        · by_cases e : k = i
          · rw [e, ms_same]
          · rw [ms_ne _ _ _ _ _ e]; exact a5 k (by omega)
  -- word by word
  have main : ∀ (r w : Nat) (S' : mS), w ≤ K → K ≤ w + r → (us M x w).1 ≤ w → RI M D mn S' G → S' 0 0 = z0 → FD M x S' → UP M x w S' → ∃ n9, wp_X9_reads_12 Q n9 S' G (nI x) (nI w) := by
    intro r
    induction r with
    | zero =>
      intro w S1 hw1 hw2 hn r1 r2 r3 r4
      have e : w = K := by omega
      refine ⟨1, ?_⟩
      unfold wp_X9_reads_12
      refine bt1 ((i_le K w (hx := by rw [hK]; exact r3.1)).mpr (by omega)) (fin S1 r1 r2 r3 (by rw [← e]; exact r4))
    | succ r ih =>
      intro w S1 hw1 hw2 hn r1 r2 r3 r4
      by_cases e : w = K
      · refine ⟨1, ?_⟩
        unfold wp_X9_reads_12
        exact bt1 ((i_le K w (hx := by rw [hK]; exact r3.1)).mpr (by omega)) (fin S1 r1 r2 r3 (by rw [← e]; exact r4))
      · have hwf : w < fnd (M 20 x) (tbx M x) := by omega
        obtain ⟨m1, m2, m3⟩ := mw_ok hM hwf
        have hs := us_s M x w
        have hok := us_ok hM (x := x) (w := w) (by omega)
        have hcw := hok.2.2.1
        by_cases h0 : mw M x w = 0
        · rw [if_neg (fun o => o.2 h0)] at hs
          obtain ⟨n, hn9⟩ := ih (w + 1) S1 (by omega) (by omega) (by rw [hs]; omega) r1 r2 r3 (by unfold UP; rw [hs]; exact r4)
          refine ⟨n + 1, ?_⟩
          unfold wp_X9_reads_12
          refine bf1 (by rw [i_le K w (hx := by rw [hK]; exact r3.1)]; omega) (rt_most r1 hx r3 hwf ?_)
          unfold wp_X9_reads_70
          refine bt2 (by rw [h0]; rfl) ?_
          rintro _ rfl
          rw [nI_1]
          exact hn9
        · rw [if_pos ⟨hn, h0⟩] at hs
          obtain ⟨hex, _⟩ := m3 h0
          obtain ⟨m, hm⟩ : ∃ m, m = mw M x w := ⟨_, rfl⟩
          rw [← hm] at hs hex m1 m2 h0
          have hj : us M x (w + m) = us M x (w + 1) := by
            have := us_j (M := M) (x := x) (w := w + 1) (j := m - 1) (by rw [hs]; show w + 1 + (m - 1) ≤ w + m; omega)
            rw [show w + 1 + (m - 1) = w + m by omega] at this
            exact this
          rw [hs] at hj
          unfold UP at r4
          generalize us M x w = c at hj hn r4 hcw
          have c301 : vp_in (nI c.2.1) 301 := n_in (by omega) (by decide)
          have cc : (nI c.2.1).toNatClampNeg = c.2.1 := n_cl (by omega)
          obtain ⟨S2, hS2⟩ : ∃ S2, S2 = mst (mst S1 26 c.2.1 (nI w)) 27 c.2.1 (nI (w + m)) := ⟨_, rfl⟩
          obtain ⟨S3, hS3⟩ : ∃ S3, S3 = mst S2 28 c.2.1 (wyR (chT M x w m)) := ⟨_, rfl⟩
          obtain ⟨S4, hS4⟩ : ∃ S4, S4 = mst (mst S3 29 c.2.1 (wyR (enU M x w m))) 25 0 (nI (c.2.1 + 1)) := ⟨_, rfl⟩
          have p2 : RI M D mn S2 G := by rw [hS2]; exact (r1.out rfl (by decide) _ _).out rfl (by decide) _ _
          have p3 : RI M D mn S3 G := by rw [hS3]; exact p2.out rfl (by decide) _ _
          have p4 : RI M D mn S4 G := by rw [hS4]; exact (p3.out rfl (by decide) _ _).out rfl (by decide) _ _
          have f2 : FD M x S2 := by rw [hS2]; exact FD_out (FD_out r3 (by decide) _ _) (by decide) _ _
          have f3 : FD M x S3 := by rw [hS3]; exact FD_out f2 (by decide) _ _
          have f4 : FD M x S4 := by rw [hS4]; exact FD_out (FD_out f3 (by decide) _ _) (by decide) _ _
          have e25a : mst S1 26 c.2.1 (nI w) 25 0 = nI c.2.1 := by rw [ms_out _ _ _ _ _ (by decide)]; exact r4.1
          have e25 : S2 25 0 = nI c.2.1 := by rw [hS2, ms_out _ _ _ _ _ (by decide)]; exact e25a
          have e253 : S3 25 0 = nI c.2.1 := by rw [hS3, ms_out _ _ _ _ _ (by decide)]; exact e25
          have u4 : UP M x (w + m) S4 := by
            unfold UP
            rw [hj, hS4, hS3, hS2]
            dsimp only
            refine ⟨by rw [ms_same], fun i hi => ?_⟩
            have out : ∀ (k : Nat) (T : mS) (v : Int32), k ≠ 25 → mst T 25 0 v k i = T k i := fun k T v hk => by rw [ms_out _ _ _ _ _ hk]
            rw [out 26 _ _ (by decide), out 27 _ _ (by decide), out 28 _ _ (by decide), out 29 _ _ (by decide)]
            rw [ms_out _ _ _ _ _ (show 26 ≠ 29 by decide), ms_out _ _ _ _ _ (show 26 ≠ 28 by decide), ms_out _ _ _ _ _ (show 26 ≠ 27 by decide), ms_out _ _ _ _ _ (show 27 ≠ 29 by decide), ms_out _ _ _ _ _ (show 27 ≠ 28 by decide), ms_out _ _ _ _ _ (show 28 ≠ 29 by decide)]
            by_cases ei : i = c.2.1
            · rw [if_pos ei, if_pos ei, ei, ms_same, ms_same, ms_same, ms_same]
              exact ⟨rfl, rfl, rfl, rfl⟩
            · rw [if_neg ei, if_neg ei, ms_ne _ _ _ _ _ ei, ms_ne _ _ _ _ _ ei, ms_ne _ _ _ _ _ ei, ms_ne _ _ _ _ _ ei, ms_out _ _ _ _ _ (show 27 ≠ 26 by decide), ms_out _ _ _ _ _ (show 28 ≠ 27 by decide), ms_out _ _ _ _ _ (show 28 ≠ 26 by decide), ms_out _ _ _ _ _ (show 29 ≠ 28 by decide), ms_out _ _ _ _ _ (show 29 ≠ 27 by decide), ms_out _ _ _ _ _ (show 29 ≠ 26 by decide)]
              exact r4.2 i (by omega)
          obtain ⟨n, hn9⟩ := ih (w + m) S4 (by omega) (by omega) (by rw [hj]; exact Nat.le_refl _) p4 (by rw [hS4, hS3, hS2, ms_out _ _ _ _ _ (by decide), ms_out _ _ _ _ _ (by decide), ms_out _ _ _ _ _ (by decide), ms_out _ _ _ _ _ (by decide), ms_out _ _ _ _ _ (by decide)]; exact r2) f4 u4
          have fin150 : wp_X9_reads_150 Q (wp_X9_reads_12 Q n) S3 G (nI x) (nI w) (nI m) (wyR (enU M x w m)) (nI c.2.1) := by
            unfold wp_X9_reads_150
            rw [cc]
            refine ⟨c301, ?_⟩
            intro T1 hT1 T2 hT2
            rintro _ rfl
            have e1 : T1 25 0 = nI c.2.1 := by rw [hT1, ms_out _ _ _ _ _ (by decide)]; exact e253
            rw [e1, nI_1, hT1, ← hS4] at hT2
            rw [hT2, nI_add]
            exact hn9
          refine ⟨n + 1, ?_⟩
          unfold wp_X9_reads_12
          refine bf1 (by rw [i_le K w (hx := by rw [hK]; exact r3.1)]; omega) (rt_most r1 hx r3 hwf ?_)
          rw [← hm]
          unfold wp_X9_reads_70
          refine bf2 (by rw [show (0 : Int32) = nI 0 from rfl, n_eq (by omega) (by omega)]; exact h0) ?_
          rw [r4.1, cc]
          refine ⟨c301, fun T1 hT1 => ?_⟩
          rw [hT1, e25a, cc, nI_add]
          refine ⟨c301, fun T2 hT2 => ?_⟩
          rw [hT2, ← hS2]
          refine rt_chosen p2 hx f2 hwf m2 hex ?_
          have hcl := chT_le (M := M) (x := x) (w := w) (m := m)
          rw [e25, cc]
          refine ⟨c301, fun T3 hT3 => ?_⟩
          rw [hT3, ← hS3, e253]
          by_cases ht0 : chT M x w m = 0
          · have eE : wyR (enU M x w m) = -1 := by unfold enU; rw [if_pos ht0]; rfl
            rw [eE] at fin150
            exact bt2 (by rw [ht0]; rfl) fin150
          · obtain ⟨t, et⟩ : ∃ t, t = chT M x w m - 1 := ⟨_, rfl⟩
            have et2 : chT M x w m = t + 1 := by omega
            have eE : enU M x w m = wyA M x (wpA (M 20 x) (tbx M x) w) t - 1 := by unfold enU; rw [if_neg ht0, ← et]
            have hwy : wyA M x (wpA (M 20 x) (tbx M x) w) t ≠ 0 := by
              have hd : chT M x w m = if chG M x w m = 0 then 0 else fa_first (tmB M x (wpA (M 20 x) (tbx M x) w) m (chG M x w m - 1)) (M 4 0) + 1 := rfl
              by_cases hg0 : chG M x w m = 0
              · rw [if_pos hg0] at hd; exact absurd hd ht0
              · rw [if_neg hg0] at hd
                have hy := fa_first_yes (tmB M x (wpA (M 20 x) (tbx M x) w) m (chG M x w m - 1)) (M 4 0) (by omega)
                rw [show fa_first (tmB M x (wpA (M 20 x) (tbx M x) w) m (chG M x w m - 1)) (M 4 0) = t by omega] at hy
                exact (of_decide_eq_true hy).2.2
            rw [et2, wyR_s]
            refine bf2 (n_m1 (by omega)) (rt_way p3 hx f3 hwf (by omega) ?_)
            have eW : wyR (wyA M x (wpA (M 20 x) (tbx M x) w) t) - 1 = wyR (enU M x w m) := by
              rw [eE]
              obtain ⟨d, hd⟩ : ∃ d, wyA M x (wpA (M 20 x) (tbx M x) w) t = d + 1 := ⟨wyA M x (wpA (M 20 x) (tbx M x) w) t - 1, by omega⟩
              rw [hd, wyR_s, Nat.add_sub_cancel]
              by_cases d0 : d = 0
              · rw [d0]; rfl
              · unfold wyR; rw [if_neg d0, n_sub1 (by omega)]
            rw [eW]
            exact fin150
  unfold wp_X9_reads_0
  refine rt_finds h hx (fun S1 r1 r2 r3 => ?_)
  rintro _ rfl
  exact main K 0 (mst S1 25 0 0) (Nat.zero_le _) (by omega) (Nat.le_refl _) (r1.out rfl (by decide) _ _) (by rw [ms_out _ _ _ _ _ (by decide), r2]; exact hz0.symm) (FD_out r3 (by decide) _ _) ⟨ms_same _ _ _ _, fun i hi => absurd hi (Nat.not_lt_zero i)⟩
end RRD
