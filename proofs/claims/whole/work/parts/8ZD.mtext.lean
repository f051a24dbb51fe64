/-! pure: the text mended; how the reference writes it -/
section MDT
variable {M : mN} {D : Nat → Int64} {mn : Int32} {G : mG} {x p q n : Nat} {b : Nat → Nat}
theorem mdT_f {a : Nat} (h19 : a ≠ 19) (h20 : a ≠ 20) : mdT M x p q n b a = M a := by unfold mdT; rw [ad2_f h20, mf_n h19]
theorem mdT_20 : mdT M x p q n b 20 x = p + n + (M 20 x - q) := ad2_s
theorem mdT_20o {y : Nat} (h : y ≠ x) : mdT M x p q n b 20 y = M 20 y := by unfold mdT; rw [ad2_i h, mf_n (by decide)]
theorem mdT_19 {j : Nat} : mdT M x p q n b 19 j = fb_put (fb_put (M 19) b (600 * x + p) n) (fun k => M 19 (600 * x + (q + k))) (600 * x + p + n) (M 20 x - q) j := by unfold mdT; rw [ad2_f (by decide), mf_s]
theorem mdT_lo {k : Nat} (h : k < p) : mdT M x p q n b 19 (600 * x + k) = M 19 (600 * x + k) := by rw [mdT_19, fb_put_out (by omega), fb_put_out (by omega)]
theorem mdT_mid {k : Nat} (h : k < n) : mdT M x p q n b 19 (600 * x + (p + k)) = b k := by
  rw [mdT_19, fb_put_out (by omega), fb_put_in (by omega) (by omega)]
  congr 1; omega
theorem mdT_hi {k : Nat} (h : k < M 20 x - q) : mdT M x p q n b 19 (600 * x + (p + n + k)) = M 19 (600 * x + (q + k)) := by
  rw [mdT_19, fb_put_in (by omega) (by omega)]
  have : 600 * x + (p + n + k) - (600 * x + p + n) = k := by omega
  rw [this]
theorem mdT_o {y k : Nat} (hy : y ≠ x) (hk : k < 600) (hle : p + n + (M 20 x - q) ≤ 600) : mdT M x p q n b 19 (600 * y + k) = M 19 (600 * y + k) := by
  rw [mdT_19]
  rcases Nat.lt_or_gt_of_ne hy with h | h
  · rw [fb_put_out (by omega), fb_put_out (by omega)]
  · rw [fb_put_out (by omega), fb_put_out (by omega)]
theorem mdT_MI (hM : MI M D) (hx : x < 8) (hpq : p ≤ q) (hq : q ≤ M 20 x) (hle : p + n + (M 20 x - q) ≤ 600) (hb : ∀ k, k < n → b k < 256) : MI (mdT M x p q n b) D := by
  obtain ⟨m1, m2, m3, m4, m5, m6⟩ := hM
  refine ⟨miW_c (mdT_f (by decide) (by decide)) (mdT_f (by decide) (by decide)) m1, miE_c (mdT_f (by decide) (by decide)) (mdT_f (by decide) (by decide)) (mdT_f (by decide) (by decide)) m2, miT_c (mdT_f (by decide) (by decide)) (mdT_f (by decide) (by decide)) (mdT_f (by decide) (by decide)) (mdT_f (by decide) (by decide)) (mdT_f (by decide) (by decide)) (mdT_f (by decide) (by decide)) (mdT_f (by decide) (by decide)) m3, miN_c (mdT_f (by decide) (by decide)) (mdT_f (by decide) (by decide)) (mdT_f (by decide) (by decide)) m4, miD_c (mdT_f (by decide) (by decide)) m5, ?_⟩
  intro y hy
  obtain ⟨b1, b2⟩ := m6 y hy
  by_cases e : y = x
  · rw [e] at b1 b2 ⊢
    rw [mdT_20]
    refine ⟨hle, fun k hk => ?_⟩
    by_cases k1 : k < p
    · rw [mdT_lo k1]; exact b2 k (by omega)
    · by_cases k2 : k < p + n
      · obtain ⟨j, rfl⟩ : ∃ j, k = p + j := ⟨k - p, by omega⟩
        rw [mdT_mid (by omega)]; exact hb j (by omega)
      · obtain ⟨j, rfl⟩ : ∃ j, k = p + n + j := ⟨k - (p + n), by omega⟩
        rw [mdT_hi (by omega)]; exact b2 _ (by omega)
  · rw [mdT_20o e]
    exact ⟨b1, fun k hk => by rw [mdT_o e (by omega) hle]; exact b2 k hk⟩
theorem rt_md330 {Q : Int32 → mS → mG → Prop} {S : mS} (h : RI M D mn S G) (hx : x < 8) (hpq : p ≤ q) (hq : q ≤ M 20 x) (hn : n ≤ 64) (hs : ∀ k, k < n → S 31 k = nI (b k)) (hb : ∀ k, k < n → b k < 256) (yes : p + n + (M 20 x - q) ≤ 600 → ∀ S' : mS, RI (mdT M x p q n b) D (mn + 1) S' G → S' 0 0 = S 0 0 → Q 1 S' G) (no : ¬ p + n + (M 20 x - q) ≤ 600 → Q 0 S G) : wp_X9_mends_330 Q S G (nI x) (nI p) (nI q) (nI n) := by
  have hM := h.2.2.2
  obtain ⟨b600, _⟩ := hM.2.2.2.2.2 x hx
  have cx : (nI x).toNatClampNeg = x := n_cl (by omega)
  have x8 : vp_in (nI x) 8 := n_in (by omega) (by decide)
  have ei : (600 : Int32) * nI x = nI (600 * x) := pk_mul 600 x
  obtain ⟨r, hr⟩ : ∃ r, r = M 20 x - q := ⟨_, rfl⟩
  have mi := mdT_MI (n := n) (b := b) hM hx hpq hq
  have mdef : mdT M x p q n b = ad2 (mf M 19 (fb_put (fb_put (M 19) b (600 * x + p) n) (fun k => M 19 (600 * x + (q + k))) (600 * x + p + n) (M 20 x - q))) 20 x (p + n + (M 20 x - q)) := rfl
  rw [← hr] at mdef yes no mi
  unfold wp_X9_mends_330
  rw [cx, h.g 20 x, n_sub hq, ← hr]
  refine ⟨x8, fun v hv => ?_⟩
  rw [hv, nI_add, nI_add]
  refine bq (i_le (p + n + r) 600) (fun hle => ?_) (fun hle => no hle)
  have mi := mi hle hb
  have fin : ∀ s : mS, rS (mf M 19 (fb_put (fb_put (M 19) b (600 * x + p) n) (fun k => M 19 (600 * x + (q + k))) (600 * x + p + n) r)) s → s 5 0 = mn → s 0 0 = S 0 0 → wp_X9_mends_471 Q s G (nI x) (nI p) (nI n) (nI r) := by
    intro s s1 s2 s3
    unfold wp_X9_mends_471
    rw [cx, nI_add, nI_add]
    refine ⟨x8, fun t ht u hu => yes hle u ?_ ?_⟩
    · have e5 : t 5 0 = mn := by rw [ht, ms_out _ _ _ _ _ (by decide)]; exact s2
      have r1 : rS (mdT M x p q n b) t := by rw [mdef, ht]; exact s1.put 20 x (p + n + r)
      rw [e5] at hu
      exact ⟨by rw [hu]; exact r1.out rfl _ _, h.2.1, by rw [hu, ms_same], mi⟩
    · rw [hu, ms_out _ _ _ _ _ (by decide), ht, ms_out _ _ _ _ _ (by decide)]; exact s3
  have rest2 : ∀ s : mS, rS (mf M 19 (fb_put (M 19) b (600 * x + p) n)) s → s 5 0 = mn → s 0 0 = S 0 0 → (∀ j, j < r → s 32 j = nI (M 19 (600 * x + (q + j)))) → wp_X9_mends_429 Q s G (nI x) (nI p) (nI n) (nI r) := by
    intro s s1 s2 s3 s4
    unfold wp_X9_mends_429
    refine pk_loop (σ := mS) (fun n9 k t => wp_X9_mends_432 Q n9 t G (nI x) (nI p) (nI n) (nI r) (nI k)) (fun k t => rS (mf M 19 (fb_put (fb_put (M 19) b (600 * x + p) n) (fun k => M 19 (600 * x + (q + k))) (600 * x + p + n) k)) t ∧ t 5 0 = mn ∧ t 0 0 = S 0 0 ∧ ∀ j, j < r → t 32 j = nI (M 19 (600 * x + (q + j)))) r 0 s (Nat.zero_le _) ⟨by rw [fb_put_0]; exact s1, s2, s3, s4⟩ ?_ ?_
    · rintro n9 t ⟨t1, t2, t3, t4⟩
      unfold wp_X9_mends_432
      exact bt1 ((i_le r r).mpr (Nat.le_refl _)) (fin t t1 t2 t3)
    · rintro n9 k t hk ⟨t1, t2, t3, t4⟩ ih
      unfold wp_X9_mends_432
      rw [ei, nI_add, nI_add, nI_add, n_cl (show k < _ by omega), n_cl (show 600 * x + p + n + k < _ by omega), t4 k hk]
      refine bf1 (by rw [i_le r k]; omega) ⟨n_in (by omega) (by decide), n_in (by omega) (by decide), fun u hu => ?_⟩
      rintro _ rfl
      rw [nI_1]
      refine ih u ⟨?_, ?_, ?_, ?_⟩
      · rw [hu, ← mf_put (g := fun k => M 19 (600 * x + (q + k))) (v := M 19 (600 * x + (q + k))) rfl]
        exact t1.put 19 (600 * x + p + n + k) _
      · rw [hu, ms_out _ _ _ _ _ (by decide)]; exact t2
      · rw [hu, ms_out _ _ _ _ _ (by decide)]; exact t3
      · intro j hj
        rw [hu, ms_out _ _ _ _ _ (by decide)]; exact t4 j hj
  have rest1 : ∀ s : mS, rS M s → s 5 0 = mn → s 0 0 = S 0 0 → (∀ k, k < n → s 31 k = nI (b k)) → (∀ j, j < r → s 32 j = nI (M 19 (600 * x + (q + j)))) → wp_X9_mends_390 Q s G (nI x) (nI p) (nI n) (nI r) := by
    intro s s1 s2 s3 s5 s4
    unfold wp_X9_mends_390
    refine pk_loop (σ := mS) (fun n9 k t => wp_X9_mends_393 Q n9 t G (nI x) (nI p) (nI n) (nI r) (nI k)) (fun k t => rS (mf M 19 (fb_put (M 19) b (600 * x + p) k)) t ∧ t 5 0 = mn ∧ t 0 0 = S 0 0 ∧ (∀ j, j < n → t 31 j = nI (b j)) ∧ ∀ j, j < r → t 32 j = nI (M 19 (600 * x + (q + j)))) n 0 s (Nat.zero_le _) ⟨by rw [fb_put_0, mf_self]; exact s1, s2, s3, s5, s4⟩ ?_ ?_
    · rintro n9 t ⟨t1, t2, t3, t5, t4⟩
      unfold wp_X9_mends_393
      exact bt1 ((i_le n n).mpr (Nat.le_refl _)) (rest2 t t1 t2 t3 t4)
    · rintro n9 k t hk ⟨t1, t2, t3, t5, t4⟩ ih
      unfold wp_X9_mends_393
      rw [ei, nI_add, nI_add, n_cl (show k < _ by omega), n_cl (show 600 * x + p + k < _ by omega), t5 k hk]
      refine bf1 (by rw [i_le n k]; omega) ⟨n_in (by omega) (by decide), n_in (by omega) (by decide), fun u hu => ?_⟩
      rintro _ rfl
      rw [nI_1]
      refine ih u ⟨?_, ?_, ?_, ?_, ?_⟩
      · rw [hu, ← mf_put (v := b k) rfl]
        exact t1.put 19 (600 * x + p + k) _
      · rw [hu, ms_out _ _ _ _ _ (by decide)]; exact t2
      · rw [hu, ms_out _ _ _ _ _ (by decide)]; exact t3
      · intro j hj
        rw [hu, ms_out _ _ _ _ _ (by decide)]; exact t5 j hj
      · intro j hj
        rw [hu, ms_out _ _ _ _ _ (by decide)]; exact t4 j hj
  refine pk_loop (σ := mS) (fun n9 k t => wp_X9_mends_360 Q n9 t G (nI x) (nI p) (nI q) (nI n) (nI r) (nI k)) (fun k t => RI M D mn t G ∧ t 0 0 = S 0 0 ∧ (∀ j, j < n → t 31 j = nI (b j)) ∧ ∀ j, j < k → t 32 j = nI (M 19 (600 * x + (q + j)))) r 0 S (Nat.zero_le _) ⟨h, rfl, hs, fun j hj => absurd hj (Nat.not_lt_zero j)⟩ ?_ ?_
  · rintro n9 t ⟨t1, t2, t3, t4⟩
    unfold wp_X9_mends_360
    exact bt1 ((i_le r r).mpr (Nat.le_refl _)) (rest1 t t1.1 t1.2.2.1 t2 t3 t4)
  · rintro n9 k t hk ⟨t1, t2, t3, t4⟩ ih
    unfold wp_X9_mends_360
    rw [nI_add]
    refine bf1 (by rw [i_le r k]; omega) (rt_at t1.1 hx (by omega) ?_)
    rw [n_cl (show k < _ by omega)]
    refine ⟨n_in (by omega) (by decide), fun u hu => ?_⟩
    rintro _ rfl
    rw [nI_1]
    refine ih u ⟨?_, ?_, ?_, ?_⟩
    · rw [hu]; exact t1.out rfl (by decide) _ _
    · rw [hu, ms_out _ _ _ _ _ (by decide)]; exact t2
    · intro j hj
      rw [hu, ms_out _ _ _ _ _ (by decide)]; exact t3 j hj
    · intro j hj
      rw [hu]
      by_cases e : j = k
      · rw [e, ms_same]
      · rw [ms_ne _ _ _ _ _ e]; exact t4 j (by omega)
end MDT
