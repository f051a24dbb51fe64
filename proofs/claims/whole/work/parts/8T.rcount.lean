/-! pure: count, in the reference -/
/-- the uses of term t in text x, and in the texts ahead of x -/
def ctU (M : mN) (t x : Nat) : Nat := fb_ct (fun i => decide (tmU M x i = t + 1)) (uN M x)
def ctA (M : mN) (t : Nat) : Nat → Nat
  | 0 => 0
  | x + 1 => ctA M t x + ctU M t x
section RCT
variable {M : mN} {D : Nat → Int64} {mn : Int32} {S : mS} {G : mG}
theorem uN_le (hM : MI M D) {x : Nat} (hx : x < 8) : uN M x ≤ 300 := by
  obtain ⟨b600, _⟩ := hM.2.2.2.2.2 x hx
  have hfl := fnd_le (n := M 20 x) (b := tbx M x)
  have o := (us_ok hM (x := x) (w := fnd (M 20 x) (tbx M x)) (Nat.le_refl _)).2.2.1
  have hun : uN M x = (us M x (fnd (M 20 x) (tbx M x))).2.1 := rfl
  rw [hun]
  omega
theorem rt_count {Q : Int32 → mS → mG → Prop} (h : RI M D mn S G) (a : Int32) (yes : ∀ t, t < M 4 0 → a = nI t → ∀ S' : mS, RI M D mn S' G → S' 0 0 = 0 → Q (nI (ctA M t 8)) S' G) (no : ¬ okN a (M 4 0) → ∀ S' : mS, RI M D mn S' G → S' 0 0 = 1 → Q 0 S' G) : wp_X9_count_0 Q S G a := by
  have hM := h.2.2.2
  have h60 := hM.2.2.1.1
  unfold wp_X9_count_0
  refine rt_isTerm h a (fun ok S1 h1 z1 => bf2 (by decide) ?_) (fun ok S1 h1 z1 => bt2 rfl (no ok S1 h1 z1))
  obtain ⟨t, ht, rfl⟩ := okN_of ok (by omega)
  have yes := yes t ht rfl
  obtain ⟨N, hN⟩ : ∃ N : Nat, N = 8 := ⟨_, rfl⟩
  rw [← hN] at yes
  refine pk_loop (σ := mS) (fun n9 x S2 => wp_X9_count_14 Q n9 S2 G (nI t) (nI (ctA M t x)) (nI x)) (fun _ S2 => RI M D mn S2 G ∧ S2 0 0 = 0) N 0 S1 (Nat.zero_le _) ⟨h1, z1⟩ ?_ ?_
  · rintro n9 S2 ⟨h2, z2⟩
    unfold wp_X9_count_14
    exact bt1 ((i_le 8 N).mpr (by omega)) (yes S2 h2 z2)
  · rintro n9 x S2 hx ⟨h2, z2⟩ ih
    have hx8 : x < 8 := by omega
    unfold wp_X9_count_14
    refine bf1 (by rw [i_le 8 x]; omega) (rt_reads h2 hx8 (fun S3 h3 z3 _ u3 => ?_))
    have hle := uN_le hM hx8
    have e25 : S3 25 0 = nI (uN M x) := u3.1.1
    have e28 : ∀ i, i < uN M x → S3 28 i = wyR (tmU M x i) := fun i hi => (u3.1.2 i hi).2.2.1
    obtain ⟨pr, hpr⟩ : ∃ pr : Nat → Bool, pr = fun i => decide (tmU M x i = t + 1) := ⟨_, rfl⟩
    have hct : ctU M t x = fb_ct pr (uN M x) := by rw [hpr]; rfl
    refine pk_loop (σ := Unit) (fun n8 i _ => wp_X9_count_28 Q (wp_X9_count_14 Q n9) n8 S3 G (nI t) (nI (ctA M t x + fb_ct pr i)) (nI x) (nI i)) (fun _ _ => True) (uN M x) 0 () (Nat.zero_le _) trivial ?_ ?_
    · intro n8 _ _
      unfold wp_X9_count_28
      refine bt1 ((i_le _ _ (hx := e25)).mpr (Nat.le_refl _)) ?_
      unfold wp_X9_count_57
      rintro _ rfl
      rw [nI_1, ← hct]
      exact ih S3 ⟨h3, z3.trans z2⟩
    · intro n8 i _ hi _ kh
      have next : ∀ c, c = fb_ct pr (i + 1) → wp_X9_count_51 Q (wp_X9_count_14 Q n9) (wp_X9_count_28 Q (wp_X9_count_14 Q n9) n8) S3 G (nI t) (nI (ctA M t x + c)) (nI x) (nI i) := by
        intro c hc
        unfold wp_X9_count_51
        rintro _ rfl
        rw [nI_1, hc]
        exact kh () trivial
      have htl : tmU M x i ≤ M 4 0 := chT_le
      unfold wp_X9_count_28
      rw [n_cl (show i < _ by omega), e28 i hi]
      refine bf1 (by rw [i_le (uN M x) i (hx := e25)]; omega) ⟨n_in (by omega) (by decide), bn (show wyR (tmU M x i) = nI t ↔ tmU M x i = t + 1 by rw [← wyR_s t, wyR_eq (by omega) (by omega)]) (fun e => ?_) (fun e => next _ ?_)⟩
      · rintro _ rfl
        rw [nI_1]
        refine next (fb_ct pr i + 1) ?_
        have : pr i = true := by rw [hpr]; exact decide_eq_true e
        rw [fb_ct_succ, this]; rfl
      · have : pr i = false := by rw [hpr]; exact decide_eq_false e
        rw [fb_ct_succ, this]; rfl
end RCT
