/-! pure: the reference's small calls, second part -/
theorem wsc_none {most : Nat} {w : Nat → Nat} {k : Nat} (hx : wsc most w k = none) {n : Nat} (hk : k ≤ n) : wwn most w n = 0 := by
  have : ∀ j, wsc most w (k + j) = none := by
    intro j
    induction j with
    | zero => exact hx
    | succ j ih => show wsc most w ((k + j) + 1) = none; unfold wsc; rw [ih]
  have h9 := this (n - k)
  rw [show k + (n - k) = n by omega] at h9
  unfold wwn
  rw [h9]
theorem wsc_zero {most : Nat} {w : Nat → Nat} : ∀ {k i : Nat}, wsc most w k = some (0, i) → i = k ∧ ∀ j, j < k → 0 < w j
  | 0, i, h => by cases h; exact ⟨rfl, fun j hj => absurd hj (Nat.not_lt_zero j)⟩
  | k + 1, i, h => by
    unfold wsc at h
    match h9 : wsc most w k with
    | none => rw [h9] at h; exact absurd h (by simp)
    | some (m1, i1) =>
      rw [h9] at h
      by_cases h1 : 0 < w k
      · by_cases h2 : most < i1 + 1
        · simp [h1, h2] at h
        · simp [h1, h2] at h
          obtain ⟨rfl, rfl⟩ := h
          obtain ⟨rfl, ih⟩ := wsc_zero h9
          exact ⟨rfl, lt_s ih h1⟩
      · by_cases h2 : i1 = 0
        · simp [h1, h2] at h
        · simp [h1, h2] at h
theorem wsc_all {most : Nat} {w : Nat → Nat} : ∀ {k : Nat}, k ≤ most → (∀ j, j < k → 0 < w j) → wsc most w k = some (0, k)
  | 0, _, _ => rfl
  | k + 1, hk, h => by
    unfold wsc
    rw [wsc_all (k := k) (by omega) (fun j hj => h j (by omega))]
    simp [h k (by omega), show ¬ most < k + 1 by omega]
theorem wwn_one {most : Nat} {w : Nat → Nat} {n : Nat} : wwn most w n = 1 ↔ 1 ≤ n ∧ n ≤ most ∧ ∀ k, k < n → 0 < w k := by
  constructor
  · intro h
    unfold wwn at h
    match h9 : wsc most w n with
    | none => rw [h9] at h; exact absurd h (by simp)
    | some (m, i) =>
      rw [h9] at h
      by_cases h2 : i = 0
      · simp [h2] at h
      · simp [h2] at h
        subst h
        have hb := wsc_le h9
        obtain ⟨rfl, ha⟩ := wsc_zero h9
        exact ⟨by omega, hb.2, ha⟩
  · rintro ⟨h1, h2, h3⟩
    unfold wwn
    rw [wsc_all h2 h3]
    simp [show ¬ n = 0 by omega]
def mf (M : mN) (k : Nat) (g : Nat → Nat) : mN := fun a => if a = k then g else M a
theorem mf_s {M : mN} {k : Nat} {g : Nat → Nat} : mf M k g k = g := if_pos rfl
theorem mf_n {M : mN} {k a : Nat} {g : Nat → Nat} (h : a ≠ k) : mf M k g a = M a := if_neg h
theorem mf_self {M : mN} {k : Nat} : mf M k (M k) = M := by
  funext a
  by_cases e : a = k
  · subst e; exact mf_s
  · exact mf_n e
theorem mf_put {M : mN} {s a k v : Nat} {f g : Nat → Nat} (hv : v = g k) : ad2 (mf M s (fb_put f g a k)) s (a + k) v = mf M s (fb_put f g a (k + 1)) := by
  subst hv
  funext c j
  by_cases e : c = s
  · subst e
    rw [mf_s]
    by_cases e2 : j = a + k
    · subst e2
      rw [ad2_s, fb_put_in (by omega) (by omega)]
      congr 1; omega
    · rw [ad2_i e2, mf_s]
      by_cases h1 : a ≤ j ∧ j < a + k
      · rw [fb_put_in h1.1 h1.2, fb_put_in h1.1 (by omega)]
      · rw [fb_put_out (by omega), fb_put_out (by omega)]
  · rw [ad2_f e, mf_n e, mf_n e]
section RS2
variable {M : mN} {D : Nat → Int64} {mn : Int32} {S : mS} {G : mG}
theorem rt_right1 {Q : Int32 → mS → mG → Prop} {x : Int32} (h0 : S 0 0 = 0) (yes : Q 1 S G) : wp_X9_right_0 Q S G 1 x := by
  unfold wp_X9_right_0 wp_X9_right_16
  exact bt2 h0 (bf2 (by decide) (bt2 h0 yes))
theorem rt_right0 {Q : Int32 → mS → mG → Prop} {x : Int32} (h0 : S 0 0 = 0) (hx : ¬ x = 0) (no : Q 0 (mst S 0 0 x) G) : wp_X9_right_0 Q S G 0 x := by
  unfold wp_X9_right_0 wp_X9_right_16
  refine bt2 h0 (bt2 rfl ?_)
  rintro _ rfl
  rw [ms_same]
  exact bf2 hx no
theorem RI.thr (h : RI M D mn S G) (x : Int32) : RI M D mn (mst S 0 0 x) G := h.out d0 (by decide) 0 x
theorem RI.g (h : RI M D mn S G) (k : Nat) (j : Nat) (hk : dur k = true := by rfl) : S k j = nI (M k j) := h.1 k hk j
/-- a durable store -/
theorem RI.put (h : RI M D mn S G) (k j v : Nat) (hk : k ≠ 5) (hm : MI (ad2 M k j v) D) : RI (ad2 M k j v) D mn (mst S k j (nI v)) G := ⟨h.1.put k j v, h.2.1, by rw [ms_out _ _ _ _ _ (Ne.symm hk)]; exact h.2.2.1, hm⟩
theorem MI.w0 (h : MI M D) : MI (ad2 M 1 0 0) D := by
  obtain ⟨m1, m2, m3, m4, m5, m6⟩ := h
  have e : ∀ a, a ≠ 1 → ad2 M 1 0 0 a = M a := fun a ha => ad2_f ha
  exact ⟨⟨by rw [ad2_s]; omega, fun k => by rw [e 2 (by decide)]; exact m1.2 k⟩, miE_c (e 3 (by decide)) (e 6 (by decide)) (e 7 (by decide)) m2, miT_c (e 4 (by decide)) (e 8 (by decide)) (e 9 (by decide)) (e 10 (by decide)) (e 11 (by decide)) (e 12 (by decide)) (e 13 (by decide)) m3, miN_c (e 14 (by decide)) (e 15 (by decide)) (e 16 (by decide)) m4, miD_c (e 18 (by decide)) m5, miX_c (e 19 (by decide)) (e 20 (by decide)) m6⟩
abbrev okEnd (M : mN) : Prop := wwn 4 (M 2) (M 1 0) = 1 ∧ M 3 0 < 6
def aEnd (M : mN) : mN := ad2 (ad2 (ad2 (mf M 6 (fb_put (M 6) (M 2) (4 * M 3 0) (M 1 0))) 7 (M 3 0) (M 1 0)) 3 0 (M 3 0 + 1)) 1 0 0
theorem aEnd_f {a : Nat} (h1 : a ≠ 1) (h3 : a ≠ 3) (h6 : a ≠ 6) (h7 : a ≠ 7) : aEnd M a = M a := by unfold aEnd; rw [ad2_f h1, ad2_f h3, ad2_f h7, mf_n h6]
theorem aEnd_3 : aEnd M 3 0 = M 3 0 + 1 := by unfold aEnd; rw [ad2_f (by decide), ad2_s]
theorem aEnd_1 : aEnd M 1 0 = 0 := by unfold aEnd; rw [ad2_s]
theorem aEnd_7 {e : Nat} : aEnd M 7 e = if e = M 3 0 then M 1 0 else M 7 e := by
  unfold aEnd; rw [ad2_f (by decide), ad2_f (by decide)]
  by_cases h : e = M 3 0
  · rw [if_pos h, h, ad2_s]
  · rw [if_neg h, ad2_i h, mf_n (by decide)]
theorem aEnd_6 {j : Nat} : aEnd M 6 j = fb_put (M 6) (M 2) (4 * M 3 0) (M 1 0) j := by unfold aEnd; rw [ad2_f (by decide), ad2_f (by decide), ad2_f (by decide), mf_s]
theorem aEnd_new {k : Nat} (hk : k < M 1 0) : aEnd M 6 (4 * M 3 0 + k) = M 2 k := by rw [aEnd_6, fb_put_in (by omega) (by omega)]; congr 1; omega
theorem aEnd_old {e k : Nat} (he : e < M 3 0) (hk : k < 4) : aEnd M 6 (4 * e + k) = M 6 (4 * e + k) := by rw [aEnd_6, fb_put_out (by omega)]
theorem aEnd_MI (h : MI M D) (ok : okEnd M) : MI (aEnd M) D := by
  obtain ⟨m1, m2, m3, m4, m5, m6⟩ := h
  obtain ⟨n1, n2, n3⟩ := wwn_one.mp ok.1
  refine ⟨⟨by rw [aEnd_1]; omega, fun k => by rw [aEnd_f (by decide) (by decide) (by decide) (by decide)]; exact m1.2 k⟩, ⟨by rw [aEnd_3]; have := ok.2; omega, ?_⟩, miT_c (aEnd_f (by decide) (by decide) (by decide) (by decide)) (aEnd_f (by decide) (by decide) (by decide) (by decide)) (aEnd_f (by decide) (by decide) (by decide) (by decide)) (aEnd_f (by decide) (by decide) (by decide) (by decide)) (aEnd_f (by decide) (by decide) (by decide) (by decide)) (aEnd_f (by decide) (by decide) (by decide) (by decide)) (aEnd_f (by decide) (by decide) (by decide) (by decide)) m3, miN_c (aEnd_f (by decide) (by decide) (by decide) (by decide)) (aEnd_f (by decide) (by decide) (by decide) (by decide)) (aEnd_f (by decide) (by decide) (by decide) (by decide)) m4, miD_c (aEnd_f (by decide) (by decide) (by decide) (by decide)) m5, miX_c (aEnd_f (by decide) (by decide) (by decide) (by decide)) (aEnd_f (by decide) (by decide) (by decide) (by decide)) m6⟩
  intro e he
  rw [aEnd_3] at he
  rw [aEnd_7]
  by_cases h1 : e = M 3 0
  · rw [if_pos h1]
    refine ⟨n1, n2, fun k hk => ?_⟩
    rw [h1, aEnd_new hk]
    exact ⟨n3 k hk, m1.2 k⟩
  · rw [if_neg h1]
    obtain ⟨q1, q2, q3⟩ := m2.2 e (by omega)
    refine ⟨q1, q2, fun k hk => ?_⟩
    rw [aEnd_old (by omega) (by omega)]
    exact q3 k hk
theorem rt_ending {Q : Int32 → mS → mG → Prop} (h : RI M D mn S G) (yes : okEnd M → ∀ S' : mS, RI (aEnd M) D mn S' G → Q (nI (M 3 0)) S' G) (no : ¬ okEnd M → ∀ S' : mS, RI (ad2 M 1 0 0) D mn S' G → Q (-1) S' G) : wp_X9_ending_0 Q S G := by
  unfold wp_X9_ending_0
  rintro _ rfl
  have h1 := h.thr 0
  generalize mst S 0 0 0 = S1 at h1 ⊢
  have hb := h1.2.2.2.2.1.1
  have hw := h1.2.2.2.1
  have bad : ¬ okEnd M → wp_X9_ending_27 Q S1 G := by
    intro hn
    unfold wp_X9_ending_27 wp_X9_ending_28
    refine bt1 rfl ?_
    unfold wp_X9_ending_91
    rintro _ rfl
    exact bt1 rfl (no hn _ (h1.put 1 0 0 (by decide) h1.2.2.2.w0))
  refine rt_ww h1 4 (by decide) ?_
  refine bn (p := wwn 4 (M 2) (M 1 0) = 1) ?_ (fun hk => ?_) (fun hk => bad (fun h9 => hk h9.1))
  · have := hw.1
    have hle : wwn 4 (M 2) (M 1 0) ≤ M 1 0 + 1 := by
      unfold wwn
      match h9 : wsc 4 (M 2) (M 1 0) with
      | none => simp
      | some (m, i) =>
        have := wsc_le h9
        by_cases h2 : i = 0
        · simp [h2]
        · simp [h2]; omega
    exact i_eq (wwn 4 (M 2) (M 1 0)) 1
  · refine bq (i_le 6 (M 3 0) (hy := h1.g 3 0)) (fun h6 => bad (fun h9 => by have := h9.2; omega)) (fun h6 => ?_)
    have ok : okEnd M := ⟨hk, by omega⟩
    obtain ⟨n1, n2, n3⟩ := wwn_one.mp ok.1
    unfold wp_X9_ending_28
    refine bf1 (by decide) ?_
    refine pk_loop (σ := mS) (fun n9 i s => wp_X9_ending_35 Q n9 s G 1 (nI i)) (fun i s => rS (mf M 6 (fb_put (M 6) (M 2) (4 * M 3 0) i)) s ∧ s 5 0 = mn) (M 1 0) 0 S1 (Nat.zero_le _) ⟨?_, h1.2.2.1⟩ ?_ ?_
    · rw [fb_put_0, mf_self]; exact h1.1
    · rintro n9 s ⟨hs, hs5⟩
      have e1 : s 1 0 = nI (M 1 0) := by rw [hs 1 rfl, mf_n (by decide)]
      have e3 : s 3 0 = nI (M 3 0) := by rw [hs 3 rfl, mf_n (by decide)]
      unfold wp_X9_ending_35
      refine bt1 ((i_le (M 1 0) (M 1 0) (hx := e1)).mpr (Nat.le_refl _)) ?_
      unfold wp_X9_ending_68
      rw [e3, e1]
      refine ⟨n_in (by omega) (by decide), ?_⟩
      rw [n_cl (by omega)]
      rintro _ rfl
      rintro _ rfl
      unfold wp_X9_ending_91
      rintro _ rfl
      rw [ms_out _ _ _ _ _ (show (3 : Nat) ≠ 7 by decide), e3, nI_1]
      refine bf1 (by decide) ?_
      rw [ms_out _ _ _ _ _ (show (3 : Nat) ≠ 1 by decide), ms_same]
      rw [n_sub1 (by omega)]
      refine yes ok _ ⟨((hs.put 7 (M 3 0) (M 1 0)).put 3 0 (M 3 0 + 1)).put 1 0 0, h1.2.1, ?_, aEnd_MI h1.2.2.2 ok⟩
      rw [ms_out _ _ _ _ _ (by decide), ms_out _ _ _ _ _ (by decide), ms_out _ _ _ _ _ (by decide)]
      exact hs5
    · rintro n9 i s hi ⟨hs, hs5⟩ ih
      have e1 : s 1 0 = nI (M 1 0) := by rw [hs 1 rfl, mf_n (by decide)]
      have e3 : s 3 0 = nI (M 3 0) := by rw [hs 3 rfl, mf_n (by decide)]
      have e2 : s 2 i = nI (M 2 i) := by rw [hs 2 rfl, mf_n (by decide)]
      unfold wp_X9_ending_35
      refine bf1 (by rw [i_le (M 1 0) i (hx := e1)]; omega) ⟨n_in (by omega) (by decide), ?_⟩
      have e4 : (4 : Int32) * s 3 0 + nI i = nI (4 * M 3 0 + i) := by rw [e3]; exact (congrArg (· + nI i) (pk_mul 4 (M 3 0))).trans (nI_add _ _)
      rw [e4, n_cl (show i < _ by omega), n_cl (by omega), e2]
      refine ⟨n_in (by omega) (by decide), ?_⟩
      rintro _ rfl
      rintro _ rfl
      rw [nI_1]
      refine ih _ ⟨?_, by rw [ms_out _ _ _ _ _ (by decide)]; exact hs5⟩
      have := hs.put 6 (4 * M 3 0 + i) (M 2 i)
      rw [mf_put rfl] at this
      exact this
end RS2
