/-! pure: the reference's small calls -/
section RS
variable {M : mN} {D : Nat → Int64} {mn : Int32} {S : mS} {G : mG}
theorem d0 : dur 0 = false := by decide
theorem rt_right {Q : Int32 → mS → mG → Prop} {p : Prop} [Decidable p] {x : Int32} (h0 : S 0 0 = 0) (hx : ¬ x = 0) (yes : p → Q 1 S G) (no : ¬ p → Q 0 (mst S 0 0 x) G) : wp_X9_right_0 Q S G (bI p) x := by
  unfold wp_X9_right_0 wp_X9_right_16
  refine bt2 h0 ?_
  by_cases hp : p
  · rw [bI_t hp]
    exact bf2 (by decide) (bt2 h0 (yes hp))
  · rw [bI_f hp]
    refine bt2 rfl ?_
    rintro _ rfl
    rw [ms_same]
    exact bf2 hx (no hp)
def aLet (M : mN) (v : Int32) : mN × Int32 := if M 1 0 = 40 ∨ v < 0 ∨ 26 < v then (M, -1) else (ad2 (ad2 M 2 (M 1 0) (if v = 26 then 0 else (v + 1).toNatClampNeg)) 1 0 (M 1 0 + 1), nI (M 1 0 + 1))
theorem rt_letter {Q : Int32 → mS → mG → Prop} (h : RI M D mn S G) (v : Int32) (hQ : ∀ S' : mS, RI (aLet M v).1 D mn S' G → Q (aLet M v).2 S' G) : wp_X9_letter_0 Q S G v := by
  have hW := h.2.2.2.1
  unfold wp_X9_letter_0
  rintro _ rfl
  have h1 := h.out d0 (by decide) 0 0
  generalize mst S 0 0 0 = S1 at h1 ⊢
  have e1 : S1 1 0 = nI (M 1 0) := h1.1 1 rfl 0
  have no : (M 1 0 = 40 ∨ v < 0 ∨ 26 < v) → Q (-1) S1 G := by
    intro hc
    have := hQ S1
    rw [aLet, if_pos hc] at this
    exact this h1
  have hM := hW.1
  refine bq (i_eq (M 1 0) 40 (hx := e1)) (fun h2 => no (Or.inl h2)) (fun h2 => ⟨fun h3 => no (Or.inr (Or.inl h3)), fun h3 => ⟨fun h4 => ?_, fun h4 => no (Or.inr (Or.inr (fa_of_nle h4)))⟩⟩)
  obtain ⟨c, hc, rfl⟩ := n_of h3
  have hc26 : c ≤ 26 := (i_le c 26).mp h4
  have hcond : ¬ (M 1 0 = 40 ∨ nI c < 0 ∨ 26 < nI c) := by
    intro h9
    rcases h9 with h9 | h9 | h9
    · exact h2 h9
    · exact h3 h9
    · have := (i_lt 26 c).mp h9
      omega
  have go : ∀ w, w ≤ 26 → (if nI c = 26 then 0 else (nI c + 1).toNatClampNeg) = w → wp_X9_letter_47 Q S1 G (nI w) (S1 1 0) := by
    intro w hw he
    unfold wp_X9_letter_47
    rw [e1]
    refine ⟨n_in (by omega) (by decide), ?_⟩
    rintro _ rfl
    rintro _ rfl
    rw [n_cl (by omega), ms_out _ _ _ _ _ (show (1 : Nat) ≠ 2 by decide), e1, nI_1, ms_same]
    have := hQ (mst (mst S1 2 (M 1 0) (nI w)) 1 0 (nI (M 1 0 + 1)))
    rw [aLet, if_neg hcond, he] at this
    refine this ⟨(h1.1.put 2 (M 1 0) w).put 1 0 (M 1 0 + 1), h1.2.1, ?_, ?_⟩
    · rw [ms_out _ _ _ _ _ (by decide), ms_out _ _ _ _ _ (by decide)]; exact h1.2.2.1
    · obtain ⟨m1, m2, m3, m4, m5, m6⟩ := h1.2.2.2
      have e : ∀ a, a ≠ 1 → a ≠ 2 → ad2 (ad2 M 2 (M 1 0) w) 1 0 (M 1 0 + 1) a = M a := fun a ha hb => by rw [ad2_f ha, ad2_f hb]
      refine ⟨⟨?_, ?_⟩, miE_c (e 3 (by decide) (by decide)) (e 6 (by decide) (by decide)) (e 7 (by decide) (by decide)) m2, miT_c (e 4 (by decide) (by decide)) (e 8 (by decide) (by decide)) (e 9 (by decide) (by decide)) (e 10 (by decide) (by decide)) (e 11 (by decide) (by decide)) (e 12 (by decide) (by decide)) (e 13 (by decide) (by decide)) m3, miN_c (e 14 (by decide) (by decide)) (e 15 (by decide) (by decide)) (e 16 (by decide) (by decide)) m4, miD_c (e 18 (by decide) (by decide)) m5, miX_c (e 19 (by decide) (by decide)) (e 20 (by decide) (by decide)) m6⟩
      · show ad2 (ad2 M 2 (M 1 0) w) 1 0 (M 1 0 + 1) 1 0 ≤ 40
        rw [ad2_s]; omega
      · intro k
        show ad2 (ad2 M 2 (M 1 0) w) 1 0 (M 1 0 + 1) 2 k ≤ 26
        rw [ad2_f (show (2 : Nat) ≠ 1 by decide)]
        by_cases hk : k = M 1 0
        · subst hk; rw [ad2_s]; exact hw
        · rw [ad2_i hk]; exact m1.2 k
  refine bn (i_eq c 26) (fun h5 => ?_) (fun h5 => ?_)
  · exact go 0 (by decide) (if_pos (by rw [h5]; rfl))
  · rw [nI_1]
    refine go (c + 1) (by omega) ?_
    rw [if_neg (fun h9 => h5 ((i_eq c 26).mp h9)), nI_1, n_cl (by omega)]
theorem rt_ww {Q : Int32 → mS → mG → Prop} (h : RI M D mn S G) (most : Nat) (hm : most ≤ 100) (hQ : Q (nI (wwn most (M 2) (M 1 0))) S G) : wp_X9_waitingWords_0 Q S G (nI most) := by
  have hW := h.2.2.2.1
  have e1 : S 1 0 = nI (M 1 0) := h.1 1 rfl 0
  have e2 : ∀ k, S 2 k = nI (M 2 k) := fun k => h.1 2 rfl k
  have h40 := hW.1
  have zn : ∀ k, k ≤ M 1 0 → wsc most (M 2) k = none → wwn most (M 2) (M 1 0) = 0 := by
    intro k hk hx
    have : ∀ j, wsc most (M 2) (k + j) = none := by
      intro j
      induction j with
      | zero => exact hx
      | succ j ih => show wsc most (M 2) ((k + j) + 1) = none; unfold wsc; rw [ih]
    have h9 := this (M 1 0 - k)
    rw [show k + (M 1 0 - k) = M 1 0 by omega] at h9
    unfold wwn
    rw [h9]
  unfold wp_X9_waitingWords_0
  refine pk_loop (σ := Nat × Nat) (fun n9 i s => wp_X9_waitingWords_7 Q n9 S G (nI most) (nI (s.1 + 1)) (nI s.2) (nI i)) (fun i s => wsc most (M 2) i = some s) (M 1 0) 0 (0, 0) (Nat.zero_le _) rfl ?_ ?_
  · rintro n9 ⟨m, i⟩ hI
    have hb := wsc_le hI
    unfold wp_X9_waitingWords_7
    refine bt1 ((i_le (M 1 0) (M 1 0) (hx := e1)).mpr (Nat.le_refl _)) ?_
    unfold wp_X9_waitingWords_53
    unfold wwn at hQ
    rw [hI] at hQ
    refine bn (i_eq i 0) (fun h1 => ?_) (fun h1 => ?_)
    · simp only [h1, if_true] at hQ
      exact hQ
    · simp only [h1, if_false] at hQ
      exact hQ
  · rintro n9 k ⟨m, i⟩ hk hI ih
    have hb := wsc_le hI
    have h26 := hW.2 k
    unfold wp_X9_waitingWords_7
    refine bf1 (by rw [i_le (M 1 0) k (hx := e1)]; omega) ⟨n_in (by omega) (by decide), ?_⟩
    rw [n_cl (by omega), e2]
    refine bq (i_le (M 2 k) 0) (fun h1 => bn (i_eq i 0) (fun h2 => ?_) (fun h2 => ?_)) (fun h1 => ?_)
    · have hz := zn (k + 1) (by omega) (by unfold wsc; rw [hI]; simp [show ¬ 0 < M 2 k by omega, h2])
      rw [hz] at hQ
      exact hQ
    · rintro _ rfl
      unfold wp_X9_waitingWords_47
      rintro _ rfl
      rw [nI_1, nI_1]
      exact ih (m + 1, 0) (by unfold wsc; rw [hI]; simp [show ¬ 0 < M 2 k by omega, h2])
    · rintro _ rfl
      rw [nI_1]
      refine bq (i_le (i + 1) most) (fun h2 => ?_) (fun h2 => ?_)
      · unfold wp_X9_waitingWords_47
        rintro _ rfl
        rw [nI_1]
        exact ih (m, i + 1) (by unfold wsc; rw [hI]; simp [show 0 < M 2 k by omega, show ¬ most < i + 1 by omega])
      · have hz := zn (k + 1) (by omega) (by unfold wsc; rw [hI]; simp [show 0 < M 2 k by omega, show most < i + 1 by omega])
        rw [hz] at hQ
        exact hQ
end RS
