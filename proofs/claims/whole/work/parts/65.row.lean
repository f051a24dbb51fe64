/-! pure: signs and Rows -/
abbrev isG (c : Nat) : Prop := 65 ≤ c ∧ c ≤ 90
abbrev isL (c : Nat) : Prop := 97 ≤ c ∧ c ≤ 122 ∨ 65 ≤ c ∧ c ≤ 90
abbrev isE4 (c : Nat) : Prop := c = 46 ∨ c = 33 ∨ c = 63 ∨ c = 59
/-- a great letter made small -/
def sm (c : Nat) : Nat := if 65 ≤ c ∧ c ≤ 90 then c + 32 else c
def sb (c : Nat) : Int32 := (nI c).toInt8.toInt32
theorem sm_lt {c : Nat} (h : c < 256) : sm c < 256 := by unfold sm; split <;> omega
theorem sb_and {c : Nat} (h : c < 256) : sb c &&& 255 = nI c := sc_k8 c h
theorem sb_nar (x : Int32) : vp_nar .byte (Int8.toInt32 (Int32.toInt8 x)) = x.toInt8.toInt32 := pk_vb x
theorem sb_fit (c : Nat) : fits .byte (.int (sb c)) = true := pk_fb _
theorem x_great {Q : Int32 → Prop} {c : Nat} (h : c < 2147483648) (hQ : Q (bI (isG c))) : wp_X8_isGreat_0 Q (nI c) := by
  unfold wp_X8_isGreat_0
  refine bq (i_lt c 65) (fun h1 => ?_) (fun h1 => bq (i_lt 90 c) (fun h2 => ?_) (fun h2 => ?_))
  · rwa [bI_f (by omega)] at hQ
  · rwa [bI_f (by omega)] at hQ
  · rwa [bI_t (by omega)] at hQ
theorem x_great_m {Q : Int32 → Prop} (hQ : Q 0) : wp_X8_isGreat_0 Q (-1) := by
  unfold wp_X8_isGreat_0
  exact bt1 (by decide) hQ
theorem x_letter {Q : Int32 → Prop} {c : Nat} (h : c < 2147483648) (hQ : Q (bI (isL c))) : wp_X8_isLetter_0 Q (nI c) := by
  have h12 : ¬ (97 ≤ c ∧ c ≤ 122) → wp_X8_isLetter_12 Q (nI c) := by
    intro hn
    unfold wp_X8_isLetter_12
    refine x_great h ?_
    by_cases hg : isG c
    · rw [bI_t hg]
      rw [bI_t (Or.inr hg)] at hQ
      exact bf1 (by decide) hQ
    · rw [bI_f hg]
      rw [bI_f (by intro h9; rcases h9 with h9 | h9 <;> contradiction)] at hQ
      exact bt1 rfl hQ
  unfold wp_X8_isLetter_0
  refine bq (i_lt c 97) (fun h1 => h12 (by omega)) (fun h1 => bq (i_le c 122) (fun h2 => ?_) (fun h2 => h12 (by omega)))
  rw [bI_t (by omega)] at hQ
  exact hQ
theorem x_letter_m {Q : Int32 → Prop} (hQ : Q 0) : wp_X8_isLetter_0 Q (-1) := by
  unfold wp_X8_isLetter_0 wp_X8_isLetter_12
  exact bt1 (by decide) (x_great_m (bt1 rfl hQ))
theorem x_ends {Q : Int32 → Prop} {c : Nat} (h : c < 2147483648) (hQ : Q (bI (isE4 c))) : wp_X8_endsSentence_0 Q (nI c) := by
  unfold wp_X8_endsSentence_0 wp_X8_endsSentence_24
  refine bq (i_eq c 46) (fun h1 => ?_) (fun h1 => bq (i_eq c 33) (fun h2 => ?_) (fun h2 => bq (i_eq c 63) (fun h3 => ?_) (fun h3 => bn (i_eq c 59) (fun h4 => ?_) (fun h4 => ?_))))
  · rwa [bI_t (by omega)] at hQ
  · rwa [bI_t (by omega)] at hQ
  · rwa [bI_t (by omega)] at hQ
  · rwa [bI_t (by omega)] at hQ
  · rwa [bI_f (by omega)] at hQ
/-- a Row at a, its bytes at b -/
def isRow (dA : Nat → ClassId) (L : List Nat) (f : pF) (a b cap n : Nat) (t : Nat → Nat) : Prop :=
  a ∈ L ∧ b ∈ L ∧ f a = .inr (5, [.ref b, .int (nI n)]) ∧ (∃ g : Nat → Int32, f b = .inl (dA 0, cap, .inl g) ∧ ∀ k, k < n → t k < 256 ∧ g k = sb (t k)) ∧ n ≤ cap ∧ cap ≤ 600
section ROW
variable {dA : Nat → ClassId} {zz : Nat → Nat} {L : List Nat} {f : pF} {a b cap n : Nat} {t : Nat → Nat}
theorem isRow.O (h : isRow dA L f a b cap n t) : isO L f 5 a := ⟨h.1, _, h.2.2.1⟩
theorem isRow.ext {L' : List Nat} {f' : pF} (h : isRow dA L f a b cap n t) (hL : ∀ x ∈ L, x ∈ L') (hf : ∀ x ∈ L, f' x = f x) : isRow dA L' f' a b cap n t :=
  ⟨hL _ h.1, hL _ h.2.1, (hf _ h.1).trans h.2.2.1, by obtain ⟨g, h1, h2⟩ := h.2.2.2.1; exact ⟨g, (hf _ h.2.1).trans h1, h2⟩, h.2.2.2.2⟩
theorem isRow.cong {t' : Nat → Nat} (h : isRow dA L f a b cap n t) (ht : ∀ k, k < n → t' k = t k) : isRow dA L f a b cap n t' :=
  ⟨h.1, h.2.1, h.2.2.1, by obtain ⟨g, h1, h2⟩ := h.2.2.2.1; exact ⟨g, h1, fun k hk => by rw [ht k hk]; exact h2 k hk⟩, h.2.2.2.2⟩
theorem isRow.lt (h : isRow dA L f a b cap n t) {k : Nat} (hk : k < n) : t k < 256 := by obtain ⟨g, h1, h2⟩ := h.2.2.2.1; exact (h2 k hk).1
theorem isRow.le (h : isRow dA L f a b cap n t) : n ≤ 600 := Nat.le_trans h.2.2.2.2.1 h.2.2.2.2.2
theorem rw_size {Q : Int32 → List Nat → pF → Prop} (h : isRow dA L f a b cap n t) (hQ : Q (nI n) L f) : wp_X4_size_0 dA zz Q L f a := ⟨_, _, ⟨h.1, h.2.2.1, rfl⟩, hQ⟩
theorem rw_gI {K : Int32 → Prop} (h : isRow dA L f a b cap n t) (hK : K (nI n)) : gI L f 5 a 1 K := ⟨_, _, ⟨h.1, h.2.2.1, rfl⟩, hK⟩
theorem rw_gR {K : Nat → Prop} (h : isRow dA L f a b cap n t) (hK : K b) : gR L f 5 a 0 K := ⟨_, _, ⟨h.1, h.2.2.1, rfl⟩, hK⟩
/-- what at tells -/
def atv (n : Nat) (t : Nat → Nat) (i : Nat) : Int32 := if i < n then nI (t i) else -1
theorem rw_at {Q : Int32 → List Nat → pF → Prop} (h : isRow dA L f a b cap n t) (i : Nat) (hi : i < 2147483648) (hQ : Q (atv n t i) L f) : wp_X4_at_0 dA zz Q L f a (nI i) := by
  have hn := h.le
  unfold wp_X4_at_0
  refine bf1 (n_lt0 hi) (rw_gI h (bq (i_le n i) (fun h1 => ?_) (fun h1 => rw_gR h ?_)))
  · rwa [atv, if_neg (by omega)] at hQ
  · obtain ⟨g, h2, h3⟩ := h.2.2.2.1
    rw [atv, if_pos (by omega)] at hQ
    refine ⟨cap, g, ⟨h.2.1, h2, n_in (by have := h.2.2.2.2.1; omega) (by have := h.2.2.2.2.2; omega)⟩, ?_⟩
    show Q (g (nI i).toNatClampNeg &&& 255) L f
    rw [n_cl hi, (h3 i (by omega)).2, sb_and (h3 i (by omega)).1]
    exact hQ
theorem rw_at_m {Q : Int32 → List Nat → pF → Prop} {x : Int32} (hx : x < 0) (hQ : Q (-1) L f) : wp_X4_at_0 dA zz Q L f a x := by
  unfold wp_X4_at_0
  exact bt1 hx hQ
def smv (n : Nat) (t : Nat → Nat) (i : Nat) : Int32 := if i < n then nI (sm (t i)) else -1
theorem rw_small {Q : Int32 → List Nat → pF → Prop} (h : isRow dA L f a b cap n t) (i : Nat) (hi : i < 2147483648) (hQ : Q (smv n t i) L f) : wp_X4_smallAt_0 dA zz Q L f a (nI i) := by
  unfold wp_X4_smallAt_0
  refine ⟨h.O, rw_at h i hi ?_⟩
  by_cases h1 : i < n
  · have ht := h.lt h1
    rw [smv, if_pos h1] at hQ
    rw [atv, if_pos h1]
    refine x_great (by omega) ?_
    by_cases hg : isG (t i)
    · rw [bI_t hg]
      refine bf1 (by decide) ?_
      rw [sm, if_pos hg] at hQ
      exact nI_add (t i) 32 ▸ hQ
    · rw [bI_f hg]
      refine bt1 rfl ?_
      rwa [sm, if_neg hg] at hQ
  · rw [smv, if_neg h1] at hQ
    rw [atv, if_neg h1]
    exact x_great_m (bt1 rfl hQ)
theorem rw_letter {Q : Int32 → List Nat → pF → Prop} (h : isRow dA L f a b cap n t) (i : Nat) (hi : i < 2147483648) (hQ : Q (bI (i < n ∧ isL (t i))) L f) : wp_X4_letterAt_0 dA zz Q L f a (nI i) := by
  unfold wp_X4_letterAt_0
  refine ⟨h.O, rw_at h i hi ?_⟩
  by_cases h1 : i < n
  · have ht := h.lt h1
    rw [atv, if_pos h1]
    refine x_letter (by omega) ⟨n_bool, ?_⟩
    rw [bI_cong (p := i < n ∧ isL (t i)) (q := isL (t i)) ⟨fun h => h.2, fun h => ⟨h1, h⟩⟩] at hQ
    exact hQ
  · rw [bI_f (fun h9 => h1 h9.1)] at hQ
    rw [atv, if_neg h1]
    exact x_letter_m ⟨rfl, hQ⟩
theorem rw_letter_m {Q : Int32 → List Nat → pF → Prop} (h : isRow dA L f a b cap n t) {x : Int32} (hx : x < 0) (hQ : Q 0 L f) : wp_X4_letterAt_0 dA zz Q L f a x := by
  unfold wp_X4_letterAt_0
  exact ⟨h.O, rw_at_m hx (x_letter_m ⟨rfl, hQ⟩)⟩
/-- a byte that stands for a byte of a form -/
abbrev mch (n : Nat) (t : Nat → Nat) (i due : Nat) : Prop := i < n ∧ (sm (t i) = due ∨ due = 32 ∧ sm (t i) = 10)
/-- a form of m bytes stands at p -/
abbrev mat (n : Nat) (t : Nat → Nat) (p m : Nat) (w : Nat → Nat) : Prop := ∀ k, k < m → mch n t (p + k) (w k)
theorem rw_eof {Q : Int32 → List Nat → pF → Prop} {a2 b2 cap2 m : Nat} {w : Nat → Nat} (h : isRow dA L f a b cap n t) (h2 : isRow dA L f a2 b2 cap2 m w) (p : Nat) (hp : p < 1000000) (hQ : Q (if mat n t p m w then nI (p + m) else -1) L f) : wp_X4_endOfForm_0 dA zz Q L f a (nI p) a2 := by
  have hn := h.le
  have hm := h2.le
  unfold wp_X4_endOfForm_0
  refine pk_loop (σ := Unit) (fun n9 i _ => wp_X4_endOfForm_2 dA zz Q n9 L f a (nI p) a2 (nI i)) (fun i _ => ∀ k, k < i → mch n t (p + k) (w k)) m 0 () (Nat.zero_le _) (fun k hk => absurd hk (Nat.not_lt_zero k)) ?_ ?_
  · intro n9 _ hI
    unfold wp_X4_endOfForm_2
    refine rw_gI h2 (bt1 ((i_le m m).mpr (Nat.le_refl m)) ?_)
    unfold wp_X4_endOfForm_67
    refine rw_gI h2 ?_
    rw [if_pos hI] at hQ
    rw [nI_add]
    exact hQ
  · intro n9 i _ hi hI ih
    unfold wp_X4_endOfForm_2
    have hw := h2.lt hi
    refine rw_gI h2 (bf1 (by rw [i_le m i]; omega) ⟨h2.O, rw_at h2 i (by omega) ⟨h.O, ?_⟩⟩)
    rw [nI_add]
    refine rw_small h (p + i) (by omega) ?_
    rw [atv, if_pos hi]
    have yes : mch n t (p + i) (w i) → wp_X4_endOfForm_61 dA zz Q (wp_X4_endOfForm_2 dA zz Q n9) L f a (nI p) a2 (nI i) := by
      intro hy
      unfold wp_X4_endOfForm_61
      rintro _ rfl
      rw [nI_1]
      exact ih () (lt_s hI hy)
    have no : ¬ mch n t (p + i) (w i) → Q (-1) L f := by
      intro hy
      rwa [if_neg (fun h9 => hy (h9 i hi))] at hQ
    have e44 : (smv n t (p + i) = nI (w i) ↔ p + i < n ∧ sm (t (p + i)) = w i) := by
      unfold smv
      by_cases h1 : p + i < n
      · have := sm_lt (h.lt h1)
        rw [if_pos h1, n_eq (by omega) (by omega)]
        exact ⟨fun h => ⟨h1, h⟩, fun h => h.2⟩
      · rw [if_neg h1]
        exact ⟨fun h => absurd h.symm (n_m1 (by omega)), fun h => absurd h.1 h1⟩
    have f44 : ∀ k0 : Int32, (k0 = 0 ∧ ¬ (w i = 32 ∧ p + i < n ∧ sm (t (p + i)) = 10) ∨ k0 = 1 ∧ (w i = 32 ∧ p + i < n ∧ sm (t (p + i)) = 10)) → wp_X4_endOfForm_45 dA zz Q (wp_X4_endOfForm_2 dA zz Q n9) L f a (nI p) a2 (nI i) (nI (w i)) (smv n t (p + i)) k0 := by
      intro k0 hk
      unfold wp_X4_endOfForm_45
      refine bq e44 (fun h1 => yes ⟨h1.1, Or.inl h1.2⟩) (fun h1 => ?_)
      rcases hk with ⟨rfl, hk⟩ | ⟨rfl, hk⟩
      · exact bt2 rfl (no (fun h9 => by rcases h9 with ⟨h3, h4 | h4⟩; exact h1 ⟨h3, h4⟩; exact hk ⟨h4.1, h3, h4.2⟩))
      · exact bf2 (by decide) (yes ⟨hk.2.1, Or.inr ⟨hk.1, hk.2.2⟩⟩)
    refine bn (i_eq (w i) 32) (fun h1 => bn (p := p + i < n ∧ sm (t (p + i)) = 10) ?_ (fun h3 => f44 1 (Or.inr ⟨rfl, h1, h3⟩)) (fun h3 => f44 0 (Or.inl ⟨rfl, fun h9 => h3 h9.2⟩))) (fun h1 => f44 0 (Or.inl ⟨rfl, fun h9 => h1 h9.1⟩))
    unfold smv
    by_cases h4 : p + i < n
    · have := sm_lt (h.lt h4)
      rw [if_pos h4]
      exact (i_eq (sm (t (p + i))) 10).trans ⟨fun h => ⟨h4, h⟩, fun h => h.2⟩
    · rw [if_neg h4]
      exact ⟨fun h => absurd h (by decide), fun h => absurd h.1 h4⟩
theorem rw_same {Q : Int32 → List Nat → pF → Prop} {a2 b2 cap2 m : Nat} {w : Nat → Nat} (h : isRow dA L f a b cap n t) (h2 : isRow dA L f a2 b2 cap2 m w) (hQ : Q (bI (n = m ∧ mat n t 0 m w)) L f) : wp_X4_sameAs_0 dA zz Q L f a a2 := by
  have hn := h.le
  have hm := h2.le
  unfold wp_X4_sameAs_0
  refine rw_gI h (rw_gI h2 (bn (i_eq n m) (fun h1 => ⟨h.O, ?_⟩) (fun h1 => ?_)))
  · refine rw_eof h h2 0 (by omega) (rw_gI h ?_)
    by_cases hx : mat n t 0 m w
    · rw [if_pos hx]
      rw [bI_t ⟨h1, hx⟩] at hQ
      exact bt2 ((i_eq (0 + m) n).mpr (by omega)) hQ
    · rw [if_neg hx]
      rw [bI_f (fun h9 => hx h9.2)] at hQ
      exact bf2 (fun h9 => n_m1 (by omega) h9.symm) hQ
  · rwa [bI_f (fun h9 => h1 h9.1)] at hQ
end ROW
