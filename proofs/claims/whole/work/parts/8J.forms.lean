/-! pure: forms, by words and by bytes -/
section FO
variable {n : Nat} {b : Nat → Nat}
theorem sm_32 {c : Nat} : sm c = 32 ↔ c = 32 := by unfold sm; split <;> omega
theorem sm_10 {c : Nat} : sm c = 10 ↔ c = 10 := by unfold sm; split <;> omega
/-- one word: by its length and letters, by its bytes -/
theorem wd_one {w m : Nat} {due : Nat → Nat} (hw : wpA n b w < n) (hd : ∀ k, k < m → 1 ≤ due k ∧ due k ≤ 26) (hm : 1 ≤ m) : (weA n b w - wpA n b w = m ∧ ∀ k, k < m → lto (b (wpA n b w + k)) = due k) ↔ ((∀ k, k < m → mch n b (wpA n b w + k) (96 + due k)) ∧ ¬ ltA n b (wpA n b w + m)) := by
  have hgt := weA_gt hw
  constructor
  · rintro ⟨h1, h2⟩
    have e : weA n b w = wpA n b w + m := by omega
    refine ⟨fun k hk => ⟨(weA_in (n := n) (b := b) (k := w) (by omega) (by omega)).1, (sm_lto (hd k hk).1 (hd k hk).2).mpr (h2 k hk)⟩, ?_⟩
    rw [← e]; exact weA_no w
  · rintro ⟨h1, h2⟩
    have hl : ∀ k, k < m → lto (b (wpA n b w + k)) = due k := fun k hk => (sm_lto (hd k hk).1 (hd k hk).2).mp (h1 k hk).2
    have e : weA n b w = wpA n b w + m := by
      refine enn_is (by omega) (fun j hj1 hj2 => ?_) h2 (wpA_le w)
      have hk : j - wpA n b w < m := by omega
      have h3 := hl _ hk
      have h4 := (h1 _ hk).1
      have h5 := (hd _ hk).1
      rw [show wpA n b w + (j - wpA n b w) = j by omega] at h3 h4
      exact ⟨h4, Classical.byContradiction fun h9 => by have := lto_0.mpr h9; omega⟩
    exact ⟨by omega, hl⟩
abbrev tog (n : Nat) (b : Nat → Nat) (w : Nat) : Prop := w + 1 < fnd n b ∧ wpA n b (w + 1) = weA n b w + 1 ∧ (b (weA n b w) = 32 ∨ b (weA n b w) = 10)
theorem tog_iff {w : Nat} (hw : wpA n b w < n) : tog n b w ↔ (mch n b (weA n b w) 32 ∧ ltA n b (weA n b w + 1)) := by
  constructor
  · rintro ⟨h1, h2, h3⟩
    have h4 := fnd_lt.mp h1
    refine ⟨⟨by omega, ?_⟩, by rw [← h2]; exact wpA_lt h4⟩
    rw [sm_32, sm_10]
    rcases h3 with h3 | h3
    · exact Or.inl h3
    · exact Or.inr ⟨rfl, h3⟩
  · rintro ⟨⟨h1, h2⟩, h3⟩
    have e : wpA n b (w + 1) = weA n b w + 1 := by
      rw [wpA_s]
      refine nxt_is (by omega) (by have := h3.1; omega) (fun j hj1 hj2 => ?_) (fun _ => h3)
      have : j = weA n b w := by omega
      rw [this]; exact weA_no w
    refine ⟨fnd_lt.mpr (by rw [e]; exact h3.1), e, ?_⟩
    rw [sm_32, sm_10] at h2
    rcases h2 with h2 | h2
    · exact Or.inl h2
    · exact Or.inr h2.2
/-- the words u, u + 1 .. (r in all) and the ending: by words -/
def CHc (n : Nat) (b : Nat → Nat) (s : Nat → Nat) (wd : Nat → Nat → Nat) (mE : Nat) (en : Nat → Nat) : Nat → Nat → Nat → Prop
  | 0, _, _ => True
  | r + 1, u, v => (weA n b v - wpA n b v = s u + (if r = 0 then mE else 0) ∧ ∀ k, k < s u + (if r = 0 then mE else 0) → lto (b (wpA n b v + k)) = if k < s u then wd u k else en (k - s u)) ∧ (r = 0 ∨ tog n b v ∧ CHc n b s wd mE en r (u + 1) (v + 1))
/-- the same, by bytes -/
def FMc (n : Nat) (b : Nat → Nat) (s : Nat → Nat) (wd : Nat → Nat → Nat) (mE : Nat) (en : Nat → Nat) : Nat → Nat → Nat → Prop
  | 0, _, q => mat n b q mE (fun k => 96 + en k) ∧ ¬ ltA n b (q + mE)
  | r + 1, u, q => mat n b q (s u) (fun k => 96 + wd u k) ∧ (if r = 0 then mat n b (q + s u) mE (fun k => 96 + en k) ∧ ¬ ltA n b (q + s u + mE) else mch n b (q + s u) 32 ∧ FMc n b s wd mE en r (u + 1) (q + s u + 1))
theorem CF_iff {s : Nat → Nat} {wd : Nat → Nat → Nat} {mE : Nat} {en : Nat → Nat} (he : ∀ k, k < mE → 1 ≤ en k ∧ en k ≤ 26) : ∀ (r u v : Nat), (∀ j, u ≤ j → j < u + (r + 1) → 1 ≤ s j ∧ ∀ k, k < s j → 1 ≤ wd j k ∧ wd j k ≤ 26) → wpA n b v < n → (CHc n b s wd mE en (r + 1) u v ↔ FMc n b s wd mE en (r + 1) u (wpA n b v))
  | 0, u, v, hs, hv => by
    obtain ⟨s1, s2⟩ := hs u (Nat.le_refl _) (by omega)
    have hdue : ∀ k, k < s u + mE → 1 ≤ (if k < s u then wd u k else en (k - s u)) ∧ (if k < s u then wd u k else en (k - s u)) ≤ 26 := by
      intro k hk
      by_cases h : k < s u
      · rw [if_pos h]; exact s2 k h
      · rw [if_neg h]; exact he _ (by omega)
    have h1 := wd_one (n := n) (b := b) hv hdue (by omega)
    unfold CHc FMc
    rw [if_pos rfl, if_pos rfl]
    constructor
    · rintro ⟨h2, _⟩
      obtain ⟨a1, a2⟩ := h1.mp h2
      refine ⟨fun k hk => ?_, fun k hk => ?_, by rw [Nat.add_assoc]; exact a2⟩
      · have := a1 k (by omega); rw [if_pos hk] at this; exact this
      · have := a1 (s u + k) (by omega)
        rw [if_neg (by omega), show s u + k - s u = k by omega, ← Nat.add_assoc] at this; exact this
    · rintro ⟨a1, a2, a3⟩
      refine ⟨h1.mpr ⟨fun k hk => ?_, by rw [← Nat.add_assoc]; exact a3⟩, Or.inl rfl⟩
      by_cases h : k < s u
      · rw [if_pos h]; exact a1 k h
      · rw [if_neg h]
        have := a2 (k - s u) (by omega)
        rw [Nat.add_assoc, show s u + (k - s u) = k by omega] at this; exact this
  | r + 1, u, v, hs, hv => by
    obtain ⟨s1, s2⟩ := hs u (Nat.le_refl _) (by omega)
    have hdue : ∀ k, k < s u → 1 ≤ (if k < s u then wd u k else en (k - s u)) ∧ (if k < s u then wd u k else en (k - s u)) ≤ 26 := by
      intro k hk; rw [if_pos hk]; exact s2 k hk
    have h1 := wd_one (n := n) (b := b) hv hdue s1
    have hsn := hs (u + 1) (by omega) (by omega)
    have ih : ∀ v', wpA n b v' < n → (CHc n b s wd mE en (r + 1) (u + 1) v' ↔ FMc n b s wd mE en (r + 1) (u + 1) (wpA n b v')) := fun v' hv' => CF_iff he r (u + 1) v' (fun j h2 h3 => hs j (by omega) (by omega)) hv'
    rw [show CHc n b s wd mE en (r + 1 + 1) u v = ((weA n b v - wpA n b v = s u + (if r + 1 = 0 then mE else 0) ∧ ∀ k, k < s u + (if r + 1 = 0 then mE else 0) → lto (b (wpA n b v + k)) = if k < s u then wd u k else en (k - s u)) ∧ (r + 1 = 0 ∨ tog n b v ∧ CHc n b s wd mE en (r + 1) (u + 1) (v + 1))) from rfl]
    rw [show FMc n b s wd mE en (r + 1 + 1) u (wpA n b v) = (mat n b (wpA n b v) (s u) (fun k => 96 + wd u k) ∧ (if r + 1 = 0 then mat n b (wpA n b v + s u) mE (fun k => 96 + en k) ∧ ¬ ltA n b (wpA n b v + s u + mE) else mch n b (wpA n b v + s u) 32 ∧ FMc n b s wd mE en (r + 1) (u + 1) (wpA n b v + s u + 1))) from rfl]
    rw [if_neg (by omega), if_neg (by omega), Nat.add_zero]
    have hgt := weA_gt hv
    constructor
    · rintro ⟨h2, h3⟩
      have e : weA n b v = wpA n b v + s u := by have := h2.1; omega
      obtain ⟨a1, a2⟩ := h1.mp h2
      rcases h3 with h3 | ⟨h3, h4⟩
      · omega
      · have ew := h3.2.1
        have hv1 := fnd_lt.mp h3.1
        have h5 := (ih (v + 1) hv1).mp h4
        have h6 := ((tog_iff hv).mp h3).1
        rw [ew, e] at h5
        rw [e] at h6
        exact ⟨fun k hk => by have := a1 k hk; rw [if_pos hk] at this; exact this, h6, h5⟩
    · rintro ⟨a1, a2, a3⟩
      have hno : ¬ ltA n b (wpA n b v + s u) := by
        intro h9
        have := a2.2
        rw [sm_32, sm_10] at this
        have h8 := h9.2
        unfold isL at h8
        omega
      have h2 := h1.mpr ⟨fun k hk => by rw [if_pos hk]; exact a1 k hk, hno⟩
      have e : weA n b v = wpA n b v + s u := by have := h2.1; omega
      have hl1 : ltA n b (wpA n b v + s u + 1) := by
        have hfirst : mch n b (wpA n b v + s u + 1 + 0) (96 + wd (u + 1) 0) := by
          have := a3
          unfold FMc at this
          exact this.1 0 hsn.1
        obtain ⟨b1, b2⟩ := hfirst
        have b3 := hsn.2 0 hsn.1
        have b4 := (sm_lto b3.1 b3.2).mp b2
        exact ⟨b1, Classical.byContradiction fun h9 => by have := lto_0.mpr h9; rw [Nat.add_zero] at b4; omega⟩
      have ht : tog n b v := (tog_iff hv).mpr (by rw [e]; exact ⟨a2, hl1⟩)
      refine ⟨h2, Or.inr ⟨ht, (ih (v + 1) (fnd_lt.mp ht.1)).mpr ?_⟩⟩
      rw [ht.2.1, e]; exact a3
end FO
/-- a term's form with an ending of mE letters (0: none), by bytes, is its row and then the ending -/
theorem FM_row {M : mN} {D : Nat → Int64} (hM : MI M D) {x t p mE : Nat} {en : Nat → Nat} (ht : t < M 4 0) : FMc (M 20 x) (tbx M x) (fun u => M 9 (3 * t + u)) (fun u k => M 8 (36 * t + 12 * u + k)) mE en (M 10 t) 0 p ↔ (fmR M x p t ∧ mat (M 20 x) (tbx M x) (p + rowN M t) mE (fun k => 96 + en k) ∧ ¬ ltA (M 20 x) (tbx M x) (p + rowN M t + mE)) := by
  obtain ⟨q1, q2, q3, q4, _⟩ := hM.2.2.1.2 t ht
  generalize hnn : M 20 x = n
  generalize hbb : tbx M x = b
  have fm : fmR M x p t ↔ mat n b p (rowN M t) (rowB M t) := by unfold fmR; rw [hnn, hbb]
  rw [fm]
  have hw : M 10 t = 1 ∨ M 10 t = 2 ∨ M 10 t = 3 := by omega
  have z0 := (q3 0 (by omega)).1
  rcases hw with e | e | e
  · have a1 := q4 1 (by decide) (by omega)
    have a2 := q4 2 (by decide) (by omega)
    have er : rowN M t = M 9 (3 * t) := by unfold rowN; omega
    rw [e, er]
    unfold FMc
    rw [if_pos rfl]
    refine ⟨fun ⟨h1, h2⟩ => ⟨fun k hk => ?_, h2⟩, fun ⟨h1, h2⟩ => ⟨fun k hk => ?_, h2⟩⟩
    · have hk : k < M 9 (3 * t) := hk
      unfold rowB; rw [if_pos hk]
      exact h1 k hk
    · have hk : k < M 9 (3 * t) := hk
      have := h1 k hk
      unfold rowB at this
      rw [if_pos hk] at this
      exact this
  · have a2 := q4 2 (by decide) (by omega)
    have er : rowN M t = M 9 (3 * t) + 1 + M 9 (3 * t + 1) := by unfold rowN; omega
    rw [e, er]
    have r0 : ∀ k, k < M 9 (3 * t) → rowB M t k = 96 + M 8 (36 * t + 12 * 0 + k) := fun k hk => by unfold rowB; rw [if_pos hk]; rfl
    have r1 : rowB M t (M 9 (3 * t)) = 32 := by unfold rowB; rw [if_neg (by omega), if_pos rfl]
    have r2 : ∀ k, k < M 9 (3 * t + 1) → rowB M t (M 9 (3 * t) + 1 + k) = 96 + M 8 (36 * t + 12 * (0 + 1) + k) := fun k hk => by unfold rowB; rw [if_neg (by omega), if_neg (by omega), if_pos (by omega)]; congr 2; omega
    rw [show FMc n b (fun u => M 9 (3 * t + u)) (fun u k => M 8 (36 * t + 12 * u + k)) mE en 2 0 p = (mat n b p (M 9 (3 * t)) (fun k => 96 + M 8 (36 * t + 12 * 0 + k)) ∧ (mch n b (p + M 9 (3 * t)) 32 ∧ (mat n b (p + M 9 (3 * t) + 1) (M 9 (3 * t + (0 + 1))) (fun k => 96 + M 8 (36 * t + 12 * (0 + 1) + k)) ∧ (mat n b (p + M 9 (3 * t) + 1 + M 9 (3 * t + (0 + 1))) mE (fun k => 96 + en k) ∧ ¬ ltA n b (p + M 9 (3 * t) + 1 + M 9 (3 * t + (0 + 1)) + mE))))) from rfl]
    constructor
    · rintro ⟨h1, h2, h3, h4, h5⟩
      have h1 : ∀ k, k < M 9 (3 * t) → mch n b (p + k) (96 + M 8 (36 * t + 12 * 0 + k)) := h1
      have h3 : ∀ k, k < M 9 (3 * t + 1) → mch n b (p + M 9 (3 * t) + 1 + k) (96 + M 8 (36 * t + 12 * (0 + 1) + k)) := h3
      refine ⟨fun k hk => ?_, by rw [← Nat.add_assoc, ← Nat.add_assoc]; exact h4, by rw [← Nat.add_assoc, ← Nat.add_assoc]; exact h5⟩
      by_cases c1 : k < M 9 (3 * t)
      · rw [r0 k c1]; exact h1 k c1
      · by_cases c2 : k = M 9 (3 * t)
        · rw [c2, r1]; exact h2
        · have := h3 (k - (M 9 (3 * t) + 1)) (by omega)
          rw [← r2 (k - (M 9 (3 * t) + 1)) (by omega), show M 9 (3 * t) + 1 + (k - (M 9 (3 * t) + 1)) = k by omega, show p + M 9 (3 * t) + 1 + (k - (M 9 (3 * t) + 1)) = p + k by omega] at this
          exact this
    · rintro ⟨h1, h4, h5⟩
      refine ⟨fun k hk => by show mch n b (p + k) (96 + M 8 (36 * t + 12 * 0 + k)); rw [← r0 k hk]; exact h1 k (by omega), ?_, fun k hk => ?_, by rw [← Nat.add_assoc, ← Nat.add_assoc] at h4; exact h4, by rw [← Nat.add_assoc, ← Nat.add_assoc] at h5; exact h5⟩
      · have := h1 (M 9 (3 * t)) (by omega); rw [r1] at this; exact this
      · have hk : k < M 9 (3 * t + 1) := hk
        have := h1 (M 9 (3 * t) + 1 + k) (by omega)
        rw [r2 k hk] at this
        rw [show p + M 9 (3 * t) + 1 + k = p + (M 9 (3 * t) + 1 + k) by omega]; exact this
  · have er : rowN M t = M 9 (3 * t) + 1 + M 9 (3 * t + 1) + 1 + M 9 (3 * t + 2) := by unfold rowN; omega
    rw [e, er]
    have r0 : ∀ k, k < M 9 (3 * t) → rowB M t k = 96 + M 8 (36 * t + 12 * 0 + k) := fun k hk => by unfold rowB; rw [if_pos hk]; rfl
    have r1 : rowB M t (M 9 (3 * t)) = 32 := by unfold rowB; rw [if_neg (by omega), if_pos rfl]
    have r2 : ∀ k, k < M 9 (3 * t + 1) → rowB M t (M 9 (3 * t) + 1 + k) = 96 + M 8 (36 * t + 12 * (0 + 1) + k) := fun k hk => by unfold rowB; rw [if_neg (by omega), if_neg (by omega), if_pos (by omega)]; congr 2; omega
    have r3 : rowB M t (M 9 (3 * t) + 1 + M 9 (3 * t + 1)) = 32 := by unfold rowB; rw [if_neg (by omega), if_neg (by omega), if_neg (by omega), if_pos rfl]
    have r4 : ∀ k, k < M 9 (3 * t + 2) → rowB M t (M 9 (3 * t) + 1 + M 9 (3 * t + 1) + 1 + k) = 96 + M 8 (36 * t + 12 * (0 + 1 + 1) + k) := fun k hk => by unfold rowB; rw [if_neg (by omega), if_neg (by omega), if_neg (by omega), if_neg (by omega)]; congr 2; omega
    rw [show FMc n b (fun u => M 9 (3 * t + u)) (fun u k => M 8 (36 * t + 12 * u + k)) mE en 3 0 p = (mat n b p (M 9 (3 * t)) (fun k => 96 + M 8 (36 * t + 12 * 0 + k)) ∧ (mch n b (p + M 9 (3 * t)) 32 ∧ (mat n b (p + M 9 (3 * t) + 1) (M 9 (3 * t + (0 + 1))) (fun k => 96 + M 8 (36 * t + 12 * (0 + 1) + k)) ∧ (mch n b (p + M 9 (3 * t) + 1 + M 9 (3 * t + (0 + 1))) 32 ∧ (mat n b (p + M 9 (3 * t) + 1 + M 9 (3 * t + (0 + 1)) + 1) (M 9 (3 * t + (0 + 1 + 1))) (fun k => 96 + M 8 (36 * t + 12 * (0 + 1 + 1) + k)) ∧ (mat n b (p + M 9 (3 * t) + 1 + M 9 (3 * t + (0 + 1)) + 1 + M 9 (3 * t + (0 + 1 + 1))) mE (fun k => 96 + en k) ∧ ¬ ltA n b (p + M 9 (3 * t) + 1 + M 9 (3 * t + (0 + 1)) + 1 + M 9 (3 * t + (0 + 1 + 1)) + mE))))))) from rfl]
    constructor
    · rintro ⟨h1, h2, h3, h6, h7, h4, h5⟩
      have h1 : ∀ k, k < M 9 (3 * t) → mch n b (p + k) (96 + M 8 (36 * t + 12 * 0 + k)) := h1
      have h3 : ∀ k, k < M 9 (3 * t + 1) → mch n b (p + M 9 (3 * t) + 1 + k) (96 + M 8 (36 * t + 12 * (0 + 1) + k)) := h3
      have h7 : ∀ k, k < M 9 (3 * t + 2) → mch n b (p + M 9 (3 * t) + 1 + M 9 (3 * t + 1) + 1 + k) (96 + M 8 (36 * t + 12 * (0 + 1 + 1) + k)) := h7
      have ea : p + (M 9 (3 * t) + 1 + M 9 (3 * t + 1) + 1 + M 9 (3 * t + 2)) = p + M 9 (3 * t) + 1 + M 9 (3 * t + (0 + 1)) + 1 + M 9 (3 * t + (0 + 1 + 1)) := by show _ = p + M 9 (3 * t) + 1 + M 9 (3 * t + 1) + 1 + M 9 (3 * t + 2); omega
      refine ⟨fun k hk => ?_, by rw [ea]; exact h4, by rw [ea]; exact h5⟩
      by_cases c1 : k < M 9 (3 * t)
      · rw [r0 k c1]; exact h1 k c1
      · by_cases c2 : k = M 9 (3 * t)
        · rw [c2, r1]; exact h2
        · by_cases c3 : k < M 9 (3 * t) + 1 + M 9 (3 * t + 1)
          · have := h3 (k - (M 9 (3 * t) + 1)) (by omega)
            rw [← r2 (k - (M 9 (3 * t) + 1)) (by omega), show M 9 (3 * t) + 1 + (k - (M 9 (3 * t) + 1)) = k by omega, show p + M 9 (3 * t) + 1 + (k - (M 9 (3 * t) + 1)) = p + k by omega] at this
            exact this
          · by_cases c4 : k = M 9 (3 * t) + 1 + M 9 (3 * t + 1)
            · rw [c4, r3]
              have h6 : mch n b (p + M 9 (3 * t) + 1 + M 9 (3 * t + 1)) 32 := h6
              rw [show p + M 9 (3 * t) + 1 + M 9 (3 * t + 1) = p + (M 9 (3 * t) + 1 + M 9 (3 * t + 1)) by omega] at h6
              exact h6
            · have := h7 (k - (M 9 (3 * t) + 1 + M 9 (3 * t + 1) + 1)) (by omega)
              rw [← r4 (k - (M 9 (3 * t) + 1 + M 9 (3 * t + 1) + 1)) (by omega), show M 9 (3 * t) + 1 + M 9 (3 * t + 1) + 1 + (k - (M 9 (3 * t) + 1 + M 9 (3 * t + 1) + 1)) = k by omega] at this
              have this : mch n b (p + M 9 (3 * t) + 1 + M 9 (3 * t + 1) + 1 + (k - (M 9 (3 * t) + 1 + M 9 (3 * t + 1) + 1))) (rowB M t k) := this
              rw [show p + M 9 (3 * t) + 1 + M 9 (3 * t + 1) + 1 + (k - (M 9 (3 * t) + 1 + M 9 (3 * t + 1) + 1)) = p + k by omega] at this
              exact this
    · rintro ⟨h1, h4, h5⟩
      have ea : p + (M 9 (3 * t) + 1 + M 9 (3 * t + 1) + 1 + M 9 (3 * t + 2)) = p + M 9 (3 * t) + 1 + M 9 (3 * t + (0 + 1)) + 1 + M 9 (3 * t + (0 + 1 + 1)) := by show _ = p + M 9 (3 * t) + 1 + M 9 (3 * t + 1) + 1 + M 9 (3 * t + 2); omega
      rw [ea] at h4 h5
      refine ⟨fun k hk => by show mch n b (p + k) (96 + M 8 (36 * t + 12 * 0 + k)); rw [← r0 k hk]; exact h1 k (by omega), ?_, fun k hk => ?_, ?_, fun k hk => ?_, h4, h5⟩
      · have := h1 (M 9 (3 * t)) (by omega); rw [r1] at this; exact this
      · have hk : k < M 9 (3 * t + 1) := hk
        have := h1 (M 9 (3 * t) + 1 + k) (by omega)
        rw [r2 k hk] at this
        rw [show p + M 9 (3 * t) + 1 + k = p + (M 9 (3 * t) + 1 + k) by omega]; exact this
      · have := h1 (M 9 (3 * t) + 1 + M 9 (3 * t + 1)) (by omega)
        rw [r3] at this
        show mch n b (p + M 9 (3 * t) + 1 + M 9 (3 * t + 1)) 32
        rw [show p + M 9 (3 * t) + 1 + M 9 (3 * t + 1) = p + (M 9 (3 * t) + 1 + M 9 (3 * t + 1)) by omega]; exact this
      · have hk : k < M 9 (3 * t + 2) := hk
        have := h1 (M 9 (3 * t) + 1 + M 9 (3 * t + 1) + 1 + k) (by omega)
        rw [r4 k hk] at this
        show mch n b (p + M 9 (3 * t) + 1 + M 9 (3 * t + 1) + 1 + k) (96 + M 8 (36 * t + 12 * (0 + 1 + 1) + k))
        rw [show p + M 9 (3 * t) + 1 + M 9 (3 * t + 1) + 1 + k = p + (M 9 (3 * t) + 1 + M 9 (3 * t + 1) + 1 + k) by omega]; exact this
