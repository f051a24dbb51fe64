/-! pure: the reference's term -/
/-- a term comes: what is told of it, its row -/
def TA (M M' : mN) (th k cl : Nat) : Prop :=
  (∀ a, a ≠ 1 → a ≠ 4 → a ≠ 8 → a ≠ 9 → a ≠ 10 → a ≠ 11 → a ≠ 12 → a ≠ 13 → M' a = M a) ∧ M' 1 0 = 0 ∧ M' 4 0 = M 4 0 + 1
  ∧ (∀ t, t < M 4 0 → (∀ j, j < 36 → M' 8 (36 * t + j) = M 8 (36 * t + j)) ∧ (∀ w, w < 3 → M' 9 (3 * t + w) = M 9 (3 * t + w)) ∧ M' 10 t = M 10 t ∧ M' 11 t = M 11 t ∧ M' 12 t = M 12 t ∧ M' 13 t = M 13 t)
  ∧ (M' 10 (M 4 0) = wwn 12 (M 2) (M 1 0) ∧ M' 11 (M 4 0) = th ∧ M' 12 (M 4 0) = k ∧ M' 13 (M 4 0) = cl) ∧ rowN M' (M 4 0) = M 1 0 ∧ ∀ j, j < M 1 0 → rowB M' (M 4 0) j = chr (M 2 j)
def TJ (M Mk : mN) (T k w i : Nat) : Prop :=
  (∀ a, a ≠ 8 → a ≠ 9 → Mk a = M a) ∧ (∀ j, j < 36 * T → Mk 8 j = M 8 j) ∧ (∀ j, j < 3 * T → Mk 9 j = M 9 j)
  ∧ (w = 0 ∧ Mk 9 (3 * T) = i ∧ Mk 9 (3 * T + 1) = 0 ∧ Mk 9 (3 * T + 2) = 0 ∧ k = i
    ∨ w = 1 ∧ Mk 9 (3 * T + 1) = i ∧ Mk 9 (3 * T + 2) = 0 ∧ k = Mk 9 (3 * T) + 1 + i ∧ 1 ≤ Mk 9 (3 * T) ∧ M 2 (Mk 9 (3 * T)) = 0
    ∨ w = 2 ∧ Mk 9 (3 * T + 2) = i ∧ k = Mk 9 (3 * T) + Mk 9 (3 * T + 1) + 2 + i ∧ 1 ≤ Mk 9 (3 * T) ∧ 1 ≤ Mk 9 (3 * T + 1) ∧ M 2 (Mk 9 (3 * T)) = 0 ∧ M 2 (Mk 9 (3 * T) + 1 + Mk 9 (3 * T + 1)) = 0)
  ∧ (Mk 9 (3 * T) ≤ 12 ∧ Mk 9 (3 * T + 1) ≤ 12 ∧ Mk 9 (3 * T + 2) ≤ 12)
  ∧ (∀ j, j < Mk 9 (3 * T) → Mk 8 (36 * T + j) = M 2 j ∧ 0 < M 2 j)
  ∧ (∀ j, j < Mk 9 (3 * T + 1) → Mk 8 (36 * T + 12 + j) = M 2 (Mk 9 (3 * T) + 1 + j) ∧ 0 < M 2 (Mk 9 (3 * T) + 1 + j))
  ∧ (∀ j, j < Mk 9 (3 * T + 2) → Mk 8 (36 * T + 24 + j) = M 2 (Mk 9 (3 * T) + Mk 9 (3 * T + 1) + 2 + j) ∧ 0 < M 2 (Mk 9 (3 * T) + Mk 9 (3 * T + 1) + 2 + j))
theorem TJ_letter {M Mk : mN} {T k w i : Nat} (h : TJ M Mk T k w i) (hk : 0 < M 2 k) (hi : i + 1 ≤ 12) : TJ M (ad2 (ad2 Mk 8 (36 * T + 12 * w + i) (M 2 k)) 9 (3 * T + w) (i + 1)) T (k + 1) w (i + 1) := by
  have r9 : ∀ j, ad2 (ad2 Mk 8 (36 * T + 12 * w + i) (M 2 k)) 9 (3 * T + w) (i + 1) 9 j = if j = 3 * T + w then i + 1 else Mk 9 j := by
    intro j
    by_cases e : j = 3 * T + w
    · rw [if_pos e, e, ad2_s]
    · rw [if_neg e, ad2_i e, ad2_f (by decide)]
  have r8 : ∀ j, ad2 (ad2 Mk 8 (36 * T + 12 * w + i) (M 2 k)) 9 (3 * T + w) (i + 1) 8 j = if j = 36 * T + 12 * w + i then M 2 k else Mk 8 j := by
    intro j
    rw [ad2_f (by decide)]
    by_cases e : j = 36 * T + 12 * w + i
    · rw [if_pos e, e, ad2_s]
    · rw [if_neg e, ad2_i e]
  have ro : ∀ a, a ≠ 8 → a ≠ 9 → ad2 (ad2 Mk 8 (36 * T + 12 * w + i) (M 2 k)) 9 (3 * T + w) (i + 1) a = Mk a := fun a h8 h9 => by rw [ad2_f h9, ad2_f h8]
  obtain ⟨j1, j2, j3, j4, ⟨b0, b1, b2⟩, l0, l1, l2⟩ := h
  generalize ad2 (ad2 Mk 8 (36 * T + 12 * w + i) (M 2 k)) 9 (3 * T + w) (i + 1) = Mn at r9 r8 ro ⊢
  have c1 : ∀ a, a ≠ 8 → a ≠ 9 → Mn a = M a := fun a h8 h9 => by rw [ro a h8 h9]; exact j1 a h8 h9
  have c2 : ∀ j, j < 36 * T → Mn 8 j = M 8 j := fun j hj => by rw [r8, if_neg (by omega)]; exact j2 j hj
  have c3 : ∀ j, j < 3 * T → Mn 9 j = M 9 j := fun j hj => by rw [r9, if_neg (by omega)]; exact j3 j hj
  rcases j4 with ⟨rfl, s0, s1, s2, ek⟩ | ⟨rfl, s1, s2, ek, p0, z0⟩ | ⟨rfl, s2, ek, p0, p1, z0, z1⟩
  · have t0 : Mn 9 (3 * T) = i + 1 := by rw [r9, if_pos (by omega)]
    have t1 : Mn 9 (3 * T + 1) = 0 := by rw [r9, if_neg (by omega)]; exact s1
    have t2 : Mn 9 (3 * T + 2) = 0 := by rw [r9, if_neg (by omega)]; exact s2
    refine ⟨c1, c2, c3, Or.inl ⟨rfl, t0, t1, t2, by omega⟩, ⟨by omega, by omega, by omega⟩, fun j hj => ?_, fun j hj => by omega, fun j hj => by omega⟩
    rw [t0] at hj
    by_cases e : j = i
    · subst e; rw [r8, if_pos (by omega), ← ek]; exact ⟨rfl, hk⟩
    · rw [r8, if_neg (by omega)]; exact l0 j (by omega)
  · have t0 : Mn 9 (3 * T) = Mk 9 (3 * T) := by rw [r9, if_neg (by omega)]
    have t1 : Mn 9 (3 * T + 1) = i + 1 := by rw [r9, if_pos rfl]
    have t2 : Mn 9 (3 * T + 2) = 0 := by rw [r9, if_neg (by omega)]; exact s2
    refine ⟨c1, c2, c3, Or.inr (Or.inl ⟨rfl, t1, t2, by rw [t0]; omega, by rw [t0]; exact p0, by rw [t0]; exact z0⟩), ⟨by omega, by omega, by omega⟩, fun j hj => ?_, fun j hj => ?_, fun j hj => by omega⟩
    · rw [t0] at hj
      rw [r8, if_neg (by omega)]; exact l0 j hj
    · rw [t1] at hj
      rw [t0]
      by_cases e : j = i
      · subst e; rw [r8, if_pos (by omega), ← ek]; exact ⟨rfl, hk⟩
      · rw [r8, if_neg (by omega)]; exact l1 j (by omega)
  · have t0 : Mn 9 (3 * T) = Mk 9 (3 * T) := by rw [r9, if_neg (by omega)]
    have t1 : Mn 9 (3 * T + 1) = Mk 9 (3 * T + 1) := by rw [r9, if_neg (by omega)]
    have t2 : Mn 9 (3 * T + 2) = i + 1 := by rw [r9, if_pos rfl]
    refine ⟨c1, c2, c3, Or.inr (Or.inr ⟨rfl, t2, by rw [t0, t1]; omega, by rw [t0]; exact p0, by rw [t1]; exact p1, by rw [t0]; exact z0, by rw [t0, t1]; exact z1⟩), ⟨by omega, by omega, by omega⟩, fun j hj => ?_, fun j hj => ?_, fun j hj => ?_⟩
    · rw [t0] at hj
      rw [r8, if_neg (by omega)]; exact l0 j hj
    · rw [t1] at hj
      rw [t0, r8, if_neg (by omega)]; exact l1 j hj
    · rw [t2] at hj
      rw [t0, t1]
      by_cases e : j = i
      · subst e; rw [r8, if_pos (by omega), ← ek]; exact ⟨rfl, hk⟩
      · rw [r8, if_neg (by omega)]; exact l2 j (by omega)
theorem TJ_blank {M Mk : mN} {T k w i : Nat} (h : TJ M Mk T k w i) (hk : M 2 k = 0) (hi : 1 ≤ i) (hw : w + 1 ≤ 2) : TJ M Mk T (k + 1) (w + 1) 0 := by
  obtain ⟨j1, j2, j3, j4, b, l0, l1, l2⟩ := h
  refine ⟨j1, j2, j3, ?_, b, l0, l1, l2⟩
  rcases j4 with ⟨rfl, s0, s1, s2, ek⟩ | ⟨rfl, s1, s2, ek, p0, z0⟩ | ⟨rfl, s2, ek, p0, p1, z0, z1⟩
  · exact Or.inr (Or.inl ⟨rfl, s1, s2, by omega, by omega, by rw [s0, ← ek]; exact hk⟩)
  · refine Or.inr (Or.inr ⟨rfl, s2, by omega, p0, by omega, z0, ?_⟩)
    rw [s1, ← ek]; exact hk
  · omega
/-- all is read: the term as it stands then -/
theorem TJ_end {M Mk M' : mN} {D : Nat → Int64} {w i th k cl : Nat} (hM : MI M D) (h : TJ M Mk (M 4 0) (M 1 0) w i) (hi : 1 ≤ i) (hww : wwn 12 (M 2) (M 1 0) = w + 1) (hT : M 4 0 < 60) (ht : th < 40) (hk : k ≤ 3) (hc : cl ≤ 63) (e1 : M' 1 0 = 0) (e4 : M' 4 0 = M 4 0 + 1) (e8 : M' 8 = Mk 8) (e9 : M' 9 = Mk 9) (e10 : ∀ t, M' 10 t = if t = M 4 0 then w + 1 else M 10 t) (e11 : ∀ t, M' 11 t = if t = M 4 0 then th else M 11 t) (e12 : ∀ t, M' 12 t = if t = M 4 0 then k else M 12 t) (e13 : ∀ t, M' 13 t = if t = M 4 0 then cl else M 13 t) (eo : ∀ a, a ≠ 1 → a ≠ 4 → a ≠ 8 → a ≠ 9 → a ≠ 10 → a ≠ 11 → a ≠ 12 → a ≠ 13 → M' a = M a) : TA M M' th k cl ∧ MI M' D := by
  obtain ⟨j1, j2, j3, j4, ⟨b0, b1, b2⟩, l0, l1, l2⟩ := h
  obtain ⟨m1, m2, m3, m4, m5, m6⟩ := hM
  have s26 : ∀ j, M 2 j ≤ 26 := m1.2
  generalize hTT : M 4 0 = T at *
  have o8 : ∀ t, t < T → ∀ j, j < 36 → M' 8 (36 * t + j) = M 8 (36 * t + j) := fun t ht j hj => by rw [e8]; exact j2 _ (by omega)
  have o9 : ∀ t, t < T → ∀ u, u < 3 → M' 9 (3 * t + u) = M 9 (3 * t + u) := fun t ht u hu => by rw [e9]; exact j3 _ (by omega)
  have oa : ∀ t, t < T → M' 10 t = M 10 t ∧ M' 11 t = M 11 t ∧ M' 12 t = M 12 t ∧ M' 13 t = M 13 t := fun t ht => by rw [e10, e11, e12, e13, if_neg (by omega), if_neg (by omega), if_neg (by omega), if_neg (by omega)]; exact ⟨rfl, rfl, rfl, rfl⟩
  have n10 : M' 10 T = w + 1 := by rw [e10, if_pos rfl]
  have n11 : M' 11 T = th := by rw [e11, if_pos rfl]
  have n12 : M' 12 T = k := by rw [e12, if_pos rfl]
  have n13 : M' 13 T = cl := by rw [e13, if_pos rfl]
  have hchr : ∀ j, 0 < M 2 j → chr (M 2 j) = 96 + M 2 j := fun j hj => by unfold chr; rw [if_neg (by omega)]
  have hch0 : ∀ j, M 2 j = 0 → chr (M 2 j) = 32 := fun j hj => by unfold chr; rw [if_pos hj]
  have tok : tOK M' T := by
    unfold tOK
    rw [n10, n11, n12, n13, e9, e8]
    refine ⟨by omega, by omega, fun u hu => ?_, fun u hu1 hu2 => ?_, ht, hk, hc⟩
    · have g0 : u = 0 → _ := fun (e : u = 0) => l0
      rcases j4 with ⟨rfl, s0, s1, s2, ek⟩ | ⟨rfl, s1, s2, ek, p0, z0⟩ | ⟨rfl, s2, ek, p0, p1, z0, z1⟩
      · have : u = 0 := by omega
        subst this
        refine ⟨by show 1 ≤ Mk 9 (3 * T); omega, b0, fun j hj => ?_⟩
        obtain ⟨a1, a2⟩ := l0 j hj
        have := s26 j
        rw [show 36 * T + 12 * 0 + j = 36 * T + j by omega, a1]
        omega
      · have : u = 0 ∨ u = 1 := by omega
        rcases this with rfl | rfl
        · refine ⟨p0, b0, fun j hj => ?_⟩
          obtain ⟨a1, a2⟩ := l0 j hj
          have := s26 j
          rw [show 36 * T + 12 * 0 + j = 36 * T + j by omega, a1]
          omega
        · refine ⟨by omega, b1, fun j hj => ?_⟩
          obtain ⟨a1, a2⟩ := l1 j hj
          have := s26 (Mk 9 (3 * T) + 1 + j)
          rw [show 36 * T + 12 * 1 + j = 36 * T + 12 + j by omega, a1]
          omega
      · have : u = 0 ∨ u = 1 ∨ u = 2 := by omega
        rcases this with rfl | rfl | rfl
        · refine ⟨p0, b0, fun j hj => ?_⟩
          obtain ⟨a1, a2⟩ := l0 j hj
          have := s26 j
          rw [show 36 * T + 12 * 0 + j = 36 * T + j by omega, a1]
          omega
        · refine ⟨p1, b1, fun j hj => ?_⟩
          obtain ⟨a1, a2⟩ := l1 j hj
          have := s26 (Mk 9 (3 * T) + 1 + j)
          rw [show 36 * T + 12 * 1 + j = 36 * T + 12 + j by omega, a1]
          omega
        · refine ⟨by omega, b2, fun j hj => ?_⟩
          obtain ⟨a1, a2⟩ := l2 j hj
          have := s26 (Mk 9 (3 * T) + Mk 9 (3 * T + 1) + 2 + j)
          rw [show 36 * T + 12 * 2 + j = 36 * T + 24 + j by omega, a1]
          omega
    · rcases j4 with ⟨rfl, s0, s1, s2, ek⟩ | ⟨rfl, s1, s2, ek, p0, z0⟩ | ⟨rfl, s2, ek, p0, p1, z0, z1⟩
      · have : u = 1 ∨ u = 2 := by omega
        rcases this with rfl | rfl
        · exact s1
        · exact s2
      · have : u = 2 := by omega
        subst this; exact s2
      · omega
  have hrn : rowN M' T = M 1 0 := by
    unfold rowN
    rw [n10, e9]
    rcases j4 with ⟨rfl, s0, s1, s2, ek⟩ | ⟨rfl, s1, s2, ek, p0, z0⟩ | ⟨rfl, s2, ek, p0, p1, z0, z1⟩ <;> omega
  have hrb : ∀ j, j < M 1 0 → rowB M' T j = chr (M 2 j) := by
    intro j hj
    unfold rowB
    rw [e9, e8]
    by_cases h1 : j < Mk 9 (3 * T)
    · rw [if_pos h1, (l0 j h1).1, hchr _ (l0 j h1).2]
    · rw [if_neg h1]
      by_cases h2 : j = Mk 9 (3 * T)
      · rw [if_pos h2]
        rcases j4 with ⟨rfl, s0, s1, s2, ek⟩ | ⟨rfl, s1, s2, ek, p0, z0⟩ | ⟨rfl, s2, ek, p0, p1, z0, z1⟩
        · omega
        · rw [h2, hch0 _ z0]
        · rw [h2, hch0 _ z0]
      · rw [if_neg h2]
        by_cases h3 : j < Mk 9 (3 * T) + 1 + Mk 9 (3 * T + 1)
        · rw [if_pos h3]
          obtain ⟨a1, a2⟩ := l1 (j - (Mk 9 (3 * T) + 1)) (by omega)
          rw [show Mk 9 (3 * T) + 1 + (j - (Mk 9 (3 * T) + 1)) = j by omega] at a1 a2
          rw [a1, hchr _ a2]
        · rw [if_neg h3]
          by_cases h4 : j = Mk 9 (3 * T) + 1 + Mk 9 (3 * T + 1)
          · rw [if_pos h4]
            rcases j4 with ⟨rfl, s0, s1, s2, ek⟩ | ⟨rfl, s1, s2, ek, p0, z0⟩ | ⟨rfl, s2, ek, p0, p1, z0, z1⟩
            · omega
            · omega
            · rw [h4, hch0 _ z1]
          · rw [if_neg h4]
            rcases j4 with ⟨rfl, s0, s1, s2, ek⟩ | ⟨rfl, s1, s2, ek, p0, z0⟩ | ⟨rfl, s2, ek, p0, p1, z0, z1⟩
            · omega
            · omega
            · obtain ⟨a1, a2⟩ := l2 (j - (Mk 9 (3 * T) + Mk 9 (3 * T + 1) + 2)) (by omega)
              rw [show Mk 9 (3 * T) + Mk 9 (3 * T + 1) + 2 + (j - (Mk 9 (3 * T) + Mk 9 (3 * T + 1) + 2)) = j by omega] at a1 a2
              rw [a1, hchr _ a2]
  refine ⟨?_, ?_⟩
  · unfold TA
    rw [hTT]
    exact ⟨eo, e1, e4, fun t ht => ⟨fun j hj => o8 t ht j hj, fun u hu => o9 t ht u hu, oa t ht⟩, ⟨by rw [n10, hww], n11, n12, n13⟩, hrn, hrb⟩
  · have eo2 : ∀ a, a = 2 ∨ a = 3 ∨ a = 6 ∨ a = 7 ∨ a = 14 ∨ a = 15 ∨ a = 16 ∨ a = 18 ∨ a = 19 ∨ a = 20 → M' a = M a := fun a ha => eo a (by omega) (by omega) (by omega) (by omega) (by omega) (by omega) (by omega) (by omega)
    refine ⟨⟨by rw [e1]; omega, fun j => by rw [eo2 2 (by decide)]; exact m1.2 j⟩, miE_c (eo2 3 (by decide)) (eo2 6 (by decide)) (eo2 7 (by decide)) m2, ⟨by rw [e4]; omega, fun t ht => ?_⟩, miN_c (eo2 14 (by decide)) (eo2 15 (by decide)) (eo2 16 (by decide)) m4, miD_c (eo2 18 (by decide)) m5, miX_c (eo2 19 (by decide)) (eo2 20 (by decide)) m6⟩
    rw [e4] at ht
    by_cases et : t = T
    · rw [et]; exact tok
    · have ht : t < T := by omega
      obtain ⟨q1, q2, q3, q4, q5, q6, q7⟩ := m3.2 t (by rw [hTT]; exact ht)
      obtain ⟨a0, a1, a2, a3⟩ := oa t ht
      unfold tOK
      rw [a0, a1, a2, a3]
      refine ⟨q1, q2, fun u hu => ?_, fun u hu1 hu2 => ?_, q5, q6, q7⟩
      · rw [o9 t ht u (by omega)]
        obtain ⟨r1, r2, r3⟩ := q3 u hu
        refine ⟨r1, r2, fun j hj => ?_⟩
        rw [show 36 * t + 12 * u + j = 36 * t + (12 * u + j) by omega, o8 t ht (12 * u + j) (by omega), show 36 * t + (12 * u + j) = 36 * t + 12 * u + j by omega]
        exact r3 j hj
      · rw [o9 t ht u hu1]; exact q4 u hu1 hu2
