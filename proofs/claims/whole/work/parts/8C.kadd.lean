/-! pure: what comes to a list of the component -/
section KA
variable {dA : Nat → ClassId} {zz : Nat → Nat} {M : mN} {D : Nat → Int64} {mn : Int32} {L : List Nat} {f : pF}
variable {ad cp : Nat → Nat → Nat} {V : cV} {Z : cZ} {ng : Nat → Nat}
theorem CH.adopt {ad' cp' : Nat → Nat → Nat} {V' : cV} {L' : List Nat} {f' : pF} (h : CH dA zz ad cp V Z L f) (hL : ∀ x ∈ L, x ∈ L') (hf : ∀ x ∈ L, f' x = f x) (hlv : ∀ c i, lv cp c i → ad' c i = ad c i ∧ V' c i = V c i) (h3 : ∀ i, i < 3 → cp' 3 i = cp 3 i) (h4 : ∀ i, i < 3 → cp' 4 i = cp 4 i) (h15 : ∀ i, lv cp 15 i → cp' 15 i = cp 15 i) (h20 : ∀ i, i < 3 → cp 20 i ≤ cp' 20 i) (hnew : ∀ c i, lv cp' c i → ¬ lv cp c i → ad' c i ∈ L' ∧ ad' c i ∉ L ∧ f' (ad' c i) = cC dA zz ad' cp' c i (V' c i) (Z c)) (hinj : ∀ c i c' i', lv cp' c i → ¬ lv cp c i → lv cp' c' i' → ¬ lv cp c' i' → ad' c i = ad' c' i' → c = c' ∧ i = i') : CH dA zz ad' cp' V' Z L' f' := by
  refine ⟨fun c i hl => ?_, fun c i c' i' hl hl' e => ?_, fun i hi => ?_⟩
  · by_cases ho : lv cp c i
    · obtain ⟨e1, e2⟩ := hlv c i ho
      rw [e1, e2]
      refine ⟨hL _ (h.1 c i ho).1, ?_⟩
      rw [hf _ (h.1 c i ho).1, (h.1 c i ho).2]
      exact (cC_cong h (fun c i hl => (hlv c i hl).1) h3 h4 h15 ho _ _).symm
    · obtain ⟨a1, a2, a3⟩ := hnew c i hl ho
      exact ⟨a1, a3⟩
  · by_cases ho : lv cp c i
    · by_cases ho' : lv cp c' i'
      · rw [(hlv c i ho).1, (hlv c' i' ho').1] at e
        exact h.2.1 c i c' i' ho ho' e
      · rw [(hlv c i ho).1] at e
        exact absurd (e ▸ (h.1 c i ho).1) (hnew c' i' hl' ho').2.1
    · by_cases ho' : lv cp c' i'
      · rw [(hlv c' i' ho').1] at e
        exact absurd (e ▸ (h.1 c' i' ho').1) (hnew c i hl ho).2.1
      · exact hinj c i c' i' hl ho hl' ho' e
  · obtain ⟨b1, b2, b3, b4⟩ := h.2.2 i hi
    rw [h3 i hi, h4 i hi]
    refine ⟨Nat.le_trans b1 (h20 i hi), b2, b3, fun hz => ?_⟩
    rw [(hlv 4 i ⟨hi, hz⟩).1]
    exact b4 hz
def V2 (V : cV) (c i : Nat) (g : Nat → Int32) : cV := fun c' i' => if c' = c ∧ i' = i then g else V c' i'
theorem V2_s {c i : Nat} {g : Nat → Int32} : V2 V c i g c i = g := if_pos ⟨rfl, rfl⟩
theorem V2_n {c i : Nat} {g : Nat → Int32} {c' i' : Nat} (h : ¬ (c' = c ∧ i' = i)) : V2 V c i g c' i' = V c' i' := if_neg h
/-- a Row comes for list 0 -/
theorem k_ad0 {L' : List Nat} {f' : pF} {q q2 n : Nat} {t : Nat → Nat} (h : CH dA zz ad cp V Z L f) (h6 : cp 20 0 < 6) (hL : ∀ x ∈ L, x ∈ L') (hf : ∀ x ∈ L, f' x = f x) (hq : q ∉ L) (hq2 : q2 ∉ L) (hqq : q ≠ q2) (hr : isRow dA L' f' q q2 n n t) : ∃ (ad' cp' : Nat → Nat → Nat) (V' : cV), CH dA zz ad' cp' V' Z L' f' ∧ (∀ c i, lv cp c i → ad' c i = ad c i ∧ V' c i = V c i) ∧ (∀ c, c ≠ 15 → c ≠ 20 → cp' c = cp c) ∧ (∀ i, i ≠ 10 + cp 20 0 → cp' 15 i = cp 15 i) ∧ (∀ i, i ≠ 0 → cp' 20 i = cp 20 i) ∧ cp' 20 0 = cp 20 0 + 1 ∧ cp' 15 (10 + cp 20 0) = n ∧ ad' 14 (10 + cp 20 0) = q ∧ V' 14 (10 + cp 20 0) 0 = nI n ∧ ∀ k, k < n → V' 15 (10 + cp 20 0) k = sb (t k) := by
  obtain ⟨r1, r2, r3, ⟨g, r4, r5⟩, r6, r7⟩ := hr
  obtain ⟨R, hR⟩ : ∃ R, R = 10 + cp 20 0 := ⟨_, rfl⟩
  have lv_o : ∀ c i, lv cp c i → ¬ (c = 14 ∧ i = R) ∧ ¬ (c = 15 ∧ i = R) := by
    intro c i hl
    refine ⟨?_, ?_⟩
    · rintro ⟨e1, e2⟩
      subst e1
      have hl : i < 10 + cp 20 0 ∨ 16 ≤ i ∧ i < 16 + cp 20 1 ∨ 76 ≤ i ∧ i < 76 + cp 20 2 := hl
      omega
    · rintro ⟨e1, e2⟩
      subst e1
      have hl : i < 10 + cp 20 0 ∨ 16 ≤ i ∧ i < 16 + cp 20 1 ∨ 76 ≤ i ∧ i < 76 + cp 20 2 := hl
      omega
  obtain ⟨cp', hcp⟩ : ∃ cp' : Nat → Nat → Nat, cp' = ad2 (ad2 cp 20 0 (cp 20 0 + 1)) 15 R n := ⟨_, rfl⟩
  have p1 : ∀ c, c ≠ 15 → c ≠ 20 → cp' c = cp c := fun c h15 h20 => by rw [hcp]; funext i; rw [ad2_c h15, ad2_c h20]
  have p2 : ∀ i, i ≠ R → cp' 15 i = cp 15 i := fun i hi => by rw [hcp, ad2_i hi, ad2_c (by decide)]
  have p3 : ∀ i, i ≠ 0 → cp' 20 i = cp 20 i := fun i hi => by rw [hcp, ad2_c (by decide), ad2_i hi]
  have p4 : cp' 20 0 = cp 20 0 + 1 := by rw [hcp, ad2_c (by decide), ad2_s]
  have p5 : cp' 15 R = n := by rw [hcp, ad2_s]
  have lv_n : ∀ c i, lv cp' c i → ¬ lv cp c i → (c = 14 ∧ i = R) ∨ (c = 15 ∧ i = R) := by
    intro c i hl hn
    match c with
    | 0 | 1 | 2 | 3 | 5 | 6 | 7 | 8 | 9 | 10 | 11 | 12 | 13 | 18 => exact absurd hl hn
    | 4 => exact absurd ⟨hl.1, by have := hl.2; rw [p1 4 (by decide) (by decide)] at this; exact this⟩ hn
    | 14 =>
      have hl : i < 10 + cp' 20 0 ∨ 16 ≤ i ∧ i < 16 + cp' 20 1 ∨ 76 ≤ i ∧ i < 76 + cp' 20 2 := hl
      have hn : ¬ (i < 10 + cp 20 0 ∨ 16 ≤ i ∧ i < 16 + cp 20 1 ∨ 76 ≤ i ∧ i < 76 + cp 20 2) := hn
      rw [p4, p3 1 (by decide), p3 2 (by decide)] at hl
      exact Or.inl ⟨rfl, by omega⟩
    | 15 =>
      have hl : i < 10 + cp' 20 0 ∨ 16 ≤ i ∧ i < 16 + cp' 20 1 ∨ 76 ≤ i ∧ i < 76 + cp' 20 2 := hl
      have hn : ¬ (i < 10 + cp 20 0 ∨ 16 ≤ i ∧ i < 16 + cp 20 1 ∨ 76 ≤ i ∧ i < 76 + cp 20 2) := hn
      rw [p4, p3 1 (by decide), p3 2 (by decide)] at hl
      exact Or.inr ⟨rfl, by omega⟩
    | 16 => have hl : i < cp' 20 1 := hl; rw [p3 1 (by decide)] at hl; exact absurd hl hn
    | 17 => have hl : i < cp' 20 2 := hl; rw [p3 2 (by decide)] at hl; exact absurd hl hn
    | m + 19 => exact hl.elim
  obtain ⟨ad', had⟩ : ∃ ad' : Nat → Nat → Nat, ad' = ad2 (ad2 ad 14 R q) 15 R q2 := ⟨_, rfl⟩
  obtain ⟨V', hV'⟩ : ∃ V' : cV, V' = V2 (V2 V 14 R (fun _ => nI n)) 15 R g := ⟨_, rfl⟩
  have a14 : ad' 14 R = q := by rw [had, ad2_c (by decide), ad2_s]
  have a15 : ad' 15 R = q2 := by rw [had, ad2_s]
  have v14 : V' 14 R = fun _ => nI n := by rw [hV', V2_n (by omega), V2_s]
  have v15 : V' 15 R = g := by rw [hV', V2_s]
  have hold : ∀ c i, lv cp c i → ad' c i = ad c i ∧ V' c i = V c i := fun c i hl => by
    obtain ⟨n1, n2⟩ := lv_o c i hl
    rw [had, hV', ad2_n n2, ad2_n n1, V2_n n2, V2_n n1]; exact ⟨rfl, rfl⟩
  refine ⟨ad', cp', V', h.adopt hL hf hold (fun i _ => by rw [p1 3 (by decide) (by decide)]) (fun i _ => by rw [p1 4 (by decide) (by decide)]) (fun i hl => p2 i (fun e => (lv_o 15 i hl).2 ⟨rfl, e⟩)) (fun i _ => ?_) (fun c i hl hn => ?_) (fun c i c' i' hl hn hl' hn' e => ?_), hold, p1, by rw [← hR]; exact p2, p3, p4, by rw [← hR]; exact p5, by rw [← hR]; exact a14, by rw [← hR, v14], fun k hk => by rw [← hR, v15]; exact (r5 k hk).2⟩
  · by_cases e : i = 0
    · subst e; rw [p4]; omega
    · rw [p3 i e]; exact Nat.le_refl _
  · rcases lv_n c i hl hn with ⟨rfl, e2⟩ | ⟨rfl, e2⟩
    · rw [e2, a14, v14]
      refine ⟨r1, hq, r3.trans ?_⟩
      unfold cC; simp only []
      rw [a15]
    · rw [e2, a15, v15]
      refine ⟨r2, hq2, r4.trans ?_⟩
      unfold cC; simp only []
      rw [p5]
  · rcases lv_n c i hl hn with ⟨rfl, e2⟩ | ⟨rfl, e2⟩ <;> rcases lv_n c' i' hl' hn' with ⟨rfl, e3⟩ | ⟨rfl, e3⟩
    · exact ⟨rfl, e2.trans e3.symm⟩
    · rw [e2, e3, a14, a15] at e; exact absurd e hqq
    · rw [e2, e3, a14, a15] at e; exact absurd e.symm hqq
    · exact ⟨rfl, e2.trans e3.symm⟩
/-- a Row and what holds it come for list l: 1 terms (b = 16), 2 neighbours (b = 76) -/
theorem k_ad12 {L' : List Nat} {f' : pF} {q q2 q3 n l s b : Nat} {t : Nat → Nat} {g3 : Nat → Int32} (hl12 : l = 1 ∧ s = 16 ∧ b = 16 ∧ cp 20 1 < 60 ∨ l = 2 ∧ s = 17 ∧ b = 76) (h : CH dA zz ad cp V Z L f) (h0 : cp 20 0 ≤ 6) (h1 : cp 20 1 ≤ 60) (hL : ∀ x ∈ L, x ∈ L') (hf : ∀ x ∈ L, f' x = f x) (hq : q ∉ L) (hq2 : q2 ∉ L) (hq3 : q3 ∉ L) (hqq : q ≠ q2) (hq13 : q ≠ q3) (hq23 : q2 ≠ q3) (hr : isRow dA L' f' q q2 n n t) (m3 : q3 ∈ L') (f3 : f' q3 = if l = 1 then .inr (6, [.ref q, .int (g3 0), .int (g3 1), .int (g3 2), .int (g3 3)]) else .inr (4, [.ref q, .int (g3 0)])) : ∃ (ad' cp' : Nat → Nat → Nat) (V' : cV), CH dA zz ad' cp' V' Z L' f' ∧ (∀ c i, lv cp c i → ad' c i = ad c i ∧ V' c i = V c i) ∧ (∀ c, c ≠ 15 → c ≠ 20 → cp' c = cp c) ∧ (∀ i, i ≠ b + cp 20 l → cp' 15 i = cp 15 i) ∧ (∀ i, i ≠ l → cp' 20 i = cp 20 i) ∧ cp' 20 l = cp 20 l + 1 ∧ cp' 15 (b + cp 20 l) = n ∧ ad' s (cp 20 l) = q3 ∧ V' s (cp 20 l) = g3 ∧ V' 14 (b + cp 20 l) 0 = nI n ∧ ∀ k, k < n → V' 15 (b + cp 20 l) k = sb (t k) := by
  obtain ⟨r1, r2, r3, ⟨g, r4, r5⟩, r6, r7⟩ := hr
  obtain ⟨R, hR⟩ : ∃ R, R = b + cp 20 l := ⟨_, rfl⟩
  obtain ⟨T, hT⟩ : ∃ T, T = cp 20 l := ⟨_, rfl⟩
  have hs : s ≠ 14 ∧ s ≠ 15 := by omega
  have lv_o : ∀ c i, lv cp c i → ¬ (c = 14 ∧ i = R) ∧ ¬ (c = 15 ∧ i = R) ∧ ¬ (c = s ∧ i = T) := by
    intro c i hl
    refine ⟨?_, ?_, ?_⟩
    · rintro ⟨e1, e2⟩
      subst e1
      have hl : i < 10 + cp 20 0 ∨ 16 ≤ i ∧ i < 16 + cp 20 1 ∨ 76 ≤ i ∧ i < 76 + cp 20 2 := hl
      rcases hl12 with ⟨rfl, rfl, rfl, h60⟩ | ⟨rfl, rfl, rfl⟩ <;> omega
    · rintro ⟨e1, e2⟩
      subst e1
      have hl : i < 10 + cp 20 0 ∨ 16 ≤ i ∧ i < 16 + cp 20 1 ∨ 76 ≤ i ∧ i < 76 + cp 20 2 := hl
      rcases hl12 with ⟨rfl, rfl, rfl, h60⟩ | ⟨rfl, rfl, rfl⟩ <;> omega
    · rintro ⟨e1, e2⟩
      rcases hl12 with ⟨rfl, rfl, rfl, h60⟩ | ⟨rfl, rfl, rfl⟩
      · subst e1; have hl : i < cp 20 1 := hl; omega
      · subst e1; have hl : i < cp 20 2 := hl; omega
  obtain ⟨cp', hcp⟩ : ∃ cp' : Nat → Nat → Nat, cp' = ad2 (ad2 cp 20 l (cp 20 l + 1)) 15 R n := ⟨_, rfl⟩
  have p1 : ∀ c, c ≠ 15 → c ≠ 20 → cp' c = cp c := fun c h15 h20 => by rw [hcp]; funext i; rw [ad2_c h15, ad2_c h20]
  have p2 : ∀ i, i ≠ R → cp' 15 i = cp 15 i := fun i hi => by rw [hcp, ad2_i hi, ad2_c (by decide)]
  have p3 : ∀ i, i ≠ l → cp' 20 i = cp 20 i := fun i hi => by rw [hcp, ad2_c (by decide), ad2_i hi]
  have p4 : cp' 20 l = cp 20 l + 1 := by rw [hcp, ad2_c (by decide), ad2_s]
  have p5 : cp' 15 R = n := by rw [hcp, ad2_s]
  have lv_n : ∀ c i, lv cp' c i → ¬ lv cp c i → (c = 14 ∧ i = R) ∨ (c = 15 ∧ i = R) ∨ (c = s ∧ i = T) := by
    intro c i hl hn
    have q0 : cp' 20 0 = cp 20 0 := p3 0 (by omega)
    match c with
    | 0 | 1 | 2 | 3 | 5 | 6 | 7 | 8 | 9 | 10 | 11 | 12 | 13 | 18 => exact absurd hl hn
    | 4 => exact absurd ⟨hl.1, by have := hl.2; rw [p1 4 (by decide) (by decide)] at this; exact this⟩ hn
    | 14 =>
      have hl : i < 10 + cp' 20 0 ∨ 16 ≤ i ∧ i < 16 + cp' 20 1 ∨ 76 ≤ i ∧ i < 76 + cp' 20 2 := hl
      have hn : ¬ (i < 10 + cp 20 0 ∨ 16 ≤ i ∧ i < 16 + cp 20 1 ∨ 76 ≤ i ∧ i < 76 + cp 20 2) := hn
      refine Or.inl ⟨rfl, ?_⟩
      rcases hl12 with ⟨rfl, rfl, rfl, h60⟩ | ⟨rfl, rfl, rfl⟩
      · rw [q0, p4, p3 2 (by decide)] at hl; omega
      · rw [q0, p4, p3 1 (by decide)] at hl; omega
    | 15 =>
      have hl : i < 10 + cp' 20 0 ∨ 16 ≤ i ∧ i < 16 + cp' 20 1 ∨ 76 ≤ i ∧ i < 76 + cp' 20 2 := hl
      have hn : ¬ (i < 10 + cp 20 0 ∨ 16 ≤ i ∧ i < 16 + cp 20 1 ∨ 76 ≤ i ∧ i < 76 + cp 20 2) := hn
      refine Or.inr (Or.inl ⟨rfl, ?_⟩)
      rcases hl12 with ⟨rfl, rfl, rfl, h60⟩ | ⟨rfl, rfl, rfl⟩
      · rw [q0, p4, p3 2 (by decide)] at hl; omega
      · rw [q0, p4, p3 1 (by decide)] at hl; omega
    | 16 =>
      have hl : i < cp' 20 1 := hl
      have hn : ¬ i < cp 20 1 := hn
      rcases hl12 with ⟨rfl, rfl, rfl, h60⟩ | ⟨rfl, rfl, rfl⟩
      · rw [p4] at hl; exact Or.inr (Or.inr ⟨rfl, by omega⟩)
      · rw [p3 1 (by decide)] at hl; exact absurd hl hn
    | 17 =>
      have hl : i < cp' 20 2 := hl
      have hn : ¬ i < cp 20 2 := hn
      rcases hl12 with ⟨rfl, rfl, rfl, h60⟩ | ⟨rfl, rfl, rfl⟩
      · rw [p3 2 (by decide)] at hl; exact absurd hl hn
      · rw [p4] at hl; exact Or.inr (Or.inr ⟨rfl, by omega⟩)
    | m + 19 => exact hl.elim
  obtain ⟨ad', had⟩ : ∃ ad' : Nat → Nat → Nat, ad' = ad2 (ad2 (ad2 ad 14 R q) 15 R q2) s T q3 := ⟨_, rfl⟩
  obtain ⟨V', hV'⟩ : ∃ V' : cV, V' = V2 (V2 (V2 V 14 R (fun _ => nI n)) 15 R g) s T g3 := ⟨_, rfl⟩
  have a14 : ad' 14 R = q := by rw [had, ad2_c (Ne.symm hs.1), ad2_c (by decide), ad2_s]
  have a15 : ad' 15 R = q2 := by rw [had, ad2_c (Ne.symm hs.2), ad2_s]
  have aT : ad' s T = q3 := by rw [had, ad2_s]
  have v14 : V' 14 R = fun _ => nI n := by rw [hV', V2_n (fun e => hs.1 e.1.symm), V2_n (by omega), V2_s]
  have v15 : V' 15 R = g := by rw [hV', V2_n (fun e => hs.2 e.1.symm), V2_s]
  have vT : V' s T = g3 := by rw [hV', V2_s]
  have hold : ∀ c i, lv cp c i → ad' c i = ad c i ∧ V' c i = V c i := fun c i hl => by
    obtain ⟨n1, n2, n3⟩ := lv_o c i hl
    rw [had, hV', ad2_n n3, ad2_n n2, ad2_n n1, V2_n n3, V2_n n2, V2_n n1]; exact ⟨rfl, rfl⟩
  refine ⟨ad', cp', V', h.adopt hL hf hold (fun i _ => by rw [p1 3 (by decide) (by decide)]) (fun i _ => by rw [p1 4 (by decide) (by decide)]) (fun i hl => p2 i (fun e => (lv_o 15 i hl).2.1 ⟨rfl, e⟩)) (fun i _ => ?_) (fun c i hl hn => ?_) (fun c i c' i' hl hn hl' hn' e => ?_), hold, p1, by rw [← hR]; exact p2, p3, p4, by rw [← hR]; exact p5, by rw [← hT]; exact aT, by rw [← hT]; exact vT, by rw [← hR, v14], fun k hk => by rw [← hR, v15]; exact (r5 k hk).2⟩
  · by_cases e : i = l
    · subst e; rw [p4]; omega
    · rw [p3 i e]; exact Nat.le_refl _
  · rcases lv_n c i hl hn with ⟨e1, e2⟩ | ⟨e1, e2⟩ | ⟨e1, e2⟩
    · rw [e1, e2, a14, v14]
      refine ⟨r1, hq, r3.trans ?_⟩
      unfold cC; simp only []
      rw [a15]
    · rw [e1, e2, a15, v15]
      refine ⟨r2, hq2, r4.trans ?_⟩
      unfold cC; simp only []
      rw [p5]
    · rw [e1, e2, aT, vT]
      refine ⟨m3, hq3, f3.trans ?_⟩
      rcases hl12 with ⟨rfl, rfl, rfl, h60⟩ | ⟨rfl, rfl, rfl⟩
      · rw [if_pos rfl]; unfold cC; simp only []
        rw [hT, ← hR, a14]
      · rw [if_neg (by decide)]; unfold cC; simp only []
        rw [hT, ← hR, a14]
  · rcases lv_n c i hl hn with ⟨e1, e2⟩ | ⟨e1, e2⟩ | ⟨e1, e2⟩ <;> rcases lv_n c' i' hl' hn' with ⟨e3, e4⟩ | ⟨e3, e4⟩ | ⟨e3, e4⟩
    · exact ⟨e1.trans e3.symm, e2.trans e4.symm⟩
    · rw [e1, e2, e3, e4, a14, a15] at e; exact absurd e hqq
    · rw [e1, e2, e3, e4, a14, aT] at e; exact absurd e hq13
    · rw [e1, e2, e3, e4, a14, a15] at e; exact absurd e.symm hqq
    · exact ⟨e1.trans e3.symm, e2.trans e4.symm⟩
    · rw [e1, e2, e3, e4, a15, aT] at e; exact absurd e hq23
    · rw [e1, e2, e3, e4, a14, aT] at e; exact absurd e.symm hq13
    · rw [e1, e2, e3, e4, a15, aT] at e; exact absurd e.symm hq23
    · exact ⟨e1.trans e3.symm, e2.trans e4.symm⟩
theorem l_addv {Q : Int32 → List Nat → pF → Prop} {i v : Nat} (hv : v = ad (elS i) (elF i + cp 3 i)) (h : CH dA zz ad cp V Z L f) (hi : i < 3) (hlv : cp 3 i + 1 ≤ cp 20 i) (hsz : cp 3 i ≤ 330) (hQ : ∀ (q cap : Nat) (V' : cV) (L' : List Nat) (f' : pF), (∀ c j, c ≠ 3 → V' c j = V c j) → CH dA zz (ad2 ad 4 i q) (ad2 (ad2 cp 3 i (cp 3 i + 1)) 4 i cap) V' Z L' f' → Q 1 L' f') : wp_Jx4a65c_add_9ea2d_0 dA zz Q L f (ad 3 i) v := by
  subst hv
  exact l_add h hi hlv hsz hQ
end KA
