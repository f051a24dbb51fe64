/-! pure: Rows that change, words that wait -/
/-- a row that waits, read from its begin: words done, letters of the one under way -/
def wsc (most : Nat) (w : Nat → Nat) : Nat → Option (Nat × Nat)
  | 0 => some (0, 0)
  | k + 1 => match wsc most w k with
    | none => none
    | some (m, i) => if 0 < w k then (if most < i + 1 then none else some (m, i + 1)) else if i = 0 then none else some (m + 1, 0)
/-- how many words it is; 0: it is no such row -/
def wwn (most : Nat) (w : Nat → Nat) (n : Nat) : Nat := match wsc most w n with
  | none => 0
  | some (m, i) => if i = 0 then 0 else m + 1
theorem wsc_le {most : Nat} {w : Nat → Nat} : ∀ {k m i : Nat}, wsc most w k = some (m, i) → m + i ≤ k ∧ i ≤ most
  | 0, m, i, h => by cases h; exact ⟨Nat.le_refl 0, Nat.zero_le _⟩
  | k + 1, m, i, h => by
    unfold wsc at h
    match h9 : wsc most w k with
    | none => rw [h9] at h; exact absurd h (by simp)
    | some (m1, i1) =>
      rw [h9] at h
      have ih := wsc_le h9
      by_cases h1 : 0 < w k
      · by_cases h2 : most < i1 + 1
        · simp [h1, h2] at h
        · simp [h1, h2] at h; omega
      · by_cases h2 : i1 = 0
        · simp [h1, h2] at h
        · simp [h1, h2] at h; omega
section ROW2
variable {dA : Nat → ClassId} {zz : Nat → Nat} {L : List Nat} {f : pF} {a b cap n : Nat} {t : Nat → Nat}
theorem rw_words {Q : Int32 → List Nat → pF → Prop} {w : Nat → Nat} (h : isRow dA L f a b cap n t) (hw : ∀ k, k < n → (isL (t k) ↔ 0 < w k)) (hQ : Q (nI (if wwn 12 w n ≤ 3 then wwn 12 w n else 0)) L f) : wp_X4_wordsOfTerm_0 dA zz Q L f a := by
  have hn := h.le
  unfold wp_X4_wordsOfTerm_0
  have z0 : wwn 12 w n = 0 → Q 0 L f := by
    intro e
    rw [e, if_pos (by omega)] at hQ
    exact hQ
  have zn : ∀ k, k ≤ n → wsc 12 w k = none → wwn 12 w n = 0 := by
    intro k hk hx
    have : ∀ j, wsc 12 w (k + j) = none := by
      intro j
      induction j with
      | zero => exact hx
      | succ j ih => show wsc 12 w ((k + j) + 1) = none; unfold wsc; rw [ih]
    have h9 := this (n - k)
    rw [show k + (n - k) = n by omega] at h9
    unfold wwn
    rw [h9]
  refine pk_loop (σ := Nat × Nat) (fun n9 i s => wp_X4_wordsOfTerm_6 dA zz Q n9 L f a (nI s.1) (nI s.2) (nI i)) (fun i s => (i ≤ n ∧ (wsc 12 w i = some s ∨ wsc 12 w i = none ∧ 12 < s.2) ∨ i = n + 1 ∧ wwn 12 w n = s.1) ∧ s.1 ≤ i ∧ s.2 ≤ i) (n + 1) 0 (0, 0) (Nat.zero_le _) ⟨Or.inl ⟨Nat.zero_le _, Or.inl rfl⟩, Nat.le_refl 0, Nat.le_refl 0⟩ ?_ ?_
  · rintro n9 ⟨m, i⟩ ⟨hI, hm, hi⟩
    have hI : wwn 12 w n = m := by
      rcases hI with hI | hI
      · omega
      · exact hI.2
    have hm : m ≤ n + 1 := hm
    unfold wp_X4_wordsOfTerm_6
    refine rw_gI h (bt1 ((i_lt n (n + 1)).mpr (by omega)) ?_)
    unfold wp_X4_wordsOfTerm_52
    rw [hI] at hQ
    refine bq (i_lt 3 m) (fun h1 => ?_) (fun h1 => ?_)
    · rw [if_neg (by omega)] at hQ
      exact hQ
    · rw [if_pos (by omega)] at hQ
      exact hQ
  · rintro n9 k ⟨m, i⟩ hk ⟨hI, hm, hi⟩ ih
    have hm : m ≤ k := hm
    have hi : i ≤ k := hi
    have hI : wsc 12 w k = some (m, i) ∨ wsc 12 w k = none ∧ 12 < i := by
      rcases hI with hI | hI
      · exact hI.2
      · omega
    unfold wp_X4_wordsOfTerm_6
    refine rw_gI h (bf1 (by rw [i_lt n k]; omega) ⟨h.O, rw_letter h k (by omega) ?_⟩)
    by_cases hl : k < n ∧ isL (t k)
    · rw [bI_t hl]
      have hpos := (hw k hl.1).mp hl.2
      refine bf1 (by decide) ?_
      rintro _ rfl
      unfold wp_X4_wordsOfTerm_46
      rintro _ rfl
      rw [nI_1, nI_1]
      refine ih (m, i + 1) ⟨Or.inl ⟨hl.1, ?_⟩, by show m ≤ k + 1; omega, by show i + 1 ≤ k + 1; omega⟩
      show wsc 12 w (k + 1) = some (m, i + 1) ∨ wsc 12 w (k + 1) = none ∧ 12 < i + 1
      unfold wsc
      rcases hI with hI | ⟨hI, h12⟩
      · rw [hI]
        by_cases h13 : 12 < i + 1
        · exact Or.inr ⟨by simp [hpos, h13], h13⟩
        · exact Or.inl (by simp [hpos, h13])
      · rw [hI]
        exact Or.inr ⟨rfl, by omega⟩
    · rw [bI_f hl]
      refine bt1 rfl (bq (i_lt i 1) (fun h1 => ?_) (fun h1 => bq (i_le i 12) (fun h2 => ?_) (fun h2 => ?_)))
      · -- an empty word
        have hI2 : wsc 12 w k = some (m, i) := by
          rcases hI with hI | hI
          · exact hI
          · omega
        have hi0 : i = 0 := by omega
        subst hi0
        by_cases hkn : k < n
        · have hz : ¬ 0 < w k := fun h9 => hl ⟨hkn, (hw k hkn).mpr h9⟩
          refine z0 (zn (k + 1) (by omega) ?_)
          unfold wsc
          rw [hI2]
          simp [hz]
        · have : k = n := by omega
          subst this
          refine z0 ?_
          unfold wwn
          rw [hI2]
          rfl
      · have hI2 : wsc 12 w k = some (m, i) := by
          rcases hI with hI | hI
          · exact hI
          · omega
        rintro _ rfl
        unfold wp_X4_wordsOfTerm_46
        rintro _ rfl
        rw [nI_1, nI_1]
        refine ih (m + 1, 0) ⟨?_, by show m + 1 ≤ k + 1; omega, Nat.zero_le _⟩
        by_cases hkn : k < n
        · have hz : ¬ 0 < w k := fun h9 => hl ⟨hkn, (hw k hkn).mpr h9⟩
          refine Or.inl ⟨hkn, Or.inl ?_⟩
          unfold wsc
          rw [hI2]
          have : ¬ i = 0 := by omega
          simp [hz, this]
        · have : k = n := by omega
          subst this
          refine Or.inr ⟨rfl, ?_⟩
          unfold wwn
          rw [hI2]
          have : ¬ i = 0 := by omega
          simp [this]
      · -- a word too long
        have hI : wsc 12 w k = none := by
          rcases hI with hI | hI
          · have := (wsc_le hI).2
            omega
          · exact hI.1
        exact z0 (zn k (by omega) hI)
theorem rw_push {Q : Int32 → List Nat → pF → Prop} {g : Nat → Int32} {x : Int32} (ha : a ∈ L) (hb : b ∈ L) (hfa : f a = .inr (5, [.ref b, .int (nI n)])) (hfb : f b = .inl (dA 0, cap, .inl g)) (hn : n ≤ cap) (hc : cap ≤ 600) (yes : n < cap → Q 1 L (va_up (va_up f b (.inl (dA 0, cap, .inl (upd g n x.toInt8.toInt32)))) a (.inr (5, [.ref b, .int (nI (n + 1))])))) (no : ¬ n < cap → Q 0 L f) : wp_X4_push_0 dA zz Q L f a x := by
  have hab : a ≠ b := fun e => by rw [e, hfb] at hfa; exact absurd hfa (by simp)
  unfold wp_X4_push_0
  refine ⟨_, _, ⟨ha, hfa, rfl⟩, ⟨_, _, ⟨ha, hfa, rfl⟩, ⟨_, ⟨hb, hfb⟩, ?_⟩⟩⟩
  refine bq (i_lt n cap) (fun h1 => ?_) (fun h1 => no h1)
  refine ⟨_, _, ⟨ha, hfa, rfl⟩, ⟨_, _, ⟨ha, hfa, rfl⟩, ⟨_, _, ⟨hb, hfb, n_in h1 (by omega)⟩, ?_⟩⟩⟩
  rintro _ rfl
  rw [n_cl (by omega), sb_nar]
  have hfa2 : va_up f b (.inl (dA 0, cap, .inl (upd g n x.toInt8.toInt32))) a = .inr (5, [.ref b, .int (nI n)]) := by rw [va_up_n hab]; exact hfa
  refine ⟨_, _, ⟨ha, hfa2, rfl⟩, ⟨_, ⟨ha, hfa2, by show 1 < 2; decide⟩, ?_⟩⟩
  rintro _ rfl
  rw [nI_1]
  exact yes h1
/-- a copy: two new cells, all else as it was -/
theorem rw_copied {Q : Nat → List Nat → pF → Prop} (h : isRow dA L f a b cap n t) (hQ : ∀ (q q2 : Nat) (f' : pF), q ∉ L → q2 ∉ L → q ≠ q2 → isRow dA (L ++ [q] ++ [q2]) f' q q2 n n t → (∀ y ∈ L, f' y = f y) → Q q (L ++ [q] ++ [q2]) f') : wp_X4_copied_0 dA zz Q L f a := by
  have hn := h.le
  unfold wp_X4_copied_0
  rintro q hq hz _ _ rfl rfl
  have hqa : a ≠ q := fun e => hq (e ▸ h.1)
  have hL1 : ∀ x ∈ L, x ∈ L ++ [q] := fun x hx => List.mem_append_left _ hx
  have hf1 : ∀ x ∈ L, va_up f q (.inr (5, [.null, .int 0])) x = f x := fun x hx => va_up_n (nmem hx hq)
  refine rw_gI (h.ext hL1 hf1) ?_
  unfold wp_X4_init_0
  rintro _ rfl
  have em : (if nI n < (0 : Int32) then (0 : Int32) else nI n) = nI n := if_neg (n_lt0 (by omega))
  rw [em]
  refine ⟨⟨n_lt0 (by omega), by rw [n_cl (by omega)]; exact hn⟩, ?_⟩
  rintro q2 hq2 hz2 _ _ rfl rfl
  rw [n_cl (by omega)]
  have hq2L : q2 ∉ L := fun e => hq2 (hL1 _ e)
  have hqq : q ≠ q2 := fun e => hq2 (e ▸ List.mem_append_right L (List.mem_singleton.mpr rfl))
  have hmq : q ∈ L ++ [q] ++ [q2] := List.mem_append_left _ (List.mem_append_right _ (List.mem_singleton.mpr rfl))
  have hmq2 : q2 ∈ L ++ [q] ++ [q2] := List.mem_append_right _ (List.mem_singleton.mpr rfl)
  refine ⟨_, ⟨hmq, by rw [va_up_n hqq, va_up_s], by decide⟩, ?_⟩
  rintro f2 hf2
  have hL2 : ∀ x ∈ L, x ∈ L ++ [q] ++ [q2] := fun x hx => List.mem_append_left _ (hL1 x hx)
  have g1 : ∀ x ∈ L, f2 x = f x := fun x hx => by
    rw [hf2, va_up_n (nmem hx hq), va_up_n (nmem hx hq2L)]; exact hf1 x hx
  have g2 : f2 q = .inr (5, [.ref q2, .int (nI 0)]) := by rw [hf2, va_up_s]; rfl
  have g3 : f2 q2 = .inl (dA 0, n, .inl (fun _ => 0)) := by rw [hf2, va_up_n (Ne.symm hqq), va_up_s]
  refine pk_loop (σ := pF) (fun n9 i s => wp_X4_copied_14 dA zz Q n9 (L ++ [q] ++ [q2]) s a q (nI i)) (fun i s => (∀ x ∈ L, s x = f x) ∧ s q = .inr (5, [.ref q2, .int (nI i)]) ∧ ∃ g : Nat → Int32, s q2 = .inl (dA 0, n, .inl g) ∧ ∀ k, k < i → g k = sb (t k)) n 0 f2 (Nat.zero_le _) ⟨g1, g2, _, g3, fun k hk => absurd hk (Nat.not_lt_zero k)⟩ ?_ ?_
  · rintro n9 s ⟨s1, s2, g, s3, s4⟩
    unfold wp_X4_copied_14
    refine rw_gI (h.ext hL2 s1) (bt1 ((i_le n n).mpr (Nat.le_refl n)) ?_)
    exact hQ q q2 s hq hq2L hqq ⟨hmq, hmq2, s2, ⟨g, s3, fun k hk => ⟨h.lt hk, s4 k hk⟩⟩, Nat.le_refl n, hn⟩ s1
  · rintro n9 i s hi ⟨s1, s2, g, s3, s4⟩ ih
    have hr := h.ext hL2 s1
    unfold wp_X4_copied_14
    refine rw_gI hr (bf1 (by rw [i_le n i]; omega) ⟨hr.O, rw_at hr i (by omega) ⟨⟨hmq, _, s2⟩, ?_⟩⟩)
    refine rw_push hmq hmq2 s2 s3 (by omega) hn (fun _ => ?_) (fun h9 => absurd hi h9)
    rintro _ rfl
    rw [nI_1]
    have ht := h.lt hi
    refine ih _ ⟨fun x hx => ?_, va_up_s, ?_⟩
    · rw [va_up_n (nmem hx hq), va_up_n (nmem hx hq2L)]; exact s1 x hx
    · refine ⟨upd g i (sb (t i)), ?_, ?_⟩
      · rw [va_up_n (Ne.symm hqq), va_up_s, atv, if_pos hi]; rfl
      · intro k hk
        by_cases e : k = i
        · subst e; rw [pk_us]
        · rw [pk_un e]; exact s4 k (by omega)
end ROW2
section ROW3
variable {dA : Nat → ClassId} {zz : Nat → Nat} {ad : Nat → Nat → Nat} {cp : Nat → Nat → Nat} {V : cV} {Z : cZ} {L : List Nat} {f : pF}
theorem CH.row {r n : Nat} {t : Nat → Nat} (h : CH dA zz ad cp V Z L f) (hl : lv cp 14 r) (hn : V 14 r 0 = nI n) (ht : ∀ k, k < n → t k < 256 ∧ V 15 r k = sb (t k)) (hc : n ≤ cp 15 r) (hc2 : cp 15 r ≤ 600) : isRow dA L f (ad 14 r) (ad 15 r) (cp 15 r) n t :=
  ⟨(h.1 14 r hl).1, (h.1 15 r hl).1, by rw [(h.1 14 r hl).2, ← hn]; rfl, ⟨V 15 r, (h.1 15 r hl).2, ht⟩, hc, hc2⟩
theorem c_push {Q : Int32 → List Nat → pF → Prop} {r n : Nat} {x : Int32} (h : CH dA zz ad cp V Z L f) (hl : lv cp 14 r) (hn : V 14 r 0 = nI n) (hc : n ≤ cp 15 r) (hc2 : cp 15 r ≤ 600) (yes : n < cp 15 r → ∀ f' : pF, CH dA zz ad cp (vst (vst V 15 r n x.toInt8.toInt32) 14 r 0 (nI (n + 1))) Z L f' → Q 1 L f') (no : ¬ n < cp 15 r → Q 0 L f) : wp_X4_push_0 dA zz Q L f (ad 14 r) x := by
  refine rw_push (b := ad 15 r) (g := V 15 r) (h.1 14 r hl).1 (h.1 15 r hl).1 (by rw [(h.1 14 r hl).2, ← hn]; rfl) (h.1 15 r hl).2 hc hc2 (fun h1 => yes h1 _ ?_) no
  have h2 := h.putV (c := 15) (i := r) (j := n) (x := x.toInt8.toInt32) hl rfl
  refine CH.putV (c := 14) (i := r) (j := 0) (x := nI (n + 1)) h2 hl ?_
  rfl
theorem c_shorten {Q : List Nat → pF → Prop} {r n m : Nat} (h : CH dA zz ad cp V Z L f) (hl : lv cp 14 r) (hn : V 14 r 0 = nI n) (hm : m ≤ n) (hn2 : n < 2147483648) (hQ : ∀ f' : pF, CH dA zz ad cp (vst V 14 r 0 (nI m)) Z L f' → Q L f') : wp_X4_shorten_0 dA zz Q L f (ad 14 r) (nI m) := by
  unfold wp_X4_shorten_0
  refine bf1 (n_lt0 (by omega)) (cgI h hl rfl rfl (bq (i_le n m (hx := hn)) (fun h1 => ?_) (fun h1 => ?_)))
  · have e : n = m := by omega
    have e2 : vst V 14 r 0 (nI m) = V := by
      funext c i
      unfold vst
      by_cases h9 : c = 14 ∧ i = r
      · obtain ⟨rfl, rfl⟩ := h9
        rw [if_pos ⟨rfl, rfl⟩]
        exact fa_upd_same (by rw [hn, e])
      · rw [if_neg h9]
    exact hQ f (by rw [e2]; exact h)
  · exact cgPi h hl rfl 0 (by show 1 < 2; decide) rfl hQ
end ROW3
