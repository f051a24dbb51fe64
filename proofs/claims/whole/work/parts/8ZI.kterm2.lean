/-! pure: term of the component, with the out cell -/
section KE2
variable {dA : Nat → ClassId} {zz : Nat → Nat} {x0 ou : Nat} {M : mN} {D : Nat → Int64} {mn : Int32} {L : List Nat} {f : pF}
variable {ad cp : Nat → Nat → Nat} {V : cV} {Z : cZ} {ng : Nat → Nat}
set_option maxHeartbeats 1000000 in
theorem k_term2 {Q : Int32 → List Nat → pF → Prop} {X : String → List Nat → pF → Prop} (h : CI dA zz x0 ou M D mn L f) (hM : MI M D) (a b c : Int32) (yes : ∀ th k cl, th < 40 → k < 4 → cl < 64 → a = nI th → b = nI k → c = nI cl → okTm M → ∀ (L' : List Nat) (f' : pF), (∀ M' : mN, TA M M' th k cl → CI dA zz x0 ou M' D mn L' f') → (ou ∈ L' ∧ ∃ z : Nat → Int64, f' ou = .inl (dA 2, 1, .inr (.inl z))) → Q (nI (M 4 0)) L' f') (nope : okN a 40 → okN b 4 → okN c 64 → ¬ okTm M → ∀ (L' : List Nat) (f' : pF), CI dA zz x0 ou (ad2 M 1 0 0) D mn L' f' → Q (-1) L' f') (no : ¬ (okN a 40 ∧ okN b 4 ∧ okN c 64) → X "java/lang/IllegalArgumentException" L f) : wp_X8_term_0 dA zz Q X L f x0 a b c := by
  obtain ⟨ad, cp, V, Z, ng, h, rfl, rfl, hd⟩ := h
  have h40 := hM.1.1
  have h60 := hM.2.2.1.1
  have h6 := hM.2.1.1
  have c31 := hd.c31
  have c30 := hd.c30
  have d20 := hd.1.2.2.2.2.2.1
  have c201 : cp 20 1 = cp 3 1 := d20 1 (by decide)
  have c200 : cp 20 0 = cp 3 0 := d20 0 (by decide)
  have hrow := kW h hd hM
  have hO : isO L f 5 (ad 14 0) := cO (c := 14) h (lv_r (by decide)) rfl
  have hwl := wwn_le (most := 12) (w := M 2) (n := M 1 0)
  have e64 : (nI 64).toInt = 64 := rfl
  have e63 : (63 : Int32).toInt = 63 := rfl
  unfold wp_X8_term_0 wp_X8_term_18
  refine x8_thing (fun ok => x8_kind (fun okb => ⟨fun c1 => no (fun o => o.2.2.1 c1), fun c1 => ⟨fun c2 => ?_, fun c2 => no (fun o => c2 ?_)⟩⟩) (fun okb => no (fun o => okb o.2.1))) (fun ok => no (fun o => ok o.1))
  rotate_left
  · have := o.2.2.2; rw [fa_lt] at this; rw [fa_le]; omega
  have okc : okN c 64 := ⟨c1, by rw [fa_lt]; rw [fa_le] at c2; omega⟩
  have out : ¬ okTm M → (gR L f 9 (ad 0 0) 0 (fun g_13 => isO L f 5 g_13 ∧ wp_X4_shorten_0 dA zz (fun L_17 f_17 => Q (-1) L_17 f_17) L f g_13 0)) := by
    intro hn
    refine cgR (c := 0) h rfl rfl rfl ⟨hO, ?_⟩
    exact c_shorten (m := 0) h (lv_r (by decide)) hd.W.1 (Nat.zero_le _) (by omega) (fun f1 h1 => nope ok okb okc hn L f1 ⟨ad, cp, _, Z, ng, h1, rfl, rfl, hd.w0⟩)
  obtain ⟨th, hth, rfl⟩ := okN_of ok (by decide)
  obtain ⟨k, hk, rfl⟩ := okN_of okb (by decide)
  obtain ⟨cl, hcl, rfl⟩ := okN_of okc (by decide)
  refine cgR (c := 0) h rfl rfl rfl (cgR (c := 0) h rfl rfl rfl ⟨cO (c := 2) h rfl rfl, ?_⟩)
  unfold wp_X1_addTerm_0
  refine ⟨hO, rw_words hrow (kW_L hM) (cgR (c := 2) h rfl rfl rfl ⟨l_O h (by decide), l_size h (by decide) (bq (i_le 60 (cp 3 1)) (fun q1 => out (fun o => by have := o.2.2; omega)) (fun q1 => ?_))⟩)⟩
  by_cases okt : okTm M
  rotate_left
  · have : (if wwn 12 (M 2) (M 1 0) ≤ 3 then wwn 12 (M 2) (M 1 0) else 0) = 0 := by
      by_cases h3 : wwn 12 (M 2) (M 1 0) ≤ 3
      · rw [if_pos h3]
        apply Classical.byContradiction
        intro h9
        exact okt ⟨by omega, h3, by omega⟩
      · rw [if_neg h3]
    rw [this]
    exact bt2 rfl (out okt)
  obtain ⟨t1, t2, t3⟩ := id okt
  rw [if_pos t2]
  refine bf2 (nI_ne0 (by omega) (by omega)) (cgR (c := 2) h rfl rfl rfl ?_)
  rintro q3 hq3 hz3 _ _ rfl rfl
  have hL1 : ∀ x ∈ L, x ∈ L ++ [q3] := fun x hx => List.mem_append_left _ hx
  have hf1 : ∀ x ∈ L, va_up f q3 (.inr (6, [.null, .int 0, .int 0, .int 0, .int 0])) x = f x := fun x hx => va_up_n (nmem hx hq3)
  have hrow1 := hrow.ext hL1 hf1
  refine ⟨hrow1.O, rw_copied hrow1 ?_⟩
  intro q q2 f1 hq hq2 hqq hr hf
  have hqL : q ∉ L := fun hx => hq (hL1 _ hx)
  have hq2L : q2 ∉ L := fun hx => hq2 (hL1 _ hx)
  have m3 : q3 ∈ L ++ [q3] := List.mem_append_right _ (List.mem_singleton.mpr rfl)
  have n13 : q ≠ q3 := fun e => hq (e ▸ m3)
  have n23 : q2 ≠ q3 := fun e => hq2 (e ▸ m3)
  obtain ⟨LL, hLL⟩ : ∃ LL, LL = L ++ [q3] ++ [q] ++ [q2] := ⟨_, rfl⟩
  rw [← hLL] at hr ⊢
  have m3' : q3 ∈ LL := by rw [hLL]; exact List.mem_append_left _ (List.mem_append_left _ m3)
  have hLall : ∀ x ∈ L, x ∈ LL := fun x hx => by rw [hLL]; exact List.mem_append_left _ (List.mem_append_left _ (hL1 x hx))
  have f3a : f1 q3 = .inr (6, [.null, .int 0, .int 0, .int 0, .int 0]) := by rw [hf q3 m3, va_up_s]
  unfold wp_X5_init_0
  refine ⟨_, ⟨m3', f3a, by show 0 < 5; decide⟩, ?_⟩
  rintro _ rfl
  refine ⟨_, ⟨m3', va_up_s, by show 1 < 5; decide⟩, ?_⟩
  rintro _ rfl
  refine ⟨_, ⟨m3', va_up_s, by show 2 < 5; decide⟩, ?_⟩
  rintro _ rfl
  refine ⟨_, ⟨m3', va_up_s, by show 4 < 5; decide⟩, ?_⟩
  rintro _ rfl
  refine ⟨_, ⟨m3', va_up_s, by show 3 < 5; decide⟩, ?_⟩
  intro f5 hf5
  have f5q : f5 q3 = .inr (6, [.ref q, .int (nI (wwn 12 (M 2) (M 1 0))), .int (nI th), .int (nI cl), .int (nI k)]) := by rw [hf5, va_up_s]; rfl
  have f5o : ∀ x, x ≠ q3 → f5 x = f1 x := fun x hx => by rw [hf5, va_up_n hx, va_up_n hx, va_up_n hx, va_up_n hx, va_up_n hx]
  have hr5 : isRow dA LL f5 q q2 (M 1 0) (M 1 0) (fun k => chr (M 2 k)) := by
    obtain ⟨r1, r2, r3, ⟨g, r4, r5⟩, r6⟩ := hr
    exact ⟨r1, r2, by rw [f5o q n13]; exact r3, ⟨g, by rw [f5o q2 n23]; exact r4, r5⟩, r6⟩
  have hfL : ∀ x ∈ L, f5 x = f x := fun x hx => by rw [f5o x (nmem hx hq3), hf x (hL1 x hx)]; exact hf1 x hx
  obtain ⟨ad', cp', V', h1, hold, p1, p2, p3, p4, p5, a1, v0, v1, v2⟩ := k_ad12 (l := 1) (s := 16) (b := 16) (g3 := fun j => if j = 0 then nI (wwn 12 (M 2) (M 1 0)) else if j = 1 then nI th else if j = 2 then nI cl else nI k) (Or.inl ⟨rfl, rfl, rfl, by omega⟩) h (by omega) (by omega) hLall hfL hqL hq2L hq3 hqq n13 n23 hr5 m3' (by rw [f5q, if_pos rfl]; rfl)
  have e3 : ad 3 1 = ad' 3 1 := (hold 3 1 (by show 1 < 3; decide)).1.symm
  have e2 : ad 2 0 = ad' 2 0 := (hold 2 0 rfl).1.symm
  have e0 : ad 0 0 = ad' 0 0 := (hold 0 0 rfl).1.symm
  have e18 : ad 18 0 = ad' 18 0 := (hold 18 0 rfl).1.symm
  have q31 : cp' 3 1 = cp 3 1 := by rw [p1 3 (by decide) (by decide)]
  refine ⟨by rw [e3]; exact l_O h1 (by decide), ?_⟩
  rw [e3, e2, e0]
  refine l_addv (i := 1) (by show q3 = ad' 16 (0 + cp' 3 1); rw [Nat.zero_add, q31, ← c201]; exact a1.symm) h1 (by decide) (by omega) (by omega) ?_
  intro q4 cap V3 L3 f3 hV3 h3
  have g2 : ad' 2 0 = ad2 ad' 4 1 q4 2 0 := (ad2_c (by decide)).symm
  have g0 : ad' 0 0 = ad2 ad' 4 1 q4 0 0 := (ad2_c (by decide)).symm
  rw [g2, g0]
  refine cgR (c := 2) h3 rfl rfl rfl ⟨l_O h3 (by decide), l_size h3 (by decide) ?_⟩
  have k3 : ad2 (ad2 cp' 3 1 (cp' 3 1 + 1)) 4 1 cap 3 1 = cp 3 1 + 1 := by rw [ad2_c (by decide), ad2_s, q31]
  rw [k3, n_sub1 (by omega), Nat.add_sub_cancel]
  refine cgR (c := 0) h3 rfl rfl rfl ⟨cO (c := 14) h3 (lv_r (by decide)) rfl, ?_⟩
  have w3 : V3 14 0 0 = nI (M 1 0) := by rw [hV3 14 0 (by decide), (hold 14 0 (lv_r (by decide))).2]; exact hd.W.1
  refine c_shorten (m := 0) h3 (lv_r (by decide)) w3 (Nat.zero_le _) (by omega) (fun f4 h4 => ?_)
  rw [c31]
  have h18 := h4.1 18 0 rfl
  rw [ad2_c (by decide), ← e18] at h18
  refine yes th k cl hth hk hcl rfl rfl rfl okt L3 f4 (fun M' ta => ⟨_, _, _, Z, ng, h4, ?_, ?_, ?_⟩) ⟨h18.1, _, h18.2⟩
  · rw [← g0, ← e0]
  · rw [ad2_c (by decide), ← e18]
  · have k15 : ∀ i, ad2 (ad2 cp' 3 1 (cp' 3 1 + 1)) 4 1 cap 15 i = cp' 15 i := fun i => by rw [ad2_c (by decide), ad2_c (by decide)]
    have k20 : ∀ i, ad2 (ad2 cp' 3 1 (cp' 3 1 + 1)) 4 1 cap 20 i = cp' 20 i := fun i => by rw [ad2_c (by decide), ad2_c (by decide)]
    have k3o : ∀ i, i ≠ 1 → ad2 (ad2 cp' 3 1 (cp' 3 1 + 1)) 4 1 cap 3 i = cp 3 i := fun i hi => by rw [ad2_c (by decide), ad2_i hi, p1 3 (by decide) (by decide)]
    have hVall : ∀ c i, lv cp c i → 13 ≤ c → ¬ (c = 14 ∧ i = 0) → vst V3 14 0 0 (nI 0) c i = V c i := fun c i hl h13 hn => by rw [vst_n hn, hV3 c i (by omega), (hold c i hl).2]
    generalize hcp : ad2 (ad2 cp' 3 1 (cp' 3 1 + 1)) 4 1 cap = cp3 at *
    have lne : ∀ i, lv cp 15 i → i ≠ 16 + cp 20 1 := fun i hl e => by
      have hl : i < 10 + cp 20 0 ∨ 16 ≤ i ∧ i < 16 + cp 20 1 ∨ 76 ≤ i ∧ i < 76 + cp 20 2 := hl
      omega
    obtain ⟨o15, oX, oI, oE, oT, oN, oM⟩ := hd.old (cp3 := cp3) hVall (fun i hl => by rw [k15, p2 i (lne i hl)])
    obtain ⟨ta0, ta1, ta4, taO, ⟨taw, tath, tak, tacl⟩, tan, tab⟩ := ta
    have eo : ∀ a, a = 2 ∨ a = 3 ∨ a = 6 ∨ a = 7 ∨ a = 14 ∨ a = 15 ∨ a = 16 ∨ a = 18 ∨ a = 19 ∨ a = 20 → M' a = M a := fun a ha => ta0 a (by omega) (by omega) (by omega) (by omega) (by omega) (by omega) (by omega) (by omega)
    refine ⟨⟨o15.1, o15.2.1, o15.2.2, by rw [k3o 0 (by decide), c30, eo 3 (by decide)], by rw [k3, c31, ta4], fun i hi => ?_, by rw [k3o 2 (by decide), eo 16 (by decide)]; exact hd.1.2.2.2.2.2.2⟩, ⟨by rw [vst_v, ta1], fun j hj => by rw [ta1] at hj; exact absurd hj (Nat.not_lt_zero j)⟩, ?_, oI, ?_, ?_, ?_, ?_, hd.Z6, ?_, oM⟩
    · by_cases e : i = 1
      · subst e; rw [k20, p4, k3, c201]
      · rw [k20, p3 i e, k3o i e]; exact d20 i hi
    · intro x hx
      rw [eo 20 (by decide), eo 19 (by decide)]; exact oX x hx
    · rw [eo 3 (by decide), eo 7 (by decide), eo 6 (by decide)]; exact oE
    · intro t ht
      rw [ta4] at ht
      by_cases et : t = M 4 0
      · subst et
        rw [taw, tath, tak, tacl, tan, ← c31, ← c201, k15, p5, vst_c (show (16 : Nat) ≠ 14 by decide), vst_n (by omega), vst_c (show (15 : Nat) ≠ 14 by decide), hV3 16 _ (by decide), hV3 14 _ (by decide), hV3 15 _ (by decide), v0]
        refine ⟨⟨rfl, rfl, rfl, rfl⟩, rfl, v1, fun j hj => ?_⟩
        rw [v2 j hj, c201, c31, tab j hj]
      · have ht2 : t < M 4 0 := by omega
        obtain ⟨b1, b2, b3, b4⟩ := oT t ht2
        obtain ⟨s8, s9, s10, s11, s12, s13⟩ := taO t ht2
        have s90 : M' 9 (3 * t) = M 9 (3 * t) := s9 0 (by decide)
        have hrn : rowN M' t = rowN M t := by unfold rowN; rw [s10, s90, s9 1 (by decide), s9 2 (by decide)]
        have hl := rowN_le hM ht2
        have b12 := hM.2.2.1.2 t ht2
        rw [s10, s11, s12, s13, hrn]
        refine ⟨b1, b2, b3, fun j hj => ?_⟩
        have hrb : rowB M' t j = rowB M t j := by
          obtain ⟨q1, q2, q3, q4, _⟩ := b12
          have z0 : M 9 (3 * t) ≤ 12 := (q3 0 (by omega)).2.1
          have z1 : M 9 (3 * t + 1) ≤ 12 := by
            by_cases h9 : 1 < M 10 t
            · exact (q3 1 h9).2.1
            · rw [q4 1 (by decide) (by omega)]; omega
          have z2 : M 9 (3 * t + 2) ≤ 12 := by
            by_cases h9 : 2 < M 10 t
            · exact (q3 2 h9).2.1
            · rw [q4 2 (by decide) (by omega)]; omega
          have hj2 : j < M 9 (3 * t) + M 9 (3 * t + 1) + M 9 (3 * t + 2) + (M 10 t - 1) := hj
          unfold rowB
          rw [s90, s9 1 (by decide)]
          by_cases h1 : j < M 9 (3 * t)
          · rw [if_pos h1, if_pos h1, s8 j (by omega)]
          · rw [if_neg h1, if_neg h1]
            by_cases h2 : j = M 9 (3 * t)
            · rw [if_pos h2, if_pos h2]
            · rw [if_neg h2, if_neg h2]
              by_cases h3 : j < M 9 (3 * t) + 1 + M 9 (3 * t + 1)
              · rw [if_pos h3, if_pos h3, Nat.add_assoc, s8 _ (by omega)]
              · rw [if_neg h3, if_neg h3]
                by_cases h4 : j = M 9 (3 * t) + 1 + M 9 (3 * t + 1)
                · rw [if_pos h4, if_pos h4]
                · rw [if_neg h4, if_neg h4, Nat.add_assoc, s8 _ (by omega)]
        rw [hrb]; exact b4 j hj
    · rw [k3o 2 (by decide), eo 16 (by decide), eo 15 (by decide), eo 14 (by decide)]; exact oN
    · rw [k3o 2 (by decide), eo 16 (by decide)]; exact hd.2.2.2.2.2.2.2.1
    · rw [eo 18 (by decide)]; exact hd.Z5
end KE2
