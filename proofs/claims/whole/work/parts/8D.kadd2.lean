/-! pure: ending, term, neighbour, total of the component -/
section KD
variable {dA : Nat → ClassId} {zz : Nat → Nat} {x0 ou : Nat} {M : mN} {D : Nat → Int64} {mn : Int32} {L : List Nat} {f : pF}
variable {ad cp : Nat → Nat → Nat} {V : cV} {Z : cZ} {ng : Nat → Nat}
theorem CD.old {cp3 : Nat → Nat → Nat} {V3 : cV} (hd : CD M D mn cp V Z ng) (hV : ∀ c i, lv cp c i → 13 ≤ c → ¬ (c = 14 ∧ i = 0) → V3 c i = V c i) (h15 : ∀ i, lv cp 15 i → cp3 15 i = cp 15 i) : (cp3 15 0 = 40 ∧ (∀ x, x < 8 → cp3 15 (1 + x) = 600) ∧ cp3 15 9 = 44) ∧ cdX M V3 ∧ (∃ n, n ≤ 44 ∧ V3 14 9 0 = nI n)
    ∧ (∀ e, e < M 3 0 → cp3 15 (10 + e) = M 7 e ∧ V3 14 (10 + e) 0 = nI (M 7 e) ∧ ∀ k, k < M 7 e → V3 15 (10 + e) k = sb (96 + M 6 (4 * e + k)))
    ∧ (∀ t, t < M 4 0 → (V3 16 t 0 = nI (M 10 t) ∧ V3 16 t 1 = nI (M 11 t) ∧ V3 16 t 2 = nI (M 13 t) ∧ V3 16 t 3 = nI (M 12 t)) ∧ cp3 15 (16 + t) = rowN M t ∧ V3 14 (16 + t) 0 = nI (rowN M t) ∧ ∀ k, k < rowN M t → V3 15 (16 + t) k = sb (rowB M t k))
    ∧ (∀ j, j < cp 3 2 → ng j < 40 ∧ V3 17 j 0 = nI (ng j) ∧ ngI ng j < M 16 (ng j) ∧ cp3 15 (76 + j) = M 15 (8 * ng j + ngI ng j) ∧ V3 14 (76 + j) 0 = nI (M 15 (8 * ng j + ngI ng j)) ∧ ∀ k, k < M 15 (8 * ng j + ngI ng j) → V3 15 (76 + j) k = sb (96 + M 14 (96 * ng j + 12 * ngI ng j + k)))
    ∧ V3 13 0 0 = mn := by
  obtain ⟨⟨c0, cx, c9, c30, c31, c20, c32⟩, w, tx, ⟨ni, hn1, hn2⟩, en, tm, nb, ct, z6, z5, mnE⟩ := hd
  have d0 := c20 0 (by decide)
  have d1 := c20 1 (by decide)
  have d2 := c20 2 (by decide)
  have l10 : ∀ i, i < 10 → lv cp 14 i := fun i hi => lv_r hi
  have l10b : ∀ i, i < 10 → lv cp 15 i := fun i hi => lv_r hi
  refine ⟨⟨by rw [h15 0 (l10b 0 (by decide))]; exact c0, fun x hx => by rw [h15 _ (l10b _ (by omega))]; exact cx x hx, by rw [h15 9 (l10b 9 (by decide))]; exact c9⟩, fun x hx => ?_, ⟨ni, hn1, by rw [hV 14 9 (l10 9 (by decide)) (by decide) (by decide)]; exact hn2⟩, fun e he => ?_, fun t ht => ?_, fun j hj => ?_, by rw [hV 13 0 rfl (by decide) (by decide)]; exact mnE⟩
  · rw [hV 14 (1 + x) (l10 _ (by omega)) (by decide) (by omega), hV 15 (1 + x) (l10b _ (by omega)) (by decide) (by omega)]; exact tx x hx
  · have l1 : lv cp 14 (10 + e) := Or.inl (by omega)
    rw [h15 (10 + e) l1, hV 14 (10 + e) l1 (by decide) (by omega), hV 15 (10 + e) l1 (by decide) (by omega)]; exact en e he
  · have l1 : lv cp 14 (16 + t) := Or.inr (Or.inl ⟨by omega, by omega⟩)
    have l2 : lv cp 16 t := by show t < cp 20 1; omega
    rw [h15 (16 + t) l1, hV 14 (16 + t) l1 (by decide) (by omega), hV 15 (16 + t) l1 (by decide) (by omega), hV 16 t l2 (by decide) (by omega)]; exact tm t ht
  · have l1 : lv cp 14 (76 + j) := Or.inr (Or.inr ⟨by omega, by omega⟩)
    have l2 : lv cp 17 j := by show j < cp 20 2; omega
    rw [h15 (76 + j) l1, hV 14 (76 + j) l1 (by decide) (by omega), hV 15 (76 + j) l1 (by decide) (by omega), hV 17 j l2 (by decide) (by omega)]; exact nb j hj
theorem kW_L (hM : MI M D) : ∀ k, k < M 1 0 → (isL (chr (M 2 k)) ↔ 0 < M 2 k) := fun k _ => chr_L (hM.1.2 k)
theorem wot_one {n : Nat} {w : Nat → Nat} (hn : n ≤ 40) : (nI (if wwn 12 w n ≤ 3 then wwn 12 w n else 0) = 1 ↔ wwn 12 w n = 1) := by
  have := wwn_le (most := 12) (w := w) (n := n)
  by_cases h : wwn 12 w n ≤ 3
  · rw [if_pos h]; exact i_eq _ 1
  · rw [if_neg h]
    exact ⟨fun e => absurd e (by decide), fun e => by omega⟩
theorem okEnd_iff : okEnd M ↔ (wwn 12 (M 2) (M 1 0) = 1 ∧ M 1 0 ≤ 4 ∧ M 3 0 < 6) := by
  unfold okEnd
  rw [wwn_one, wwn_one]
  constructor
  · rintro ⟨⟨a1, a2, a3⟩, a4⟩; exact ⟨⟨a1, by omega, a3⟩, a2, a4⟩
  · rintro ⟨⟨a1, a2, a3⟩, a4, a5⟩; exact ⟨⟨a1, a4, a3⟩, a5⟩
set_option maxHeartbeats 1000000 in
theorem k_ending {Q : Int32 → List Nat → pF → Prop} (h : CI dA zz x0 ou M D mn L f) (hM : MI M D) (yes : okEnd M → ∀ (L' : List Nat) (f' : pF), CI dA zz x0 ou (aEnd M) D mn L' f' → Q (nI (M 3 0)) L' f') (no : ¬ okEnd M → ∀ (L' : List Nat) (f' : pF), CI dA zz x0 ou (ad2 M 1 0 0) D mn L' f' → Q (-1) L' f') : wp_X8_ending_0 dA zz Q L f x0 := by
  obtain ⟨ad, cp, V, Z, ng, h, rfl, rfl, hd⟩ := h
  have h40 := hM.1.1
  have h6 := hM.2.1.1
  have c30 := hd.c30
  have c20 : cp 20 0 = cp 3 0 := hd.1.2.2.2.2.2.1 0 (by decide)
  have hrow := kW h hd hM
  have hO : isO L f 5 (ad 14 0) := cO (c := 14) h (lv_r (by decide)) rfl
  have out : ¬ okEnd M → (gR L f 9 (ad 0 0) 0 (fun g_13 => isO L f 5 g_13 ∧ wp_X4_shorten_0 dA zz (fun L_17 f_17 => Q (-1) L_17 f_17) L f g_13 0)) := by
    intro hn
    refine cgR (c := 0) h rfl rfl rfl ⟨hO, ?_⟩
    exact c_shorten (m := 0) h (lv_r (by decide)) hd.W.1 (Nat.zero_le _) (by omega) (fun f1 h1 => no hn L f1 ⟨ad, cp, _, Z, ng, h1, rfl, rfl, hd.w0⟩)
  unfold wp_X8_ending_0
  refine cgR (c := 0) h rfl rfl rfl (cgR (c := 0) h rfl rfl rfl ⟨cO (c := 2) h rfl rfl, ?_⟩)
  unfold wp_X1_addEnding_0
  refine ⟨hO, rw_words hrow (kW_L hM) ?_⟩
  have bad13 : ¬ okEnd M → ∀ k0 : Int32, (k0 = 0 ∨ k0 = 1 ∧ wwn 12 (M 2) (M 1 0) = 1) → wp_X1_addEnding_13 dA zz (fun r_8 L_8 f_8 => gR L_8 f_8 9 (ad 0 0) 0 (fun g_13 => isO L_8 f_8 5 g_13 ∧ wp_X4_shorten_0 dA zz (fun L_17 f_17 => Q r_8 L_17 f_17) L_8 f_8 g_13 0)) L f (ad 2 0) (ad 14 0) k0 := by
    intro hn k0 hk
    unfold wp_X1_addEnding_13
    refine cgR (c := 2) h rfl rfl rfl ⟨l_O h (by decide), l_size h (by decide) (bq (i_le 6 (cp 3 0)) (fun q1 => out hn) (fun q1 => ?_))⟩
    rcases hk with rfl | ⟨rfl, hk⟩
    · exact bt1 rfl (out hn)
    · refine bf1 (by decide) ⟨hO, rw_size hrow (bq (i_le (M 1 0) 4) (fun q2 => ?_) (fun q2 => out hn))⟩
      exact absurd (okEnd_iff.mpr ⟨hk, q2, by omega⟩) hn
  refine bn (wot_one h40) (fun hk => ?_) (fun hk => bad13 (fun o => hk (okEnd_iff.mp o).1) 0 (Or.inl rfl))
  by_cases ok : okEnd M
  rotate_left
  · exact bad13 ok 1 (Or.inr ⟨rfl, hk⟩)
  obtain ⟨o1, o2, o3⟩ := okEnd_iff.mp ok
  unfold wp_X1_addEnding_13
  refine cgR (c := 2) h rfl rfl rfl ⟨l_O h (by decide), l_size h (by decide) (bf1 (by rw [i_le 6 (cp 3 0)]; omega) (bf1 (by decide) ⟨hO, rw_size hrow (bt1 ((i_le (M 1 0) 4).mpr o2) (cgR (c := 2) h rfl rfl rfl ⟨hO, ?_⟩))⟩))⟩
  refine rw_copied hrow ?_
  intro q q2 f1 hq hq2 hqq hr hf
  have hL2 : ∀ x ∈ L, x ∈ L ++ [q] ++ [q2] := fun x hx => List.mem_append_left _ (List.mem_append_left _ hx)
  obtain ⟨ad', cp', V', h1, hold, p1, p2, p3, p4, p5, a1, v1, v2⟩ := k_ad0 h (by omega) hL2 hf hq hq2 hqq hr
  have e3 : ad 3 0 = ad' 3 0 := (hold 3 0 (by show 0 < 3; decide)).1.symm
  have e2 : ad 2 0 = ad' 2 0 := (hold 2 0 rfl).1.symm
  have e0 : ad 0 0 = ad' 0 0 := (hold 0 0 rfl).1.symm
  have e18 : ad 18 0 = ad' 18 0 := (hold 18 0 rfl).1.symm
  have q3 : cp' 3 0 = cp 3 0 := by rw [p1 3 (by decide) (by decide)]
  refine ⟨by rw [e3]; exact l_O h1 (by decide), ?_⟩
  rw [e3, e2, e0]
  refine l_addv (i := 0) (by show q = ad' 14 (10 + cp' 3 0); rw [q3, ← c20]; exact a1.symm) h1 (by decide) (by omega) (by omega) ?_
  intro q4 cap V3 L3 f3 hV3 h3
  have g2 : ad' 2 0 = ad2 ad' 4 0 q4 2 0 := (ad2_c (by decide)).symm
  have g0 : ad' 0 0 = ad2 ad' 4 0 q4 0 0 := (ad2_c (by decide)).symm
  rw [g2, g0]
  refine cgR (c := 2) h3 rfl rfl rfl ⟨l_O h3 (by decide), l_size h3 (by decide) ?_⟩
  have k3 : ad2 (ad2 cp' 3 0 (cp' 3 0 + 1)) 4 0 cap 3 0 = cp 3 0 + 1 := by rw [ad2_c (by decide), ad2_s, q3]
  rw [k3, n_sub1 (by omega), Nat.add_sub_cancel]
  refine cgR (c := 0) h3 rfl rfl rfl ⟨cO (c := 14) h3 (lv_r (by decide)) rfl, ?_⟩
  have w3 : V3 14 0 0 = nI (M 1 0) := by rw [hV3 14 0 (by decide), (hold 14 0 (lv_r (by decide))).2]; exact hd.W.1
  refine c_shorten (m := 0) h3 (lv_r (by decide)) w3 (Nat.zero_le _) (by omega) (fun f4 h4 => ?_)
  rw [c30]
  refine yes ok L3 f4 ⟨_, _, _, Z, ng, h4, ?_, ?_, ?_⟩
  · rw [← g0, ← e0]
  · rw [ad2_c (by decide), ← e18]
  · have k15 : ∀ i, ad2 (ad2 cp' 3 0 (cp' 3 0 + 1)) 4 0 cap 15 i = cp' 15 i := fun i => by rw [ad2_c (by decide), ad2_c (by decide)]
    have k20 : ∀ i, ad2 (ad2 cp' 3 0 (cp' 3 0 + 1)) 4 0 cap 20 i = cp' 20 i := fun i => by rw [ad2_c (by decide), ad2_c (by decide)]
    have k3o : ∀ i, i ≠ 0 → ad2 (ad2 cp' 3 0 (cp' 3 0 + 1)) 4 0 cap 3 i = cp 3 i := fun i hi => by rw [ad2_c (by decide), ad2_i hi, p1 3 (by decide) (by decide)]
    have hVall : ∀ c i, lv cp c i → 13 ≤ c → ¬ (c = 14 ∧ i = 0) → vst V3 14 0 0 (nI 0) c i = V c i := fun c i hl h13 hn => by rw [vst_n hn, hV3 c i (by omega), (hold c i hl).2]
    generalize hcp : ad2 (ad2 cp' 3 0 (cp' 3 0 + 1)) 4 0 cap = cp3 at *
    have lne : ∀ i, lv cp 15 i → i ≠ 10 + cp 20 0 := fun i hl e => by
      have hl : i < 10 + cp 20 0 ∨ 16 ≤ i ∧ i < 16 + cp 20 1 ∨ 76 ≤ i ∧ i < 76 + cp 20 2 := hl
      omega
    obtain ⟨o15, oX, oI, oE, oT, oN, oM⟩ := hd.old (cp3 := cp3) hVall (fun i hl => by rw [k15, p2 i (lne i hl)])
    have d20 := hd.1.2.2.2.2.2.1
    have f16 : aEnd M 16 = M 16 := aEnd_f (by decide) (by decide) (by decide) (by decide)
    refine ⟨⟨o15.1, o15.2.1, o15.2.2, by rw [k3, aEnd_3, c30], by rw [k3o 1 (by decide), hd.c31, aEnd_f (by decide) (by decide) (by decide) (by decide)], fun i hi => ?_, by rw [k3o 2 (by decide), f16]; exact hd.1.2.2.2.2.2.2⟩, ⟨by rw [vst_v, aEnd_1], fun k hk => by rw [aEnd_1] at hk; exact absurd hk (Nat.not_lt_zero k)⟩, ?_, oI, ?_, ?_, ?_, ?_, hd.Z6, ?_, oM⟩
    · by_cases e : i = 0
      · subst e; rw [k20, p4, k3, c20]
      · rw [k20, p3 i e, k3o i e]; exact d20 i hi
    · intro x hx
      rw [aEnd_f (show (20 : Nat) ≠ 1 by decide) (by decide) (by decide) (by decide), aEnd_f (show (19 : Nat) ≠ 1 by decide) (by decide) (by decide) (by decide)]; exact oX x hx
    · intro e he
      rw [aEnd_3] at he
      rw [aEnd_7]
      by_cases ee : e = M 3 0
      · subst ee
        rw [if_pos rfl, ← c30, ← c20, k15, p5, vst_n (by omega), vst_c (by decide), hV3 14 _ (by decide), hV3 15 _ (by decide)]
        refine ⟨rfl, v1, fun k hk => ?_⟩
        rw [v2 k hk, c20, c30, aEnd_new hk]
        unfold chr
        rw [if_neg (by have := ((wwn_one.mp o1).2.2 k hk); omega)]
      · rw [if_neg ee]
        obtain ⟨b1, b2, b3⟩ := oE e (by omega)
        refine ⟨b1, b2, fun k hk => ?_⟩
        rw [aEnd_old (by omega) (by have := (hM.2.1.2 e (by omega)).2.1; omega)]
        exact b3 k hk
    · rw [aEnd_f (show (4 : Nat) ≠ 1 by decide) (by decide) (by decide) (by decide), aEnd_f (show (10 : Nat) ≠ 1 by decide) (by decide) (by decide) (by decide), aEnd_f (show (11 : Nat) ≠ 1 by decide) (by decide) (by decide) (by decide), aEnd_f (show (12 : Nat) ≠ 1 by decide) (by decide) (by decide) (by decide), aEnd_f (show (13 : Nat) ≠ 1 by decide) (by decide) (by decide) (by decide)]
      intro t ht
      obtain ⟨b1, b2, b3, b4⟩ := oT t ht
      rw [rowN_c (aEnd_f (by decide) (by decide) (by decide) (by decide)) (aEnd_f (by decide) (by decide) (by decide) (by decide))]
      exact ⟨b1, b2, b3, fun k hk => by rw [rowB_c (aEnd_f (by decide) (by decide) (by decide) (by decide)) (aEnd_f (by decide) (by decide) (by decide) (by decide))]; exact b4 k hk⟩
    · rw [k3o 2 (by decide), f16, aEnd_f (show (15 : Nat) ≠ 1 by decide) (by decide) (by decide) (by decide), aEnd_f (show (14 : Nat) ≠ 1 by decide) (by decide) (by decide) (by decide)]; exact oN
    · rw [k3o 2 (by decide), f16]; exact hd.2.2.2.2.2.2.2.1
    · rw [aEnd_f (show (18 : Nat) ≠ 1 by decide) (by decide) (by decide) (by decide)]; exact hd.Z5
end KD
