/-! pure: the component's small calls -/
def cdW (M : mN) (V : cV) : Prop := V 14 0 0 = nI (M 1 0) ∧ ∀ k, k < M 1 0 → V 15 0 k = sb (chr (M 2 k))
def cdX (M : mN) (V : cV) : Prop := ∀ x, x < 8 → V 14 (1 + x) 0 = nI (M 20 x) ∧ ∀ k, k < M 20 x → V 15 (1 + x) k = sb (M 19 (600 * x + k))
theorem rowN_c {M M' : mN} (h9 : M' 9 = M 9) (h10 : M' 10 = M 10) (t : Nat) : rowN M' t = rowN M t := by unfold rowN; rw [h9, h10]
theorem rowB_c {M M' : mN} (h9 : M' 9 = M 9) (h8 : M' 8 = M 8) (t k : Nat) : rowB M' t k = rowB M t k := by unfold rowB; rw [h9, h8]
theorem CD.rows {M M' : mN} {D : Nat → Int64} {mn mn' : Int32} {cp : Nat → Nat → Nat} {V V' : cV} {Z : cZ} {ng : Nat → Nat} (h : CD M D mn cp V Z ng) (eM : ∀ a, 3 ≤ a → a ≤ 18 → M' a = M a) (h13 : V' 13 0 0 = mn') (h16 : V' 16 = V 16) (h17 : V' 17 = V 17) (hr : ∀ r, 10 ≤ r → V' 14 r = V 14 r ∧ V' 15 r = V 15 r) (hw : cdW M' V') (hx : cdX M' V') (hi : ∃ n, n ≤ 44 ∧ V' 14 9 0 = nI n) : CD M' D mn' cp V' Z ng := by
  obtain ⟨⟨c0, cx, c9, c30, c31, c20, c32⟩, w, tx, ni, en, tm, nb, ct, z6, z5, mnE⟩ := h
  refine ⟨⟨c0, cx, c9, by rw [eM 3 (by decide) (by decide)]; exact c30, by rw [eM 4 (by decide) (by decide)]; exact c31, c20, by rw [eM 16 (by decide) (by decide)]; exact c32⟩, hw, hx, hi, ?_, ?_, ?_, ?_, z6, ?_, h13⟩
  · rw [eM 3 (by decide) (by decide), eM 7 (by decide) (by decide), eM 6 (by decide) (by decide)]
    intro e he
    obtain ⟨a1, a2, a3⟩ := en e he
    rw [(hr (10 + e) (by omega)).1, (hr (10 + e) (by omega)).2]
    exact ⟨a1, a2, a3⟩
  · rw [eM 4 (by decide) (by decide), eM 10 (by decide) (by decide), eM 11 (by decide) (by decide), eM 12 (by decide) (by decide), eM 13 (by decide) (by decide), h16]
    intro t ht
    obtain ⟨a1, a2, a3, a4⟩ := tm t ht
    rw [(hr (16 + t) (by omega)).1, (hr (16 + t) (by omega)).2, rowN_c (eM 9 (by decide) (by decide)) (eM 10 (by decide) (by decide))]
    exact ⟨a1, a2, a3, fun k hk => by rw [rowB_c (eM 9 (by decide) (by decide)) (eM 8 (by decide) (by decide))]; exact a4 k hk⟩
  · rw [eM 16 (by decide) (by decide), eM 15 (by decide) (by decide), eM 14 (by decide) (by decide), h17]
    intro j hj
    obtain ⟨a1, a2, a3, a4, a5, a6⟩ := nb j hj
    rw [(hr (76 + j) (by omega)).1, (hr (76 + j) (by omega)).2]
    exact ⟨a1, a2, a3, a4, a5, a6⟩
  · rw [eM 16 (by decide) (by decide)]; exact ct
  · rw [eM 18 (by decide) (by decide)]; exact z5
section KS
variable {dA : Nat → ClassId} {zz : Nat → Nat} {x0 ou : Nat} {M : mN} {D : Nat → Int64} {mn : Int32} {L : List Nat} {f : pF}
variable {ad cp : Nat → Nat → Nat} {V : cV} {Z : cZ} {ng : Nat → Nat}
theorem CD.W (hd : CD M D mn cp V Z ng) : cdW M V := hd.2.1
theorem CD.X (hd : CD M D mn cp V Z ng) : cdX M V := hd.2.2.1
/-- the row that waits -/
theorem kW (h : CH dA zz ad cp V Z L f) (hd : CD M D mn cp V Z ng) (hM : MI M D) : isRow dA L f (ad 14 0) (ad 15 0) (cp 15 0) (M 1 0) (fun k => chr (M 2 k)) :=
  h.row (lv_r (by decide)) hd.W.1 (fun k hk => ⟨chr_lt (hM.1.2 k), hd.W.2 k hk⟩) (by rw [hd.1.1]; exact hM.1.1) (by rw [hd.1.1]; decide)
/-- a text -/
theorem kX (h : CH dA zz ad cp V Z L f) (hd : CD M D mn cp V Z ng) (hM : MI M D) {x : Nat} (hx : x < 8) : isRow dA L f (ad 14 (1 + x)) (ad 15 (1 + x)) 600 (M 20 x) (fun k => M 19 (600 * x + k)) := by
  have := h.row (r := 1 + x) (lv_r (by omega)) (hd.X x hx).1 (t := fun k => M 19 (600 * x + k)) (fun k hk => ⟨(hM.2.2.2.2.2 x hx).2 k hk, (hd.X x hx).2 k hk⟩) (by rw [hd.1.2.1 x hx]; exact (hM.2.2.2.2.2 x hx).1) (by rw [hd.1.2.1 x hx]; decide)
  rw [hd.1.2.1 x hx] at this
  exact this
theorem k_letter {Q : Int32 → List Nat → pF → Prop} (h : CI dA zz x0 ou M D mn L f) (hM : MI M D) (v : Int32) (hQ : ∀ (L' : List Nat) (f' : pF), CI dA zz x0 ou (aLet M v).1 D mn L' f' → Q (aLet M v).2 L' f') : wp_X8_letter_0 dA zz Q L f x0 v := by
  obtain ⟨ad, cp, V, Z, ng, h, rfl, rfl, hd⟩ := h
  have h40 := hM.1.1
  have c0 := hd.1.1
  have no : (M 1 0 = 40 ∨ v < 0 ∨ 26 < v) → Q (-1) L f := by
    intro hc
    have := hQ L f
    rw [aLet, if_pos hc] at this
    exact this ⟨ad, cp, V, Z, ng, h, rfl, rfl, hd⟩
  unfold wp_X8_letter_0
  refine ⟨fun h1 => no (Or.inr (Or.inl h1)), fun h1 => ⟨fun h2 => ?_, fun h2 => no (Or.inr (Or.inr (fa_of_nle h2)))⟩⟩
  obtain ⟨c, hc, rfl⟩ := n_of h1
  have hc26 : c ≤ 26 := (i_le c 26).mp h2
  have go : ∀ (w : Nat) (x : Int32), w ≤ 26 → (if nI c = 26 then 0 else (nI c + 1).toNatClampNeg) = w → x.toInt8.toInt32 = sb (chr w) → wp_X8_letter_31 dA zz Q L f (ad 0 0) x (ad 14 0) := by
    intro w x hw he hx
    unfold wp_X8_letter_31
    refine ⟨cO (c := 14) h (lv_r (by decide)) rfl, c_push h (lv_r (by decide)) hd.W.1 (by rw [c0]; exact h40) (by rw [c0]; decide) (fun hn f1 h3 => bf1 (by decide) ?_) (fun hn => bt1 rfl (no (Or.inl (by omega))))⟩
    refine cgR (c := 0) h3 rfl rfl rfl ⟨cO (c := 14) h3 (lv_r (by decide)) rfl, ?_⟩
    unfold wp_X4_size_0
    refine cgI (c := 14) h3 (lv_r (by decide)) rfl rfl ?_
    rw [vst_v]
    have hcond : ¬ (M 1 0 = 40 ∨ nI c < 0 ∨ 26 < nI c) := by
      intro h9
      rcases h9 with h9 | h9 | h9
      · rw [c0] at hn; omega
      · exact h1 h9
      · have := (i_lt 26 c).mp h9
        omega
    have := hQ L f1
    rw [aLet, if_neg hcond, he] at this
    refine this ⟨ad, cp, _, Z, ng, h3, rfl, rfl, hd.rows (fun a ha1 ha2 => ?_) ?_ ?_ ?_ (fun r hr => ?_) ⟨?_, fun k hk => ?_⟩ (fun x hx => ?_) ?_⟩
    · dsimp only; rw [ad2_f (by omega), ad2_f (by omega)]
    · rw [vst_c (by decide), vst_c (by decide)]; exact hd.2.2.2.2.2.2.2.2.2.2
    · rw [vst_c (by decide), vst_c (by decide)]
    · rw [vst_c (by decide), vst_c (by decide)]
    · rw [vst_n (by omega), vst_c (by decide), vst_c (by decide), vst_n (by omega)]; exact ⟨rfl, rfl⟩
    · dsimp only; rw [vst_v, ad2_s]
    · dsimp only at hk ⊢
      rw [ad2_s] at hk
      rw [vst_c (by decide), ad2_f (show (2 : Nat) ≠ 1 by decide)]
      by_cases e : k = M 1 0
      · subst e; rw [vst_v, ad2_s, hx]
      · rw [vst_j e, ad2_i e]; exact hd.W.2 k (by omega)
    · dsimp only
      rw [vst_n (by omega), vst_c (by decide), vst_c (by decide), vst_n (by omega), ad2_f (show (20 : Nat) ≠ 1 by decide), ad2_f (show (20 : Nat) ≠ 2 by decide), ad2_f (show (19 : Nat) ≠ 1 by decide), ad2_f (show (19 : Nat) ≠ 2 by decide)]
      exact hd.X x hx
    · rw [vst_n (by omega), vst_c (by decide)]; exact hd.2.2.2.1
  refine cgR (c := 0) h rfl rfl rfl (bn (i_eq c 26) (fun h5 => ?_) (fun h5 => ?_))
  · exact go 0 32 (by decide) (if_pos (by rw [h5]; rfl)) rfl
  · rw [show (97 : Int32) + nI c = nI (97 + c) from nI_add 97 c]
    refine go (c + 1) _ (by omega) ?_ ?_
    · rw [if_neg (fun h9 => h5 ((i_eq c 26).mp h9)), nI_1, n_cl (by omega)]
    · unfold sb chr
      rw [if_neg (by omega), show 96 + (c + 1) = 97 + c by omega]
/-- nothing waits any more -/
theorem CD.w0 (hd : CD M D mn cp V Z ng) : CD (ad2 M 1 0 0) D mn cp (vst V 14 0 0 (nI 0)) Z ng := by
  refine hd.rows (fun a ha1 ha2 => ad2_f (by omega)) ?_ ?_ ?_ (fun r hr => ?_) ⟨?_, fun k hk => ?_⟩ (fun x hx => ?_) ?_
  · rw [vst_c (by decide)]; exact hd.2.2.2.2.2.2.2.2.2.2
  · rw [vst_c (by decide)]
  · rw [vst_c (by decide)]
  · rw [vst_n (by omega), vst_c (by decide)]; exact ⟨rfl, rfl⟩
  · rw [vst_v, ad2_s]
  · rw [ad2_s] at hk; exact absurd hk (Nat.not_lt_zero k)
  · rw [vst_n (by omega), vst_c (by decide), ad2_f (show (20 : Nat) ≠ 1 by decide), ad2_f (show (19 : Nat) ≠ 1 by decide)]; exact hd.X x hx
  · rw [vst_n (by omega)]; exact hd.2.2.2.1
theorem CD.Z6 (hd : CD M D mn cp V Z ng) : Z 6 = D := hd.2.2.2.2.2.2.2.2.1
theorem CD.Z5 (hd : CD M D mn cp V Z ng) : ∀ g, g < 64 → tb (Z 5 0) g = decide (g < 40 ∧ M 18 g = 1) := hd.2.2.2.2.2.2.2.2.2.1
theorem x8_thing {Q : List Nat → pF → Prop} {X : String → List Nat → pF → Prop} {a : Int32} (yes : okN a 40 → Q L f) (no : ¬ okN a 40 → X "java/lang/IllegalArgumentException" L f) : wp_X8_needThing_0 dA zz Q X L f a := by
  unfold wp_X8_needThing_0 wp_X8_needThing_10
  exact ⟨fun h => no (fun o => o.1 h), fun h => ⟨fun h2 => yes ⟨h, h2⟩, fun h2 => no (fun o => h2 o.2)⟩⟩
theorem x8_kind {Q : List Nat → pF → Prop} {X : String → List Nat → pF → Prop} {a : Int32} (yes : okN a 4 → Q L f) (no : ¬ okN a 4 → X "java/lang/IllegalArgumentException" L f) : wp_X8_needKind_0 dA zz Q X L f a := by
  have e4 : (nI 4).toInt = 4 := rfl
  have e3 : (3 : Int32).toInt = 3 := rfl
  unfold wp_X8_needKind_0 wp_X8_needKind_9
  refine ⟨fun h => no (fun o => o.1 h), fun h => ⟨fun h2 => yes ⟨h, ?_⟩, fun h2 => no (fun o => h2 ?_)⟩⟩
  · rw [fa_le] at h2; rw [fa_lt]; omega
  · have := o.2; rw [fa_lt] at this; rw [fa_le]; omega
theorem k_define {Q : Int64 → List Nat → pF → Prop} {X : String → List Nat → pF → Prop} (h : CI dA zz x0 ou M D mn L f) (a : Int32) (x : Int64) (yes : ∀ t, t < 40 → a = nI t → okL x → ∀ (L' : List Nat) (f' : pF), CI dA zz x0 ou M (vp_updL D t x) mn L' f' → Q (D t) L' f') (no : ¬ (okN a 40 ∧ okL x) → X "java/lang/IllegalArgumentException" L f) : wp_X8_define_0 dA zz Q X L f x0 a x := by
  obtain ⟨ad, cp, V, Z, ng, h, rfl, rfl, hd⟩ := h
  unfold wp_X8_define_0 wp_X8_define_18
  refine x8_thing (fun ok => bq lc_n (fun h2 => no (fun o => o.2.1 h2)) (fun h2 => bq lc_n (fun h3 => ?_) (fun h3 => no (fun o => h3 o.2.2)))) (fun ok => no (fun o => ok o.1))
  obtain ⟨t, ht, rfl⟩ := okN_of ok (by decide)
  refine cgR (c := 0) h rfl rfl rfl ⟨cO (c := 5) h rfl rfl, ?_⟩
  unfold wp_X0_replaced_0
  refine bf1 (n_lt0 (by omega)) (bt1 ((i_lt t 40).mpr ht) (cgR (c := 5) h rfl rfl rfl (caJ (c := 6) (n := 40) h rfl rfl t rfl ht (by decide) (cgR (c := 5) h rfl rfl rfl (caJs (c := 6) (n := 40) h rfl l0_6 rfl t rfl ht (by decide) rfl ?_)))))
  intro f1 h1
  rw [hd.Z6]
  refine yes t ht rfl ⟨h2, h3⟩ L f1 ⟨ad, cp, V, _, ng, h1, rfl, rfl, ?_⟩
  obtain ⟨q1, q2, q3, q4, q5, q6, q7, q8, q9, q10, q11⟩ := hd
  exact ⟨q1, q2, q3, q4, q5, q6, q7, q8, by rw [zst_s, q9], by rw [zst_c (by decide)]; exact q10, q11⟩
theorem k_know {Q : Int32 → List Nat → pF → Prop} {X : String → List Nat → pF → Prop} (h : CI dA zz x0 ou M D mn L f) (hM : MI M D) (a : Int32) {b : Nat} (hb : b ≤ 1) (yes : ∀ t, t < 40 → a = nI t → ∀ (L' : List Nat) (f' : pF), CI dA zz x0 ou (ad2 M 18 t b) D mn L' f' → Q (nI (M 18 t)) L' f') (no : ¬ okN a 40 → X "java/lang/IllegalArgumentException" L f) : wp_X8_know_0 dA zz Q X L f x0 a (nI b) := by
  obtain ⟨ad, cp, V, Z, ng, h, rfl, rfl, hd⟩ := h
  unfold wp_X8_know_0
  refine x8_thing (fun ok => ?_) no
  obtain ⟨t, ht, rfl⟩ := okN_of ok (by decide)
  have h1t := (hM.2.2.2.2.1 t ht).2
  have hz := hd.Z5
  refine cgR (c := 0) h rfl rfl rfl ⟨cO (c := 5) h rfl rfl, ?_⟩
  unfold wp_X0_madeKnown_0
  refine cgJ (c := 5) h rfl rfl rfl ?_
  have go : wp_X0_madeKnown_18 dA zz (fun r_10 L_10 f_10 => narrow .boolean (.int r_10) = .int r_10 ∧ Q r_10 L_10 f_10) L f (ad 5 0) (nI t) (nI b) (nI (M 18 t)) := by
    unfold wp_X0_madeKnown_18
    have fin : ∀ z : Int64, (∀ g, g < 64 → tb z g = decide (g < 40 ∧ ad2 M 18 t b 18 g = 1)) → wp_X0_madeKnown_47 dA zz (fun r_10 L_10 f_10 => narrow .boolean (.int r_10) = .int r_10 ∧ Q r_10 L_10 f_10) L f (nI (M 18 t)) z (ad 5 0) := by
      intro z hz2
      unfold wp_X0_madeKnown_47
      refine cgPl (c := 5) h rfl l0_5 rfl 0 (by show 1 < 8; decide) rfl ?_
      intro f1 h1
      refine ⟨(nb_of h1t).1, (nb_of h1t).1, yes t ht rfl L f1 ⟨ad, cp, V, _, ng, h1, rfl, rfl, ?_⟩⟩
      have e : ∀ a, a ≠ 18 → ad2 M 18 t b a = M a := fun a ha => ad2_f ha
      obtain ⟨q1, q2, q3, q4, q5, q6, q7, q8, q9, q10, q11⟩ := hd
      refine ⟨?_, ?_, ?_, q4, ?_, ?_, ?_, ?_, by rw [zst_c (by decide)]; exact q9, fun g hg => by rw [zst_v]; exact hz2 g hg, q11⟩
      · rw [e 3 (by decide), e 4 (by decide), e 16 (by decide)]; exact q1
      · rw [e 1 (by decide), e 2 (by decide)]; exact q2
      · rw [e 20 (by decide), e 19 (by decide)]; exact q3
      · rw [e 3 (by decide), e 7 (by decide), e 6 (by decide)]; exact q5
      · rw [e 4 (by decide), e 10 (by decide), e 11 (by decide), e 12 (by decide), e 13 (by decide)]
        intro u hu
        obtain ⟨a1, a2, a3, a4⟩ := q6 u hu
        rw [rowN_c (e 9 (by decide)) (e 10 (by decide))]
        exact ⟨a1, a2, a3, fun k hk => by rw [rowB_c (e 9 (by decide)) (e 8 (by decide))]; exact a4 k hk⟩
      · rw [e 16 (by decide), e 15 (by decide), e 14 (by decide)]; exact q7
      · rw [e 16 (by decide)]; exact q8
    refine bq (i_eq b 0) (fun hb0 => cgJ (c := 5) h rfl rfl rfl (fin _ (fun g hg => ?_))) (fun hb0 => cgJ (c := 5) h rfl rfl rfl (fin _ (fun g hg => ?_)))
    · rw [tb_clr (by omega) hg, hz g hg]
      by_cases e : g = t
      · subst e; rw [ad2_s]; simp [hb0]
      · rw [ad2_i e]; simp [e]
    · rw [tb_set (by omega), hz g hg]
      by_cases e : g = t
      · subst e; rw [ad2_s]; simp [ht]; omega
      · rw [ad2_i e]; simp [e]
  have hbit := hz t (by omega)
  refine bq (tb_c0 (by omega)) (fun hc => ?_) (fun hc => ?_)
  · rw [hc] at hbit
    have : M 18 t = 0 := by
      simp [ht] at hbit; omega
    rw [this] at go
    exact go
  · have hc : tb (Z 5 0) t = true := by simpa using hc
    rw [hc] at hbit
    have : M 18 t = 1 := by simp [ht] at hbit; exact hbit
    rw [this] at go
    exact go
end KS
