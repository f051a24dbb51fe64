/-! pure: the component's small calls, second part -/
section KB
variable {dA : Nat → ClassId} {zz : Nat → Nat} {x0 ou : Nat} {M : mN} {D : Nat → Int64} {mn : Int32} {L : List Nat} {f : pF}
variable {ad cp : Nat → Nat → Nat} {V : cV} {Z : cZ} {ng : Nat → Nat}
theorem l_get0 {Q : Nat → List Nat → pF → Prop} (h : CH dA zz ad cp V Z L f) (k : Nat) (hk : k < cp 3 0) (hQ : Q (ad 14 (10 + k)) L f) : wp_Jx4a65c_get_915e3_0 dA zz Q L f (ad 3 0) (nI k) := l_get h (by decide) k hk hQ
theorem l_get1 {Q : Nat → List Nat → pF → Prop} (h : CH dA zz ad cp V Z L f) (k : Nat) (hk : k < cp 3 1) (hQ : Q (ad 16 k) L f) : wp_Jx4a65c_get_915e3_0 dA zz Q L f (ad 3 1) (nI k) := l_get h (by decide) k hk (by show Q (ad 16 (0 + k)) L f; rw [Nat.zero_add]; exact hQ)
theorem l_get2 {Q : Nat → List Nat → pF → Prop} (h : CH dA zz ad cp V Z L f) (k : Nat) (hk : k < cp 3 2) (hQ : Q (ad 17 k) L f) : wp_Jx4a65c_get_915e3_0 dA zz Q L f (ad 3 2) (nI k) := l_get h (by decide) k hk (by show Q (ad 17 (0 + k)) L f; rw [Nat.zero_add]; exact hQ)
theorem lv_16 (h : CH dA zz ad cp V Z L f) {k : Nat} (hk : k < cp 3 1) : lv cp 16 k := Nat.lt_of_lt_of_le hk (h.2.2 1 (by decide)).1
theorem lv_17 (h : CH dA zz ad cp V Z L f) {k : Nat} (hk : k < cp 3 2) : lv cp 17 k := Nat.lt_of_lt_of_le hk (h.2.2 2 (by decide)).1
theorem lv_re (h : CH dA zz ad cp V Z L f) {k : Nat} (hk : k < cp 3 0) : lv cp 14 (10 + k) := Or.inl (by have := (h.2.2 0 (by decide)).1; omega)
theorem lv_rt (h : CH dA zz ad cp V Z L f) {k : Nat} (hk : k < cp 3 1) : lv cp 14 (16 + k) := Or.inr (Or.inl ⟨by omega, by have := (h.2.2 1 (by decide)).1; omega⟩)
theorem lv_rn (h : CH dA zz ad cp V Z L f) {k : Nat} (hk : k < cp 3 2) : lv cp 14 (76 + k) := Or.inr (Or.inr ⟨by omega, by have := (h.2.2 2 (by decide)).1; omega⟩)
theorem c_holds {Q : Int32 → List Nat → pF → Prop} (h : CH dA zz ad cp V Z L f) (a : Int32) (yes : okN a (cp 3 1) → Q 1 L f) (no : ¬ okN a (cp 3 1) → Q 0 L f) : wp_X1_holdsTerm_0 dA zz Q L f (ad 2 0) a := by
  unfold wp_X1_holdsTerm_0
  refine ⟨fun h1 => no (fun o => o.1 h1), fun h1 => cgR (c := 2) h rfl rfl rfl ⟨l_O h (by decide), l_size h (by decide) ⟨fun h2 => no (fun o => ?_), fun h2 => yes ⟨h1, fa_of_nle h2⟩⟩⟩⟩
  have := o.2; rw [fa_lt] at this; rw [fa_le] at h2; omega
theorem c_termAt {Q : Nat → List Nat → pF → Prop} (h : CH dA zz ad cp V Z L f) (k : Nat) (hk : k < cp 3 1) (hQ : Q (ad 16 k) L f) : wp_X1_termAt_0 dA zz Q L f (ad 2 0) (nI k) := by
  unfold wp_X1_termAt_0
  exact cgR (c := 2) h rfl rfl rfl ⟨l_O h (by decide), l_get1 h k hk ⟨cO (c := 16) h (lv_16 h hk) rfl, hQ⟩⟩
theorem CD.c31 (hd : CD M D mn cp V Z ng) : cp 3 1 = M 4 0 := hd.1.2.2.2.2.1
theorem CD.c30 (hd : CD M D mn cp V Z ng) : cp 3 0 = M 3 0 := hd.1.2.2.2.1
theorem CD.T (hd : CD M D mn cp V Z ng) {t : Nat} (ht : t < M 4 0) : (V 16 t 0 = nI (M 10 t) ∧ V 16 t 1 = nI (M 11 t) ∧ V 16 t 2 = nI (M 13 t) ∧ V 16 t 3 = nI (M 12 t)) ∧ cp 15 (16 + t) = rowN M t ∧ V 14 (16 + t) 0 = nI (rowN M t) ∧ ∀ k, k < rowN M t → V 15 (16 + t) k = sb (rowB M t k) := hd.2.2.2.2.2.1 t ht
theorem k_needTerm {Q : Nat → List Nat → pF → Prop} {X : String → List Nat → pF → Prop} (h : CH dA zz ad cp V Z L f) (hd : CD M D mn cp V Z ng) (hM : MI M D) (a : Int32) (yes : ∀ t, t < M 4 0 → a = nI t → Q (ad 16 t) L f) (no : ¬ okN a (M 4 0) → X "java/util/NoSuchElementException" L f) : wp_X8_needTerm_0 dA zz Q X L f (ad 0 0) a := by
  have hb := hM.2.2.1.1
  unfold wp_X8_needTerm_0
  refine cgR (c := 0) h rfl rfl rfl ⟨cO (c := 2) h rfl rfl, c_holds h a (fun ok => bf2 (by decide) ?_) (fun ok => bt2 rfl (no (by rw [← hd.c31]; exact ok)))⟩
  rw [hd.c31] at ok
  obtain ⟨t, ht, rfl⟩ := okN_of ok (by omega)
  exact cgR (c := 0) h rfl rfl rfl ⟨cO (c := 2) h rfl rfl, c_termAt h t (by rw [hd.c31]; exact ht) (yes t ht rfl)⟩
theorem k_needText {Q : Nat → List Nat → pF → Prop} {X : String → List Nat → pF → Prop} (h : CH dA zz ad cp V Z L f) (a : Int32) (yes : ∀ x, x < 8 → a = nI x → Q (ad 14 (1 + x)) L f) (no : ¬ okN a 8 → X "java/lang/IllegalArgumentException" L f) : wp_X8_needText_0 dA zz Q X L f (ad 0 0) a := by
  unfold wp_X8_needText_0 wp_X8_needText_13
  refine ⟨fun h1 => no (fun o => o.1 h1), fun h1 => cgR (c := 0) h rfl rfl rfl ⟨_, ⟨(h.1 1 0 rfl).1, (h.1 1 0 rfl).2⟩, ⟨fun h2 => ?_, fun h2 => no (fun o => h2 o.2)⟩⟩⟩
  obtain ⟨x, hx, rfl⟩ := okN_of (n := 8) ⟨h1, h2⟩ (by decide)
  refine cgR (c := 0) h rfl rfl rfl ⟨8, _, ad 14 (1 + x), ⟨(h.1 1 0 rfl).1, (h.1 1 0 rfl).2, n_in hx (by decide), ?_⟩, yes x hx rfl⟩
  rw [n_cl (by omega)]
  show (if x < 8 then some (ad 14 (x + 1)) else none) = _
  rw [if_pos hx, Nat.add_comm]
theorem k_kind {Q : Int32 → List Nat → pF → Prop} {X : String → List Nat → pF → Prop} (h : CI dA zz x0 ou M D mn L f) (hM : MI M D) (a b : Int32) (yes : ∀ t k, t < M 4 0 → k < 4 → a = nI t → b = nI k → ∀ (L' : List Nat) (f' : pF), CI dA zz x0 ou (ad2 M 12 t k) D mn L' f' → Q (nI (M 12 t)) L' f') (no1 : ¬ okN a (M 4 0) → X "java/util/NoSuchElementException" L f) (no2 : okN a (M 4 0) → ¬ okN b 4 → X "java/lang/IllegalArgumentException" L f) : wp_X8_kind_0 dA zz Q X L f x0 a b := by
  obtain ⟨ad, cp, V, Z, ng, h, rfl, rfl, hd⟩ := h
  have hb := hM.2.2.1.1
  unfold wp_X8_kind_0
  refine ⟨cO (c := 0) h rfl rfl, k_needTerm h hd hM a (fun t ht ha => ?_) no1⟩
  subst ha
  refine x8_kind (fun ok => ?_) (no2 (okN_i ht (by omega)))
  obtain ⟨k, hk, rfl⟩ := okN_of ok (by decide)
  have l16 : lv cp 16 t := lv_16 h (by rw [hd.c31]; exact ht)
  refine cgI (c := 16) h l16 rfl rfl (cgPi (c := 16) h l16 rfl 3 (by show 4 < 5; decide) rfl ?_)
  intro f1 h1
  rw [(hd.T ht).1.2.2.2]
  refine yes t k ht hk rfl rfl L f1 ⟨ad, cp, _, Z, ng, h1, rfl, rfl, ?_⟩
  have e : ∀ a, a ≠ 12 → ad2 M 12 t k a = M a := fun a ha => ad2_f ha
  obtain ⟨q1, q2, q3, q4, q5, q6, q7, q8, q9, q10, q11⟩ := hd
  refine ⟨?_, ?_, ?_, ?_, ?_, ?_, ?_, ?_, q9, ?_, ?_⟩
  · rw [e 3 (by decide), e 4 (by decide), e 16 (by decide)]; exact q1
  · rw [e 1 (by decide), e 2 (by decide), vst_c (by decide), vst_c (by decide)]; exact q2
  · rw [e 20 (by decide), e 19 (by decide), vst_c (by decide), vst_c (by decide)]; exact q3
  · rw [vst_c (by decide)]; exact q4
  · rw [e 3 (by decide), e 7 (by decide), e 6 (by decide), vst_c (by decide), vst_c (by decide)]; exact q5
  · rw [e 4 (by decide), e 10 (by decide), e 11 (by decide), e 13 (by decide), vst_c (show (14 : Nat) ≠ 16 by decide), vst_c (show (15 : Nat) ≠ 16 by decide)]
    intro u hu
    obtain ⟨⟨a0, a1, a2, a3⟩, a4, a5, a6⟩ := q6 u hu
    rw [rowN_c (e 9 (by decide)) (e 10 (by decide))]
    refine ⟨?_, a4, a5, fun j hj => by rw [rowB_c (e 9 (by decide)) (e 8 (by decide))]; exact a6 j hj⟩
    by_cases eu : u = t
    · subst eu
      rw [vst_j (by decide), vst_j (by decide), vst_j (by decide), vst_v, ad2_s]
      exact ⟨a0, a1, a2, rfl⟩
    · rw [vst_n (fun e9 => eu e9.2), ad2_i eu]
      exact ⟨a0, a1, a2, a3⟩
  · rw [e 16 (by decide), e 15 (by decide), e 14 (by decide), vst_c (show (17 : Nat) ≠ 16 by decide), vst_c (show (14 : Nat) ≠ 16 by decide), vst_c (show (15 : Nat) ≠ 16 by decide)]; exact q7
  · rw [e 16 (by decide)]; exact q8
  · rw [e 18 (by decide)]; exact q10
  · rw [vst_c (by decide)]; exact q11
theorem rowN_le (hM : MI M D) {t : Nat} (ht : t < M 4 0) : rowN M t ≤ 38 ∧ rowN M t - (M 10 t - 1) = M 9 (3 * t) + M 9 (3 * t + 1) + M 9 (3 * t + 2) ∧ M 10 t - 1 ≤ rowN M t := by
  obtain ⟨q1, q2, q3, q4, q5, q6, q7⟩ := hM.2.2.1.2 t ht
  have a0 : M 9 (3 * t) ≤ 12 := (q3 0 (by omega)).2.1
  have a1 : M 9 (3 * t + 1) ≤ 12 := by
    by_cases h : 1 < M 10 t
    · exact (q3 1 h).2.1
    · rw [q4 1 (by decide) (by omega)]; omega
  have a2 : M 9 (3 * t + 2) ≤ 12 := by
    by_cases h : 2 < M 10 t
    · exact (q3 2 h).2.1
    · rw [q4 2 (by decide) (by omega)]; omega
  unfold rowN
  omega
theorem k_about {Q : Int32 → List Nat → pF → Prop} {X : String → List Nat → pF → Prop} (h : CI dA zz x0 ou M D mn L f) (hM : MI M D) (a b : Int32) (yes : ∀ t k, t < M 4 0 → k < 5 → a = nI t → b = nI k → Q (nI (aAb M t k)) L f) (no : ¬ (okN a (M 4 0) ∧ okN b 5) → X "java/util/NoSuchElementException" L f) : wp_X8_about_0 dA zz Q X L f x0 a b := by
  obtain ⟨ad, cp, V, Z, ng, h, rfl, rfl, hd⟩ := h
  have hb := hM.2.2.1.1
  unfold wp_X8_about_0
  refine ⟨cO (c := 0) h rfl rfl, k_needTerm h hd hM a (fun t ht ha => ?_) (fun o => no (fun o2 => o o2.1))⟩
  subst ha
  obtain ⟨⟨t0, t1, t2, t3⟩, r1, r2, r3⟩ := hd.T ht
  have l16 : lv cp 16 t := lv_16 h (by rw [hd.c31]; exact ht)
  have lrt := lv_rt h (show t < cp 3 1 by rw [hd.c31]; exact ht)
  obtain ⟨n1, n2, n3⟩ := rowN_le hM ht
  have h1 := (hM.2.2.1.2 t ht).1
  have y : ∀ k, k < 5 → b = nI k → Q (nI (aAb M t k)) L f := fun k hk e => yes t k ht hk rfl e
  refine ⟨fun e => cgI (c := 16) h l16 rfl rfl ?_, fun e => cgI (c := 16) h l16 rfl rfl ?_, fun e => cgI (c := 16) h l16 rfl rfl ?_, fun e => cgI (c := 16) h l16 rfl rfl ?_, fun e => ⟨cO (c := 16) h l16 rfl, ?_⟩, fun q0 q1 q2 q3 q4 => no (fun o => ?_)⟩
  · rw [t1]; exact y 0 (by decide) e
  · rw [t3]; exact y 1 (by decide) e
  · rw [t2]; exact y 2 (by decide) e
  · rw [t0]; exact y 3 (by decide) e
  · unfold wp_X5_letters_0 wp_X4_size_0
    refine cgR (c := 16) h l16 rfl rfl ⟨cO (c := 14) h lrt rfl, cgI (c := 14) h lrt rfl rfl (cgI (c := 16) h l16 rfl rfl ?_)⟩
    rw [r2, t0, n_sub1 (by omega), n_sub n3, n2]
    exact y 4 (by decide) e
  · obtain ⟨k, hk, rfl⟩ := okN_of o.2 (by decide)
    have hk5 : k = 0 ∨ k = 1 ∨ k = 2 ∨ k = 3 ∨ k = 4 := by omega
    rcases hk5 with e | e | e | e | e
    · exact q0 (by rw [e]; rfl)
    · exact q1 (by rw [e]; rfl)
    · exact q2 (by rw [e]; rfl)
    · exact q3 (by rw [e]; rfl)
    · exact q4 (by rw [e]; rfl)
/-- a text changed, all else as it was -/
theorem CD.text {M' : mN} {V' : cV} {x n : Nat} (hd : CD M D mn cp V Z ng) (hx : x < 8) (eM : ∀ a, a ≠ 19 → a ≠ 20 → M' a = M a) (h20 : ∀ y, y ≠ x → M' 20 y = M 20 y) (h19 : ∀ y, y < 8 → y ≠ x → ∀ k, k < M 20 y → M' 19 (600 * y + k) = M 19 (600 * y + k)) (hn : M' 20 x = n) (hV : ∀ c i, ¬ (c = 14 ∧ i = 1 + x) → ¬ (c = 15 ∧ i = 1 + x) → V' c i = V c i) (v1 : V' 14 (1 + x) 0 = nI n) (v2 : ∀ k, k < n → V' 15 (1 + x) k = sb (M' 19 (600 * x + k))) : CD M' D mn cp V' Z ng := by
  refine hd.rows (fun a ha1 ha2 => eM a (by omega) (by omega)) ?_ (funext fun i => hV 16 i (by omega) (by omega)) (funext fun i => hV 17 i (by omega) (by omega)) (fun r hr => ⟨hV 14 r (by omega) (by omega), hV 15 r (by omega) (by omega)⟩) ⟨?_, fun k hk => ?_⟩ (fun y hy => ?_) ?_
  · rw [hV 13 0 (by omega) (by omega)]; exact hd.2.2.2.2.2.2.2.2.2.2
  · rw [hV 14 0 (by omega) (by omega), eM 1 (by decide) (by decide)]; exact hd.W.1
  · rw [eM 1 (by decide) (by decide)] at hk
    rw [hV 15 0 (by omega) (by omega), eM 2 (by decide) (by decide)]; exact hd.W.2 k hk
  · by_cases e : y = x
    · subst e; rw [hn]; exact ⟨v1, v2⟩
    · rw [hV 14 (1 + y) (by omega) (by omega), hV 15 (1 + y) (by omega) (by omega), h20 y e]
      exact ⟨(hd.X y hy).1, fun k hk => by rw [h19 y hy e k hk]; exact (hd.X y hy).2 k hk⟩
  · rw [hV 14 9 (by omega) (by omega)]; exact hd.2.2.2.1
theorem k_pn1 {Q : List Nat → pF → Prop} {x k n : Nat} {v : Int32} (h : CH dA zz ad cp V Z L f) (hd : CD M D mn cp V Z ng) (hM : MI M D) (hx : x < 8) (hn : M 20 x < 600) (hk : k ≤ 24) (hQ : ∀ (V' : cV) (f' : pF), CH dA zz ad cp V' Z L f' → CD (wrB M x (byN v k)) D mn cp V' Z ng → wp_X8_pushNumber_3 dA zz Q n L f' (ad 14 (1 + x)) v (nI k + (-8))) : wp_X8_pushNumber_3 dA zz Q (n + 1) L f (ad 14 (1 + x)) v (nI k) := by
  have c600 := hd.1.2.1 x hx
  unfold wp_X8_pushNumber_3
  refine bf1 (n_lt0 (by omega)) ⟨cO (c := 14) h (lv_r (by omega)) rfl, c_push h (lv_r (by omega)) (hd.X x hx).1 (by rw [c600]; omega) (by rw [c600]; decide) (fun _ f1 h1 => ?_) (fun h9 => absurd (by rw [c600]; exact hn) h9)⟩
  rintro _ rfl
  refine hQ _ f1 h1 (hd.text (x := x) (n := M 20 x + 1) hx (fun a h19 h20 => wrB_f h19 h20) (fun y hy => wrB_20o hy) (fun y hy hne k hk => ?_) wrB_20 (fun c i n14 n15 => by rw [vst_n n14, vst_n n15]) vst_v (fun j hj => ?_))
  · have := (hM.2.2.2.2.2 y hy).1
    rw [wrB_19o (by omega)]
  · rw [vst_c (by decide)]
    by_cases e : j = M 20 x
    · subst e; rw [vst_v, wrB_19n]; exact byN_c v hk
    · rw [vst_j e, wrB_19o (by omega)]; exact (hd.X x hx).2 j (by omega)
theorem k_pn {Q : List Nat → pF → Prop} {x : Nat} {v : Int32} (h : CH dA zz ad cp V Z L f) (hd : CD M D mn cp V Z ng) (hM : MI M D) (hx : x < 8) (hn : M 20 x + 4 ≤ 600) (hQ : ∀ (V' : cV) (f' : pF), CH dA zz ad cp V' Z L f' → CD (wr4 M x v) D mn cp V' Z ng → MI (wr4 M x v) D → Q L f') : wp_X8_pushNumber_0 dA zz Q L f (ad 14 (1 + x)) v := by
  unfold wp_X8_pushNumber_0
  have m1 := wrB_MI hM hx (by omega) (byN_ok v 24).1
  have m2 := wrB_MI m1 hx (by rw [wrB_20]; omega) (byN_ok v 16).1
  have m3 := wrB_MI m2 hx (by rw [wrB_20, wrB_20]; omega) (byN_ok v 8).1
  have m4 := wrB_MI m3 hx (by rw [wrB_20, wrB_20, wrB_20]; omega) (byN_ok v 0).1
  refine ⟨5, k_pn1 (k := 24) h hd hM hx (by omega) (by decide) (fun V1 f1 h1 d1 => ?_)⟩
  rw [show nI 24 + (-8) = nI 16 by decide]
  refine k_pn1 (k := 16) h1 d1 m1 hx (by rw [wrB_20]; omega) (by decide) (fun V2 f2 h2 d2 => ?_)
  rw [show nI 16 + (-8) = nI 8 by decide]
  refine k_pn1 (k := 8) h2 d2 m2 hx (by rw [wrB_20, wrB_20]; omega) (by decide) (fun V3 f3 h3 d3 => ?_)
  rw [show nI 8 + (-8) = nI 0 by decide]
  refine k_pn1 (k := 0) h3 d3 m3 hx (by rw [wrB_20, wrB_20, wrB_20]; omega) (by decide) (fun V4 f4 h4 d4 => ?_)
  unfold wp_X8_pushNumber_3
  exact bt1 (by decide) (hQ V4 f4 h4 d4 m4)
theorem k_write {Q : Int32 → List Nat → pF → Prop} {X : String → List Nat → pF → Prop} (h : CI dA zz x0 ou M D mn L f) (hM : MI M D) (t a b c d e : Int32) (yes : ∀ x, x < 8 → t = nI x → M 20 x + 20 ≤ 600 → ∀ (L' : List Nat) (f' : pF), CI dA zz x0 ou (wr20 M x a b c d e) D mn L' f' → Q (nI (M 20 x + 20)) L' f') (full : ∀ x, x < 8 → t = nI x → ¬ M 20 x + 20 ≤ 600 → Q (-1) L f) (no : ¬ okN t 8 → X "java/lang/IllegalArgumentException" L f) : wp_X8_write_0 dA zz Q X L f x0 t a b c d e := by
  obtain ⟨ad, cp, V, Z, ng, h, rfl, rfl, hd⟩ := h
  unfold wp_X8_write_0
  refine ⟨cO (c := 0) h rfl rfl, k_needText h t (fun x hx ht => ?_) no⟩
  have hb := (hM.2.2.2.2.2 x hx).1
  have lr : lv cp 14 (1 + x) := lv_r (by omega)
  refine ⟨cO (c := 14) h lr rfl, rw_size (kX h hd hM hx) (bq (i_le (M 20 x) 580) (fun h5 => ?_) (fun h5 => full x hx ht (by omega)))⟩
  refine k_pn h hd hM hx (by omega) (fun V1 f1 h1 d1 m1 => k_pn h1 d1 m1 hx (by rw [wr4_20]; omega) (fun V2 f2 h2 d2 m2 => k_pn h2 d2 m2 hx (by rw [wr4_20, wr4_20]; omega) (fun V3 f3 h3 d3 m3 => k_pn h3 d3 m3 hx (by rw [wr4_20, wr4_20, wr4_20]; omega) (fun V4 f4 h4 d4 m4 => k_pn h4 d4 m4 hx (by rw [wr4_20, wr4_20, wr4_20, wr4_20]; omega) (fun V5 f5 h5 d5 m5 => ⟨cO (c := 14) h5 lr rfl, rw_size (kX h5 d5 m5 hx) ?_⟩)))))
  rw [wr4_20, wr4_20, wr4_20, wr4_20, wr4_20]
  exact yes x hx ht (by omega) L f5 ⟨ad, cp, V5, Z, ng, h5, rfl, rfl, d5⟩
theorem k_cut {Q : Int32 → List Nat → pF → Prop} {X : String → List Nat → pF → Prop} (h : CI dA zz x0 ou M D mn L f) (hM : MI M D) (t a : Int32) (yes : ∀ x n, x < 8 → n ≤ M 20 x → t = nI x → a = nI n → ∀ (L' : List Nat) (f' : pF), CI dA zz x0 ou (ad2 M 20 x n) D mn L' f' → Q (nI (M 20 x - n)) L' f') (nope : ∀ x, x < 8 → t = nI x → ¬ (¬ a < 0 ∧ a ≤ nI (M 20 x)) → Q (-1) L f) (no : ¬ okN t 8 → X "java/lang/IllegalArgumentException" L f) : wp_X8_cut_0 dA zz Q X L f x0 t a := by
  obtain ⟨ad, cp, V, Z, ng, h, rfl, rfl, hd⟩ := h
  unfold wp_X8_cut_0
  refine ⟨cO (c := 0) h rfl rfl, k_needText h t (fun x hx ht => ?_) no⟩
  have hb := (hM.2.2.2.2.2 x hx).1
  have lr : lv cp 14 (1 + x) := lv_r (by omega)
  refine ⟨cO (c := 14) h lr rfl, rw_size (kX h hd hM hx) ⟨fun h9 => nope x hx ht (fun o => o.1 h9), fun h9 => ⟨fun h8 => ⟨cO (c := 14) h lr rfl, ?_⟩, fun h8 => nope x hx ht (fun o => h8 o.2)⟩⟩⟩
  obtain ⟨n, hn, rfl⟩ := n_of h9
  have hn2 : n ≤ M 20 x := (n_le hn (by omega)).mp h8
  refine c_shorten h lr (hd.X x hx).1 hn2 (by omega) (fun f1 h1 => ?_)
  rw [n_sub hn2]
  refine yes x n hx hn2 ht rfl L f1 ⟨ad, cp, _, Z, ng, h1, rfl, rfl, hd.text (x := x) (n := n) hx (fun a _ h20 => ad2_f h20) (fun y hy => ad2_i hy) (fun y hy hne k hk => by rw [ad2_f (by decide)]) ad2_s (fun c i n14 n15 => vst_n n14) vst_v (fun j hj => ?_)⟩
  rw [vst_c (by decide), ad2_f (show (19 : Nat) ≠ 20 by decide)]; exact (hd.X x hx).2 j (by omega)
theorem k_byteAt {Q : Int32 → List Nat → pF → Prop} {X : String → List Nat → pF → Prop} (h : CI dA zz x0 ou M D mn L f) (hM : MI M D) (t a : Int32) (size : ∀ x, x < 8 → t = nI x → a = -1 → Q (nI (M 20 x)) L f) (yes : ∀ x k, x < 8 → k < M 20 x → t = nI x → a = nI k → Q (nI (M 19 (600 * x + k))) L f) (nope : ∀ x, x < 8 → t = nI x → ¬ a = -1 → ¬ okN a (M 20 x) → X "java/util/NoSuchElementException" L f) (no : ¬ okN t 8 → X "java/lang/IllegalArgumentException" L f) : wp_X8_byteAt_0 dA zz Q X L f x0 t a := by
  obtain ⟨ad, cp, V, Z, ng, h, rfl, rfl, hd⟩ := h
  unfold wp_X8_byteAt_0 wp_X8_byteAt_28
  refine ⟨cO (c := 0) h rfl rfl, k_needText h t (fun x hx ht => ?_) no⟩
  have hb := (hM.2.2.2.2.2 x hx).1
  have lr : lv cp 14 (1 + x) := lv_r (by omega)
  by_cases e : a = -1
  · exact bt2 e ⟨cO (c := 14) h lr rfl, rw_size (kX h hd hM hx) (size x hx ht e)⟩
  · refine bf2 e ⟨fun h9 => nope x hx ht e (fun o => o.1 h9), fun h9 => ⟨cO (c := 14) h lr rfl, rw_size (kX h hd hM hx) ⟨fun h8 => ⟨cO (c := 14) h lr rfl, ?_⟩, fun h8 => nope x hx ht e (fun o => h8 o.2)⟩⟩⟩
    obtain ⟨k, hk, rfl⟩ := n_of h9
    have hk2 : k < M 20 x := (n_lt hk (by omega)).mp h8
    refine rw_at (kX h hd hM hx) k hk ?_
    rw [atv, if_pos hk2]
    exact yes x k hx hk2 ht rfl
end KB
