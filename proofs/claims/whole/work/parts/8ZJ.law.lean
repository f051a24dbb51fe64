/-! pure: the law, call by call -/
def outv (dA : Nat → ClassId) (L : List Nat) (f : pF) (ou : Nat) (v : Int64) : Prop := ou ∈ L ∧ ∃ g : Nat → Int64, f ou = .inl (dA 2, 1, .inr (.inl g)) ∧ g 0 = v
theorem arg {a : Int32} {P : Prop} {K : Int32 → Prop} (h1 : P) (h2 : K a) : P ∧ ∀ g : Int32, g = a → K g := ⟨h1, fun _ hg => hg ▸ h2⟩
theorem cU {a : Int32} {x y : Nat} (ha : a = nI x) (hb : a = nI y) (hx : x < 2147483648) (hy : y < 2147483648) : x = y := (n_eq hx hy).mp (ha.symm.trans hb)
theorem okE {a : Int32} {x n : Nat} (hx : x < n) (ha : a = nI x) (hn : n < 2147483648) : okN a n := by rw [ha]; exact okN_i hx hn
theorem exI {A B C : Prop} (h : A) : ("java/lang/IllegalArgumentException" = "java/lang/IllegalArgumentException" → A) ∧ ("java/lang/IllegalArgumentException" = "java/util/NoSuchElementException" → B) ∧ ("java/lang/IllegalArgumentException" = "java/lang/IllegalArgumentException" ∨ C) := ⟨fun _ => h, fun e => absurd e (by decide), Or.inl rfl⟩
theorem exN {A B C : Prop} (h : B) : ("java/util/NoSuchElementException" = "java/lang/IllegalArgumentException" → A) ∧ ("java/util/NoSuchElementException" = "java/util/NoSuchElementException" → B) ∧ (C ∨ "java/util/NoSuchElementException" = "java/util/NoSuchElementException") := ⟨fun e => absurd e (by decide), fun _ => h, Or.inr rfl⟩
section OUT
variable {dA : Nat → ClassId} {zz : Nat → Nat} {x0 ou : Nat} {M : mN} {D : Nat → Int64} {mn : Int32} {L : List Nat} {f : pF}
theorem CI.O (h : CI dA zz x0 ou M D mn L f) : isO L f 9 x0 := by
  obtain ⟨ad, cp, V, Z, ng, h, rfl, rfl, hd⟩ := h
  exact cO (c := 0) h rfl rfl
theorem CI.cell (h : CI dA zz x0 ou M D mn L f) : ou ∈ L ∧ ∃ z : Nat → Int64, f ou = .inl (dA 2, 1, .inr (.inl z)) := by
  obtain ⟨ad, cp, V, Z, ng, h, rfl, rfl, hd⟩ := h
  exact ⟨(h.1 18 0 rfl).1, _, (h.1 18 0 rfl).2⟩
theorem CI.up (h : CI dA zz x0 ou M D mn L f) (g : Nat → Int64) : CI dA zz x0 ou M D mn L (va_up f ou (.inl (dA 2, 1, .inr (.inl g)))) := by
  obtain ⟨ad, cp, V, Z, ng, h, rfl, rfl, hd⟩ := h
  refine ⟨ad, cp, V, (fun c => if c = 18 then g else Z c), ng, h.put (c := 18) (i := 0) rfl (fun _ _ _ => rfl) (fun c' i' hn hl => ?_) rfl, rfl, rfl, hd.fr2 (fun _ _ _ => rfl) (if_neg (by decide)) (if_neg (by decide))⟩
  exact if_neg (fun e => hn ⟨e, by subst e; exact hl⟩)
theorem oJs {v : Int64} {K : pF → Prop} (hc : ou ∈ L ∧ ∃ z : Nat → Int64, f ou = .inl (dA 2, 1, .inr (.inl z))) (hK : ∀ g : Nat → Int64, g 0 = v → K (va_up f ou (.inl (dA 2, 1, .inr (.inl g))))) : aJs L f (dA 2) ou 0 v K := by
  obtain ⟨h1, z, h2⟩ := hc
  refine ⟨1, z, ⟨h1, h2, n_in (a := 0) (by decide) (by decide)⟩, ?_⟩
  rintro _ rfl
  exact hK (vp_updL z 0 v) pk_uLs
theorem CI.wr {v : Int64} {K : pF → Prop} (h : CI dA zz x0 ou M D mn L f) (hK : ∀ f' : pF, CI dA zz x0 ou M D mn L f' → outv dA L f' ou v → K f') : aJs L f (dA 2) ou 0 v K := oJs h.cell (fun g hg => hK _ (h.up g) ⟨h.cell.1, g, va_up_s, hg⟩)
theorem rdO {v : Int64} {K : Int64 → Prop} (h : outv dA L f ou v) (hK : K v) : aJ L f (dA 2) ou 0 K := by
  obtain ⟨h1, g, h2, h3⟩ := h
  refine ⟨1, g, ⟨h1, h2, n_in (a := 0) (by decide) (by decide)⟩, ?_⟩
  show K (g 0)
  rw [h3]
  exact hK
theorem thr0 {S : mS} {G : mG} {K : mS → mG → Prop} {v w : Int64} (z : S 0 0 = 0) (o : outv dA L f ou v) (e : v = w) (hK : K S G) : wp_X9_thrown_0 (fun r S G => (r = (0 : Int32) → ((¬ (0 : Int32) = 0 → K S G) ∧ ((0 : Int32) = 0 → aJ L f (dA 2) ou 0 (fun g => ((lg_cmp g w = 0 → K S G) ∧ (¬ lg_cmp g w = 0 → False)))))) ∧ (¬ r = (0 : Int32) → False)) S G := by
  unfold wp_X9_thrown_0
  exact ⟨fun _ => ⟨fun h => absurd rfl h, fun _ => rdO o ⟨fun _ => hK, fun h => h (lc_0.mpr e)⟩⟩, fun h => h z⟩
theorem thrB {S : mS} {G : mG} {K : mS → mG → Prop} {v : Int64} {b : Int32} (z : S 0 0 = 0) (o : outv dA L f ou v) (e0 : b = 0 → v = 0) (e1 : ¬ b = 0 → v = 1) (hK : K S G) : wp_X9_thrown_0 (fun r S G => (r = (0 : Int32) → ((¬ (0 : Int32) = 0 → K S G) ∧ ((0 : Int32) = 0 → aJ L f (dA 2) ou 0 (fun g => ((b = 0 → ((lg_cmp g 0 = 0 → K S G) ∧ (¬ lg_cmp g 0 = 0 → False))) ∧ (¬ b = 0 → ((lg_cmp g 1 = 0 → K S G) ∧ (¬ lg_cmp g 1 = 0 → False)))))))) ∧ (¬ r = (0 : Int32) → False)) S G := by
  unfold wp_X9_thrown_0
  exact ⟨fun _ => ⟨fun h => absurd rfl h, fun _ => rdO o ⟨fun h0 => ⟨fun _ => hK, fun h => h (lc_0.mpr (e0 h0))⟩, fun h0 => ⟨fun _ => hK, fun h => h (lc_0.mpr (e1 h0))⟩⟩⟩, fun h => h z⟩
theorem thrN {S : mS} {G : mG} {K B : mS → mG → Prop} {c : Int32} (z : S 0 0 = c) (hc : ¬ c = 0) (hK : K S G) : wp_X9_thrown_0 (fun r S G => (r = c → ((¬ c = 0 → K S G) ∧ (c = 0 → B S G))) ∧ (¬ r = c → False)) S G := by
  unfold wp_X9_thrown_0
  exact ⟨fun _ => ⟨fun _ => hK, fun h => absurd h hc⟩, fun h => h z⟩
end OUT
/-- where a round of the law stands -/
def LH (dA : Nat → ClassId) (zz : Nat → Nat) (x0 ou Ln : Nat) (k23 : mS → mG → List Nat → pF → Nat → Int32 → Prop) (S : mS) (G : mG) (L : List Nat) (f : pF) (k : Nat) (a4 : Int32) (M : mN) (D : Nat → Int64) (mn : Int32) : Prop :=
  CI dA zz x0 ou M D mn L f ∧ RI M D mn S G ∧ k ≤ 512 ∧ (∀ j : Nat, j ≤ 6 → vp_in (a4 + nI j) Ln) ∧ ∀ (M' : mN) (D' : Nat → Int64) (mn' : Int32) (S' : mS) (G' : mG) (L' : List Nat) (f' : pF), CI dA zz x0 ou M' D' mn' L' f' → RI M' D' mn' S' G' → k23 S' G' L' f' (k + 1) (a4 + 7)
section LAW
variable {dA : Nat → ClassId} {zz : Nat → Nat} {x0 ou Ln : Nat} {xs : Nat → Int32} {k23 : mS → mG → List Nat → pF → Nat → Int32 → Prop} {S : mS} {G : mG} {L : List Nat} {f : pF} {k : Nat} {a4 : Int32} {M : mN} {D : Nat → Int64} {mn : Int32}
theorem l1406 (H : LH dA zz x0 ou Ln k23 S G L f k a4 M D mn) {M' : mN} {D' : Nat → Int64} {mn' : Int32} {S' : mS} {G' : mG} {L' : List Nat} {f' : pF} (c : CI dA zz x0 ou M' D' mn' L' f') (r : RI M' D' mn' S' G') : wp_law_1406 dA zz x0 ou Ln xs k23 S' G' L' f' k a4 := by
  unfold wp_law_1406
  exact ⟨H.2.2.1, fun v hv => by rw [hv]; exact H.2.2.2.2 M' D' mn' S' G' L' f' c r⟩
theorem law_letter (H : LH dA zz x0 ou Ln k23 S G L f k a4 M D mn) : wp_law_136 dA zz x0 ou Ln xs k23 S G L f k a4 := by
  obtain ⟨hc, hr, hk, hin, _⟩ := id H
  have hM := hr.2.2.2
  have h60 := hM.2.2.1.1
  have b600 : ∀ x, x < 8 → M 20 x ≤ 600 := fun x hx => (hM.2.2.2.2.2 x hx).1
  have i1 : vp_in (a4 + 1) Ln := hin 1 (by decide)
  have i2 : vp_in (a4 + 2) Ln := hin 2 (by decide)
  have i3 : vp_in (a4 + 3) Ln := hin 3 (by decide)
  have i4 : vp_in (a4 + 4) Ln := hin 4 (by decide)
  have i5 : vp_in (a4 + 5) Ln := hin 5 (by decide)
  have i6 : vp_in (a4 + 6) Ln := hin 6 (by decide)
  unfold wp_law_136
  refine ⟨hk, arg i1 ⟨hc.O, k_letter hc hM _ (fun L1 f1 c1 => arg i1 (rt_letter hr _ (fun S2 r2 => ⟨fun _ => l1406 H c1 r2, fun h => absurd rfl h⟩)))⟩⟩
theorem law_ending (H : LH dA zz x0 ou Ln k23 S G L f k a4 M D mn) : wp_law_161 dA zz x0 ou Ln xs k23 S G L f k a4 := by
  obtain ⟨hc, hr, hk, hin, _⟩ := id H
  have hM := hr.2.2.2
  have h60 := hM.2.2.1.1
  have b600 : ∀ x, x < 8 → M 20 x ≤ 600 := fun x hx => (hM.2.2.2.2.2 x hx).1
  have i1 : vp_in (a4 + 1) Ln := hin 1 (by decide)
  have i2 : vp_in (a4 + 2) Ln := hin 2 (by decide)
  have i3 : vp_in (a4 + 3) Ln := hin 3 (by decide)
  have i4 : vp_in (a4 + 4) Ln := hin 4 (by decide)
  have i5 : vp_in (a4 + 5) Ln := hin 5 (by decide)
  have i6 : vp_in (a4 + 6) Ln := hin 6 (by decide)
  unfold wp_law_161
  refine ⟨hk, ⟨hc.O, k_ending hc hM (fun o L1 f1 c1 => rt_ending hr (fun _ S2 r2 => ⟨fun _ => l1406 H c1 r2, fun h => absurd rfl h⟩) (fun n => absurd o n)) (fun o L1 f1 c1 => rt_ending hr (fun o2 => absurd o2 o) (fun _ S2 r2 => ⟨fun _ => l1406 H c1 r2, fun h => absurd rfl h⟩))⟩⟩
theorem law_term (H : LH dA zz x0 ou Ln k23 S G L f k a4 M D mn) : wp_law_174 dA zz x0 ou Ln xs k23 S G L f k a4 := by
  obtain ⟨hc, hr, hk, hin, _⟩ := id H
  have hM := hr.2.2.2
  have h60 := hM.2.2.1.1
  have b600 : ∀ x, x < 8 → M 20 x ≤ 600 := fun x hx => (hM.2.2.2.2.2 x hx).1
  have i1 : vp_in (a4 + 1) Ln := hin 1 (by decide)
  have i2 : vp_in (a4 + 2) Ln := hin 2 (by decide)
  have i3 : vp_in (a4 + 3) Ln := hin 3 (by decide)
  have i4 : vp_in (a4 + 4) Ln := hin 4 (by decide)
  have i5 : vp_in (a4 + 5) Ln := hin 5 (by decide)
  have i6 : vp_in (a4 + 6) Ln := hin 6 (by decide)
  unfold wp_law_174 wp_L_term_0
  refine ⟨hk, arg i1 (arg i2 (arg i3 (⟨hc.O, k_term2 hc hM _ _ _ (fun th kd cl h1 h2 h3 ea eb ec ok L1 f1 cM cell => oJs cell (fun g hg => arg i1 (arg i2 (arg i3 (rt_term hr _ _ _ (fun th' k' cl' h1' h2' h3' ea' eb' ec' ok' M2 S2 ta r2 z2 => ?_) (fun o1' o2' o3' nok' S2 r2 z2 => absurd ok nok') (fun hno' S2 r2 z2 => absurd ⟨okE h1 ea (by decide), okE h2 eb (by decide), okE h3 ec (by decide)⟩ hno')))))) (fun q1 q2 q3 nok L1 f1 c1 => c1.wr (fun f2 c2 o2 => arg i1 (arg i2 (arg i3 (rt_term hr _ _ _ (fun th' k' cl' h1' h2' h3' ea' eb' ec' ok' M2 S2 ta r2 z2 => absurd ok' nok) (fun o1' o2' o3' nok' S2 r2 z2 => thr0 z2 o2 rfl (l1406 H c2 r2)) (fun hno' S2 r2 z2 => absurd ⟨q1, q2, q3⟩ hno')))))) (fun hno => exI (arg i1 (arg i2 (arg i3 (rt_term hr _ _ _ (fun th' k' cl' h1' h2' h3' ea' eb' ec' ok' M2 S2 ta r2 z2 => absurd ⟨okE h1' ea' (by decide), okE h2' eb' (by decide), okE h3' ec' (by decide)⟩ hno) (fun o1' o2' o3' nok' S2 r2 z2 => absurd ⟨o1', o2', o3'⟩ hno) (fun hno' S2 r2 z2 => thrN z2 (by decide) (l1406 H hc r2)))))))⟩)))⟩
  · obtain rfl := cU ea ea' (by omega) (by omega)
    obtain rfl := cU eb eb' (by omega) (by omega)
    obtain rfl := cU ec ec' (by omega) (by omega)
    exact thr0 z2 ⟨cell.1, g, va_up_s, hg⟩ rfl (l1406 H ((cM M2 ta).up g) r2)
theorem law_neighbour (H : LH dA zz x0 ou Ln k23 S G L f k a4 M D mn) : wp_law_254 dA zz x0 ou Ln xs k23 S G L f k a4 := by
  obtain ⟨hc, hr, hk, hin, _⟩ := id H
  have hM := hr.2.2.2
  have h60 := hM.2.2.1.1
  have b600 : ∀ x, x < 8 → M 20 x ≤ 600 := fun x hx => (hM.2.2.2.2.2 x hx).1
  have i1 : vp_in (a4 + 1) Ln := hin 1 (by decide)
  have i2 : vp_in (a4 + 2) Ln := hin 2 (by decide)
  have i3 : vp_in (a4 + 3) Ln := hin 3 (by decide)
  have i4 : vp_in (a4 + 4) Ln := hin 4 (by decide)
  have i5 : vp_in (a4 + 5) Ln := hin 5 (by decide)
  have i6 : vp_in (a4 + 6) Ln := hin 6 (by decide)
  unfold wp_law_254 wp_L_neighbour_0
  refine ⟨hk, arg i1 (⟨hc.O, k_neighbour hc hM _ (fun g hg ea ok L1 f1 c1 => c1.wr (fun f2 c2 o2 => arg i1 (rt_neighbour hr _ (fun g' hg' ea' ok' S2 r2 z2 => ?_) (fun g' hg' ea' nok' S2 r2 z2 => ?_) (fun hno' S2 r2 z2 => ?_)))) (fun g hg ea nok L1 f1 c1 => c1.wr (fun f2 c2 o2 => arg i1 (rt_neighbour hr _ (fun g' hg' ea' ok' S2 r2 z2 => ?_) (fun g' hg' ea' nok' S2 r2 z2 => ?_) (fun hno' S2 r2 z2 => ?_)))) (fun hno => exI (arg i1 (rt_neighbour hr _ (fun g' hg' ea' ok' S2 r2 z2 => ?_) (fun g' hg' ea' nok' S2 r2 z2 => ?_) (fun hno' S2 r2 z2 => ?_))))⟩)⟩
  · obtain rfl := cU ea ea' (by omega) (by omega)
    exact thr0 z2 o2 rfl (l1406 H c2 r2)
  · obtain rfl := cU ea ea' (by omega) (by omega)
    exact absurd ok nok'
  · exact absurd (okE hg ea (by decide)) hno'
  · obtain rfl := cU ea ea' (by omega) (by omega)
    exact absurd ok' nok
  · obtain rfl := cU ea ea' (by omega) (by omega)
    exact thr0 z2 o2 rfl (l1406 H c2 r2)
  · exact absurd (okE hg ea (by decide)) hno'
  · exact absurd (okE hg' ea' (by decide)) hno
  · exact absurd (okE hg' ea' (by decide)) hno
  · exact thrN z2 (by decide) (l1406 H hc r2)
theorem law_define (H : LH dA zz x0 ou Ln k23 S G L f k a4 M D mn) : wp_law_310 dA zz x0 ou Ln xs k23 S G L f k a4 := by
  obtain ⟨hc, hr, hk, hin, _⟩ := id H
  have hM := hr.2.2.2
  have h60 := hM.2.2.1.1
  have b600 : ∀ x, x < 8 → M 20 x ≤ 600 := fun x hx => (hM.2.2.2.2.2 x hx).1
  have i1 : vp_in (a4 + 1) Ln := hin 1 (by decide)
  have i2 : vp_in (a4 + 2) Ln := hin 2 (by decide)
  have i3 : vp_in (a4 + 3) Ln := hin 3 (by decide)
  have i4 : vp_in (a4 + 4) Ln := hin 4 (by decide)
  have i5 : vp_in (a4 + 5) Ln := hin 5 (by decide)
  have i6 : vp_in (a4 + 6) Ln := hin 6 (by decide)
  unfold wp_law_310 wp_L_define_0
  refine ⟨hk, arg i1 (arg i2 (arg i3 (⟨hc.O, k_define hc _ _ (fun t ht ea ox L1 f1 c1 => c1.wr (fun f2 c2 o2 => arg i1 (arg i2 (arg i3 (rt_define hr _ _ (fun t' ht' ea' ox' S2 G2 r2 z2 => ?_) (fun hno' S2 r2 z2 => ?_)))))) (fun hno => exI (arg i1 (arg i2 (arg i3 (rt_define hr _ _ (fun t' ht' ea' ox' S2 G2 r2 z2 => ?_) (fun hno' S2 r2 z2 => ?_))))))⟩)))⟩
  · obtain rfl := cU ea ea' (by omega) (by omega)
    exact thr0 z2 o2 rfl (l1406 H c2 r2)
  · exact absurd ⟨okE ht ea (by decide), ox⟩ hno'
  · exact absurd ⟨okE ht' ea' (by decide), ox'⟩ hno
  · exact thrN z2 (by decide) (l1406 H hc r2)
theorem law_kind (H : LH dA zz x0 ou Ln k23 S G L f k a4 M D mn) : wp_law_500 dA zz x0 ou Ln xs k23 S G L f k a4 := by
  obtain ⟨hc, hr, hk, hin, _⟩ := id H
  have hM := hr.2.2.2
  have h60 := hM.2.2.1.1
  have b600 : ∀ x, x < 8 → M 20 x ≤ 600 := fun x hx => (hM.2.2.2.2.2 x hx).1
  have i1 : vp_in (a4 + 1) Ln := hin 1 (by decide)
  have i2 : vp_in (a4 + 2) Ln := hin 2 (by decide)
  have i3 : vp_in (a4 + 3) Ln := hin 3 (by decide)
  have i4 : vp_in (a4 + 4) Ln := hin 4 (by decide)
  have i5 : vp_in (a4 + 5) Ln := hin 5 (by decide)
  have i6 : vp_in (a4 + 6) Ln := hin 6 (by decide)
  unfold wp_law_500 wp_L_kind_0
  refine ⟨hk, arg i1 (arg i2 (⟨hc.O, k_kind hc hM _ _ (fun t kd ht hkd ea eb L1 f1 c1 => c1.wr (fun f2 c2 o2 => arg i1 (arg i2 (rt_kind hr _ _ (fun t' kd' ht' hkd' ea' eb' S2 r2 z2 => ?_) (fun hno' S2 r2 z2 => ?_) (fun ok' hno' S2 r2 z2 => ?_))))) (fun hno => exN (arg i1 (arg i2 (rt_kind hr _ _ (fun t' kd' ht' hkd' ea' eb' S2 r2 z2 => ?_) (fun hno' S2 r2 z2 => ?_) (fun ok' hno' S2 r2 z2 => ?_))))) (fun ok hno => exI (arg i1 (arg i2 (rt_kind hr _ _ (fun t' kd' ht' hkd' ea' eb' S2 r2 z2 => ?_) (fun hno' S2 r2 z2 => ?_) (fun ok' hno' S2 r2 z2 => ?_)))))⟩))⟩
  · obtain rfl := cU ea ea' (by omega) (by omega)
    obtain rfl := cU eb eb' (by omega) (by omega)
    exact thr0 z2 o2 rfl (l1406 H c2 r2)
  · exact absurd (okE ht ea (by omega)) hno'
  · exact absurd (okE hkd eb (by decide)) hno'
  · exact absurd (okE ht' ea' (by omega)) hno
  · exact thrN z2 (by decide) (l1406 H hc r2)
  · exact absurd ok' hno
  · exact absurd (okE hkd' eb' (by decide)) hno
  · exact absurd ok hno'
  · exact thrN z2 (by decide) (l1406 H hc r2)
theorem law_about (H : LH dA zz x0 ou Ln k23 S G L f k a4 M D mn) : wp_law_568 dA zz x0 ou Ln xs k23 S G L f k a4 := by
  obtain ⟨hc, hr, hk, hin, _⟩ := id H
  have hM := hr.2.2.2
  have h60 := hM.2.2.1.1
  have b600 : ∀ x, x < 8 → M 20 x ≤ 600 := fun x hx => (hM.2.2.2.2.2 x hx).1
  have i1 : vp_in (a4 + 1) Ln := hin 1 (by decide)
  have i2 : vp_in (a4 + 2) Ln := hin 2 (by decide)
  have i3 : vp_in (a4 + 3) Ln := hin 3 (by decide)
  have i4 : vp_in (a4 + 4) Ln := hin 4 (by decide)
  have i5 : vp_in (a4 + 5) Ln := hin 5 (by decide)
  have i6 : vp_in (a4 + 6) Ln := hin 6 (by decide)
  unfold wp_law_568 wp_L_about_0
  refine ⟨hk, arg i1 (arg i2 (⟨hc.O, k_about hc hM _ _ (fun t kd ht hkd ea eb => hc.wr (fun f2 c2 o2 => arg i1 (arg i2 (rt_about hr _ _ (fun t' kd' ht' hkd' ea' eb' S2 r2 z2 => ?_) (fun hno' S2 r2 z2 => ?_))))) (fun hno => exN (arg i1 (arg i2 (rt_about hr _ _ (fun t' kd' ht' hkd' ea' eb' S2 r2 z2 => ?_) (fun hno' S2 r2 z2 => ?_)))))⟩))⟩
  · obtain rfl := cU ea ea' (by omega) (by omega)
    obtain rfl := cU eb eb' (by omega) (by omega)
    exact thr0 z2 o2 rfl (l1406 H c2 r2)
  · exact absurd ⟨okE ht ea (by omega), okE hkd eb (by decide)⟩ hno'
  · exact absurd ⟨okE ht' ea' (by omega), okE hkd' eb' (by decide)⟩ hno
  · exact thrN z2 (by decide) (l1406 H hc r2)
theorem law_write (H : LH dA zz x0 ou Ln k23 S G L f k a4 M D mn) : wp_law_636 dA zz x0 ou Ln xs k23 S G L f k a4 := by
  obtain ⟨hc, hr, hk, hin, _⟩ := id H
  have hM := hr.2.2.2
  have h60 := hM.2.2.1.1
  have b600 : ∀ x, x < 8 → M 20 x ≤ 600 := fun x hx => (hM.2.2.2.2.2 x hx).1
  have i1 : vp_in (a4 + 1) Ln := hin 1 (by decide)
  have i2 : vp_in (a4 + 2) Ln := hin 2 (by decide)
  have i3 : vp_in (a4 + 3) Ln := hin 3 (by decide)
  have i4 : vp_in (a4 + 4) Ln := hin 4 (by decide)
  have i5 : vp_in (a4 + 5) Ln := hin 5 (by decide)
  have i6 : vp_in (a4 + 6) Ln := hin 6 (by decide)
  unfold wp_law_636 wp_L_write_0
  refine ⟨hk, arg i1 (arg i2 (arg i3 (arg i4 (arg i5 (arg i6 (⟨hc.O, k_write hc hM _ _ _ _ _ _ (fun x hx ea hle L1 f1 c1 => c1.wr (fun f2 c2 o2 => arg i1 (arg i2 (arg i3 (arg i4 (arg i5 (arg i6 (rt_write hr _ _ _ _ _ _ (fun x' hx' ea' hle' S2 r2 z2 => ?_) (fun x' hx' ea' hle' S2 r2 z2 => ?_) (fun hno' S2 r2 z2 => ?_))))))))) (fun x hx ea hle => hc.wr (fun f2 c2 o2 => arg i1 (arg i2 (arg i3 (arg i4 (arg i5 (arg i6 (rt_write hr _ _ _ _ _ _ (fun x' hx' ea' hle' S2 r2 z2 => ?_) (fun x' hx' ea' hle' S2 r2 z2 => ?_) (fun hno' S2 r2 z2 => ?_))))))))) (fun hno => exI (arg i1 (arg i2 (arg i3 (arg i4 (arg i5 (arg i6 (rt_write hr _ _ _ _ _ _ (fun x' hx' ea' hle' S2 r2 z2 => ?_) (fun x' hx' ea' hle' S2 r2 z2 => ?_) (fun hno' S2 r2 z2 => ?_)))))))))⟩))))))⟩
  · obtain rfl := cU ea ea' (by omega) (by omega)
    exact thr0 z2 o2 rfl (l1406 H c2 r2)
  · obtain rfl := cU ea ea' (by omega) (by omega)
    exact absurd hle hle'
  · exact absurd (okE hx ea (by decide)) hno'
  · obtain rfl := cU ea ea' (by omega) (by omega)
    exact absurd hle' hle
  · obtain rfl := cU ea ea' (by omega) (by omega)
    exact thr0 z2 o2 rfl (l1406 H c2 r2)
  · exact absurd (okE hx ea (by decide)) hno'
  · exact absurd (okE hx' ea' (by decide)) hno
  · exact absurd (okE hx' ea' (by decide)) hno
  · exact thrN z2 (by decide) (l1406 H hc r2)
theorem law_cut (H : LH dA zz x0 ou Ln k23 S G L f k a4 M D mn) : wp_law_754 dA zz x0 ou Ln xs k23 S G L f k a4 := by
  obtain ⟨hc, hr, hk, hin, _⟩ := id H
  have hM := hr.2.2.2
  have h60 := hM.2.2.1.1
  have b600 : ∀ x, x < 8 → M 20 x ≤ 600 := fun x hx => (hM.2.2.2.2.2 x hx).1
  have i1 : vp_in (a4 + 1) Ln := hin 1 (by decide)
  have i2 : vp_in (a4 + 2) Ln := hin 2 (by decide)
  have i3 : vp_in (a4 + 3) Ln := hin 3 (by decide)
  have i4 : vp_in (a4 + 4) Ln := hin 4 (by decide)
  have i5 : vp_in (a4 + 5) Ln := hin 5 (by decide)
  have i6 : vp_in (a4 + 6) Ln := hin 6 (by decide)
  unfold wp_law_754 wp_L_cut_0
  refine ⟨hk, arg i1 (arg i2 (⟨hc.O, k_cut hc hM _ _ (fun x n hx hn ea eb L1 f1 c1 => c1.wr (fun f2 c2 o2 => arg i1 (arg i2 (rt_cut hr _ _ (fun x' n' hx' hn' ea' eb' S2 r2 z2 => ?_) (fun x' hx' ea' hno' S2 r2 z2 => ?_) (fun hno' S2 r2 z2 => ?_))))) (fun x hx ea hno => hc.wr (fun f2 c2 o2 => arg i1 (arg i2 (rt_cut hr _ _ (fun x' n' hx' hn' ea' eb' S2 r2 z2 => ?_) (fun x' hx' ea' hno' S2 r2 z2 => ?_) (fun hno' S2 r2 z2 => ?_))))) (fun hno => exI (arg i1 (arg i2 (rt_cut hr _ _ (fun x' n' hx' hn' ea' eb' S2 r2 z2 => ?_) (fun x' hx' ea' hno' S2 r2 z2 => ?_) (fun hno' S2 r2 z2 => ?_)))))⟩))⟩
  · have q1 := b600 x hx
    have q2 := b600 x' hx'
    obtain rfl := cU ea ea' (by omega) (by omega)
    obtain rfl := cU eb eb' (by omega) (by omega)
    exact thr0 z2 o2 rfl (l1406 H c2 r2)
  · have q1 := b600 x hx
    have q2 := b600 x' hx'
    obtain rfl := cU ea ea' (by omega) (by omega)
    exact absurd ⟨by rw [eb]; exact n_lt0 (by omega), by rw [eb]; exact (n_le (by omega) (by omega)).mpr hn⟩ hno'
  · exact absurd (okE hx ea (by decide)) hno'
  · have q1 := b600 x hx
    have q2 := b600 x' hx'
    obtain rfl := cU ea ea' (by omega) (by omega)
    exact absurd ⟨by rw [eb']; exact n_lt0 (by omega), by rw [eb']; exact (n_le (by omega) (by omega)).mpr hn'⟩ hno
  · obtain rfl := cU ea ea' (by omega) (by omega)
    exact thr0 z2 o2 rfl (l1406 H c2 r2)
  · exact absurd (okE hx ea (by decide)) hno'
  · exact absurd (okE hx' ea' (by decide)) hno
  · exact absurd (okE hx' ea' (by decide)) hno
  · exact thrN z2 (by decide) (l1406 H hc r2)
theorem law_byteAt (H : LH dA zz x0 ou Ln k23 S G L f k a4 M D mn) : wp_law_822 dA zz x0 ou Ln xs k23 S G L f k a4 := by
  obtain ⟨hc, hr, hk, hin, _⟩ := id H
  have hM := hr.2.2.2
  have h60 := hM.2.2.1.1
  have b600 : ∀ x, x < 8 → M 20 x ≤ 600 := fun x hx => (hM.2.2.2.2.2 x hx).1
  have i1 : vp_in (a4 + 1) Ln := hin 1 (by decide)
  have i2 : vp_in (a4 + 2) Ln := hin 2 (by decide)
  have i3 : vp_in (a4 + 3) Ln := hin 3 (by decide)
  have i4 : vp_in (a4 + 4) Ln := hin 4 (by decide)
  have i5 : vp_in (a4 + 5) Ln := hin 5 (by decide)
  have i6 : vp_in (a4 + 6) Ln := hin 6 (by decide)
  unfold wp_law_822 wp_L_byteAt_0
  refine ⟨hk, arg i1 (arg i2 (⟨hc.O, k_byteAt hc hM _ _ (fun x hx ea e1 => hc.wr (fun f2 c2 o2 => arg i1 (arg i2 (rt_byteAt hr _ _ (fun x' hx' ea' e1' S2 r2 z2 => ?_) (fun x' j' hx' hj' ea' eb' S2 r2 z2 => ?_) (fun x' hx' ea' n1' hno' S2 r2 z2 => ?_) (fun hno' S2 r2 z2 => ?_))))) (fun x j hx hj ea eb => hc.wr (fun f2 c2 o2 => arg i1 (arg i2 (rt_byteAt hr _ _ (fun x' hx' ea' e1' S2 r2 z2 => ?_) (fun x' j' hx' hj' ea' eb' S2 r2 z2 => ?_) (fun x' hx' ea' n1' hno' S2 r2 z2 => ?_) (fun hno' S2 r2 z2 => ?_))))) (fun x hx ea n1 hno => exN (arg i1 (arg i2 (rt_byteAt hr _ _ (fun x' hx' ea' e1' S2 r2 z2 => ?_) (fun x' j' hx' hj' ea' eb' S2 r2 z2 => ?_) (fun x' hx' ea' n1' hno' S2 r2 z2 => ?_) (fun hno' S2 r2 z2 => ?_))))) (fun hno => exI (arg i1 (arg i2 (rt_byteAt hr _ _ (fun x' hx' ea' e1' S2 r2 z2 => ?_) (fun x' j' hx' hj' ea' eb' S2 r2 z2 => ?_) (fun x' hx' ea' n1' hno' S2 r2 z2 => ?_) (fun hno' S2 r2 z2 => ?_)))))⟩))⟩
  · obtain rfl := cU ea ea' (by omega) (by omega)
    exact thr0 z2 o2 rfl (l1406 H c2 r2)
  · have q2 := b600 x' hx'
    exact absurd (eb'.symm.trans e1) (n_m1 (by omega))
  · exact absurd e1 n1'
  · exact absurd (okE hx ea (by decide)) hno'
  · have q1 := b600 x hx
    exact absurd (eb.symm.trans e1') (n_m1 (by omega))
  · have q1 := b600 x hx
    have q2 := b600 x' hx'
    obtain rfl := cU ea ea' (by omega) (by omega)
    obtain rfl := cU eb eb' (by omega) (by omega)
    exact thr0 z2 o2 rfl (l1406 H c2 r2)
  · have q1 := b600 x hx
    have q2 := b600 x' hx'
    obtain rfl := cU ea ea' (by omega) (by omega)
    exact absurd (okE hj eb (by omega)) hno'
  · exact absurd (okE hx ea (by decide)) hno'
  · exact absurd e1' n1
  · have q1 := b600 x hx
    have q2 := b600 x' hx'
    obtain rfl := cU ea ea' (by omega) (by omega)
    exact absurd (okE hj' eb' (by omega)) hno
  · exact thrN z2 (by decide) (l1406 H hc r2)
  · exact absurd (okE hx ea (by decide)) hno'
  · exact absurd (okE hx' ea' (by decide)) hno
  · exact absurd (okE hx' ea' (by decide)) hno
  · exact absurd (okE hx' ea' (by decide)) hno
  · exact thrN z2 (by decide) (l1406 H hc r2)
theorem law_uses (H : LH dA zz x0 ou Ln k23 S G L f k a4 M D mn) : wp_law_890 dA zz x0 ou Ln xs k23 S G L f k a4 := by
  obtain ⟨hc, hr, hk, hin, _⟩ := id H
  have hM := hr.2.2.2
  have h60 := hM.2.2.1.1
  have b600 : ∀ x, x < 8 → M 20 x ≤ 600 := fun x hx => (hM.2.2.2.2.2 x hx).1
  have i1 : vp_in (a4 + 1) Ln := hin 1 (by decide)
  have i2 : vp_in (a4 + 2) Ln := hin 2 (by decide)
  have i3 : vp_in (a4 + 3) Ln := hin 3 (by decide)
  have i4 : vp_in (a4 + 4) Ln := hin 4 (by decide)
  have i5 : vp_in (a4 + 5) Ln := hin 5 (by decide)
  have i6 : vp_in (a4 + 6) Ln := hin 6 (by decide)
  unfold wp_law_890 wp_L_uses_0
  refine ⟨hk, arg i1 (⟨hc.O, k_uses hc hM _ (fun x hx ea L1 f1 c1 => c1.wr (fun f2 c2 o2 => arg i1 (rt_uses hr _ (fun x' hx' ea' S2 r2 z2 => ?_) (fun hno' S2 r2 z2 => ?_)))) (fun hno => exI (arg i1 (rt_uses hr _ (fun x' hx' ea' S2 r2 z2 => ?_) (fun hno' S2 r2 z2 => ?_))))⟩)⟩
  · obtain rfl := cU ea ea' (by omega) (by omega)
    exact thr0 z2 o2 rfl (l1406 H c2 r2)
  · exact absurd (okE hx ea (by decide)) hno'
  · exact absurd (okE hx' ea' (by decide)) hno
  · exact thrN z2 (by decide) (l1406 H hc r2)
theorem law_use (H : LH dA zz x0 ou Ln k23 S G L f k a4 M D mn) : wp_law_946 dA zz x0 ou Ln xs k23 S G L f k a4 := by
  obtain ⟨hc, hr, hk, hin, _⟩ := id H
  have hM := hr.2.2.2
  have h60 := hM.2.2.1.1
  have b600 : ∀ x, x < 8 → M 20 x ≤ 600 := fun x hx => (hM.2.2.2.2.2 x hx).1
  have i1 : vp_in (a4 + 1) Ln := hin 1 (by decide)
  have i2 : vp_in (a4 + 2) Ln := hin 2 (by decide)
  have i3 : vp_in (a4 + 3) Ln := hin 3 (by decide)
  have i4 : vp_in (a4 + 4) Ln := hin 4 (by decide)
  have i5 : vp_in (a4 + 5) Ln := hin 5 (by decide)
  have i6 : vp_in (a4 + 6) Ln := hin 6 (by decide)
  unfold wp_law_946 wp_L_use_0
  refine ⟨hk, arg i1 (arg i2 (arg i3 (⟨hc.O, k_use hc hM _ _ _ (fun x i j hx hi hj ea eb ec L1 f1 c1 => c1.wr (fun f2 c2 o2 => arg i1 (arg i2 (arg i3 (rt_use hr _ _ _ (fun x' i' j' hx' hi' hj' ea' eb' ec' S2 r2 z2 => ?_) (fun x' hx' ea' hno' S2 r2 z2 => ?_) (fun hno' S2 r2 z2 => ?_)))))) (fun x hx ea hno L1 f1 c1 => exN (arg i1 (arg i2 (arg i3 (rt_use hr _ _ _ (fun x' i' j' hx' hi' hj' ea' eb' ec' S2 r2 z2 => ?_) (fun x' hx' ea' hno' S2 r2 z2 => ?_) (fun hno' S2 r2 z2 => ?_)))))) (fun hno => exI (arg i1 (arg i2 (arg i3 (rt_use hr _ _ _ (fun x' i' j' hx' hi' hj' ea' eb' ec' S2 r2 z2 => ?_) (fun x' hx' ea' hno' S2 r2 z2 => ?_) (fun hno' S2 r2 z2 => ?_))))))⟩)))⟩
  · have q1 := uN_le hM hx
    have q2 := uN_le hM hx'
    obtain rfl := cU ea ea' (by omega) (by omega)
    obtain rfl := cU eb eb' (by omega) (by omega)
    obtain rfl := cU ec ec' (by omega) (by omega)
    exact thr0 z2 o2 rfl (l1406 H c2 r2)
  · have q1 := uN_le hM hx
    have q2 := uN_le hM hx'
    obtain rfl := cU ea ea' (by omega) (by omega)
    exact absurd ⟨okE hi eb (by omega), okE hj ec (by decide)⟩ hno'
  · exact absurd (okE hx ea (by decide)) hno'
  · have q1 := uN_le hM hx
    have q2 := uN_le hM hx'
    obtain rfl := cU ea ea' (by omega) (by omega)
    exact absurd ⟨okE hi' eb' (by omega), okE hj' ec' (by decide)⟩ hno
  · exact thrN z2 (by decide) (l1406 H c1 r2)
  · exact absurd (okE hx ea (by decide)) hno'
  · exact absurd (okE hx' ea' (by decide)) hno
  · exact absurd (okE hx' ea' (by decide)) hno
  · exact thrN z2 (by decide) (l1406 H hc r2)
theorem law_mendAll (H : LH dA zz x0 ou Ln k23 S G L f k a4 M D mn) : wp_law_1101 dA zz x0 ou Ln xs k23 S G L f k a4 := by
  obtain ⟨hc, hr, hk, hin, _⟩ := id H
  have hM := hr.2.2.2
  have h60 := hM.2.2.1.1
  have b600 : ∀ x, x < 8 → M 20 x ≤ 600 := fun x hx => (hM.2.2.2.2.2 x hx).1
  have i1 : vp_in (a4 + 1) Ln := hin 1 (by decide)
  have i2 : vp_in (a4 + 2) Ln := hin 2 (by decide)
  have i3 : vp_in (a4 + 3) Ln := hin 3 (by decide)
  have i4 : vp_in (a4 + 4) Ln := hin 4 (by decide)
  have i5 : vp_in (a4 + 5) Ln := hin 5 (by decide)
  have i6 : vp_in (a4 + 6) Ln := hin 6 (by decide)
  unfold wp_law_1101 wp_L_mendAll_0
  refine ⟨hk, arg i1 (⟨hc.O, k_mendAll hc hM _ (fun x hx ea L1 f1 c1 => c1.wr (fun f2 c2 o2 => arg i1 (rt_mendAll hr _ (fun x' hx' ea' S2 r2 z2 => ?_) (fun hno' S2 r2 z2 => ?_)))) (fun hno => exI (arg i1 (rt_mendAll hr _ (fun x' hx' ea' S2 r2 z2 => ?_) (fun hno' S2 r2 z2 => ?_))))⟩)⟩
  · obtain rfl := cU ea ea' (by omega) (by omega)
    exact thr0 z2 o2 rfl (l1406 H c2 r2)
  · exact absurd (okE hx ea (by decide)) hno'
  · exact absurd (okE hx' ea' (by decide)) hno
  · exact thrN z2 (by decide) (l1406 H hc r2)
theorem law_count (H : LH dA zz x0 ou Ln k23 S G L f k a4 M D mn) : wp_law_1157 dA zz x0 ou Ln xs k23 S G L f k a4 := by
  obtain ⟨hc, hr, hk, hin, _⟩ := id H
  have hM := hr.2.2.2
  have h60 := hM.2.2.1.1
  have b600 : ∀ x, x < 8 → M 20 x ≤ 600 := fun x hx => (hM.2.2.2.2.2 x hx).1
  have i1 : vp_in (a4 + 1) Ln := hin 1 (by decide)
  have i2 : vp_in (a4 + 2) Ln := hin 2 (by decide)
  have i3 : vp_in (a4 + 3) Ln := hin 3 (by decide)
  have i4 : vp_in (a4 + 4) Ln := hin 4 (by decide)
  have i5 : vp_in (a4 + 5) Ln := hin 5 (by decide)
  have i6 : vp_in (a4 + 6) Ln := hin 6 (by decide)
  unfold wp_law_1157 wp_L_count_0
  refine ⟨hk, arg i1 (⟨hc.O, k_count hc hM _ (fun t ht ea L1 f1 c1 => c1.wr (fun f2 c2 o2 => arg i1 (rt_count hr _ (fun t' ht' ea' S2 r2 z2 => ?_) (fun hno' S2 r2 z2 => ?_)))) (fun hno => exN (arg i1 (rt_count hr _ (fun t' ht' ea' S2 r2 z2 => ?_) (fun hno' S2 r2 z2 => ?_))))⟩)⟩
  · obtain rfl := cU ea ea' (by omega) (by omega)
    exact thr0 z2 o2 rfl (l1406 H c2 r2)
  · exact absurd (okE ht ea (by omega)) hno'
  · exact absurd (okE ht' ea' (by omega)) hno
  · exact thrN z2 (by decide) (l1406 H hc r2)
theorem law_ring (H : LH dA zz x0 ou Ln k23 S G L f k a4 M D mn) : wp_law_1213 dA zz x0 ou Ln xs k23 S G L f k a4 := by
  obtain ⟨hc, hr, hk, hin, _⟩ := id H
  have hM := hr.2.2.2
  have h60 := hM.2.2.1.1
  have b600 : ∀ x, x < 8 → M 20 x ≤ 600 := fun x hx => (hM.2.2.2.2.2 x hx).1
  have i1 : vp_in (a4 + 1) Ln := hin 1 (by decide)
  have i2 : vp_in (a4 + 2) Ln := hin 2 (by decide)
  have i3 : vp_in (a4 + 3) Ln := hin 3 (by decide)
  have i4 : vp_in (a4 + 4) Ln := hin 4 (by decide)
  have i5 : vp_in (a4 + 5) Ln := hin 5 (by decide)
  have i6 : vp_in (a4 + 6) Ln := hin 6 (by decide)
  unfold wp_law_1213 wp_L_ring_0
  refine ⟨hk, arg i1 (⟨hc.O, k_ring hc hM _ (fun ok L1 f1 c1 => c1.wr (fun f2 c2 o2 => arg i1 (rt_ring hr _ (fun ok' S2 G2 r2 z2 => ?_) (fun nok' S2 G2 r2 z2 => ?_)))) (fun nok L1 f1 c1 => exN (arg i1 (rt_ring hr _ (fun ok' S2 G2 r2 z2 => ?_) (fun nok' S2 G2 r2 z2 => ?_))))⟩)⟩
  · exact thr0 z2 o2 rfl (l1406 H c2 r2)
  · exact absurd ok nok'
  · exact absurd ok' nok
  · exact thrN z2 (by decide) (l1406 H c1 r2)
theorem law_fewest (H : LH dA zz x0 ou Ln k23 S G L f k a4 M D mn) : wp_law_1269 dA zz x0 ou Ln xs k23 S G L f k a4 := by
  obtain ⟨hc, hr, hk, hin, _⟩ := id H
  have hM := hr.2.2.2
  have h60 := hM.2.2.1.1
  have b600 : ∀ x, x < 8 → M 20 x ≤ 600 := fun x hx => (hM.2.2.2.2.2 x hx).1
  have i1 : vp_in (a4 + 1) Ln := hin 1 (by decide)
  have i2 : vp_in (a4 + 2) Ln := hin 2 (by decide)
  have i3 : vp_in (a4 + 3) Ln := hin 3 (by decide)
  have i4 : vp_in (a4 + 4) Ln := hin 4 (by decide)
  have i5 : vp_in (a4 + 5) Ln := hin 5 (by decide)
  have i6 : vp_in (a4 + 6) Ln := hin 6 (by decide)
  unfold wp_law_1269
  refine ⟨hk, ⟨hc.O, k_fewest hc hM (fun L1 f1 c1 => rt_fewest hr (fun S2 r2 => ⟨fun _ => l1406 H c1 r2, fun h => absurd (lc_0.mpr rfl) h⟩))⟩⟩
theorem law_crossing (H : LH dA zz x0 ou Ln k23 S G L f k a4 M D mn) : wp_law_1283 dA zz x0 ou Ln xs k23 S G L f k a4 := by
  obtain ⟨hc, hr, hk, hin, _⟩ := id H
  have hM := hr.2.2.2
  have h60 := hM.2.2.1.1
  have b600 : ∀ x, x < 8 → M 20 x ≤ 600 := fun x hx => (hM.2.2.2.2.2 x hx).1
  have i1 : vp_in (a4 + 1) Ln := hin 1 (by decide)
  have i2 : vp_in (a4 + 2) Ln := hin 2 (by decide)
  have i3 : vp_in (a4 + 3) Ln := hin 3 (by decide)
  have i4 : vp_in (a4 + 4) Ln := hin 4 (by decide)
  have i5 : vp_in (a4 + 5) Ln := hin 5 (by decide)
  have i6 : vp_in (a4 + 6) Ln := hin 6 (by decide)
  unfold wp_law_1283 wp_L_crossing_0
  refine ⟨hk, arg i1 (arg i2 (⟨hc.O, k_crossing hc hM _ _ (fun x y hx hy ea eb z hz L1 f1 c1 => c1.wr (fun f2 c2 o2 => arg i1 (arg i2 (rt_crossing hr _ _ (fun x' y' hx' hy' ea' eb' z' hz' S2 G2 r2 z2 => ?_) (fun hno' S2 r2 z2 => ?_))))) (fun hno => exI (arg i1 (arg i2 (rt_crossing hr _ _ (fun x' y' hx' hy' ea' eb' z' hz' S2 G2 r2 z2 => ?_) (fun hno' S2 r2 z2 => ?_)))))⟩))⟩
  · obtain rfl := cU ea ea' (by omega) (by omega)
    obtain rfl := cU eb eb' (by omega) (by omega)
    exact thr0 z2 o2 (tb_ext (fun g _ => by rw [Bool.eq_iff_iff, hz g, hz' g])) (l1406 H c2 r2)
  · exact absurd ⟨okE hx ea (by decide), okE hy eb (by decide)⟩ hno'
  · exact absurd ⟨okE hx' ea' (by decide), okE hy' eb' (by decide)⟩ hno
  · exact thrN z2 (by decide) (l1406 H hc r2)
theorem law_total (H : LH dA zz x0 ou Ln k23 S G L f k a4 M D mn) : wp_law_1350 dA zz x0 ou Ln xs k23 S G L f k a4 := by
  obtain ⟨hc, hr, hk, hin, _⟩ := id H
  have hM := hr.2.2.2
  have h60 := hM.2.2.1.1
  have b600 : ∀ x, x < 8 → M 20 x ≤ 600 := fun x hx => (hM.2.2.2.2.2 x hx).1
  have i1 : vp_in (a4 + 1) Ln := hin 1 (by decide)
  have i2 : vp_in (a4 + 2) Ln := hin 2 (by decide)
  have i3 : vp_in (a4 + 3) Ln := hin 3 (by decide)
  have i4 : vp_in (a4 + 4) Ln := hin 4 (by decide)
  have i5 : vp_in (a4 + 5) Ln := hin 5 (by decide)
  have i6 : vp_in (a4 + 6) Ln := hin 6 (by decide)
  unfold wp_law_1350 wp_L_total_0
  refine ⟨hk, arg i1 (⟨hc.O, k_total hc hM _ (fun j hj ea => hc.wr (fun f2 c2 o2 => arg i1 (rt_total hr _ (fun j' hj' ea' S2 r2 z2 => ?_) (fun hno' S2 r2 z2 => ?_)))) (fun hno => exN (arg i1 (rt_total hr _ (fun j' hj' ea' S2 r2 z2 => ?_) (fun hno' S2 r2 z2 => ?_))))⟩)⟩
  · obtain rfl := cU ea ea' (by omega) (by omega)
    exact thr0 z2 o2 rfl (l1406 H c2 r2)
  · exact absurd (okE hj ea (by decide)) hno'
  · exact absurd (okE hj' ea' (by decide)) hno
  · exact thrN z2 (by decide) (l1406 H hc r2)
theorem law_know (H : LH dA zz x0 ou Ln k23 S G L f k a4 M D mn) : wp_law_409 dA zz x0 ou Ln xs k23 S G L f k a4 := by
  obtain ⟨hc, hr, hk, hin, _⟩ := id H
  have hM := hr.2.2.2
  have h60 := hM.2.2.1.1
  have b600 : ∀ x, x < 8 → M 20 x ≤ 600 := fun x hx => (hM.2.2.2.2.2 x hx).1
  have i1 : vp_in (a4 + 1) Ln := hin 1 (by decide)
  have i2 : vp_in (a4 + 2) Ln := hin 2 (by decide)
  have i3 : vp_in (a4 + 3) Ln := hin 3 (by decide)
  have i4 : vp_in (a4 + 4) Ln := hin 4 (by decide)
  have i5 : vp_in (a4 + 5) Ln := hin 5 (by decide)
  have i6 : vp_in (a4 + 6) Ln := hin 6 (by decide)
  unfold wp_law_409 wp_L_know_0 wp_L_know_16
  refine ⟨hk, arg i1 (arg i2 ⟨fun e0 => ⟨hc.O, k_know hc hM (b := 0) _ (by decide) (fun t ht ea L1 f1 c1 => ⟨fun w0 => c1.wr (fun f2 c2 o2 => arg i1 (arg i2 ⟨fun _ => rt_know hr (b := 0) _ (by decide) (fun t' ht' ea' S2 r2 z2 => ?_) (fun hno' S2 r2 z2 => absurd (okE ht ea (by decide)) hno'), fun n0 => absurd e0 n0⟩)), fun w0 => c1.wr (fun f2 c2 o2 => arg i1 (arg i2 ⟨fun _ => rt_know hr (b := 0) _ (by decide) (fun t' ht' ea' S2 r2 z2 => ?_) (fun hno' S2 r2 z2 => absurd (okE ht ea (by decide)) hno'), fun n0 => absurd e0 n0⟩))⟩) (fun hno => exI (arg i1 (arg i2 ⟨fun _ => rt_know hr (b := 0) _ (by decide) (fun t' ht' ea' S2 r2 z2 => absurd (okE ht' ea' (by decide)) hno) (fun hno' S2 r2 z2 => thrN z2 (by decide) (l1406 H hc r2)), fun n0 => absurd e0 n0⟩)))⟩, fun e0 => ⟨hc.O, k_know hc hM (b := 1) _ (by decide) (fun t ht ea L1 f1 c1 => ⟨fun w0 => c1.wr (fun f2 c2 o2 => arg i1 (arg i2 ⟨fun n0 => absurd n0 e0, fun _ => rt_know hr (b := 1) _ (by decide) (fun t' ht' ea' S2 r2 z2 => ?_) (fun hno' S2 r2 z2 => absurd (okE ht ea (by decide)) hno')⟩)), fun w0 => c1.wr (fun f2 c2 o2 => arg i1 (arg i2 ⟨fun n0 => absurd n0 e0, fun _ => rt_know hr (b := 1) _ (by decide) (fun t' ht' ea' S2 r2 z2 => ?_) (fun hno' S2 r2 z2 => absurd (okE ht ea (by decide)) hno')⟩))⟩) (fun hno => exI (arg i1 (arg i2 ⟨fun n0 => absurd n0 e0, fun _ => rt_know hr (b := 1) _ (by decide) (fun t' ht' ea' S2 r2 z2 => absurd (okE ht' ea' (by decide)) hno) (fun hno' S2 r2 z2 => thrN z2 (by decide) (l1406 H hc r2))⟩)))⟩⟩)⟩
  · obtain rfl := cU ea ea' (by omega) (by omega)
    exact thrB z2 o2 (fun _ => rfl) (fun n => absurd w0 n) (l1406 H c2 r2)
  · obtain rfl := cU ea ea' (by omega) (by omega)
    exact thrB z2 o2 (fun n => absurd n w0) (fun _ => rfl) (l1406 H c2 r2)
  · obtain rfl := cU ea ea' (by omega) (by omega)
    exact thrB z2 o2 (fun _ => rfl) (fun n => absurd w0 n) (l1406 H c2 r2)
  · obtain rfl := cU ea ea' (by omega) (by omega)
    exact thrB z2 o2 (fun n => absurd n w0) (fun _ => rfl) (l1406 H c2 r2)
theorem law_mend (H : LH dA zz x0 ou Ln k23 S G L f k a4 M D mn) : wp_law_1026 dA zz x0 ou Ln xs k23 S G L f k a4 := by
  obtain ⟨hc, hr, hk, hin, _⟩ := id H
  have hM := hr.2.2.2
  have h60 := hM.2.2.1.1
  have b600 : ∀ x, x < 8 → M 20 x ≤ 600 := fun x hx => (hM.2.2.2.2.2 x hx).1
  have i1 : vp_in (a4 + 1) Ln := hin 1 (by decide)
  have i2 : vp_in (a4 + 2) Ln := hin 2 (by decide)
  have i3 : vp_in (a4 + 3) Ln := hin 3 (by decide)
  have i4 : vp_in (a4 + 4) Ln := hin 4 (by decide)
  have i5 : vp_in (a4 + 5) Ln := hin 5 (by decide)
  have i6 : vp_in (a4 + 6) Ln := hin 6 (by decide)
  unfold wp_law_1026 wp_L_mend_0 wp_L_mend_16
  refine ⟨hk, arg i1 (arg i2 ⟨hc.O, k_mend hc hM _ _ (fun x i hx hi ok ea eb L1 f1 c1 => ⟨fun w0 => absurd w0 (by decide), fun w0 => c1.wr (fun f2 c2 o2 => arg i1 (arg i2 (rt_mend hr _ _ (fun x' i' hx' hi' ok' ea' eb' S2 r2 z2 => ?_) (fun x' hx' ea' nok' S2 r2 z2 => ?_) (fun hno' S2 r2 z2 => ?_))))⟩) (fun x hx ea nok L1 f1 c1 => ⟨fun w0 => c1.wr (fun f2 c2 o2 => arg i1 (arg i2 (rt_mend hr _ _ (fun x' i' hx' hi' ok' ea' eb' S2 r2 z2 => ?_) (fun x' hx' ea' nok' S2 r2 z2 => ?_) (fun hno' S2 r2 z2 => ?_)))), fun w0 => absurd rfl w0⟩) (fun hno => exI (arg i1 (arg i2 (rt_mend hr _ _ (fun x' i' hx' hi' ok' ea' eb' S2 r2 z2 => ?_) (fun x' hx' ea' nok' S2 r2 z2 => ?_) (fun hno' S2 r2 z2 => ?_)))))⟩)⟩
  · have q1 := uN_le hM hx
    have q2 := uN_le hM hx'
    obtain rfl := cU ea ea' (by omega) (by omega)
    obtain rfl := cU eb eb' (by omega) (by omega)
    exact thrB z2 o2 (fun n => absurd n (by decide)) (fun _ => rfl) (l1406 H c2 r2)
  · obtain rfl := cU ea ea' (by omega) (by omega)
    exact absurd ⟨i, hi, eb, ok⟩ nok'
  · exact absurd (okE hx ea (by decide)) hno'
  · obtain rfl := cU ea ea' (by omega) (by omega)
    exact absurd ⟨i', hi', eb', ok'⟩ nok
  · obtain rfl := cU ea ea' (by omega) (by omega)
    exact thrB z2 o2 (fun _ => rfl) (fun n => absurd rfl n) (l1406 H c2 r2)
  · exact absurd (okE hx ea (by decide)) hno'
  · exact absurd (okE hx' ea' (by decide)) hno
  · exact absurd (okE hx' ea' (by decide)) hno
  · exact thrN z2 (by decide) (l1406 H hc r2)
end LAW
