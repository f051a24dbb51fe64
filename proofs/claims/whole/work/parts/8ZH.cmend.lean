/-! pure: mend in the component -/
def vfl (V : cV) (c i : Nat) (g : Nat → Int32) : cV := fun c' i' => if c' = c ∧ i' = i then g else V c' i'
theorem vfl_s {V : cV} {c i : Nat} {g : Nat → Int32} : vfl V c i g c i = g := if_pos ⟨rfl, rfl⟩
theorem vfl_n {V : cV} {c i : Nat} {g : Nat → Int32} {c' i' : Nat} (h : ¬ (c' = c ∧ i' = i)) : vfl V c i g c' i' = V c' i' := if_neg h
theorem aUse_0 {M : mN} {D : Nat → Int64} {x i : Nat} : aUse M D x i 0 = nI (uP M x i) := by
  unfold aUse; rw [if_pos rfl]; rfl
theorem aUse_1 {M : mN} {D : Nat → Int64} {x i : Nat} : aUse M D x i 1 = nI (uQ M x i) := by
  unfold aUse; rw [if_neg (by decide), if_pos rfl]; rfl
theorem aUse_2 {M : mN} {D : Nat → Int64} {x i : Nat} : aUse M D x i 2 = wyR (tmU M x i) := by
  unfold aUse; rw [if_neg (by decide), if_neg (by decide), if_pos rfl]
theorem aUse_3 {M : mN} {D : Nat → Int64} {x i : Nat} : aUse M D x i 3 = wyR (uE M x i) := by
  unfold aUse; rw [if_neg (by decide), if_neg (by decide), if_neg (by decide), if_pos rfl]; rfl
theorem rowB_128 {M : mN} {D : Nat → Int64} (hM : MI M D) {t k : Nat} (ht : t < M 4 0) (hk : k < rowN M t) : rowB M t k < 128 := by
  obtain ⟨q1, q2, q3, q4, _⟩ := hM.2.2.1.2 t ht
  unfold rowN at hk
  have z0 := q3 0 (by omega)
  unfold rowB
  by_cases h1 : k < M 9 (3 * t)
  · rw [if_pos h1]
    have := (z0.2.2 k h1).2
    rw [show 36 * t + 12 * 0 + k = 36 * t + k by omega] at this
    omega
  · rw [if_neg h1]
    by_cases h2 : k = M 9 (3 * t)
    · rw [if_pos h2]; decide
    · rw [if_neg h2]
      have w1 : 1 < M 10 t := by
        apply Classical.byContradiction
        intro h9
        have a1 := q4 1 (by decide) (by omega)
        have a2 := q4 2 (by decide) (by omega)
        omega
      have z1 := q3 1 w1
      by_cases h3 : k < M 9 (3 * t) + 1 + M 9 (3 * t + 1)
      · rw [if_pos h3]
        have := (z1.2.2 (k - (M 9 (3 * t) + 1)) (by omega)).2
        rw [show 36 * t + 12 * 1 + (k - (M 9 (3 * t) + 1)) = 36 * t + 12 + (k - (M 9 (3 * t) + 1)) by omega] at this
        omega
      · rw [if_neg h3]
        by_cases h4 : k = M 9 (3 * t) + 1 + M 9 (3 * t + 1)
        · rw [if_pos h4]; decide
        · rw [if_neg h4]
          have w2 : 2 < M 10 t := by
            apply Classical.byContradiction
            intro h9
            have a2 := q4 2 (by decide) (by omega)
            omega
          have z2 := q3 2 w2
          have := (z2.2.2 (k - (M 9 (3 * t) + M 9 (3 * t + 1) + 2)) (by omega)).2
          rw [show 36 * t + 12 * 2 + (k - (M 9 (3 * t) + M 9 (3 * t + 1) + 2)) = 36 * t + 24 + (k - (M 9 (3 * t) + M 9 (3 * t + 1) + 2)) by omega] at this
          omega
section CMD
variable {dA : Nat → ClassId} {zz : Nat → Nat} {x0 ou : Nat} {M : mN} {D : Nat → Int64} {mn : Int32} {L : List Nat} {f : pF}
variable {ad cp : Nat → Nat → Nat} {V : cV} {Z : cZ} {ng : Nat → Nat}
/-- bytes of a row are copied into a row -/
theorem caC {r r' : Nat} {K : pF → Prop} (h : CH dA zz ad cp V Z L f) (hl : lv cp 15 r) (hl' : lv cp 15 r') (sp dp n : Nat) {x1 x2 x3 : Int32} (e1 : x1 = nI sp) (e2 : x2 = nI dp) (e3 : x3 = nI n) (b1 : sp + n ≤ cp 15 r) (b2 : dp + n ≤ cp 15 r') (c1 : cp 15 r ≤ 600) (c2 : cp 15 r' ≤ 600) (hf : ∀ i, i < n → fits .byte (.int (V 15 r (sp + i))) = true) (hK : ∀ f' : pF, CH dA zz ad cp (vfl V 15 r' (va_cpy (V 15 r) (V 15 r') sp dp n)) Z L f' → K f') : cI9 L f (dA 0) (dA 0) (ad 15 r) (ad 15 r') x1 x2 x3 K := by
  have e0 : ∀ r g, cC dA zz ad cp 15 r g (Z 15) = .inl (dA 0, cp 15 r, .inl g) := fun _ _ => rfl
  have m1 : x1.toNatClampNeg = sp := by rw [e1]; exact n_cl (by omega)
  have m2 : x2.toNatClampNeg = dp := by rw [e2]; exact n_cl (by omega)
  have m3 : x3.toNatClampNeg = n := by rw [e3]; exact n_cl (by omega)
  refine ⟨cp 15 r, cp 15 r', V 15 r, V 15 r', ⟨(h.1 15 r hl).1, (h.1 15 r hl).2.trans (e0 r _), (h.1 15 r' hl').1, (h.1 15 r' hl').2.trans (e0 r' _), by rw [e1]; exact n_lt0 (by omega), by rw [e2]; exact n_lt0 (by omega), by rw [e3]; exact n_lt0 (by omega), by rw [m1, m3]; exact b1, by rw [m2, m3]; exact b2, fun i hi => by rw [m3] at hi; rw [m1]; exact hf i hi⟩, fun f' hf' => hK f' ?_⟩
  rw [hf', m1, m2, m3]
  refine h.put hl' (fun c' i' hn => vfl_n hn) (fun _ _ _ _ => rfl) ?_
  rw [vfl_s]
  exact (e0 r' _).symm
theorem c_takesI {Q : Int32 → List Nat → pF → Prop} (h : CH dA zz ad cp V Z L f) (hd : CD M D mn cp V Z ng) (hM : MI M D) {x p q n : Nat} {b : Nat → Nat} (hx : x < 8) (hpq : p ≤ q) (hq : q ≤ M 20 x) (h9 : V 14 9 0 = nI n) (hn : n ≤ 44) (hb : ∀ j, j < n → V 15 9 j = sb (b j)) (yes : p + n + (M 20 x - q) ≤ 600 → ∀ (V' : cV) (f' : pF), CH dA zz ad cp V' Z L f' → (∀ c i, ¬ (c = 14 ∧ i = 1 + x) → ¬ (c = 15 ∧ i = 1 + x) → V' c i = V c i) → V' 14 (1 + x) 0 = nI (p + n + (M 20 x - q)) → (∀ k, k < p + n + (M 20 x - q) → V' 15 (1 + x) k = sb (mdT M x p q n b 19 (600 * x + k))) → Q 1 L f') (no : ¬ p + n + (M 20 x - q) ≤ 600 → Q 0 L f) : wp_X4_takesInstead_0 dA zz Q L f (ad 14 (1 + x)) (nI p) (nI q) (ad 14 9) := by
  obtain ⟨b600, b256⟩ := hM.2.2.2.2.2 x hx
  obtain ⟨x1, x2⟩ := hd.X x hx
  have c600 : cp 15 (1 + x) = 600 := hd.1.2.1 x hx
  have c9 : cp 15 9 = 44 := hd.1.2.2.1
  have l9 : lv cp 14 9 := lv_r (by decide)
  have lx : lv cp 14 (1 + x) := lv_r (by omega)
  have l15 : lv cp 15 9 := Or.inl (by omega)
  have lx15 : lv cp 15 (1 + x) := Or.inl (by omega)
  have e0 : cC dA zz ad cp 15 (1 + x) (V 15 (1 + x)) (Z 15) = .inl (dA 0, cp 15 (1 + x), .inl (V 15 (1 + x))) := rfl
  obtain ⟨r, hr⟩ : ∃ r, r = M 20 x - q := ⟨_, rfl⟩
  have hi : ∀ k, k < M 20 x - q → mdT M x p q n b 19 (600 * x + (p + n + k)) = M 19 (600 * x + (q + k)) := fun k hk => mdT_hi hk
  have mid : ∀ k, k < n → mdT M x p q n b 19 (600 * x + (p + k)) = b k := fun k hk => mdT_mid hk
  have lo : ∀ k, k < p → mdT M x p q n b 19 (600 * x + k) = M 19 (600 * x + k) := fun k hk => mdT_lo hk
  rw [← hr] at yes no hi
  generalize mdT M x p q n b 19 = tx at yes hi mid lo
  unfold wp_X4_takesInstead_0
  refine bf1 (n_lt0 (by omega)) (bf1 (by rw [i_lt q p]; omega) (cgI (c := 14) h lx rfl rfl (bt1 ((i_le q (M 20 x) (hy := x1)).mpr hq) (cgI (c := 14) h lx rfl rfl (cgI (c := 14) h l9 rfl rfl ?_)))))
  rw [x1, h9, n_sub hpq, n_sub (by omega), nI_add, show M 20 x - (q - p) + n = p + n + r by omega]
  rintro _ rfl
  refine cgR (c := 14) h lx rfl rfl ⟨_, ⟨(h.1 15 (1 + x) lx15).1, (h.1 15 (1 + x) lx15).2.trans e0⟩, ?_⟩
  have e6 : Int32.ofNat (cp 15 (1 + x)) = nI 600 := by rw [c600]; rfl
  refine bq (i_le (p + n + r) 600 (hy := e6)) (fun hle => ?_) (fun hle => no hle)
  refine cgR (c := 14) h lx rfl rfl (cgR (c := 14) h lx rfl rfl (cgI (c := 14) h l9 rfl rfl (cgI (c := 14) h lx rfl rfl ?_)))
  rw [x1, h9, nI_add, n_sub hq, ← hr]
  refine caC h lx15 lx15 q (p + n) r rfl rfl rfl (by omega) (by omega) (by omega) (by omega) (fun i hi9 => by rw [x2 (q + i) (by omega)]; exact sb_fit _) (fun f1 h1 => ?_)
  obtain ⟨V1, hV1⟩ : ∃ V1, V1 = vfl V 15 (1 + x) (va_cpy (V 15 (1 + x)) (V 15 (1 + x)) q (p + n) r) := ⟨_, rfl⟩
  rw [← hV1] at h1
  have f1a : ∀ c i, ¬ (c = 15 ∧ i = 1 + x) → V1 c i = V c i := fun c i hn9 => by rw [hV1, vfl_n hn9]
  have f1b : V1 15 (1 + x) = va_cpy (V 15 (1 + x)) (V 15 (1 + x)) q (p + n) r := by rw [hV1, vfl_s]
  refine cgR (c := 14) h1 l9 rfl rfl (cgR (c := 14) h1 lx rfl rfl (cgI (c := 14) h1 l9 rfl rfl ?_))
  rw [f1a 14 9 (by omega), h9]
  refine caC h1 l15 lx15 0 p n rfl rfl rfl (by omega) (by omega) (by omega) (by omega) (fun i hi9 => by rw [f1a 15 9 (by omega), Nat.zero_add, hb i hi9]; exact sb_fit _) (fun f2 h2 => ?_)
  obtain ⟨V2, hV2⟩ : ∃ V2, V2 = vfl V1 15 (1 + x) (va_cpy (V1 15 9) (V1 15 (1 + x)) 0 p n) := ⟨_, rfl⟩
  rw [← hV2] at h2
  have f2a : ∀ c i, ¬ (c = 15 ∧ i = 1 + x) → V2 c i = V c i := fun c i hn9 => by rw [hV2, vfl_n hn9]; exact f1a c i hn9
  have f2b : V2 15 (1 + x) = va_cpy (V 15 9) (va_cpy (V 15 (1 + x)) (V 15 (1 + x)) q (p + n) r) 0 p n := by rw [hV2, vfl_s, f1a 15 9 (by omega), f1b]
  refine cgPi (c := 14) h2 lx rfl 0 (by show 1 < 2; decide) rfl (fun f3 h3 => yes hle _ f3 h3 (fun c i n14 n15 => by rw [vst_n n14]; exact f2a c i n15) vst_v (fun k hk => ?_))
  rw [vst_c (by decide), f2b]
  by_cases k1 : k < p
  · rw [pk_cpy_out (Or.inl k1), pk_cpy_out (Or.inl (by omega)), lo k k1]
    exact x2 k (by omega)
  · by_cases k2 : k < p + n
    · rw [pk_cpy_in (by omega) k2, Nat.zero_add, hb _ (by omega)]
      have := mid (k - p) (by omega)
      rw [show p + (k - p) = k by omega] at this
      rw [this]
    · rw [pk_cpy_out (Or.inr (by omega)), pk_cpy_in (by omega) (by omega), x2 _ (by omega)]
      have := hi (k - (p + n)) (by omega)
      rw [show p + n + (k - (p + n)) = k by omega] at this
      rw [this]
theorem fmB_128 (hM : MI M D) {g e k : Nat} (hg : g < M 4 0) (he : e ≤ M 3 0) (hk : k < fmN M g e) : fmB M g e k < 128 := by
  have h6 := hM.2.1.1
  unfold fmB
  by_cases h1 : k < rowN M g
  · rw [if_pos h1]; exact rowB_128 hM hg h1
  · rw [if_neg h1]
    unfold fmN eL at hk
    by_cases h0 : e = 0
    · rw [if_pos h0] at hk; omega
    · rw [if_neg h0] at hk
      have := ((hM.2.1.2 (e - 1) (by omega)).2.2 (k - rowN M g) (by omega)).2
      omega
theorem grt_le {x p q n : Nat} (hn : 1 ≤ n) : grt M x p q n ≤ n := by
  unfold grt
  split
  · exact Nat.le_refl _
  · split <;> omega
theorem c_md126 {Q : Int32 → List Nat → pF → Prop} (h : CH dA zz ad cp V Z L f) (hd : CD M D mn cp V Z ng) (hM : MI M D) {x i g e p q : Nat} (hx : x < 8) (hU : CU M D x (uN M x) V Z) (hi : i < uN M x) (hg : g < M 4 0) (he : e ≤ M 3 0) (hp : uP M x i = p) (hq : uQ M x i = q) (hpq : p < q) (hqM : q ≤ M 20 x) (yes : p + fmN M g e + (M 20 x - q) ≤ 600 → ∀ (V' : cV) (f' : pF), CH dA zz ad cp V' Z L f' → CD (mdT M x p q (fmN M g e) (gB (grt M x p q (fmN M g e)) (fmB M g e))) D (mn + 1) cp V' Z ng → Q 1 L f') (no : ¬ p + fmN M g e + (M 20 x - q) ≤ 600 → ∀ (V' : cV) (f' : pF), CH dA zz ad cp V' Z L f' → CD M D mn cp V' Z ng → CU M D x (uN M x) V' Z → (∀ c i, ¬ (c = 14) → ¬ (c = 15) → V' c i = V c i) → Q 0 L f') : wp_X2_mendsUse_126 dA zz Q L f (ad 13 0) (ad 14 (1 + x)) (ad 8 0) (nI i) (ad 16 g) (wyR e) := by
  have hu := uN_le hM hx
  have c9 : cp 15 9 = 44 := hd.1.2.2.1
  have hN := fmN_le hM hg he
  have hN1 : 1 ≤ fmN M g e := by
    have hT := hM.2.2.1.2 g hg
    have h1 := rowN_off hT (w := M 10 g - 1) (by have := hT.1; omega)
    have h2 := (hT.2.2.1 (M 10 g - 1) (by have := hT.1; omega)).1
    unfold fmN
    omega
  have l9 : lv cp 14 9 := lv_r (by decide)
  have lx : lv cp 14 (1 + x) := lv_r (by omega)
  obtain ⟨n0, n44, hn0⟩ := hd.2.2.2.1
  have ok : okN (nI i) (uN M x) := okN_i hi (by omega)
  have b128 : ∀ j, j < fmN M g e → fmB M g e j < 128 := fun j hj => fmB_128 hM hg he hj
  unfold wp_X2_mendsUse_126
  refine ⟨cO (c := 8) h rfl rfl, c_u0 h _ hU hu (fun j hj ej => ⟨cO (c := 8) h rfl rfl, c_u1 h _ hU hu (fun j2 hj2 ej2 => ?_) (fun o => absurd ok o)⟩) (fun o => absurd ok o)⟩
  rw [n_eq (by omega) (by omega)] at ej ej2
  rw [← ej, ← ej2, aUse_0, aUse_1, hp, hq]
  refine cgR (c := 13) h rfl rfl rfl ⟨cO (c := 14) h l9 rfl, c_shorten (m := 0) h l9 hn0 (Nat.zero_le _) (by omega) (fun f1 h1 => ?_)⟩
  obtain ⟨V1, hV1⟩ : ∃ V1, V1 = vst V 14 9 0 (nI 0) := ⟨_, rfl⟩
  rw [← hV1] at h1
  have fr1 : fr9 V1 V := fun c i n14 n15 => by rw [hV1, vst_n n14]
  have s1 : V1 14 9 0 = nI 0 := by rw [hV1, vst_v]
  have d1 := hd.r9 fr1 s1 (by omega)
  refine cgR (c := 13) h1 rfl rfl rfl (cgR (c := 13) h1 rfl rfl rfl ⟨cO (c := 2) h1 rfl rfl, c_pushForm h1 d1 hM hg he s1 (fun V2 f2 h2 fr2 s2 b2 => ?_)⟩)
  have fr2v : fr9 V2 V := fun c i n14 n15 => by rw [fr2 c i n14 n15]; exact fr1 c i n14 n15
  have d2 := hd.r9 fr2v s2 (by omega)
  refine cgR (c := 13) h2 rfl rfl rfl ⟨cO (c := 13) h2 rfl rfl, c_greatB h2 d2 hM hx hpq hqM s2 ⟨cO (c := 14) h2 l9 rfl, c_greaten h2 c9 s2 b2 b128 (grt_le hN1) (by omega) (fun V3 f3 h3 fr3 s3 b3 => ?_)⟩⟩
  have fr3v : fr9 V3 V := fun c i n14 n15 => by rw [fr3 c i n14 n15]; exact fr2v c i n14 n15
  have d3 := hd.r9 fr3v s3 (by omega)
  refine cgR (c := 13) h3 rfl rfl rfl ⟨cO (c := 14) h3 lx rfl, c_takesI h3 d3 hM hx (Nat.le_of_lt hpq) hqM s3 (by omega) b3 (fun hle V4 f4 h4 fr4 s4 b4 => bf2 (by decide) (cgI (c := 13) h4 rfl rfl rfl (cgPi (c := 13) h4 rfl rfl 0 (by show 2 < 3; decide) rfl (fun f5 h5 => yes hle _ f5 h5 ?_)))) (fun hle => bt2 rfl (no hle V3 f3 h3 d3 (CU_fr hU (fr3v 8 0 (by omega) (by omega)) (fun k => fr3v 9 (1 + k) (by omega) (by omega)) rfl) (fun c i n14 n15 => fr3v c i (fun o => n14 o.1) (fun o => n15 o.1))))⟩
  have d4 : CD (mdT M x p q (fmN M g e) (gB (grt M x p q (fmN M g e)) (fmB M g e))) D mn cp V4 Z ng := d3.text (x := x) hx (fun a h19 h20 => mdT_f h19 h20) (fun y hy => mdT_20o hy) (fun y hy hne k hk => mdT_o hne (by have := (hM.2.2.2.2.2 y hy).1; omega) hle) mdT_20 fr4 s4 b4
  have m4 : V4 13 0 0 = mn := d4.2.2.2.2.2.2.2.2.2.2
  rw [m4] at h5 ⊢
  refine d4.rows (fun _ _ _ => rfl) vst_v (vst_c (by decide)) (vst_c (by decide)) (fun r _ => ⟨by rw [vst_c (by decide)], by rw [vst_c (by decide)]⟩) ⟨by rw [vst_c (by decide)]; exact d4.W.1, fun k hk => by rw [vst_c (by decide)]; exact d4.W.2 k hk⟩ (fun y hy => ⟨by rw [vst_c (by decide)]; exact (d4.X y hy).1, fun k hk => by rw [vst_c (by decide)]; exact (d4.X y hy).2 k hk⟩) (by rw [vst_c (by decide)]; exact d4.2.2.2.1)
theorem c_mendsUse {Q : Int32 → List Nat → pF → Prop} (h : CH dA zz ad cp V Z L f) (hd : CD M D mn cp V Z ng) (hM : MI M D) {x : Nat} (a : Int32) (hx : x < 8) (hU : CU M D x (uN M x) V Z) (yes : ∀ i, i < uN M x → a = nI i → mdOK M x i → ∀ (V' : cV) (f' : pF), CH dA zz ad cp V' Z L f' → CD (mdA M x i) D (mn + 1) cp V' Z ng → Q 1 L f') (no : (¬ ∃ i, i < uN M x ∧ a = nI i ∧ mdOK M x i) → ∀ (V' : cV) (f' : pF), CH dA zz ad cp V' Z L f' → CD M D mn cp V' Z ng → CU M D x (uN M x) V' Z → Q 0 L f') : wp_X2_mendsUse_0 dA zz Q L f (ad 13 0) (ad 14 (1 + x)) (ad 8 0) a := by
  have hu := uN_le hM hx
  have h60 := hM.2.2.1.1
  have h6 := hM.2.1.1
  unfold wp_X2_mendsUse_0
  refine ⟨cO (c := 8) h rfl rfl, c_u2 h a hU hu (fun i hi ha => ?_) (fun o => cgR (c := 13) h rfl rfl rfl ⟨cO (c := 2) h rfl rfl, c_holds h _ (fun o9 => absurd (show (-1 : Int32) < 0 by decide) o9.1) (fun _ => bt2 rfl (no (fun ⟨i, i1, i2, _⟩ => o (by rw [i2]; exact okN_i i1 (by omega))) V f h hd hU))⟩)⟩
  subst ha
  rw [aUse_2]
  obtain ⟨o1, o2, o3, o4, o5, o6, o7⟩ := u_ok hM hi
  have hG : mdG M x i = if tmU M x i ≠ 0 ∧ (M 12 (tmU M x i - 1) = 1 ∨ M 12 (tmU M x i - 1) = 3) ∧ gdF M (M 11 (tmU M x i - 1)) < M 4 0 ∧ (uE M x i = 0 ∨ (M 13 (gdF M (M 11 (tmU M x i - 1)))).testBit (uE M x i - 1) = true) then gdF M (M 11 (tmU M x i - 1)) + 1 else 0 := rfl
  have no0 : mdG M x i = 0 → Q 0 L f := fun e0 => no (fun ⟨j, j1, j2, j3⟩ => by rw [n_eq (by omega) (by omega)] at j2; rw [← j2] at j3; exact j3.1 e0) V f h hd hU
  refine cgR (c := 13) h rfl rfl rfl ⟨cO (c := 2) h rfl rfl, c_holds h _ (fun o => bf2 (by decide) ?_) (fun o => bt2 rfl (no0 ?_))⟩
  · by_cases e0 : tmU M x i = 0
    · rw [e0] at o
      exact absurd (show wyR 0 < 0 by decide) o.1
    · obtain ⟨t, et⟩ : ∃ t, tmU M x i = t + 1 := ⟨tmU M x i - 1, by omega⟩
      have ht : t < M 4 0 := by omega
      have l16 : t < cp 3 1 := by rw [hd.c31]; exact ht
      obtain ⟨_, t1, _, t3⟩ := (hd.T ht).1
      have q := hM.2.2.1.2 t ht
      have q11 := q.2.2.2.2.1
      have q12 := q.2.2.2.2.2.1
      rw [et, Nat.add_sub_cancel] at hG
      rw [et, wyR_s]
      have f69 : (M 12 t = 1 ∨ M 12 t = 3) → wp_X2_mendsUse_69 dA zz Q L f (ad 13 0) (ad 14 (1 + x)) (ad 8 0) (nI i) (if gdF M (M 11 t) < M 4 0 then nI (gdF M (M 11 t)) else -1) 1 := by
        intro hk
        obtain ⟨T, hT⟩ : ∃ T, T = gdF M (M 11 t) := ⟨_, rfl⟩
        rw [← hT] at hG ⊢
        unfold wp_X2_mendsUse_69
        refine bf1 (by decide) (cgR (c := 13) h rfl rfl rfl ⟨cO (c := 2) h rfl rfl, c_holds h _ (fun o2 => bf2 (by decide) ?_) (fun o2 => bt2 rfl (no0 ?_))⟩)
        · by_cases hT4 : T < M 4 0
          · rw [if_pos hT4]
            have go : mdG M x i = T + 1 → wp_X2_mendsUse_126 dA zz Q L f (ad 13 0) (ad 14 (1 + x)) (ad 8 0) (nI i) (ad 16 T) (wyR (uE M x i)) := by
              intro eG
              have eT : mdG M x i - 1 = T := by omega
              have hok : mdOK M x i ↔ (mdG M x i ≠ 0 ∧ uP M x i + fmN M (mdG M x i - 1) (uE M x i) + (M 20 x - uQ M x i) ≤ 600) := Iff.rfl
              have hA : mdA M x i = mdT M x (uP M x i) (uQ M x i) (fmN M (mdG M x i - 1) (uE M x i)) (gB (grt M x (uP M x i) (uQ M x i) (fmN M (mdG M x i - 1) (uE M x i))) (fmB M (mdG M x i - 1) (uE M x i))) := rfl
              rw [eT] at hok hA
              refine c_md126 h hd hM hx hU hi hT4 o6 rfl rfl o4 o5 (fun hle V1 f1 h1 d1 => yes i hi rfl (hok.mpr ⟨by omega, hle⟩) V1 f1 h1 (by rw [hA]; exact d1)) (fun hle V1 f1 h1 d1 u1 _ => no (fun ⟨j, j1, j2, j3⟩ => ?_) V1 f1 h1 d1 u1)
              rw [n_eq (by omega) (by omega)] at j2
              rw [← j2] at j3
              exact hle (hok.mp j3).2
            refine cgR (c := 13) h rfl rfl rfl ⟨cO (c := 2) h rfl rfl, c_termAt h T (by rw [hd.c31]; exact hT4) ⟨cO (c := 8) h rfl rfl, c_u3 h _ hU hu (fun j hj ej => ?_) (fun o9 => absurd (okN_i hi (by omega)) o9)⟩⟩
            rw [n_eq (by omega) (by omega)] at ej
            rw [← ej, aUse_3]
            by_cases ee : uE M x i = 0
            · rw [if_pos ⟨Nat.succ_ne_zero t, hk, hT4, Or.inl ee⟩] at hG
              exact bt1 (by rw [ee]; rfl) (go hG)
            · obtain ⟨d, hd9⟩ : ∃ d, uE M x i = d + 1 := ⟨uE M x i - 1, by omega⟩
              have eR : wyR (uE M x i) = nI d := by rw [hd9, wyR_s]
              refine bf1 (by rw [eR]; exact n_m1 (by omega)) ⟨cO (c := 16) h (lv_16 h (by rw [hd.c31]; exact hT4)) rfl, ?_⟩
              rw [eR]
              refine c_takes h hd hM hT4 (by omega) (bn bI_z (fun hb => no0 ?_) (fun hb => ?_))
              · rw [if_neg (fun o9 => ?_)] at hG
                · exact hG
                · rcases o9.2.2.2 with o8 | o8
                  · exact ee o8
                  · rw [hd9, Nat.add_sub_cancel] at o8; exact hb o8
              · rw [← eR]
                refine go ?_
                have hb2 : (M 13 T).testBit (uE M x i - 1) = true := by rw [hd9, Nat.add_sub_cancel]; exact Classical.not_not.mp hb
                rw [if_pos ⟨Nat.succ_ne_zero t, hk, hT4, Or.inr hb2⟩] at hG
                exact hG
          · rw [if_neg hT4] at o2
            exact absurd (show (-1 : Int32) < 0 by decide) o2.1
        · rw [if_neg (fun o9 => ?_)] at hG
          · exact hG
          · rw [if_pos o9.2.2.1, hd.c31] at o2
            exact o2 (okN_i o9.2.2.1 (by omega))
      have f64 : (M 12 t = 1 ∨ M 12 t = 3) → wp_X2_mendsUse_64 dA zz Q L f (ad 13 0) (ad 14 (1 + x)) (ad 8 0) (nI i) (if gdF M (M 11 t) < M 4 0 then nI (gdF M (M 11 t)) else -1) := fun hk => by
        unfold wp_X2_mendsUse_64
        exact f69 hk
      refine cgR (c := 13) h rfl rfl rfl ⟨cO (c := 2) h rfl rfl, c_termAt h t l16 (cgR (c := 13) h rfl rfl rfl (cgI (c := 16) h (lv_16 h l16) rfl rfl ⟨cO (c := 2) h rfl rfl, ?_⟩))⟩
      rw [t1]
      refine c_goodT h hd hM q11 (cgI (c := 16) h (lv_16 h l16) rfl rfl (bq (i_eq (M 12 t) 1 (hx := t3)) (fun k1 => f64 (Or.inl k1)) (fun k1 => cgI (c := 16) h (lv_16 h l16) rfl rfl (bn (i_eq (M 12 t) 3 (hx := t3)) (fun k3 => f64 (Or.inr k3)) (fun k3 => ?_)))))
      unfold wp_X2_mendsUse_69
      refine bt1 rfl (no0 ?_)
      rw [if_neg (fun o9 => o9.2.1.elim k1 k3)] at hG
      exact hG
  · by_cases e0 : tmU M x i = 0
    · rw [hG, if_neg (fun o9 => o9.1 e0)]
    · obtain ⟨t, et⟩ : ∃ t, tmU M x i = t + 1 := ⟨tmU M x i - 1, by omega⟩
      rw [et, wyR_s, hd.c31] at o
      exact absurd (okN_i (by omega) (by omega)) o
theorem k_mend {Q : Int32 → List Nat → pF → Prop} {X : String → List Nat → pF → Prop} (h : CI dA zz x0 ou M D mn L f) (hM : MI M D) (a b : Int32) (yes : ∀ x i, x < 8 → i < uN M x → mdOK M x i → a = nI x → b = nI i → ∀ (L' : List Nat) (f' : pF), CI dA zz x0 ou (mdA M x i) D (mn + 1) L' f' → Q 1 L' f') (nope : ∀ x, x < 8 → a = nI x → (¬ ∃ i, i < uN M x ∧ b = nI i ∧ mdOK M x i) → ∀ (L' : List Nat) (f' : pF), CI dA zz x0 ou M D mn L' f' → Q 0 L' f') (no : ¬ okN a 8 → X "java/lang/IllegalArgumentException" L f) : wp_X8_mend_0 dA zz Q X L f x0 a b := by
  obtain ⟨ad, cp, V, Z, ng, h, rfl, rfl, hd⟩ := h
  unfold wp_X8_mend_0
  refine ⟨cO (c := 0) h rfl rfl, k_needText h a (fun x hx ht => cgR (c := 0) h rfl rfl rfl ⟨cO (c := 8) h rfl rfl, c_read h hd hM hx (fun V1 Z1 f1 h1 fr1 zf1 U1 => ?_)⟩) no⟩
  have d1 : CD M D mn cp V1 Z1 ng := hd.fr2 (fun k j hk => fr1 k j (by omega)) (zf1 5 (by decide) (by decide)) (zf1 6 (by decide) (by decide))
  exact cgR (c := 0) h1 rfl rfl rfl (cgR (c := 0) h1 rfl rfl rfl ⟨cO (c := 13) h1 rfl rfl, c_mendsUse h1 d1 hM b hx U1 (fun i hi hb hok V2 f2 h2 d2 => ⟨rfl, yes x i hx hi hok ht hb L f2 ⟨ad, cp, V2, Z1, ng, h2, rfl, rfl, d2⟩⟩) (fun hno V2 f2 h2 d2 _ => ⟨rfl, nope x hx ht hno L f2 ⟨ad, cp, V2, Z1, ng, h2, rfl, rfl, d2⟩⟩)⟩)
theorem c_first {Q : Int32 → List Nat → pF → Prop} (h : CH dA zz ad cp V Z L f) (hd : CD M D mn cp V Z ng) (hM : MI M D) {x : Nat} (hx : x < 8) (hU : CU M D x (uN M x) V Z) (yes : mdF M x < uN M x → ∀ (V' : cV) (f' : pF), CH dA zz ad cp V' Z L f' → CD (mdA M x (mdF M x)) D (mn + 1) cp V' Z ng → Q 1 L f') (no : ¬ mdF M x < uN M x → ∀ (V' : cV) (f' : pF), CH dA zz ad cp V' Z L f' → CD M D mn cp V' Z ng → Q 0 L f') : wp_X2_mendsFirst_0 dA zz Q L f (ad 13 0) (ad 14 (1 + x)) (ad 8 0) := by
  have hu := uN_le hM hx
  have hy := fa_first_yes (fun i => decide (mdOK M x i)) (uN M x)
  have hn := fa_first_no (fun i => decide (mdOK M x i)) (uN M x)
  have hl := fa_first_le (fun i => decide (mdOK M x i)) (uN M x)
  have hF : mdF M x = fa_first (fun i => decide (mdOK M x i)) (uN M x) := rfl
  rw [← hF] at hy hn hl
  generalize mdF M x = T at hy hn hl yes no
  unfold wp_X2_mendsFirst_0
  refine pk_loop (σ := cV × pF) (fun n9 i st => wp_X2_mendsFirst_2 dA zz Q n9 L st.2 (ad 13 0) (ad 14 (1 + x)) (ad 8 0) (nI i)) (fun i st => CH dA zz ad cp st.1 Z L st.2 ∧ CD M D mn cp st.1 Z ng ∧ CU M D x (uN M x) st.1 Z) T 0 (V, f) (Nat.zero_le _) ⟨h, hd, hU⟩ ?_ ?_
  · rintro n9 ⟨V1, f1⟩ ⟨h1, d1, u1⟩
    have h1 : CH dA zz ad cp V1 Z L f1 := h1
    have d1 : CD M D mn cp V1 Z ng := d1
    have u1 : CU M D x (uN M x) V1 Z := u1
    dsimp only
    unfold wp_X2_mendsFirst_2 wp_X6_size_0
    refine ⟨cO (c := 8) h1 rfl rfl, cgI (c := 8) h1 rfl rfl rfl (bq (i_le (uN M x) T (hx := u1.1)) (fun k1 => no (by omega) V1 f1 h1 d1) (fun k1 => ⟨cO (c := 13) h1 rfl rfl, c_mendsUse h1 d1 hM _ hx u1 (fun i hi ei hok V2 f2 h2 d2 => bf1 (by decide) (yes (by omega) V2 f2 h2 ?_)) (fun hno => absurd ⟨T, by omega, rfl, of_decide_eq_true (hy (by omega))⟩ hno)⟩))⟩
    rw [n_eq (by omega) (by omega)] at ei
    rw [ei]
    exact d2
  · rintro n9 k ⟨V1, f1⟩ hk ⟨h1, d1, u1⟩ ih
    have h1 : CH dA zz ad cp V1 Z L f1 := h1
    have d1 : CD M D mn cp V1 Z ng := d1
    have u1 : CU M D x (uN M x) V1 Z := u1
    have nok := of_decide_eq_false (hn k hk)
    dsimp only
    unfold wp_X2_mendsFirst_2 wp_X6_size_0
    refine ⟨cO (c := 8) h1 rfl rfl, cgI (c := 8) h1 rfl rfl rfl (bf1 (by rw [i_le (uN M x) k (hx := u1.1)]; omega) ⟨cO (c := 13) h1 rfl rfl, c_mendsUse h1 d1 hM _ hx u1 (fun i hi ei hok => ?_) (fun hno V2 f2 h2 d2 u2 => bt1 rfl ?_)⟩)⟩
    · rw [n_eq (by omega) (by omega)] at ei
      rw [← ei] at hok
      exact absurd hok nok
    · rintro _ rfl
      rw [nI_1]
      exact ih (V2, f2) ⟨h2, d2, u2⟩
theorem mdI_MI (hM : MI M D) {x i : Nat} (hx : x < 8) (hi : i < uN M x) (hok : mdOK M x i) : MI (mdA M x i) D := by
  obtain ⟨o1, o2, o3, o4, o5, o6, o7⟩ := u_ok hM hi
  obtain ⟨hg, _⟩ := mdG_in hok.1
  have hA : mdA M x i = mdT M x (uP M x i) (uQ M x i) (fmN M (mdG M x i - 1) (uE M x i)) (gB (grt M x (uP M x i) (uQ M x i) (fmN M (mdG M x i - 1) (uE M x i))) (fmB M (mdG M x i - 1) (uE M x i))) := rfl
  have h2 : uP M x i + fmN M (mdG M x i - 1) (uE M x i) + (M 20 x - uQ M x i) ≤ 600 := hok.2
  rw [hA]
  exact mdT_MI hM hx (Nat.le_of_lt o4) o5 h2 (fun k hk => gB_lt (fmB_lt hM hg o6 hk))
theorem mdA_MI (hM : MI M D) {x : Nat} (hx : x < 8) (o : mdF M x < uN M x) : MI (mdA M x (mdF M x)) D := by
  have hy := fa_first_yes (fun i => decide (mdOK M x i)) (uN M x) o
  exact mdI_MI hM hx o (of_decide_eq_true hy)
theorem k_mendAll {Q : Int32 → List Nat → pF → Prop} {X : String → List Nat → pF → Prop} (h : CI dA zz x0 ou M D mn L f) (hM : MI M D) (a : Int32) (yes : ∀ x, x < 8 → a = nI x → ∀ (L' : List Nat) (f' : pF), CI dA zz x0 ou (mAll x 100 M).2 D (mn + nI (mAll x 100 M).1) L' f' → Q (nI (mAll x 100 M).1) L' f') (no : ¬ okN a 8 → X "java/lang/IllegalArgumentException" L f) : wp_X8_mendAll_0 dA zz Q X L f x0 a := by
  obtain ⟨ad, cp, V, Z, ng, h, rfl, rfl, hd⟩ := h
  unfold wp_X8_mendAll_0
  refine ⟨cO (c := 0) h rfl rfl, k_needText h a (fun x hx ht => ?_) no⟩
  have y := yes x hx ht
  clear yes
  obtain ⟨N, hN⟩ : ∃ N : Nat, N = 100 := ⟨_, rfl⟩
  rw [← hN] at y
  have main : ∀ (n : Nat) (M : mN) (mn : Int32) (V : cV) (Z : cZ) (f : pF) (d : Nat), d + n = N → MI M D → CH dA zz ad cp V Z L f → CD M D mn cp V Z ng → (∀ f' : pF, CI dA zz (ad 0 0) (ad 18 0) (mAll x n M).2 D (mn + nI (mAll x n M).1) L f' → Q (nI (d + (mAll x n M).1)) L f') → wp_X8_mendAll_8 dA zz Q X (n + 1) L f (ad 0 0) (ad 14 (1 + x)) (nI d) := by
    intro n
    induction n with
    | zero =>
      intro M mn V Z f d hd9 hM h hd hQ
      have e : d = 100 := by omega
      unfold wp_X8_mendAll_8
      refine bt1 ((i_le 100 d).mpr (by omega)) ?_
      have := hQ f ⟨ad, cp, V, Z, ng, h, rfl, rfl, ?_⟩
      · rw [e] at this; exact this
      · show CD M D (mn + nI 0) cp V Z ng
        rw [show nI 0 = (0 : Int32) from rfl, Int32.add_zero]
        exact hd
    | succ n ih =>
      intro M mn V Z f d hd9 hM h hd hQ
      unfold wp_X8_mendAll_8
      refine bf1 (by rw [i_le 100 d]; omega) (cgR (c := 0) h rfl rfl rfl ⟨cO (c := 8) h rfl rfl, c_read h hd hM hx (fun V1 Z1 f1 h1 fr1 zf1 U1 => ?_)⟩)
      have d1 : CD M D mn cp V1 Z1 ng := hd.fr2 (fun k j hk => fr1 k j (by omega)) (zf1 5 (by decide) (by decide)) (zf1 6 (by decide) (by decide))
      refine cgR (c := 0) h1 rfl rfl rfl (cgR (c := 0) h1 rfl rfl rfl ⟨cO (c := 13) h1 rfl rfl, c_first h1 d1 hM hx U1 (fun o V2 f2 h2 d2 => bf2 (by decide) ?_) (fun o V2 f2 h2 d2 => bt2 rfl ?_)⟩)
      · rintro _ rfl
        rw [nI_1]
        rw [mAll_y o] at hQ
        refine ih (mdA M x (mdF M x)) (mn + 1) V2 Z1 f2 (d + 1) (by omega) (mdA_MI hM hx o) h2 d2 (fun f3 h3 => ?_)
        rw [mn_s] at h3
        have := hQ f3 h3
        dsimp only at this
        rw [show d + 1 + (mAll x n (mdA M x (mdF M x))).1 = d + ((mAll x n (mdA M x (mdF M x))).1 + 1) by omega]
        exact this
      · rw [mAll_n o] at hQ
        have := hQ f2 ⟨ad, cp, V2, Z1, ng, h2, rfl, rfl, ?_⟩
        · exact this
        · show CD M D (mn + nI 0) cp V2 Z1 ng
          rw [show nI 0 = (0 : Int32) from rfl, Int32.add_zero]
          exact d2
  exact ⟨N + 1, main N M mn V Z f 0 (by omega) hM h hd (fun f' r1 => by rw [Nat.zero_add]; exact y L f' r1)⟩
end CMD
