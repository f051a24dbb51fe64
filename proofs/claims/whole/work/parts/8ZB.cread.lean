/-! pure: reading a text, in the component -/
theorem wpA_mono {n : Nat} {b : Nat → Nat} {j : Nat} : ∀ {k : Nat}, j ≤ k → wpA n b j ≤ wpA n b k
  | 0, h => by have : j = 0 := by omega
               rw [this]; exact Nat.le_refl _
  | k + 1, h => by
    by_cases e : j = k + 1
    · rw [e]; exact Nat.le_refl _
    · have h1 := wpA_mono (n := n) (b := b) (j := j) (k := k) (by omega)
      have h2 := (wpA_gt (n := n) (b := b) k).1
      have h3 := (enn_ok (n := n) (b := b) (wpA_le (n := n) (b := b) k)).1
      have h4 : weA n b k = enn n b (wpA n b k) := rfl
      omega
/-- where the last use ends, by the word behind it -/
def bhA (M : mN) (x u : Nat) : Nat := if u = 0 then 0 else weA (M 20 x) (tbx M x) (u - 1)
theorem bh_iff {M : mN} {x u w : Nat} (hu : u ≤ fnd (M 20 x) (tbx M x)) : wpA (M 20 x) (tbx M x) w < bhA M x u ↔ w < u := by
  unfold bhA
  by_cases e : u = 0
  · rw [if_pos e]; omega
  · rw [if_neg e]
    obtain ⟨j, hj⟩ : ∃ j, u = j + 1 := ⟨u - 1, by omega⟩
    rw [hj, Nat.add_sub_cancel]
    have hjn : wpA (M 20 x) (tbx M x) j < M 20 x := fnd_lt.mp (by omega)
    constructor
    · intro h1
      apply Classical.byContradiction
      intro h9
      have h2 := (wpA_gt (n := M 20 x) (b := tbx M x) j).1
      have h3 := wpA_mono (n := M 20 x) (b := tbx M x) (j := j + 1) (k := w) (by omega)
      omega
    · intro h1
      have h2 := weA_gt hjn
      have h3 := wpA_mono (n := M 20 x) (b := tbx M x) (j := w) (k := j) (by omega)
      omega
theorem us_keep {M : mN} {x w i : Nat} (hi : i < (us M x w).2.1) : ∀ j, i < (us M x (w + j)).2.1 ∧ (us M x (w + j)).2.2.1 i = (us M x w).2.2.1 i ∧ (us M x (w + j)).2.2.2 i = (us M x w).2.2.2 i
  | 0 => ⟨hi, rfl, rfl⟩
  | j + 1 => by
    obtain ⟨h1, h2, h3⟩ := us_keep hi j
    have hs := us_s M x (w + j)
    rw [show w + (j + 1) = w + j + 1 by omega, hs]
    by_cases c : (us M x (w + j)).1 ≤ w + j ∧ mw M x (w + j) ≠ 0
    · rw [if_pos c]
      dsimp only
      rw [if_neg (by omega), if_neg (by omega)]
      exact ⟨by omega, h2, h3⟩
    · rw [if_neg c]; exact ⟨h1, h2, h3⟩
theorem us_fin {M : mN} {x w i : Nat} (hw : w ≤ fnd (M 20 x) (tbx M x)) (hi : i < (us M x w).2.1) : (usF M x).2.2.1 i = (us M x w).2.2.1 i ∧ (usF M x).2.2.2 i = (us M x w).2.2.2 i := by
  have h := us_keep hi (fnd (M 20 x) (tbx M x) - w)
  rw [show w + (fnd (M 20 x) (tbx M x) - w) = fnd (M 20 x) (tbx M x) by omega] at h
  exact h.2
theorem CU_fr {M : mN} {D : Nat → Int64} {x c : Nat} {V V' : cV} {Z Z' : cZ} (h : CU M D x c V Z) (h8 : V' 8 0 = V 8 0) (h9 : ∀ k, V' 9 (1 + k) = V 9 (1 + k)) (z8 : Z' 8 = Z 8) : CU M D x c V' Z' := by
  refine ⟨by rw [h8]; exact h.1, fun i hi k hk => by rw [h9 k]; exact h.2.1 i hi k hk, ?_⟩
  rw [z8]
  exact h.2.2
section CRD
variable {dA : Nat → ClassId} {zz : Nat → Nat} {M : mN} {D : Nat → Int64} {mn : Int32} {L : List Nat} {f : pF}
variable {ad cp : Nat → Nat → Nat} {V : cV} {Z : cZ} {ng : Nat → Nat}
theorem c_read {Q : List Nat → pF → Prop} (h : CH dA zz ad cp V Z L f) (hd : CD M D mn cp V Z ng) (hM : MI M D) {x : Nat} (hx : x < 8) (hQ : ∀ (V' : cV) (Z' : cZ) (f' : pF), CH dA zz ad cp V' Z' L f' → (∀ c j, 12 ≤ c → V' c j = V c j) → (∀ c, c ≠ 8 → c ≠ 12 → Z' c = Z c) → CU M D x (uN M x) V' Z' → Q L f') : wp_X6_read_0 dA zz Q L f (ad 8 0) (ad 14 (1 + x)) := by
  have b600 := (hM.2.2.2.2.2 x hx).1
  have hfl := fnd_le (n := M 20 x) (b := tbx M x)
  unfold wp_X6_read_0
  refine cgR (c := 8) h rfl rfl rfl ⟨cO (c := 10) h rfl rfl, c_words h hd hM hx (fun V1 Z1 f1 h1 fr1 zf1 wr1 => ?_)⟩
  refine cgPi (c := 8) h1 rfl rfl 0 (by show 9 < 13; decide) rfl (fun f2 h2 => cgPl (c := 8) h2 rfl (fun i hi => hi) rfl 0 (by show 10 < 13; decide) rfl (fun f3 h3 => cgPl (c := 8) h3 rfl (fun i hi => hi) rfl 1 (by show 11 < 13; decide) rfl (fun f4 h4 => cgPl (c := 8) h4 rfl (fun i hi => hi) rfl 2 (by show 12 < 13; decide) rfl (fun f5 h5 => ?_))))
  obtain ⟨V5, hV5⟩ : ∃ V5, V5 = vst V1 8 0 0 0 := ⟨_, rfl⟩
  obtain ⟨Z5, hZ5⟩ : ∃ Z5, Z5 = zst (zst (zst Z1 8 0 0) 8 1 0) 8 2 0 := ⟨_, rfl⟩
  rw [← hV5, ← hZ5] at h5
  have fz5 : ∀ k, k ≠ 8 → Z5 k = Z1 k := fun k hk => by rw [hZ5, zst_c hk, zst_c hk, zst_c hk]
  have fr5 : ∀ k, k ≠ 8 → V5 k = V1 k := fun k hk => by rw [hV5, vst_c hk]
  have b0 : Z5 8 0 = 0 := by rw [hZ5, zst_j (by decide), zst_j (by decide), zst_v]
  have b1 : Z5 8 1 = 0 := by rw [hZ5, zst_j (by decide), zst_v]
  have b2 : Z5 8 2 = 0 := by rw [hZ5, zst_v]
  have T5 : WT M x V5 Z5 := WT_fr wr1.wt (fr5 10 (by decide)) (fr5 11 (by decide)) (fz5 12 (by decide))
  have z9 : ∀ {g : Nat}, ¬ tb (0 : Int64) g = true := fun {g} o => by rw [tb_0] at o; exact absurd o (by decide)
  have U5 : CU M D x 0 V5 Z5 := by
    refine ⟨by rw [hV5, vst_v]; rfl, fun i hi => absurd hi (Nat.not_lt_zero i), ?_⟩
    rw [b0, b1, b2]
    exact ⟨fun t => ⟨fun o => absurd o z9, fun ⟨i, hi, _⟩ => absurd hi (Nat.not_lt_zero i)⟩, fun g => ⟨fun o => absurd o z9, fun ⟨i, hi, _⟩ => absurd hi (Nat.not_lt_zero i)⟩, fun g => ⟨fun o => absurd o z9, fun ⟨i, hi, _⟩ => absurd hi (Nat.not_lt_zero i)⟩⟩
  have F5 : (∀ c j, 12 ≤ c → V5 c j = V c j) ∧ ∀ c, c ≠ 8 → c ≠ 12 → Z5 c = Z c := ⟨fun k j hk => by rw [fr5 k (by omega)]; exact fr1 k j (by omega) (by omega), fun k hk1 hk2 => by rw [fz5 k hk1]; exact zf1 k hk2⟩
  obtain ⟨K, hK⟩ : ∃ K, K = fnd (M 20 x) (tbx M x) := ⟨_, rfl⟩
  have key : ∃ n9, wp_X6_read_32 dA zz Q n9 L f5 (ad 8 0) (ad 14 (1 + x)) (nI (bhA M x (us M x 0).1)) (nI 0) := by
    refine pk_loop (σ := cV × cZ × pF) (fun n9 w st => wp_X6_read_32 dA zz Q n9 L st.2.2 (ad 8 0) (ad 14 (1 + x)) (nI (bhA M x (us M x w).1)) (nI w)) (fun w st => CH dA zz ad cp st.1 st.2.1 L st.2.2 ∧ ((∀ c j, 12 ≤ c → st.1 c j = V c j) ∧ ∀ c, c ≠ 8 → c ≠ 12 → st.2.1 c = Z c) ∧ WT M x st.1 st.2.1 ∧ CU M D x (us M x w).2.1 st.1 st.2.1) K 0 (V5, Z5, f5) (Nat.zero_le _) ⟨h5, F5, T5, U5⟩ ?_ ?_
    · rintro n9 ⟨V6, Z6, f6⟩ ⟨h6, F6, T6, U6⟩
      have h6 : CH dA zz ad cp V6 Z6 L f6 := h6
      have T6 : WT M x V6 Z6 := T6
      have U6 : CU M D x (us M x K).2.1 V6 Z6 := U6
      dsimp only
      unfold wp_X6_read_32 wp_X7_size_0
      refine cgR (c := 8) h6 rfl rfl rfl ⟨cO (c := 10) h6 rfl rfl, cgI (c := 10) h6 rfl rfl rfl (bt1 ((i_le K K (hx := by rw [hK]; exact T6.1)).mpr (Nat.le_refl _)) (hQ V6 Z6 f6 h6 F6.1 F6.2 ?_))⟩
      rw [hK] at U6
      exact U6
    · rintro n9 w ⟨V6, Z6, f6⟩ hw ⟨h6, F6, T6, U6⟩ ih
      have h6 : CH dA zz ad cp V6 Z6 L f6 := h6
      have T6 : WT M x V6 Z6 := T6
      have F6 : (∀ c j, 12 ≤ c → V6 c j = V c j) ∧ ∀ c, c ≠ 8 → c ≠ 12 → Z6 c = Z c := F6
      have U6 : CU M D x (us M x w).2.1 V6 Z6 := U6
      have d6 : CD M D mn cp V6 Z6 ng := hd.fr2 (fun k j hk => F6.1 k j (by omega)) (F6.2 5 (by decide) (by decide)) (F6.2 6 (by decide) (by decide))
      have hwf : w < fnd (M 20 x) (tbx M x) := by omega
      obtain ⟨m1, m2, m3⟩ := mw_ok hM hwf
      have hok := us_ok hM (x := x) (w := w) (by omega)
      have hwp := wpA_le (n := M 20 x) (b := tbx M x) w
      have hbl : bhA M x (us M x w).1 ≤ 600 := by
        unfold bhA
        split
        · omega
        · have := weA_le (n := M 20 x) (b := tbx M x) ((us M x w).1 - 1)
          omega
      have next : ∀ (V7 : cV) (Z7 : cZ) (f7 : pF) (b : Int32), CH dA zz ad cp V7 Z7 L f7 → ((∀ c j, 12 ≤ c → V7 c j = V c j) ∧ ∀ c, c ≠ 8 → c ≠ 12 → Z7 c = Z c) → WT M x V7 Z7 → CU M D x (us M x (w + 1)).2.1 V7 Z7 → b = nI (bhA M x (us M x (w + 1)).1) → wp_X6_read_96 dA zz Q (wp_X6_read_32 dA zz Q n9) L f7 (ad 8 0) (ad 14 (1 + x)) b (nI w) := by
        intro V7 Z7 f7 b h7 F7 T7 U7 eb
        unfold wp_X6_read_96
        rintro _ rfl
        rw [nI_1, eb]
        exact ih (V7, Z7, f7) ⟨h7, F7, T7, U7⟩
      dsimp only
      unfold wp_X6_read_32 wp_X7_size_0
      refine cgR (c := 8) h6 rfl rfl rfl ⟨cO (c := 10) h6 rfl rfl, cgI (c := 10) h6 rfl rfl rfl (bf1 (by rw [i_le K w (hx := by rw [hK]; exact T6.1)]; omega) (cgR (c := 8) h6 rfl rfl rfl ⟨cO (c := 10) h6 rfl rfl, c_wbegin h6 hM hx T6 hwf (bq (i_lt (wpA (M 20 x) (tbx M x) w) (bhA M x (us M x w).1)) (fun hl => ?_) (fun hl => ?_))⟩))⟩
      · have hin := us_in ((bh_iff hok.1).mp hl)
        exact next V6 Z6 f6 _ h6 F6 T6 (by rw [hin]; exact U6) (by rw [hin])
      · rw [bh_iff hok.1] at hl
        have hs := us_s M x w
        refine cgR (c := 8) h6 rfl rfl rfl ⟨cO (c := 10) h6 rfl rfl, c_wbegin h6 hM hx T6 hwf ⟨cO (c := 8) h6 rfl rfl, c_most h6 d6 hM hx (by omega) (fun V7 f7 h7 fr7 w7 => ?_)⟩⟩
        have em : mwA M x (wpA (M 20 x) (tbx M x) w) (M 4 0) = mw M x w := rfl
        rw [em] at w7 ⊢
        have F7 : (∀ c j, 12 ≤ c → V7 c j = V c j) ∧ ∀ c, c ≠ 8 → c ≠ 12 → Z6 c = Z c := ⟨fun k j hk => by rw [fr7 k j (by omega)]; exact F6.1 k j hk, F6.2⟩
        have T7 : WT M x V7 Z6 := WT_fr T6 (funext fun j => fr7 10 j (by omega)) (funext fun j => fr7 11 j (by omega)) rfl
        have U7 : CU M D x (us M x w).2.1 V7 Z6 := CU_fr U6 (fr7 8 0 (by omega)) (fun k => fr7 9 (1 + k) (by omega)) rfl
        have d7 : CD M D mn cp V7 Z6 ng := hd.fr2 (fun k j hk => F7.1 k j (by omega)) (F6.2 5 (by decide) (by decide)) (F6.2 6 (by decide) (by decide))
        refine bq (i_le (mw M x w) 0) (fun h0 => ?_) (fun h0 => ⟨cO (c := 8) h7 rfl rfl, ?_⟩)
        · rw [if_neg (fun o => o.2 (by omega))] at hs
          exact next V7 Z6 f7 _ h7 F7 T7 (by rw [hs]; exact U7) (by rw [hs])
        · rw [if_pos ⟨by omega, by omega⟩] at hs
          obtain ⟨_, hsn⟩ := m3 (by omega)
          have hc2 : (us M x (w + 1)).2.1 = (us M x w).2.1 + 1 := by rw [hs]
          have hc1 : (us M x (w + 1)).1 = w + mw M x w := by rw [hs]
          have hff := us_fin (M := M) (x := x) (w := w + 1) (i := (us M x w).2.1) (by omega) (by omega)
          have e1 : (usF M x).2.2.1 (us M x w).2.1 = w := by rw [hff.1, hs]; exact if_pos rfl
          have e2 : (usF M x).2.2.2 (us M x w).2.1 = mw M x w := by rw [hff.2, hs]; exact if_pos rfl
          have hcl := hok.2.2.1
          refine c_keepUse h7 d7 hM hx T7 (by omega) m2 hsn w7 (by omega) U7 e1 e2 (fun V8 Z8 f8 h8 fr8 zf8 T8 U8 => cgR (c := 8) h8 rfl rfl rfl ⟨cO (c := 10) h8 rfl rfl, ?_⟩)
          rw [nI_add, n_sub1 (by omega)]
          refine c_wend h8 hM hx T8 (by omega) (next V8 Z8 f8 _ h8 ⟨fun k j hk => by rw [fr8 k j hk]; exact F7.1 k j hk, fun k hk1 hk2 => by rw [zf8 k hk1]; exact F6.2 k hk1 hk2⟩ T8 (by rw [hc2]; exact U8) ?_)
          rw [hc1]
          unfold bhA
          rw [if_neg (by omega)]
  exact key
end CRD
section KUS
variable {dA : Nat → ClassId} {zz : Nat → Nat} {x0 ou : Nat} {M : mN} {D : Nat → Int64} {mn : Int32} {L : List Nat} {f : pF}
variable {ad cp : Nat → Nat → Nat} {V : cV} {Z : cZ} {ng : Nat → Nat}
theorem k_uses {Q : Int32 → List Nat → pF → Prop} {X : String → List Nat → pF → Prop} (h : CI dA zz x0 ou M D mn L f) (hM : MI M D) (a : Int32) (yes : ∀ x, x < 8 → a = nI x → ∀ (L' : List Nat) (f' : pF), CI dA zz x0 ou M D mn L' f' → Q (nI (uN M x)) L' f') (no : ¬ okN a 8 → X "java/lang/IllegalArgumentException" L f) : wp_X8_uses_0 dA zz Q X L f x0 a := by
  obtain ⟨ad, cp, V, Z, ng, h, rfl, rfl, hd⟩ := h
  unfold wp_X8_uses_0 wp_X6_size_0
  refine cgR (c := 0) h rfl rfl rfl ⟨cO (c := 0) h rfl rfl, k_needText h a (fun x hx ht => ⟨cO (c := 8) h rfl rfl, c_read h hd hM hx (fun V1 Z1 f1 h1 fr1 zf1 U1 => cgR (c := 0) h1 rfl rfl rfl ⟨cO (c := 8) h1 rfl rfl, cgI (c := 8) h1 rfl rfl rfl ?_⟩)⟩) no⟩
  rw [U1.1]
  exact yes x hx ht L f1 ⟨ad, cp, V1, Z1, ng, h1, rfl, rfl, hd.fr2 (fun k j hk => fr1 k j (by omega)) (zf1 5 (by decide) (by decide)) (zf1 6 (by decide) (by decide))⟩
theorem c_hold {Q : Int32 → List Nat → pF → Prop} (h : CH dA zz ad cp V Z L f) {c : Nat} (a : Int32) (hc : V 8 0 0 = nI c) (hc2 : c ≤ 300) (yes : ∀ i, i < c → a = nI i → Q 1 L f) (no : ¬ okN a c → Q 0 L f) : wp_X6_holds_0 dA zz Q L f (ad 8 0) a := by
  unfold wp_X6_holds_0
  refine ⟨fun h9 => no (fun o => o.1 h9), fun h9 => cgI (c := 8) h rfl rfl rfl ?_⟩
  obtain ⟨i, hi, rfl⟩ := n_of h9
  refine bq (i_le c i (hx := hc)) (fun h8 => no (fun o => ?_)) (fun h8 => yes i (by omega) rfl)
  have := (n_lt hi (by omega)).mp o.2
  omega
theorem c_u0 {Q : Int32 → List Nat → pF → Prop} (h : CH dA zz ad cp V Z L f) {x c : Nat} (a : Int32) (hU : CU M D x c V Z) (hc : c ≤ 300) (yes : ∀ i, i < c → a = nI i → Q (aUse M D x i 0) L f) (no : ¬ okN a c → Q (-1) L f) : wp_X6_beginOf_0 dA zz Q L f (ad 8 0) a := by
  unfold wp_X6_beginOf_0
  refine ⟨cO (c := 8) h rfl rfl, c_hold h a hU.1 hc (fun i hi ha => bf1 (by decide) (cgR (c := 8) h rfl rfl rfl (caI (c := 9) (i := 1) (n := 300) h (lv_9 (by decide)) rfl i ha (by omega) (by decide) ?_))) (fun o => bt1 rfl (no o))⟩
  rw [show (1 : Nat) = 1 + 0 from rfl, hU.2.1 i hi 0 (by decide)]
  exact yes i hi ha
theorem c_u1 {Q : Int32 → List Nat → pF → Prop} (h : CH dA zz ad cp V Z L f) {x c : Nat} (a : Int32) (hU : CU M D x c V Z) (hc : c ≤ 300) (yes : ∀ i, i < c → a = nI i → Q (aUse M D x i 1) L f) (no : ¬ okN a c → Q (-1) L f) : wp_X6_endOf_0 dA zz Q L f (ad 8 0) a := by
  unfold wp_X6_endOf_0
  refine ⟨cO (c := 8) h rfl rfl, c_hold h a hU.1 hc (fun i hi ha => bf1 (by decide) (cgR (c := 8) h rfl rfl rfl (caI (c := 9) (i := 2) (n := 300) h (lv_9 (by decide)) rfl i ha (by omega) (by decide) ?_))) (fun o => bt1 rfl (no o))⟩
  rw [show (2 : Nat) = 1 + 1 from rfl, hU.2.1 i hi 1 (by decide)]
  exact yes i hi ha
theorem c_u2 {Q : Int32 → List Nat → pF → Prop} (h : CH dA zz ad cp V Z L f) {x c : Nat} (a : Int32) (hU : CU M D x c V Z) (hc : c ≤ 300) (yes : ∀ i, i < c → a = nI i → Q (aUse M D x i 2) L f) (no : ¬ okN a c → Q (-1) L f) : wp_X6_termOf_0 dA zz Q L f (ad 8 0) a := by
  unfold wp_X6_termOf_0
  refine ⟨cO (c := 8) h rfl rfl, c_hold h a hU.1 hc (fun i hi ha => bf1 (by decide) (cgR (c := 8) h rfl rfl rfl (caI (c := 9) (i := 3) (n := 300) h (lv_9 (by decide)) rfl i ha (by omega) (by decide) ?_))) (fun o => bt1 rfl (no o))⟩
  rw [show (3 : Nat) = 1 + 2 from rfl, hU.2.1 i hi 2 (by decide)]
  exact yes i hi ha
theorem c_u3 {Q : Int32 → List Nat → pF → Prop} (h : CH dA zz ad cp V Z L f) {x c : Nat} (a : Int32) (hU : CU M D x c V Z) (hc : c ≤ 300) (yes : ∀ i, i < c → a = nI i → Q (aUse M D x i 3) L f) (no : ¬ okN a c → Q (-1) L f) : wp_X6_endingOf_0 dA zz Q L f (ad 8 0) a := by
  unfold wp_X6_endingOf_0
  refine ⟨cO (c := 8) h rfl rfl, c_hold h a hU.1 hc (fun i hi ha => bf1 (by decide) (cgR (c := 8) h rfl rfl rfl (caI (c := 9) (i := 4) (n := 300) h (lv_9 (by decide)) rfl i ha (by omega) (by decide) ?_))) (fun o => bt1 rfl (no o))⟩
  rw [show (4 : Nat) = 1 + 3 from rfl, hU.2.1 i hi 3 (by decide)]
  exact yes i hi ha
theorem c_u4 {Q : Int32 → List Nat → pF → Prop} (h : CH dA zz ad cp V Z L f) {x c : Nat} (a : Int32) (hU : CU M D x c V Z) (hc : c ≤ 300) (yes : ∀ i, i < c → a = nI i → Q (aUse M D x i 4) L f) (no : ¬ okN a c → Q (-1) L f) : wp_X6_findingOf_0 dA zz Q L f (ad 8 0) a := by
  unfold wp_X6_findingOf_0
  refine ⟨cO (c := 8) h rfl rfl, c_hold h a hU.1 hc (fun i hi ha => bf1 (by decide) (cgR (c := 8) h rfl rfl rfl (caI (c := 9) (i := 5) (n := 300) h (lv_9 (by decide)) rfl i ha (by omega) (by decide) ?_))) (fun o => bt1 rfl (no o))⟩
  rw [show (5 : Nat) = 1 + 4 from rfl, hU.2.1 i hi 4 (by decide)]
  exact yes i hi ha
theorem k_use {Q : Int32 → List Nat → pF → Prop} {X : String → List Nat → pF → Prop} (h : CI dA zz x0 ou M D mn L f) (hM : MI M D) (a b c : Int32) (yes : ∀ x i k, x < 8 → i < uN M x → k < 5 → a = nI x → b = nI i → c = nI k → ∀ (L' : List Nat) (f' : pF), CI dA zz x0 ou M D mn L' f' → Q (aUse M D x i k) L' f') (none : ∀ x, x < 8 → a = nI x → ¬ (okN b (uN M x) ∧ okN c 5) → ∀ (L' : List Nat) (f' : pF), CI dA zz x0 ou M D mn L' f' → X "java/util/NoSuchElementException" L' f') (no : ¬ okN a 8 → X "java/lang/IllegalArgumentException" L f) : wp_X8_use_0 dA zz Q X L f x0 a b c := by
  obtain ⟨ad, cp, V, Z, ng, h, rfl, rfl, hd⟩ := h
  unfold wp_X8_use_0 wp_X6_size_0 wp_X8_use_27
  refine cgR (c := 0) h rfl rfl rfl ⟨cO (c := 0) h rfl rfl, k_needText h a (fun x hx ht => ⟨cO (c := 8) h rfl rfl, c_read h hd hM hx (fun V1 Z1 f1 h1 fr1 zf1 U1 => ?_)⟩) no⟩
  have c1 : CI dA zz (ad 0 0) (ad 18 0) M D mn L f1 := ⟨ad, cp, V1, Z1, ng, h1, rfl, rfl, hd.fr2 (fun k j hk => fr1 k j (by omega)) (zf1 5 (by decide) (by decide)) (zf1 6 (by decide) (by decide))⟩
  have hu := uN_le hM hx
  refine ⟨fun h9 => none x hx ht (fun o => o.1.1 h9) L f1 c1, fun h9 => cgR (c := 0) h1 rfl rfl rfl ⟨cO (c := 8) h1 rfl rfl, cgI (c := 8) h1 rfl rfl rfl ?_⟩⟩
  obtain ⟨i, hi, rfl⟩ := n_of h9
  refine bq (i_lt i (uN M x) (hy := U1.1)) (fun h8 => ?_) (fun h8 => none x hx ht (fun o => h8 ((n_lt hi (by omega)).mp o.1.2)) L f1 c1)
  have y : ∀ k, k < 5 → c = nI k → ∀ j, j < uN M x → nI i = nI j → Q (aUse M D x j k) L f1 := fun k hk e j hj e2 => yes x j k hx hj hk ht e2 e L f1 c1
  have ok : okN (nI i) (uN M x) := okN_i h8 (by omega)
  refine ⟨fun e => cgR (c := 0) h1 rfl rfl rfl ⟨cO (c := 8) h1 rfl rfl, c_u0 h1 _ U1 hu (y 0 (by decide) e) (fun o => absurd ok o)⟩, fun e => cgR (c := 0) h1 rfl rfl rfl ⟨cO (c := 8) h1 rfl rfl, c_u1 h1 _ U1 hu (y 1 (by decide) e) (fun o => absurd ok o)⟩, fun e => cgR (c := 0) h1 rfl rfl rfl ⟨cO (c := 8) h1 rfl rfl, c_u2 h1 _ U1 hu (y 2 (by decide) e) (fun o => absurd ok o)⟩, fun e => cgR (c := 0) h1 rfl rfl rfl ⟨cO (c := 8) h1 rfl rfl, c_u3 h1 _ U1 hu (y 3 (by decide) e) (fun o => absurd ok o)⟩, fun e => cgR (c := 0) h1 rfl rfl rfl ⟨cO (c := 8) h1 rfl rfl, c_u4 h1 _ U1 hu (y 4 (by decide) e) (fun o => absurd ok o)⟩, fun q0 q1 q2 q3 q4 => none x hx ht (fun o => ?_) L f1 c1⟩
  obtain ⟨k, hk, rfl⟩ := okN_of o.2 (by decide)
  have hk5 : k = 0 ∨ k = 1 ∨ k = 2 ∨ k = 3 ∨ k = 4 := by omega
  rcases hk5 with e | e | e | e | e
  · exact q0 (by rw [e]; rfl)
  · exact q1 (by rw [e]; rfl)
  · exact q2 (by rw [e]; rfl)
  · exact q3 (by rw [e]; rfl)
  · exact q4 (by rw [e]; rfl)
theorem c_usesOf {Q : Int32 → List Nat → pF → Prop} (h : CH dA zz ad cp V Z L f) (hM : MI M D) {x t : Nat} (hx : x < 8) (ht : t < M 4 0) (hU : CU M D x (uN M x) V Z) (hQ : Q (nI (ctU M t x)) L f) : wp_X6_usesOf_0 dA zz Q L f (ad 8 0) (nI t) := by
  have hu := uN_le hM hx
  have h60 := hM.2.2.1.1
  unfold wp_X6_usesOf_0
  refine pk_loop (σ := Unit) (fun n9 i _ => wp_X6_usesOf_4 dA zz Q n9 L f (ad 8 0) (nI t) (nI (fb_ct (fun i => decide (tmU M x i = t + 1)) i)) (nI i)) (fun _ _ => True) (uN M x) 0 () (Nat.zero_le _) trivial ?_ ?_
  · intro n9 _ _
    unfold wp_X6_usesOf_4
    exact cgI (c := 8) h rfl rfl rfl (bt1 ((i_le (uN M x) (uN M x) (hx := hU.1)).mpr (Nat.le_refl _)) hQ)
  · intro n9 i _ hi _ ih
    have next : ∀ c, c = fb_ct (fun i => decide (tmU M x i = t + 1)) (i + 1) → wp_X6_usesOf_25 dA zz Q (wp_X6_usesOf_4 dA zz Q n9) L f (ad 8 0) (nI t) (nI c) (nI i) := by
      intro c hc
      unfold wp_X6_usesOf_25
      rintro _ rfl
      rw [nI_1, hc]
      exact ih () trivial
    have hs := fb_ct_succ (fun i => decide (tmU M x i = t + 1)) i
    have e3 : V 9 3 i = wyR (tmU M x i) := hU.2.1 i hi 2 (by decide)
    have hcl : tmU M x i ≤ M 4 0 := chT_le
    unfold wp_X6_usesOf_4
    refine cgI (c := 8) h rfl rfl rfl (bf1 (by rw [i_le (uN M x) i (hx := hU.1)]; omega) (cgR (c := 8) h rfl rfl rfl (caI (c := 9) (i := 3) (n := 300) h (lv_9 (by decide)) rfl i rfl (by omega) (by decide) ?_)))
    rw [e3, ← wyR_s t]
    refine bn (wyR_eq (by omega) (by omega)) (fun e => ?_) (fun e => ?_)
    · rintro _ rfl
      rw [wyR_s, nI_1]
      refine next _ ?_
      rw [hs, decide_eq_true e]
      rfl
    · rw [wyR_s]
      refine next _ ?_
      rw [hs, decide_eq_false e]
      rfl
theorem k_count {Q : Int32 → List Nat → pF → Prop} {X : String → List Nat → pF → Prop} (h : CI dA zz x0 ou M D mn L f) (hM : MI M D) (a : Int32) (yes : ∀ t, t < M 4 0 → a = nI t → ∀ (L' : List Nat) (f' : pF), CI dA zz x0 ou M D mn L' f' → Q (nI (ctA M t 8)) L' f') (no : ¬ okN a (M 4 0) → X "java/util/NoSuchElementException" L f) : wp_X8_count_0 dA zz Q X L f x0 a := by
  obtain ⟨ad, cp, V, Z, ng, h, rfl, rfl, hd⟩ := h
  unfold wp_X8_count_0
  refine ⟨cO (c := 0) h rfl rfl, k_needTerm h hd hM a (fun t ht ha => ?_) no⟩
  refine cgR (c := 0) h rfl rfl rfl ⟨_, ⟨(h.1 1 0 rfl).1, (h.1 1 0 rfl).2⟩, ?_⟩
  have y := yes t ht ha
  subst ha
  obtain ⟨N, hN⟩ : ∃ N : Nat, N = 8 := ⟨_, rfl⟩
  rw [← hN] at y
  have key : ∃ n9, wp_X8_count_20 dA zz Q X n9 L f (ad 0 0) (nI t) (nI (ctA M t 0)) (ad 1 0) (nI 8) (nI 0) := by
    refine pk_loop (σ := cV × cZ × pF) (fun n9 x st => wp_X8_count_20 dA zz Q X n9 L st.2.2 (ad 0 0) (nI t) (nI (ctA M t x)) (ad 1 0) (nI 8) (nI x)) (fun x st => CH dA zz ad cp st.1 st.2.1 L st.2.2 ∧ (∀ c j, 12 ≤ c → st.1 c j = V c j) ∧ ∀ c, c ≠ 8 → c ≠ 12 → st.2.1 c = Z c) N 0 (V, Z, f) (Nat.zero_le _) ⟨h, fun _ _ _ => rfl, fun _ _ _ => rfl⟩ ?_ ?_
    · rintro n9 ⟨V1, Z1, f1⟩ ⟨h1, fr1, zf1⟩
      have h1 : CH dA zz ad cp V1 Z1 L f1 := h1
      have fr1 : ∀ c j, 12 ≤ c → V1 c j = V c j := fr1
      have zf1 : ∀ c, c ≠ 8 → c ≠ 12 → Z1 c = Z c := zf1
      dsimp only
      unfold wp_X8_count_20
      exact bt1 ((i_le 8 N).mpr (by omega)) (y L f1 ⟨ad, cp, V1, Z1, ng, h1, rfl, rfl, hd.fr2 (fun k j hk => fr1 k j (by omega)) (zf1 5 (by decide) (by decide)) (zf1 6 (by decide) (by decide))⟩)
    · rintro n9 x ⟨V1, Z1, f1⟩ hx ⟨h1, fr1, zf1⟩ ih
      have h1 : CH dA zz ad cp V1 Z1 L f1 := h1
      have fr1 : ∀ c j, 12 ≤ c → V1 c j = V c j := fr1
      have zf1 : ∀ c, c ≠ 8 → c ≠ 12 → Z1 c = Z c := zf1
      have hx8 : x < 8 := by omega
      have d1 : CD M D mn cp V1 Z1 ng := hd.fr2 (fun k j hk => fr1 k j (by omega)) (zf1 5 (by decide) (by decide)) (zf1 6 (by decide) (by decide))
      dsimp only
      unfold wp_X8_count_20
      refine bf1 (by rw [i_le 8 x]; omega) ⟨8, _, ad 14 (1 + x), ⟨(h1.1 1 0 rfl).1, (h1.1 1 0 rfl).2, n_in hx8 (by decide), ?_⟩, cgR (c := 0) h1 rfl rfl rfl ⟨cO (c := 8) h1 rfl rfl, c_read h1 d1 hM hx8 (fun V2 Z2 f2 h2 fr2 zf2 U2 => cgR (c := 0) h2 rfl rfl rfl ⟨cO (c := 8) h2 rfl rfl, c_usesOf h2 hM hx8 ht U2 ?_⟩)⟩⟩
      · rw [n_cl (by omega)]
        show (if x < 8 then some (ad 14 (x + 1)) else none) = _
        rw [if_pos hx8, Nat.add_comm]
      · rintro _ rfl _ rfl
        rw [nI_add, nI_1]
        exact ih (V2, Z2, f2) ⟨h2, fun k j hk => (fr2 k j hk).trans (fr1 k j hk), fun k hk1 hk2 => (zf2 k hk1 hk2).trans (zf1 k hk1 hk2)⟩
  exact key
theorem ahd_mk {x g : Nat} : ahd M (tmU M x) (uN M x) g false ↔ ∃ t, mkA M x (uN M x) g t := by
  constructor
  · rintro ⟨i, hi, h1, h2, _⟩
    exact ⟨tmU M x i - 1, i, hi, by omega, h2⟩
  · rintro ⟨t, i, hi, h1, h2⟩
    exact ⟨i, hi, by omega, by rw [h1, Nat.add_sub_cancel]; exact h2, fun o => absurd o (by decide)⟩
theorem k_crossing {Q : Int64 → List Nat → pF → Prop} {X : String → List Nat → pF → Prop} (h : CI dA zz x0 ou M D mn L f) (hM : MI M D) (a b : Int32) (yes : ∀ x y, x < 8 → y < 8 → a = nI x → b = nI y → ∀ z : Int64, (∀ g, tb z g = true ↔ (g < 40 ∧ crs M x y g)) → ∀ (L' : List Nat) (f' : pF), CI dA zz x0 ou M D mn L' f' → Q z L' f') (no : ¬ (okN a 8 ∧ okN b 8) → X "java/lang/IllegalArgumentException" L f) : wp_X8_crossing_0 dA zz Q X L f x0 a b := by
  obtain ⟨ad, cp, V, Z, ng, h, rfl, rfl, hd⟩ := h
  unfold wp_X8_crossing_0 wp_X6_things_0 wp_X6_terms_0
  refine ⟨cO (c := 0) h rfl rfl, k_needText h a (fun x hx ha => ⟨cO (c := 0) h rfl rfl, k_needText h b (fun y hy hb => ?_) (fun o => no (fun o9 => o o9.2))⟩) (fun o => no (fun o9 => o o9.1))⟩
  refine cgR (c := 0) h rfl rfl rfl ⟨cO (c := 8) h rfl rfl, c_read h hd hM hx (fun V1 Z1 f1 h1 fr1 zf1 U1 => ?_)⟩
  have d1 : CD M D mn cp V1 Z1 ng := hd.fr2 (fun k j hk => fr1 k j (by omega)) (zf1 5 (by decide) (by decide)) (zf1 6 (by decide) (by decide))
  refine cgR (c := 0) h1 rfl rfl rfl ⟨cO (c := 8) h1 rfl rfl, cgJ (c := 8) h1 rfl rfl rfl (cgR (c := 0) h1 rfl rfl rfl ⟨cO (c := 8) h1 rfl rfl, cgJ (c := 8) h1 rfl rfl rfl (cgR (c := 0) h1 rfl rfl rfl ⟨cO (c := 8) h1 rfl rfl, c_read h1 d1 hM hy (fun V2 Z2 f2 h2 fr2 zf2 U2 => ?_)⟩)⟩)⟩
  have d2 : CD M D mn cp V2 Z2 ng := d1.fr2 (fun k j hk => fr2 k j (by omega)) (zf2 5 (by decide) (by decide)) (zf2 6 (by decide) (by decide))
  refine cgR (c := 0) h2 rfl rfl rfl ⟨cO (c := 8) h2 rfl rfl, cgJ (c := 8) h2 rfl rfl rfl (cgR (c := 0) h2 rfl rfl rfl (cgR (c := 0) h2 rfl rfl rfl ⟨cO (c := 8) h2 rfl rfl, cgJ (c := 8) h2 rfl rfl rfl ⟨cO (c := 2) h2 rfl rfl, c_thingsOf h2 d2 hM _ (yes x y hx hy ha hb _ (fun g => ?_) L f2 ⟨ad, cp, V2, Z2, ng, h2, rfl, rfl, d2⟩)⟩⟩))⟩
  have hth : tb (thI M (Z1 8 0 &&& Z2 8 0) (M 4 0)) g = true ↔ ∃ t, mkA M x (uN M x) g t ∧ mkA M y (uN M y) g t := by
    rw [thI_in hM (Nat.le_refl _)]
    constructor
    · rintro ⟨t, t1, t2, t3⟩
      rw [tb_and, Bool.and_eq_true, U1.2.2.1 t, U2.2.2.1 t] at t2
      obtain ⟨⟨i, i1, i2⟩, j, j1, j2⟩ := t2
      exact ⟨t, ⟨i, i1, i2, t3⟩, j, j1, j2, t3⟩
    · rintro ⟨t, ⟨i, i1, i2, t3⟩, j, j1, j2, _⟩
      have hcl : tmU M x i ≤ M 4 0 := chT_le
      refine ⟨t, by omega, ?_, t3⟩
      rw [tb_and, Bool.and_eq_true, U1.2.2.1 t, U2.2.2.1 t]
      exact ⟨⟨i, i1, i2⟩, j, j1, j2⟩
  rw [tb_and, tb_and, Bool.and_eq_true, Bool.and_eq_true, U1.2.2.2.1 g, U2.2.2.2.1 g, ahd_mk, ahd_mk]
  unfold crs
  constructor
  · rintro ⟨⟨o1, o2⟩, o3⟩
    have g40 : g < 40 := by
      obtain ⟨t, i, i1, i2, i3⟩ := o1
      have hcl : tmU M x i ≤ M 4 0 := chT_le
      have := (hM.2.2.1.2 t (by omega)).2.2.2.2.1
      omega
    refine ⟨g40, o1, o2, fun o9 => ?_⟩
    rw [tb_not (by omega), hth.mpr o9] at o3
    exact absurd o3 (by decide)
  · rintro ⟨g40, o1, o2, o3⟩
    refine ⟨⟨o1, o2⟩, ?_⟩
    rw [tb_not (by omega), Bool.not_eq_true']
    apply Classical.byContradiction
    intro h9
    exact o3 (hth.mp (by simpa using h9))
end KUS
