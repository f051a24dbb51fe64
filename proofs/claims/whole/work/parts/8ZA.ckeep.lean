/-! pure: a use found, in the component -/
theorem ff_iff {p : Nat → Bool} {n : Nat} : fa_first p n < n ↔ ∃ k, k < n ∧ p k = true := by
  constructor
  · intro h; exact ⟨_, h, fa_first_yes _ _ h⟩
  · rintro ⟨t, ht, hb⟩
    apply Classical.byContradiction
    intro h9
    have := fa_first_no p n t (by have := fa_first_le p n; omega)
    rw [this] at hb
    exact absurd hb (by decide)
theorem ahd_s {M : mN} {tm : Nat → Nat} {c g : Nat} {gd : Bool} : ahd M tm (c + 1) g gd ↔ ahd M tm c g gd ∨ (tm c ≠ 0 ∧ M 11 (tm c - 1) = g ∧ (gd = true → M 12 (tm c - 1) = 0)) := by
  constructor
  · rintro ⟨k, hk, hb⟩
    by_cases e : k = c
    · rw [e] at hb; exact Or.inr hb
    · exact Or.inl ⟨k, by omega, hb⟩
  · rintro (⟨k, hk, hb⟩ | hb)
    · exact ⟨k, by omega, hb⟩
    · exact ⟨c, Nat.lt_succ_self c, hb⟩
theorem WT_fr {M : mN} {x : Nat} {V V' : cV} {Z Z' : cZ} (h : WT M x V Z) (h10 : V' 10 = V 10) (h11 : V' 11 = V 11) (z12 : Z' 12 = Z 12) : WT M x V' Z' := by
  unfold WT
  rw [h10, h11, z12]
  exact h
theorem use5 {V : cV} {c : Nat} {a0 a1 a2 a3 a4 : Int32} {k i : Nat} (hk : k < 5) : vst (vst (vst (vst (vst V 9 1 c a0) 9 2 c a1) 9 3 c a2) 9 4 c a3) 9 5 c a4 9 (1 + k) i = if i = c then (if k = 0 then a0 else if k = 1 then a1 else if k = 2 then a2 else if k = 3 then a3 else a4) else V 9 (1 + k) i := by
  have : k = 0 ∨ k = 1 ∨ k = 2 ∨ k = 3 ∨ k = 4 := by omega
  rcases this with rfl | rfl | rfl | rfl | rfl <;> simp [vst, upd]
/-- the uses that the component holds, the first c -/
def CU (M : mN) (D : Nat → Int64) (x c : Nat) (V : cV) (Z : cZ) : Prop := V 8 0 0 = nI c ∧ (∀ i, i < c → ∀ k, k < 5 → V 9 (1 + k) i = aUse M D x i k) ∧ (∀ t, tb (Z 8 0) t = true ↔ ∃ i, i < c ∧ tmU M x i = t + 1) ∧ (∀ g, tb (Z 8 1) g = true ↔ ahd M (tmU M x) c g false) ∧ (∀ g, tb (Z 8 2) g = true ↔ ahd M (tmU M x) c g true)
section CKE
variable {dA : Nat → ClassId} {zz : Nat → Nat} {M : mN} {D : Nat → Int64} {mn : Int32} {L : List Nat} {f : pF}
variable {ad cp : Nat → Nat → Nat} {V : cV} {Z : cZ} {ng : Nat → Nat}
theorem c_expl {Q : Int32 → List Nat → pF → Prop} (h : CH dA zz ad cp V Z L f) (hd : CD M D mn cp V Z ng) (hM : MI M D) {d : Nat} {s : Int64} (hdl : d < 40) (yes : (¬ ∃ g, g < 40 ∧ tb (D d) g = true ∧ M 18 g = 0 ∧ ¬ tb s g = true) → Q 1 L f) (no : (∃ g, g < 40 ∧ tb (D d) g = true ∧ M 18 g = 0 ∧ ¬ tb s g = true) → Q 0 L f) : wp_X0_explainedBy_0 dA zz Q L f (ad 5 0) (nI d) s := by
  have hk := hd.Z5
  have key : D d &&& ((s ||| Z 5 0) ^^^ (-1)) ≠ 0 ↔ ∃ g, g < 40 ∧ tb (D d) g = true ∧ M 18 g = 0 ∧ ¬ tb s g = true := by
    rw [tb_meet]
    constructor
    · rintro ⟨g, g1, g2, g3⟩
      rw [tb_not g1, tb_or, hk g g1, Bool.not_eq_true', Bool.or_eq_false_iff] at g3
      have g40 : g < 40 := by
        apply Classical.byContradiction
        intro h9
        have := (hM.2.2.2.2.1 d hdl).1 g (by omega)
        rw [this] at g2
        exact absurd g2 (by decide)
      have m18 := (hM.2.2.2.2.1 g g40).2
      have g4 := of_decide_eq_false g3.2
      exact ⟨g, g40, g2, by omega, by rw [g3.1]; decide⟩
    · rintro ⟨g, g1, g2, g3, g4⟩
      refine ⟨g, by omega, g2, ?_⟩
      rw [tb_not (by omega), tb_or, hk g (by omega), Bool.not_eq_true', Bool.or_eq_false_iff]
      exact ⟨by simpa using g4, decide_eq_false (fun o => by have := o.2; omega)⟩
  unfold wp_X0_explainedBy_0 wp_X0_explainedBy_32
  refine bf1 (n_lt0 (by omega)) (bf1 (by rw [i_le 40 d]; omega) (cgR (c := 5) h rfl rfl rfl (caJ (c := 6) (n := 40) h rfl rfl d rfl hdl (by decide) (cgJ (c := 5) h rfl rfl rfl ?_))))
  rw [hd.Z6]
  refine bn lc_0 (fun e => yes (fun o => (key.mpr o) e)) (fun e => no (key.mp e))
theorem c_finding {Q : Int32 → List Nat → pF → Prop} (h : CH dA zz ad cp V Z L f) (hd : CD M D mn cp V Z ng) (hM : MI M D) {tm : Nat → Nat} {c : Nat} (htm : tm c ≤ M 4 0) (h1 : ∀ g, tb (Z 8 1) g = true ↔ ahd M tm c g false) (h2 : ∀ g, tb (Z 8 2) g = true ↔ ahd M tm c g true) (hQ : Q (nI (fdA M D tm c)) L f) : wp_X6_findingNow_0 dA zz Q L f (ad 8 0) (wyR (tm c)) := by
  have h60 := hM.2.2.1.1
  have hf : fdA M D tm c = if tm c = 0 then 1 else if M 12 (tm c - 1) = 1 then 2 else if M 12 (tm c - 1) = 2 ∧ ¬ ahd M tm c (M 11 (tm c - 1)) true then 3 else if fa_first (fun g => decide (unk M D tm c (M 11 (tm c - 1)) g)) 40 < 40 then 4 else 0 := rfl
  unfold wp_X6_findingNow_0
  refine cgR (c := 8) h rfl rfl rfl ⟨cO (c := 2) h rfl rfl, c_holds h _ (fun o => bf2 (by decide) ?_) (fun o => bt2 rfl ?_)⟩
  · by_cases e0 : tm c = 0
    · rw [e0] at o
      exact absurd (show wyR 0 < 0 by decide) o.1
    · obtain ⟨t, et⟩ : ∃ t, tm c = t + 1 := ⟨tm c - 1, by omega⟩
      have ht : t < M 4 0 := by omega
      have l16 : t < cp 3 1 := by rw [hd.c31]; exact ht
      obtain ⟨_, k1, _, k3⟩ := (hd.T ht).1
      have q := hM.2.2.1.2 t ht
      have q11 := q.2.2.2.2.1
      have q12 := q.2.2.2.2.2.1
      rw [if_neg e0, et, Nat.add_sub_cancel] at hf
      rw [et, wyR_s]
      have rest : M 12 t ≠ 1 → ¬ (M 12 t = 2 ∧ ¬ ahd M tm c (M 11 t) true) → wp_X6_findingNow_58 dA zz Q L f (ad 8 0) (ad 16 t) := by
        intro n1 n2
        rw [if_neg n1, if_neg n2] at hf
        unfold wp_X6_findingNow_58
        refine cgR (c := 8) h rfl rfl rfl (cgI (c := 16) h (lv_16 h l16) rfl rfl (cgJ (c := 8) h rfl rfl rfl ⟨cO (c := 5) h rfl rfl, ?_⟩))
        rw [k1]
        have ex : (∃ g, g < 40 ∧ tb (D (M 11 t)) g = true ∧ M 18 g = 0 ∧ ¬ tb (Z 8 1) g = true) ↔ fa_first (fun g => decide (unk M D tm c (M 11 t) g)) 40 < 40 := by
          rw [ff_iff]
          constructor
          · rintro ⟨g, g1, g2, g3, g4⟩
            exact ⟨g, g1, decide_eq_true ⟨g2, g3, fun o9 => g4 ((h1 g).mpr o9)⟩⟩
          · rintro ⟨g, g1, g2⟩
            obtain ⟨g2, g3, g4⟩ := of_decide_eq_true g2
            exact ⟨g, g1, g2, g3, fun o9 => g4 ((h1 g).mp o9)⟩
        refine c_expl h hd hM q11 (fun o9 => bf1 (by decide) ?_) (fun o9 => bt1 rfl ?_)
        · rw [hf, if_neg (fun o8 => o9 (ex.mpr o8))] at hQ; exact hQ
        · rw [hf, if_pos (ex.mp o9)] at hQ; exact hQ
      refine cgR (c := 8) h rfl rfl rfl ⟨cO (c := 2) h rfl rfl, c_termAt h t l16 (cgI (c := 16) h (lv_16 h l16) rfl rfl (bn (i_eq (M 12 t) 1 (hx := k3)) (fun e1 => ?_) (fun e1 => cgI (c := 16) h (lv_16 h l16) rfl rfl (bn (i_eq (M 12 t) 2 (hx := k3)) (fun e2 => cgJ (c := 8) h rfl rfl rfl (cgI (c := 16) h (lv_16 h l16) rfl rfl ?_)) (fun e2 => rest e1 (fun o9 => e2 o9.1))))))⟩
      · rw [hf, if_pos e1] at hQ; exact hQ
      · rw [k1]
        refine bn (tb_c0 (by omega)) (fun hb => ?_) (fun hb => rest e1 (fun o9 => o9.2 ((h2 _).mp (by simpa using hb))))
        have na : ¬ ahd M tm c (M 11 t) true := fun o9 => by rw [(h2 _).mpr o9] at hb; exact absurd hb (by decide)
        rw [hf, if_neg e1, if_pos ⟨e2, na⟩] at hQ
        exact hQ
  · by_cases e0 : tm c = 0
    · rw [hf, if_pos e0] at hQ; exact hQ
    · obtain ⟨t, et⟩ : ∃ t, tm c = t + 1 := ⟨tm c - 1, by omega⟩
      rw [et, wyR_s, hd.c31] at o
      exact absurd (okN_i (by omega) (by omega)) o
theorem c_see {Q : List Nat → pF → Prop} (h : CH dA zz ad cp V Z L f) (hd : CD M D mn cp V Z ng) (hM : MI M D) {tc : Nat} (htc : tc ≤ M 4 0) (hQ : ∀ (Z' : cZ) (f' : pF), CH dA zz ad cp V Z' L f' → (∀ c, c ≠ 8 → Z' c = Z c) → (∀ t, tb (Z' 8 0) t = true ↔ tb (Z 8 0) t = true ∨ tc = t + 1) → (∀ g, tb (Z' 8 1) g = true ↔ tb (Z 8 1) g = true ∨ (tc ≠ 0 ∧ M 11 (tc - 1) = g)) → (∀ g, tb (Z' 8 2) g = true ↔ tb (Z 8 2) g = true ∨ (tc ≠ 0 ∧ M 11 (tc - 1) = g ∧ M 12 (tc - 1) = 0)) → Q L f') : wp_X6_see_0 dA zz Q L f (ad 8 0) (wyR tc) := by
  have h60 := hM.2.2.1.1
  unfold wp_X6_see_0
  refine cgR (c := 8) h rfl rfl rfl ⟨cO (c := 2) h rfl rfl, c_holds h _ (fun o => bf2 (by decide) ?_) (fun o => bt2 rfl ?_)⟩
  · by_cases e0 : tc = 0
    · rw [e0] at o
      exact absurd (show wyR 0 < 0 by decide) o.1
    · obtain ⟨t, et⟩ : ∃ t, tc = t + 1 := ⟨tc - 1, by omega⟩
      have ht : t < M 4 0 := by omega
      have l16 : t < cp 3 1 := by rw [hd.c31]; exact ht
      obtain ⟨_, k1, _, k3⟩ := (hd.T ht).1
      have q := hM.2.2.1.2 t ht
      have q11 := q.2.2.2.2.1
      have q12 := q.2.2.2.2.2.1
      rw [et, Nat.add_sub_cancel] at hQ
      rw [et, wyR_s]
      refine cgR (c := 8) h rfl rfl rfl ⟨cO (c := 2) h rfl rfl, c_termAt h t l16 (cgJ (c := 8) h rfl rfl rfl (cgPl (c := 8) h rfl (fun i hi => hi) rfl 0 (by show 10 < 13; decide) rfl (fun f1 h1 => cgJ (c := 8) h1 rfl rfl rfl (cgI (c := 16) h1 (lv_16 h1 l16) rfl rfl ?_))))⟩
      rw [k1, zst_j (show (1 : Nat) ≠ 0 by decide)]
      refine cgPl (c := 8) h1 rfl (fun i hi => hi) rfl 1 (by show 11 < 13; decide) rfl (fun f2 h2 => cgI (c := 16) h2 (lv_16 h2 l16) rfl rfl ?_)
      obtain ⟨Z2, hZ2⟩ : ∃ Z2, Z2 = zst (zst Z 8 0 (Z 8 0 ||| ((1 : Int64) <<< ((nI t).toInt64 &&& 63)))) 8 1 (Z 8 1 ||| ((1 : Int64) <<< ((nI (M 11 t)).toInt64 &&& 63))) := ⟨_, rfl⟩
      rw [← hZ2] at h2
      have z0 : ∀ u, tb (Z2 8 0) u = true ↔ tb (Z 8 0) u = true ∨ t + 1 = u + 1 := fun u => by
        rw [hZ2, zst_j (show (0 : Nat) ≠ 1 by decide), zst_v, tb_set (by omega), Bool.or_eq_true, decide_eq_true_iff]
        exact ⟨fun o9 => o9.imp id (fun o8 => by omega), fun o9 => o9.imp id (fun o8 => by omega)⟩
      have z1 : ∀ g, tb (Z2 8 1) g = true ↔ tb (Z 8 1) g = true ∨ (t + 1 ≠ 0 ∧ M 11 t = g) := fun g => by
        rw [hZ2, zst_v, tb_set (by omega), Bool.or_eq_true, decide_eq_true_iff]
        exact ⟨fun o9 => o9.imp id (fun o8 => ⟨Nat.succ_ne_zero t, o8.symm⟩), fun o9 => o9.imp id (fun o8 => o8.2.symm)⟩
      have z2 : Z2 8 2 = Z 8 2 := by rw [hZ2, zst_j (by decide), zst_j (by decide)]
      have zf : ∀ c, c ≠ 8 → Z2 c = Z c := fun c hc => by rw [hZ2, zst_c hc, zst_c hc]
      rw [k3]
      refine bn (i_eq (M 12 t) 0) (fun e => cgJ (c := 8) h2 rfl rfl rfl (cgI (c := 16) h2 (lv_16 h2 l16) rfl rfl ?_)) (fun e => hQ Z2 f2 h2 zf z0 z1 (fun g => ?_))
      · rw [k1]
        refine cgPl (c := 8) h2 rfl (fun i hi => hi) rfl 2 (by show 12 < 13; decide) rfl (fun f3 h3 => hQ _ f3 h3 (fun c hc => by rw [zst_c hc]; exact zf c hc) (fun u => ?_) (fun g => ?_) (fun g => ?_))
        · rw [zst_j (by decide)]; exact z0 u
        · rw [zst_j (by decide)]; exact z1 g
        · rw [zst_v, tb_set (by omega), Bool.or_eq_true, decide_eq_true_iff, z2]
          exact ⟨fun o9 => o9.imp id (fun o8 => ⟨Nat.succ_ne_zero t, o8.symm, e⟩), fun o9 => o9.imp id (fun o8 => o8.2.1.symm)⟩
      · rw [z2]
        exact ⟨Or.inl, fun o9 => o9.elim id (fun o8 => absurd o8.2.2 e)⟩
  · by_cases e0 : tc = 0
    · exact hQ Z f h (fun _ _ => rfl) (fun t => ⟨Or.inl, fun o9 => o9.elim id (fun o8 => by omega)⟩) (fun g => ⟨Or.inl, fun o9 => o9.elim id (fun o8 => absurd e0 o8.1)⟩) (fun g => ⟨Or.inl, fun o9 => o9.elim id (fun o8 => absurd e0 o8.1)⟩)
    · obtain ⟨t, et⟩ : ∃ t, tc = t + 1 := ⟨tc - 1, by omega⟩
      rw [et, wyR_s, hd.c31] at o
      exact absurd (okN_i (by omega) (by omega)) o
theorem c_wbegin {Q : Int32 → List Nat → pF → Prop} (h : CH dA zz ad cp V Z L f) (hM : MI M D) {x w : Nat} (hx : x < 8) (hT : WT M x V Z) (hw : w < fnd (M 20 x) (tbx M x)) (hQ : Q (nI (wpA (M 20 x) (tbx M x) w)) L f) : wp_X7_beginOf_0 dA zz Q L f (ad 10 0) (nI w) := by
  have b600 := (hM.2.2.2.2.2 x hx).1
  have hfl := fnd_le (n := M 20 x) (b := tbx M x)
  unfold wp_X7_beginOf_0
  refine bf1 (n_lt0 (by omega)) (cgI (c := 10) h rfl rfl rfl (bf1 (by rw [i_le (fnd (M 20 x) (tbx M x)) w (hx := hT.1)]; omega) (cgR (c := 10) h rfl rfl rfl (caI (c := 11) (i := 0) (n := 300) h (lv_11 (by decide)) rfl w rfl (by omega) (by decide) ?_))))
  rw [(hT.2.1 w hw).1]
  exact hQ
theorem c_wend {Q : Int32 → List Nat → pF → Prop} (h : CH dA zz ad cp V Z L f) (hM : MI M D) {x w : Nat} (hx : x < 8) (hT : WT M x V Z) (hw : w < fnd (M 20 x) (tbx M x)) (hQ : Q (nI (weA (M 20 x) (tbx M x) w)) L f) : wp_X7_endOf_0 dA zz Q L f (ad 10 0) (nI w) := by
  have b600 := (hM.2.2.2.2.2 x hx).1
  have hfl := fnd_le (n := M 20 x) (b := tbx M x)
  unfold wp_X7_endOf_0
  refine bf1 (n_lt0 (by omega)) (cgI (c := 10) h rfl rfl rfl (bf1 (by rw [i_le (fnd (M 20 x) (tbx M x)) w (hx := hT.1)]; omega) (cgR (c := 10) h rfl rfl rfl (caI (c := 11) (i := 1) (n := 300) h (lv_11 (by decide)) rfl w rfl (by omega) (by decide) ?_))))
  rw [(hT.2.1 w hw).2.1]
  exact hQ
theorem c_keepUse {Q : List Nat → pF → Prop} (h : CH dA zz ad cp V Z L f) (hd : CD M D mn cp V Z ng) (hM : MI M D) {x w m c : Nat} (hx : x < 8) (hT : WT M x V Z) (hm0 : 0 < m) (hm : w + m ≤ fnd (M 20 x) (tbx M x)) (hsn : ∀ v, v < m → snA (tbx M x) (wpA (M 20 x) (tbx M x) (w + v)) = snA (tbx M x) (wpA (M 20 x) (tbx M x) w)) (hW : ∀ t, t < M 4 0 → V 9 0 t = wyV (wyK M x (wpA (M 20 x) (tbx M x) w) m t)) (hc : c < 300) (hU : CU M D x c V Z) (e1 : (usF M x).2.2.1 c = w) (e2 : (usF M x).2.2.2 c = m) (hQ : ∀ (V' : cV) (Z' : cZ) (f' : pF), CH dA zz ad cp V' Z' L f' → (∀ c j, 12 ≤ c → V' c j = V c j) → (∀ c, c ≠ 8 → Z' c = Z c) → WT M x V' Z' → CU M D x (c + 1) V' Z' → Q L f') : wp_X6_keepUse_0 dA zz Q L f (ad 8 0) (nI w) (nI m) := by
  have b600 := (hM.2.2.2.2.2 x hx).1
  have hfl := fnd_le (n := M 20 x) (b := tbx M x)
  have h60 := hM.2.2.1.1
  have hcl := chT_le (M := M) (x := x) (w := w) (m := m)
  have etm : tmU M x c = chT M x w m := by
    show chT M x ((usF M x).2.2.1 c) ((usF M x).2.2.2 c) = _
    rw [e1, e2]
  unfold wp_X6_keepUse_0
  refine cgI (c := 8) h rfl rfl rfl (bt1 ((i_lt c 300 (hx := hU.1)).mpr hc) ?_)
  rintro _ rfl
  rw [nI_add, n_sub1 (by omega)]
  refine ⟨cO (c := 8) h rfl rfl, c_meant h hd hM hx hT hm0 hm hsn hW (fun V1 f1 h1 fr1 T1 => ?_)⟩
  have d1 : CD M D mn cp V1 Z ng := hd.fr2 (fun c j hc9 => fr1 c j (by omega) (by omega)) rfl rfl
  have W1 : ∀ t, t < M 4 0 → V1 9 0 t = wyV (wyK M x (wpA (M 20 x) (tbx M x) w) m t) := fun t ht => by rw [fr1 9 0 (by decide) (by decide)]; exact hW t ht
  have s1 : V1 8 0 0 = nI c := by rw [fr1 8 0 (by decide) (by decide)]; exact hU.1
  refine ⟨cO (c := 8) h1 rfl rfl, c_leastT h1 d1 hM W1 (cgR (c := 8) h1 rfl rfl rfl (cgI (c := 8) h1 rfl rfl rfl (cgR (c := 8) h1 rfl rfl rfl ⟨cO (c := 10) h1 rfl rfl, c_wbegin h1 hM hx T1 (by omega) (caIs (c := 9) (i := 1) (n := 300) h1 (lv_9 (by decide)) rfl c s1 hc (by decide) rfl (fun f2 h2 => ?_))⟩)))⟩
  obtain ⟨V2, hV2⟩ : ∃ V2, V2 = vst V1 9 1 c (nI (wpA (M 20 x) (tbx M x) w)) := ⟨_, rfl⟩
  rw [← hV2] at h2
  have fr2 : ∀ k, k ≠ 9 → V2 k = V1 k := fun k hk => by rw [hV2, vst_c hk]
  have s2 : V2 8 0 0 = nI c := by rw [fr2 8 (by decide)]; exact s1
  have T2 : WT M x V2 Z := WT_fr T1 (fr2 10 (by decide)) (fr2 11 (by decide)) rfl
  refine cgR (c := 8) h2 rfl rfl rfl (cgI (c := 8) h2 rfl rfl rfl (cgR (c := 8) h2 rfl rfl rfl ⟨cO (c := 10) h2 rfl rfl, c_wend h2 hM hx T2 (by omega) (caIs (c := 9) (i := 2) (n := 300) h2 (lv_9 (by decide)) rfl c s2 hc (by decide) rfl (fun f3 h3 => ?_))⟩))
  obtain ⟨V3, hV3⟩ : ∃ V3, V3 = vst V2 9 2 c (nI (weA (M 20 x) (tbx M x) (w + m - 1))) := ⟨_, rfl⟩
  rw [← hV3] at h3
  have fr3 : ∀ k, k ≠ 9 → V3 k = V1 k := fun k hk => by rw [hV3, vst_c hk]; exact fr2 k hk
  have s3 : V3 8 0 0 = nI c := by rw [fr3 8 (by decide)]; exact s1
  refine cgR (c := 8) h3 rfl rfl rfl (cgI (c := 8) h3 rfl rfl rfl (caIs (c := 9) (i := 3) (n := 300) h3 (lv_9 (by decide)) rfl c s3 hc (by decide) rfl (fun f4 h4 => ?_)))
  obtain ⟨V4, hV4⟩ : ∃ V4, V4 = vst V3 9 3 c (wyR (chT M x w m)) := ⟨_, rfl⟩
  rw [← hV4] at h4
  have fr4 : ∀ k, k ≠ 9 → V4 k = V1 k := fun k hk => by rw [hV4, vst_c hk]; exact fr3 k hk
  have s4 : V4 8 0 0 = nI c := by rw [fr4 8 (by decide)]; exact s1
  have W4 : ∀ t, t < M 4 0 → V4 9 0 t = wyV (wyK M x (wpA (M 20 x) (tbx M x) w) m t) := fun t ht => by
    rw [hV4, vst_n (by decide), hV3, vst_n (by decide), hV2, vst_n (by decide)]; exact W1 t ht
  have fin105 : ∀ e, e = wyR (enU M x w m) → wp_X6_keepUse_105 dA zz Q L f4 (ad 8 0) (wyR (chT M x w m)) e (V4 8 0 0) (ad 9 4) := by
    rintro _ rfl
    unfold wp_X6_keepUse_105
    refine caIs (c := 9) (i := 4) (n := 300) h4 (lv_9 (by decide)) rfl c s4 hc (by decide) rfl (fun f5 h5 => ?_)
    obtain ⟨V5, hV5⟩ : ∃ V5, V5 = vst V4 9 4 c (wyR (enU M x w m)) := ⟨_, rfl⟩
    rw [← hV5] at h5
    have fr5 : ∀ k, k ≠ 9 → V5 k = V1 k := fun k hk => by rw [hV5, vst_c hk]; exact fr4 k hk
    have s5 : V5 8 0 0 = nI c := by rw [fr5 8 (by decide)]; exact s1
    have d5 : CD M D mn cp V5 Z ng := d1.fr2 (fun k j hk => by rw [fr5 k (by omega)]) rfl rfl
    have cf := c_finding (Q := fun r L9 f9 => aIs L9 f9 (dA 1) (ad 9 5) (V5 8 0 0) r (fun f_120 => gI L9 f_120 7 (ad 8 0) 9 (fun g_123 => gP L9 f_120 7 (ad 8 0) 9 (.int (g_123 + (1 : Int32))) (fun f_128 => isO L9 f_128 7 (ad 8 0) ∧ wp_X6_see_0 dA zz (fun L_134 f_134 => Q L_134 f_134) L9 f_128 (ad 8 0) (wyR (chT M x w m)))))) h5 d5 hM (tm := tmU M x) (c := c) (by rw [etm]; exact hcl) hU.2.2.2.1 hU.2.2.2.2
    rw [etm] at cf
    refine cgR (c := 8) h5 rfl rfl rfl (cgI (c := 8) h5 rfl rfl rfl ⟨cO (c := 8) h5 rfl rfl, cf (caIs (c := 9) (i := 5) (n := 300) h5 (lv_9 (by decide)) rfl c s5 hc (by decide) rfl (fun f6 h6 => ?_))⟩)
    obtain ⟨V6, hV6⟩ : ∃ V6, V6 = vst V5 9 5 c (nI (fdA M D (tmU M x) c)) := ⟨_, rfl⟩
    rw [← hV6] at h6
    have fr6 : ∀ k, k ≠ 9 → V6 k = V1 k := fun k hk => by rw [hV6, vst_c hk]; exact fr5 k hk
    have s6 : V6 8 0 0 = nI c := by rw [fr6 8 (by decide)]; exact s1
    refine cgI (c := 8) h6 rfl rfl rfl (cgPi (c := 8) h6 rfl rfl 0 (by show 9 < 13; decide) rfl (fun f7 h7 => ?_))
    rw [s6, nI_1] at h7
    obtain ⟨V7, hV7⟩ : ∃ V7, V7 = vst V6 8 0 0 (nI (c + 1)) := ⟨_, rfl⟩
    rw [← hV7] at h7
    have fr7 : ∀ k, k ≠ 8 → k ≠ 9 → V7 k = V1 k := fun k hk1 hk2 => by rw [hV7, vst_c hk1]; exact fr6 k hk2
    have d7 : CD M D mn cp V7 Z ng := d1.fr2 (fun k j hk => by rw [fr7 k (by omega) (by omega)]) rfl rfl
    refine ⟨cO (c := 8) h7 rfl rfl, c_see h7 d7 hM hcl (fun Z8 f8 h8 zf z0 z1 z2 => hQ V7 Z8 f8 h8 (fun k j hk => ?_) zf (WT_fr T1 (fr7 10 (by decide) (by decide)) (fr7 11 (by decide) (by decide)) (zf 12 (by decide))) ⟨?_, fun i hi k hk => ?_, fun t => ?_, fun g => ?_, fun g => ?_⟩)⟩
    · rw [fr7 k (by omega) (by omega)]; exact fr1 k j (by omega) (by omega)
    · rw [hV7, vst_v]
    · rw [hV7, vst_c (by decide), hV6, hV5, hV4, hV3, hV2, use5 hk]
      by_cases ei : i = c
      · rw [if_pos ei, ei]
        unfold aUse
        rw [e1, e2, etm]
      · rw [if_neg ei, fr1 9 _ (by decide) (by decide)]
        exact hU.2.1 i (by omega) k hk
    · rw [z0 t, hU.2.2.1 t]
      constructor
      · rintro (⟨i, hi, hb⟩ | hb)
        · exact ⟨i, by omega, hb⟩
        · exact ⟨c, Nat.lt_succ_self c, by rw [etm]; exact hb⟩
      · rintro ⟨i, hi, hb⟩
        by_cases ei : i = c
        · rw [ei, etm] at hb; exact Or.inr hb
        · exact Or.inl ⟨i, by omega, hb⟩
    · rw [z1 g, hU.2.2.2.1 g, ahd_s, etm]
      exact ⟨fun o => o.imp id (fun o8 => ⟨o8.1, o8.2, fun o9 => absurd o9 (by decide)⟩), fun o => o.imp id (fun o8 => ⟨o8.1, o8.2.1⟩)⟩
    · rw [z2 g, hU.2.2.2.2 g, ahd_s, etm]
      exact ⟨fun o => o.imp id (fun o8 => ⟨o8.1, o8.2.1, fun _ => o8.2.2⟩), fun o => o.imp id (fun o8 => ⟨o8.1, o8.2.1, o8.2.2 rfl⟩)⟩
  refine cgR (c := 8) h4 rfl rfl rfl (cgI (c := 8) h4 rfl rfl rfl ?_)
  by_cases ht0 : chT M x w m = 0
  · refine bt1 (by rw [ht0]; decide) ?_
    unfold wp_X6_keepUse_104
    exact fin105 _ (by unfold enU; rw [if_pos ht0]; rfl)
  · obtain ⟨t, et⟩ : ∃ t, t = chT M x w m - 1 := ⟨_, rfl⟩
    have et2 : chT M x w m = t + 1 := by omega
    have eR : wyR (chT M x w m) = nI t := by rw [et2, wyR_s]
    have hwy : wyK M x (wpA (M 20 x) (tbx M x) w) m t ≠ 0 := by
      have hd9 : chT M x w m = if chG M x w m = 0 then 0 else fa_first (tmB M x (wpA (M 20 x) (tbx M x) w) m (chG M x w m - 1)) (M 4 0) + 1 := rfl
      by_cases hg0 : chG M x w m = 0
      · rw [if_pos hg0] at hd9; exact absurd hd9 ht0
      · rw [if_neg hg0] at hd9
        have hy := fa_first_yes (tmB M x (wpA (M 20 x) (tbx M x) w) m (chG M x w m - 1)) (M 4 0) (by omega)
        rw [show fa_first (tmB M x (wpA (M 20 x) (tbx M x) w) m (chG M x w m - 1)) (M 4 0) = t by omega] at hy
        exact (tmB_K.mp hy).1
    refine bf1 (by rw [eR]; exact n_lt0 (by omega)) (bf1 (by rw [eR, i_le 60 t]; omega) (cgR (c := 8) h4 rfl rfl rfl (caI (c := 9) (i := 0) (n := 60) h4 (lv_9 (by decide)) rfl t eR (by omega) (by decide) (fin105 _ ?_))))
    rw [W4 t (by omega)]
    unfold enU
    rw [if_neg ht0, ← et]
    have hk2 := hwy
    have : wyK M x (wpA (M 20 x) (tbx M x) w) m t = wyA M x (wpA (M 20 x) (tbx M x) w) t := by
      unfold wyK
      rw [if_pos (wyK_n.mp hwy).1]
    rw [this] at hk2 ⊢
    generalize wyA M x (wpA (M 20 x) (tbx M x) w) t = a at hk2
    obtain ⟨b, hb⟩ : ∃ b, a = b + 1 := ⟨a - 1, by omega⟩
    rw [hb, Nat.add_sub_cancel]
    unfold wyV wyR
    rw [if_neg (Nat.succ_ne_zero b)]
    by_cases b0 : b = 0
    · rw [if_pos b0, if_pos (by omega)]
    · rw [if_neg b0, if_neg (by omega)]
      rfl
end CKE
