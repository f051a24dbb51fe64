/-! pure: the thing meant and its least term, in the component -/
theorem wyK_n {M : mN} {x p m t : Nat} : wyK M x p m t ≠ 0 ↔ M 10 t = m ∧ wyA M x p t ≠ 0 := by
  unfold wyK
  by_cases e : M 10 t = m
  · rw [if_pos e]; exact ⟨fun o => ⟨e, o⟩, fun o => o.2⟩
  · rw [if_neg e]; exact ⟨fun o => absurd rfl o, fun o => absurd o.1 e⟩
theorem tmB_K {M : mN} {x p m g t : Nat} : tmB M x p m g t = true ↔ wyK M x p m t ≠ 0 ∧ M 11 t = g := by
  unfold tmB
  rw [decide_eq_true_iff, wyK_n]
  exact ⟨fun o => ⟨⟨o.1, o.2.2⟩, o.2.1⟩, fun o => ⟨o.1.1, o.2, o.1.2⟩⟩
theorem chs_b {pp : Nat → Bool} {sc : Nat → Nat} {b : Nat} (h : ∀ g, sc g ≤ b) : ∀ n, (chs pp sc n).2 ≤ b + 1
  | 0 => Nat.zero_le _
  | n + 1 => by
    have ih := chs_b (pp := pp) h n
    have hn := h n
    unfold chs
    by_cases hp : pp n = true
    · rw [if_pos hp]
      by_cases h1 : (chs pp sc n).2 < sc n + 1
      · rw [if_pos h1]; show sc n + 1 ≤ b + 1; omega
      · rw [if_neg h1]
        by_cases h2 : (chs pp sc n).2 = sc n + 1
        · rw [if_pos h2]; exact ih
        · rw [if_neg h2]; exact ih
    · rw [if_neg hp]; exact ih
section CME
variable {dA : Nat → ClassId} {zz : Nat → Nat} {M : mN} {D : Nat → Int64} {mn : Int32} {L : List Nat} {f : pF}
variable {ad cp : Nat → Nat → Nat} {V : cV} {Z : cZ} {ng : Nat → Nat}
theorem c_possible {Q : Int64 → List Nat → pF → Prop} (h : CH dA zz ad cp V Z L f) (hd : CD M D mn cp V Z ng) (hM : MI M D) {x p m : Nat} (hW : ∀ t, t < M 4 0 → V 9 0 t = wyV (wyK M x p m t)) (hQ : ∀ z : Int64, (∀ g, tb z g = true ↔ tmP M x p m g = true) → Q z L f) : wp_X6_thingsPossible_0 dA zz Q L f (ad 8 0) := by
  have h60 := hM.2.2.1.1
  unfold wp_X6_thingsPossible_0
  refine cgR (c := 8) h rfl rfl rfl ⟨cO (c := 2) h rfl rfl, c_held h hd ?_⟩
  rintro _ rfl
  rw [min60 hM]
  refine pk_loop (σ := Int64) (fun n9 t z => wp_X6_thingsPossible_18 dA zz Q n9 L f (ad 8 0) (nI (M 4 0)) z (nI t)) (fun t z => ∀ g, tb z g = true ↔ ∃ k, k < t ∧ tmB M x p m g k = true) (M 4 0) 0 0 (Nat.zero_le _) (fun g => ⟨fun o => by rw [tb_0] at o; exact absurd o (by decide), fun ⟨k, hk, _⟩ => absurd hk (Nat.not_lt_zero k)⟩) ?_ ?_
  · intro n9 z hI
    unfold wp_X6_thingsPossible_18
    exact bt1 ((i_le (M 4 0) (M 4 0)).mpr (Nat.le_refl _)) (hQ z (fun g => by rw [tmP_iff]; exact hI g))
  · intro n9 t z ht hI ih
    have q11 := (hM.2.2.1.2 t ht).2.2.2.2.1
    have l16 : t < cp 3 1 := by rw [hd.c31]; exact ht
    have next : ∀ z2 : Int64, (∀ g, tb z2 g = true ↔ ∃ k, k < t + 1 ∧ tmB M x p m g k = true) → wp_X6_thingsPossible_53 dA zz Q (wp_X6_thingsPossible_18 dA zz Q n9) L f (ad 8 0) (nI (M 4 0)) z2 (nI t) := by
      intro z2 hz2
      unfold wp_X6_thingsPossible_53
      rintro _ rfl
      rw [nI_1]
      exact ih z2 hz2
    unfold wp_X6_thingsPossible_18
    refine bf1 (by rw [i_le (M 4 0) t]; omega) (cgR (c := 8) h rfl rfl rfl (caI (c := 9) (i := 0) (n := 60) h (lv_9 (by decide)) rfl t rfl (by omega) (by decide) ?_))
    rw [hW t ht]
    refine bq (wyV_2 (wyK_lt hM)) (fun e => next z (fun g => ?_)) (fun e => cgR (c := 8) h rfl rfl rfl ⟨cO (c := 2) h rfl rfl, c_termAt h t l16 (cgI (c := 16) h (lv_16 h l16) rfl rfl ?_)⟩)
    · rw [hI g]
      constructor
      · rintro ⟨k, hk, hb⟩; exact ⟨k, by omega, hb⟩
      · rintro ⟨k, hk, hb⟩
        have : k ≠ t := fun e2 => by rw [e2] at hb; exact (tmB_K.mp hb).1 e
        exact ⟨k, by omega, hb⟩
    · rw [(hd.T ht).1.2.1]
      rintro _ rfl
      refine next _ (fun g => ?_)
      rw [tb_set (by omega), Bool.or_eq_true, hI g, decide_eq_true_iff]
      constructor
      · rintro (⟨k, hk, hb⟩ | o)
        · exact ⟨k, by omega, hb⟩
        · exact ⟨t, Nat.lt_succ_self t, tmB_K.mpr ⟨e, o.symm⟩⟩
      · rintro ⟨k, hk, hb⟩
        by_cases e2 : k = t
        · rw [e2] at hb; exact Or.inr (tmB_K.mp hb).2.symm
        · exact Or.inl ⟨k, by omega, hb⟩
theorem c_meant {Q : Int32 → List Nat → pF → Prop} (h : CH dA zz ad cp V Z L f) (hd : CD M D mn cp V Z ng) (hM : MI M D) {x w m : Nat} (hx : x < 8) (hT : WT M x V Z) (hm0 : 0 < m) (hm : w + m ≤ fnd (M 20 x) (tbx M x)) (hsn : ∀ v, v < m → snA (tbx M x) (wpA (M 20 x) (tbx M x) (w + v)) = snA (tbx M x) (wpA (M 20 x) (tbx M x) w)) (hW : ∀ t, t < M 4 0 → V 9 0 t = wyV (wyK M x (wpA (M 20 x) (tbx M x) w) m t)) (hQ : ∀ (V' : cV) (f' : pF), CH dA zz ad cp V' Z L f' → (∀ c j, c ≠ 10 → c ≠ 11 → V' c j = V c j) → WT M x V' Z → Q (wyR (chG M x w m)) L f') : wp_X6_thingMeant_0 dA zz Q L f (ad 8 0) (nI w) (nI (w + m - 1)) := by
  have b600 := (hM.2.2.2.2.2 x hx).1
  have hfl := fnd_le (n := M 20 x) (b := tbx M x)
  unfold wp_X6_thingMeant_0
  refine ⟨cO (c := 8) h rfl rfl, c_possible h hd hM hW (fun z hz => ?_)⟩
  have hcg : chG M x w m = (chs (tmP M x (wpA (M 20 x) (tbx M x) w) m) (sco M x w m) 40).1 := rfl
  obtain ⟨pp, hpp⟩ : ∃ pp, pp = tmP M x (wpA (M 20 x) (tbx M x) w) m := ⟨_, rfl⟩
  obtain ⟨sd, hsd⟩ : ∃ sd, sd = sco M x w m := ⟨_, rfl⟩
  rw [← hpp] at hcg hz
  rw [← hsd] at hcg
  have hsl : ∀ g, sd g ≤ 600 := fun g => by
    have := sco_le (M := M) (x := x) (w := w) (m := m) (g := g)
    rw [hsd]; omega
  have hcb : ∀ g, (chs pp sd g).2 ≤ 601 := chs_b hsl
  have hc1 : ∀ g, (chs pp sd (g + 1)) = if pp g = true then (if (chs pp sd g).2 < sd g + 1 then (g + 1, sd g + 1) else if (chs pp sd g).2 = sd g + 1 then (0, (chs pp sd g).2) else chs pp sd g) else chs pp sd g := fun g => rfl
  obtain ⟨ch, hch⟩ : ∃ ch : Nat → Nat × Nat, ch = chs pp sd := ⟨_, rfl⟩
  obtain ⟨N, hN⟩ : ∃ N : Nat, N = 40 := ⟨_, rfl⟩
  rw [← hch] at hcg hcb hc1
  rw [← hN] at hcg
  have h00 : ch 0 = (0, 0) := by rw [hch]; rfl
  have key : ∃ n9, wp_X6_thingMeant_14 dA zz Q n9 L f (ad 8 0) (nI w) (nI (w + m - 1)) z (wyR (ch 0).1) (wyR (ch 0).2) (nI 0) := by
    refine pk_loop (σ := cV × pF) (fun n9 g st => wp_X6_thingMeant_14 dA zz Q n9 L st.2 (ad 8 0) (nI w) (nI (w + m - 1)) z (wyR (ch g).1) (wyR (ch g).2) (nI g)) (fun g st => CH dA zz ad cp st.1 Z L st.2 ∧ (∀ c j, c ≠ 10 → c ≠ 11 → st.1 c j = V c j) ∧ WT M x st.1 Z) N 0 (V, f) (Nat.zero_le _) ⟨h, fun _ _ _ _ => rfl, hT⟩ ?_ ?_
    · rintro n9 ⟨V1, f1⟩ ⟨h1, fr1, t1⟩
      dsimp only
      unfold wp_X6_thingMeant_14
      refine bt1 ((i_le 40 N).mpr (by omega)) ?_
      rw [← hcg]
      exact hQ V1 f1 h1 fr1 t1
    · rintro n9 g ⟨V1, f1⟩ hg ⟨h1, fr1, t1⟩ ih
      have h1 : CH dA zz ad cp V1 Z L f1 := h1
      have fr1 : ∀ c j, c ≠ 10 → c ≠ 11 → V1 c j = V c j := fr1
      have t1 : WT M x V1 Z := t1
      have hb := hcb g
      have hs := hsl g
      have next : ∀ (V2 : cV) (f2 : pF) (b5 b6 : Int32), CH dA zz ad cp V2 Z L f2 → (∀ c j, c ≠ 10 → c ≠ 11 → V2 c j = V c j) → WT M x V2 Z → b5 = wyR (ch (g + 1)).1 → b6 = wyR (ch (g + 1)).2 → wp_X6_thingMeant_73 dA zz Q (wp_X6_thingMeant_14 dA zz Q n9) L f2 (ad 8 0) (nI w) (nI (w + m - 1)) z b5 b6 (nI g) := by
        intro V2 f2 b5 b6 h2 fr2 t2 e5 e6
        unfold wp_X6_thingMeant_73
        rintro _ rfl
        rw [nI_1, e5, e6]
        exact ih (V2, f2) ⟨h2, fr2, t2⟩
      have hc := hc1 g
      dsimp only
      unfold wp_X6_thingMeant_14
      refine bf1 (by rw [i_le 40 g]; omega) (bq (tb_c0 (by omega)) (fun hb0 => ?_) (fun hb0 => ?_))
      · have : ¬ pp g = true := fun o => by rw [(hz g).mpr o] at hb0; exact absurd hb0 (by decide)
        rw [if_neg this] at hc
        exact next V1 f1 _ _ h1 fr1 t1 (by rw [hc]) (by rw [hc])
      · have hpg : pp g = true := (hz g).mp (by simpa using hb0)
        rw [if_pos hpg] at hc
        refine cgR (c := 8) h1 rfl rfl rfl ⟨cO (c := 10) h1 rfl rfl, c_score h1 hM hx t1 hm0 hm hsn (by omega) (fun V2 f2 h2 fr2 t2 => ?_)⟩
        have fr3 : ∀ c j, c ≠ 10 → c ≠ 11 → V2 c j = V c j := fun c j o1 o2 => by rw [fr2 c j o1 o2]; exact fr1 c j o1 o2
        rw [← hsd, ← wyR_s (sd g)]
        refine bq (wyR_le (by omega) (by omega)) (fun l1 => bn (wyR_eq (by omega) (by omega)) (fun l2 => ?_) (fun l2 => ?_)) (fun l1 => ?_)
        · rw [if_neg (by omega), if_pos l2.symm] at hc
          exact next V2 f2 _ _ h2 fr3 t2 (by rw [hc]; rfl) (by rw [hc])
        · rw [if_neg (by omega), if_neg (by omega)] at hc
          exact next V2 f2 _ _ h2 fr3 t2 (by rw [hc]) (by rw [hc])
        · rw [if_pos (by omega)] at hc
          exact next V2 f2 _ _ h2 fr3 t2 (by rw [hc]; exact (wyR_s g).symm) (by rw [hc])
  rw [h00] at key
  exact key
theorem c_leastT {Q : Int32 → List Nat → pF → Prop} (h : CH dA zz ad cp V Z L f) (hd : CD M D mn cp V Z ng) (hM : MI M D) {x w m : Nat} (hW : ∀ t, t < M 4 0 → V 9 0 t = wyV (wyK M x (wpA (M 20 x) (tbx M x) w) m t)) (hQ : Q (wyR (chT M x w m)) L f) : wp_X6_leastTermOf_0 dA zz Q L f (ad 8 0) (wyR (chG M x w m)) := by
  have h60 := hM.2.2.1.1
  have hcT : chT M x w m = if chG M x w m = 0 then 0 else fa_first (tmB M x (wpA (M 20 x) (tbx M x) w) m (chG M x w m - 1)) (M 4 0) + 1 := rfl
  have hci := chs_in (pp := tmP M x (wpA (M 20 x) (tbx M x) w) m) (sc := sco M x w m) (n := 40)
  have hcg : chG M x w m = (chs (tmP M x (wpA (M 20 x) (tbx M x) w) m) (sco M x w m) 40).1 := rfl
  rw [← hcg] at hci
  generalize chG M x w m = c at hcT hci
  generalize chT M x w m = r at hcT hQ
  obtain ⟨p, hp⟩ : ∃ p, wpA (M 20 x) (tbx M x) w = p := ⟨_, rfl⟩
  rw [hp] at hcT hW hci
  unfold wp_X6_leastTermOf_0
  refine cgR (c := 8) h rfl rfl rfl ⟨cO (c := 2) h rfl rfl, c_held h hd ?_⟩
  rintro _ rfl
  rw [min60 hM]
  obtain ⟨T, hT⟩ : ∃ T, T = if c = 0 then M 4 0 else fa_first (tmB M x p m (c - 1)) (M 4 0) := ⟨_, rfl⟩
  have hTl : T ≤ M 4 0 := by
    rw [hT]
    split
    · exact Nat.le_refl _
    · exact fa_first_le _ _
  have hTn : ∀ t, t < T → c ≠ 0 → tmB M x p m (c - 1) t = false := fun t ht h0 => by
    rw [if_neg h0] at hT
    exact fa_first_no _ (M 4 0) t (by omega)
  have hno : ∀ t, t < T → wyK M x p m t ≠ 0 → ¬ nI (M 11 t) = wyR c := fun t ht hk => by
    have q11 := (hM.2.2.1.2 t (by omega)).2.2.2.2.1
    by_cases h0 : c = 0
    · rw [h0]; exact n_m1 (by omega)
    · obtain ⟨d, hd2⟩ : ∃ d, c = d + 1 := ⟨c - 1, by omega⟩
      obtain ⟨k1, _⟩ := hci h0
      rw [hd2, wyR_s, n_eq (by omega) (by omega)]
      intro o
      have := hTn t ht h0
      rw [tmB_K.mpr ⟨hk, by omega⟩] at this
      exact absurd this (by decide)
  refine pk_loop (σ := Unit) (fun n9 t _ => wp_X6_leastTermOf_15 dA zz Q n9 L f (ad 8 0) (wyR c) (nI (M 4 0)) (nI t)) (fun _ _ => True) T 0 () (Nat.zero_le _) trivial ?_ ?_
  · intro n9 _ _
    unfold wp_X6_leastTermOf_15
    by_cases h0 : c = 0
    · rw [if_pos h0] at hT hcT
      rw [hcT] at hQ
      rw [hT]
      exact bt1 ((i_le (M 4 0) (M 4 0)).mpr (Nat.le_refl _)) hQ
    · rw [if_neg h0] at hT hcT
      obtain ⟨k1, k2⟩ := hci h0
      have hTt : T < M 4 0 := by rw [hT]; exact of_decide_eq_true k2
      have hTy : tmB M x p m (c - 1) T = true := by rw [hT]; exact fa_first_yes _ _ (by rw [← hT]; exact hTt)
      obtain ⟨y1, y2⟩ := tmB_K.mp hTy
      have q11 := (hM.2.2.1.2 T hTt).2.2.2.2.1
      have l16 : T < cp 3 1 := by rw [hd.c31]; exact hTt
      rw [hcT, ← hT, wyR_s] at hQ
      refine bf1 (by rw [i_le (M 4 0) T]; omega) (cgR (c := 8) h rfl rfl rfl (caI (c := 9) (i := 0) (n := 60) h (lv_9 (by decide)) rfl T rfl (by omega) (by decide) ?_))
      rw [hW T hTt]
      refine bf1 (by rw [wyV_2 (wyK_lt hM)]; exact y1) (cgR (c := 8) h rfl rfl rfl ⟨cO (c := 2) h rfl rfl, c_termAt h T l16 (cgI (c := 16) h (lv_16 h l16) rfl rfl (bt2 ?_ hQ))⟩)
      rw [(hd.T hTt).1.2.1, y2]
      unfold wyR
      rw [if_neg h0]
  · intro n9 t _ ht _ ih
    have l16 : t < cp 3 1 := by rw [hd.c31]; omega
    have next : wp_X6_leastTermOf_48 dA zz Q (wp_X6_leastTermOf_15 dA zz Q n9) L f (ad 8 0) (wyR c) (nI (M 4 0)) (nI t) := by
      unfold wp_X6_leastTermOf_48
      rintro _ rfl
      rw [nI_1]
      exact ih () trivial
    unfold wp_X6_leastTermOf_15
    refine bf1 (by rw [i_le (M 4 0) t]; omega) (cgR (c := 8) h rfl rfl rfl (caI (c := 9) (i := 0) (n := 60) h (lv_9 (by decide)) rfl t rfl (by omega) (by decide) ?_))
    rw [hW t (by omega)]
    refine bq (wyV_2 (wyK_lt hM)) (fun e => next) (fun e => cgR (c := 8) h rfl rfl rfl ⟨cO (c := 2) h rfl rfl, c_termAt h t l16 (cgI (c := 16) h (lv_16 h l16) rfl rfl (bf2 ?_ next))⟩)
    rw [(hd.T (by omega)).1.2.1]
    exact hno t ht e
end CME
