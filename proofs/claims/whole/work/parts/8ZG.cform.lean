/-! pure: the form that comes instead, in the component -/
/-- all but the row 'instead' is as it was -/
abbrev fr9 (V' V : cV) : Prop := ∀ c i, ¬ (c = 14 ∧ i = 9) → ¬ (c = 15 ∧ i = 9) → V' c i = V c i
section CFO
variable {dA : Nat → ClassId} {zz : Nat → Nat} {M : mN} {D : Nat → Int64} {mn : Int32} {L : List Nat} {f : pF}
variable {ad cp : Nat → Nat → Nat} {V : cV} {Z : cZ} {ng : Nat → Nat}
theorem CD.r9 {V' : cV} {n : Nat} (hd : CD M D mn cp V Z ng) (hV : fr9 V' V) (h9 : V' 14 9 0 = nI n) (hn : n ≤ 44) : CD M D mn cp V' Z ng := by
  refine hd.rows (fun _ _ _ => rfl) ?_ (funext fun i => hV 16 i (by omega) (by omega)) (funext fun i => hV 17 i (by omega) (by omega)) (fun r hr => ⟨hV 14 r (by omega) (by omega), hV 15 r (by omega) (by omega)⟩) ⟨?_, fun k hk => ?_⟩ (fun y hy => ⟨?_, fun k hk => ?_⟩) ⟨n, hn, h9⟩
  · rw [hV 13 0 (by omega) (by omega)]; exact hd.2.2.2.2.2.2.2.2.2.2
  · rw [hV 14 0 (by omega) (by omega)]; exact hd.W.1
  · rw [hV 15 0 (by omega) (by omega)]; exact hd.W.2 k hk
  · rw [hV 14 (1 + y) (by omega) (by omega)]; exact (hd.X y hy).1
  · rw [hV 15 (1 + y) (by omega) (by omega)]; exact (hd.X y hy).2 k hk
theorem c_goodT {Q : Int32 → List Nat → pF → Prop} (h : CH dA zz ad cp V Z L f) (hd : CD M D mn cp V Z ng) (hM : MI M D) {u : Nat} (hu : u < 40) (hQ : Q (if gdF M u < M 4 0 then nI (gdF M u) else -1) L f) : wp_X1_goodTermOf_0 dA zz Q L f (ad 2 0) (nI u) := by
  have h60 := hM.2.2.1.1
  have c31 := hd.c31
  have hgd : gdF M u = fa_first (fun g => decide (M 12 g = 0 ∧ M 11 g = u)) (M 4 0) := rfl
  have hy := fa_first_yes (fun g => decide (M 12 g = 0 ∧ M 11 g = u)) (M 4 0)
  have hn := fa_first_no (fun g => decide (M 12 g = 0 ∧ M 11 g = u)) (M 4 0)
  have hl := fa_first_le (fun g => decide (M 12 g = 0 ∧ M 11 g = u)) (M 4 0)
  rw [← hgd] at hy hn hl
  generalize gdF M u = T at hy hn hl hQ
  unfold wp_X1_goodTermOf_0
  refine pk_loop (σ := Unit) (fun n9 g _ => wp_X1_goodTermOf_2 dA zz Q n9 L f (ad 2 0) (nI u) (nI g)) (fun _ _ => True) T 0 () (Nat.zero_le _) trivial ?_ ?_
  · intro n9 _ _
    unfold wp_X1_goodTermOf_2
    refine cgR (c := 2) h rfl rfl rfl ⟨l_O h (by decide), l_size h (by decide) (bq (i_le (cp 3 1) T) (fun k1 => ?_) (fun k1 => cgR (c := 2) h rfl rfl rfl ⟨l_O h (by decide), l_get1 h T (by omega) ⟨cO (c := 16) h (lv_16 h (by omega)) rfl, cgI (c := 16) h (lv_16 h (by omega)) rfl rfl ?_⟩⟩))⟩
    · rw [if_neg (by omega)] at hQ; exact hQ
    · have hT : T < M 4 0 := by omega
      obtain ⟨y1, y2⟩ := of_decide_eq_true (hy hT)
      obtain ⟨_, t1, _, t3⟩ := (hd.T hT).1
      rw [if_pos hT] at hQ
      refine bt2 (by rw [t1, y2]) (cgI (c := 16) h (lv_16 h (by omega)) rfl rfl (bt2 (by rw [t3, y1]; rfl) hQ))
  · intro n9 g _ hg _ ih
    have hgM : g < M 4 0 := by omega
    have hno := of_decide_eq_false (hn g hg)
    have q := hM.2.2.1.2 g hgM
    have q11 := q.2.2.2.2.1
    have q12 := q.2.2.2.2.2.1
    obtain ⟨_, t1, _, t3⟩ := (hd.T hgM).1
    have next : wp_X1_goodTermOf_42 dA zz Q (wp_X1_goodTermOf_2 dA zz Q n9) L f (ad 2 0) (nI u) (nI g) := by
      unfold wp_X1_goodTermOf_42
      rintro _ rfl
      rw [nI_1]
      exact ih () trivial
    unfold wp_X1_goodTermOf_2
    refine cgR (c := 2) h rfl rfl rfl ⟨l_O h (by decide), l_size h (by decide) (bf1 (by rw [i_le (cp 3 1) g]; omega) (cgR (c := 2) h rfl rfl rfl ⟨l_O h (by decide), l_get1 h g (by omega) ⟨cO (c := 16) h (lv_16 h (by omega)) rfl, cgI (c := 16) h (lv_16 h (by omega)) rfl rfl (bn (i_eq (M 11 g) u (hx := t1)) (fun k1 => cgI (c := 16) h (lv_16 h (by omega)) rfl rfl (bn (i_eq (M 12 g) 0 (hx := t3)) (fun k2 => absurd ⟨k2, k1⟩ hno) (fun _ => next))) (fun _ => next))⟩⟩))⟩
/-- a byte is put behind those of the row 'instead' -/
theorem c_push9 {Q : Int32 → List Nat → pF → Prop} {V0 : cV} {b : Nat → Nat} {k c : Nat} (h : CH dA zz ad cp V Z L f) (hc9 : cp 15 9 = 44) (hf : fr9 V V0) (h9 : V 14 9 0 = nI k) (hb : ∀ j, j < k → V 15 9 j = sb (b j)) (hk : k < 44) (hc : b k = c) (hQ : ∀ (r : Int32) (V' : cV) (f' : pF), CH dA zz ad cp V' Z L f' → fr9 V' V0 → V' 14 9 0 = nI (k + 1) → (∀ j, j < k + 1 → V' 15 9 j = sb (b j)) → Q r L f') : wp_X4_push_0 dA zz Q L f (ad 14 9) (nI c) := by
  refine c_push (r := 9) h (lv_r (by decide)) h9 (by omega) (by omega) (fun _ f1 h1 => hQ 1 _ f1 h1 (fun c i n14 n15 => by rw [vst_n n14, vst_n n15]; exact hf c i n14 n15) vst_v (fun j hj => ?_)) (fun h8 => absurd (by omega) h8)
  rw [vst_c (by decide)]
  by_cases e : j = k
  · rw [e, vst_v, hc]; rfl
  · rw [vst_j e]; exact hb j (by omega)
theorem c_pushForm {Q : List Nat → pF → Prop} (h : CH dA zz ad cp V Z L f) (hd : CD M D mn cp V Z ng) (hM : MI M D) {g e : Nat} (hg : g < M 4 0) (he : e ≤ M 3 0) (h0 : V 14 9 0 = nI 0) (hQ : ∀ (V' : cV) (f' : pF), CH dA zz ad cp V' Z L f' → fr9 V' V → V' 14 9 0 = nI (fmN M g e) → (∀ j, j < fmN M g e → V' 15 9 j = sb (fmB M g e j)) → Q L f') : wp_X1_pushForm_0 dA zz Q L f (ad 2 0) (ad 14 9) (ad 16 g) (wyR e) := by
  have h60 := hM.2.2.1.1
  have h6 := hM.2.1.1
  have c9 : cp 15 9 = 44 := hd.1.2.2.1
  have c30 := hd.c30
  have c31 := hd.c31
  have hN := fmN_le hM hg he
  have eN : fmN M g e = rowN M g + eL M e := rfl
  have eB : ∀ k, fmB M g e k = if k < rowN M g then rowB M g k else 96 + M 6 (4 * (e - 1) + (k - rowN M g)) := fun _ => rfl
  have hel : eL M e = if e = 0 then 0 else M 7 (e - 1) := rfl
  generalize fmN M g e = N at hQ hN eN
  generalize fmB M g e = B at hQ eB
  have l16 : lv cp 16 g := lv_16 h (by omega)
  have lrt : lv cp 14 (16 + g) := lv_rt h (by omega)
  have l9 : lv cp 14 9 := lv_r (by decide)
  unfold wp_X1_pushForm_0
  refine pk_loop (σ := cV × pF) (fun n9 k st => wp_X1_pushForm_3 dA zz Q n9 L st.2 (ad 2 0) (ad 14 9) (ad 16 g) (wyR e) (nI k)) (fun k st => CH dA zz ad cp st.1 Z L st.2 ∧ fr9 st.1 V ∧ st.1 14 9 0 = nI k ∧ ∀ j, j < k → st.1 15 9 j = sb (B j)) (rowN M g) 0 (V, f) (Nat.zero_le _) ⟨h, fun _ _ _ _ => rfl, h0, fun j hj => absurd hj (Nat.not_lt_zero j)⟩ ?_ ?_
  · rintro n9 ⟨V1, f1⟩ ⟨h1, fr1, s1, b1⟩
    have h1 : CH dA zz ad cp V1 Z L f1 := h1
    have fr1 : fr9 V1 V := fr1
    have s1 : V1 14 9 0 = nI (rowN M g) := s1
    have b1 : ∀ j, j < rowN M g → V1 15 9 j = sb (B j) := b1
    have d1 := hd.r9 fr1 s1 (by omega)
    dsimp only
    unfold wp_X1_pushForm_3
    refine cgR (c := 16) h1 l16 rfl rfl ⟨cO (c := 14) h1 lrt rfl, rw_size (kT h1 d1 hM hg) (bt1 ((i_le (rowN M g) (rowN M g)).mpr (Nat.le_refl _)) ?_)⟩
    unfold wp_X1_pushForm_35
    by_cases e0 : e = 0
    · rw [hel, if_pos e0, Nat.add_zero] at eN
      exact bt1 (by rw [e0]; decide) (hQ V1 f1 h1 fr1 (by rw [eN]; exact s1) (by rw [eN]; exact b1))
    · obtain ⟨d, hd9⟩ : ∃ d, e = d + 1 := ⟨e - 1, by omega⟩
      rw [hel, if_neg e0, hd9, Nat.add_sub_cancel] at eN
      rw [hd9, wyR_s]
      refine bf1 (n_lt0 (by omega)) (cgR (c := 2) h1 rfl rfl rfl ⟨l_O h1 (by decide), l_size h1 (by decide) (bf1 (by rw [i_le (cp 3 0) d]; omega) (cgR (c := 2) h1 rfl rfl rfl ⟨l_O h1 (by decide), l_get0 h1 d (by omega) ⟨cO (c := 14) h1 (lv_re h1 (by omega)) rfl, ?_⟩⟩))⟩)
      have key : ∃ n8, wp_X1_pushForm_66 dA zz Q n8 L f1 (ad 14 9) (ad 14 (10 + d)) (nI 0) := by
        refine pk_loop (σ := cV × pF) (fun n8 k st => wp_X1_pushForm_66 dA zz Q n8 L st.2 (ad 14 9) (ad 14 (10 + d)) (nI k)) (fun k st => CH dA zz ad cp st.1 Z L st.2 ∧ fr9 st.1 V ∧ st.1 14 9 0 = nI (rowN M g + k) ∧ ∀ j, j < rowN M g + k → st.1 15 9 j = sb (B j)) (M 7 d) 0 (V1, f1) (Nat.zero_le _) ⟨h1, fr1, s1, b1⟩ ?_ ?_
        · rintro n8 ⟨V2, f2⟩ ⟨h2, fr2, s2, b2⟩
          have h2 : CH dA zz ad cp V2 Z L f2 := h2
          have fr2 : fr9 V2 V := fr2
          have s2 : V2 14 9 0 = nI (rowN M g + M 7 d) := s2
          have b2 : ∀ j, j < rowN M g + M 7 d → V2 15 9 j = sb (B j) := b2
          have d2 := hd.r9 fr2 s2 (by omega)
          dsimp only
          unfold wp_X1_pushForm_66
          exact ⟨cO (c := 14) h2 (lv_re h2 (by omega)) rfl, rw_size (kE h2 d2 hM (by omega)) (bt1 ((i_le (M 7 d) (M 7 d)).mpr (Nat.le_refl _)) (hQ V2 f2 h2 fr2 (by rw [eN]; exact s2) (by rw [eN]; exact b2)))⟩
        · rintro n8 k ⟨V2, f2⟩ hk ⟨h2, fr2, s2, b2⟩ ih
          have h2 : CH dA zz ad cp V2 Z L f2 := h2
          have fr2 : fr9 V2 V := fr2
          have s2 : V2 14 9 0 = nI (rowN M g + k) := s2
          have b2 : ∀ j, j < rowN M g + k → V2 15 9 j = sb (B j) := b2
          have d2 := hd.r9 fr2 s2 (by omega)
          dsimp only
          unfold wp_X1_pushForm_66
          refine ⟨cO (c := 14) h2 (lv_re h2 (by omega)) rfl, rw_size (kE h2 d2 hM (by omega)) (bf1 (by rw [i_le (M 7 d) k]; omega) ⟨cO (c := 14) h2 (lv_re h2 (by omega)) rfl, rw_at (kE h2 d2 hM (by omega)) k (by omega) ⟨cO (c := 14) h2 l9 rfl, ?_⟩⟩)⟩
          unfold atv
          rw [if_pos hk]
          refine c_push9 (b := B) (V0 := V) (k := rowN M g + k) h2 c9 fr2 s2 b2 (by omega) ?_ (fun r V3 f3 h3 fr3 s3 b3 => ?_)
          · rw [eB, if_neg (by omega), hd9, Nat.add_sub_cancel, Nat.add_sub_cancel_left]
          · rintro _ rfl
            rw [nI_1]
            exact ih (V3, f3) ⟨h3, fr3, s3, b3⟩
      exact key
  · rintro n9 k ⟨V1, f1⟩ hk ⟨h1, fr1, s1, b1⟩ ih
    have h1 : CH dA zz ad cp V1 Z L f1 := h1
    have fr1 : fr9 V1 V := fr1
    have s1 : V1 14 9 0 = nI k := s1
    have b1 : ∀ j, j < k → V1 15 9 j = sb (B j) := b1
    have d1 := hd.r9 fr1 s1 (by omega)
    dsimp only
    unfold wp_X1_pushForm_3
    refine cgR (c := 16) h1 l16 rfl rfl ⟨cO (c := 14) h1 lrt rfl, rw_size (kT h1 d1 hM hg) (bf1 (by rw [i_le (rowN M g) k]; omega) (cgR (c := 16) h1 l16 rfl rfl ⟨cO (c := 14) h1 lrt rfl, rw_at (kT h1 d1 hM hg) k (by omega) ⟨cO (c := 14) h1 l9 rfl, ?_⟩⟩))⟩
    unfold atv
    rw [if_pos hk]
    refine c_push9 (b := B) (V0 := V) (k := k) h1 c9 fr1 s1 b1 (by omega) ?_ (fun r V3 f3 h3 fr3 s3 b3 => ?_)
    · rw [eB, if_pos hk]
    · rintro _ rfl
      rw [nI_1]
      exact ih (V3, f3) ⟨h3, fr3, s3, b3⟩
theorem c_greatB {Q : Int32 → List Nat → pF → Prop} (h : CH dA zz ad cp V Z L f) (hd : CD M D mn cp V Z ng) (hM : MI M D) {x p q n : Nat} (hx : x < 8) (hpq : p < q) (hq : q ≤ M 20 x) (h9 : V 14 9 0 = nI n) (hQ : Q (nI (grt M x p q n)) L f) : wp_X2_greatBytes_0 dA zz Q L f (ad 13 0) (ad 14 (1 + x)) (nI p) (nI q) := by
  obtain ⟨b600, b256⟩ := hM.2.2.2.2.2 x hx
  have kx := kX h hd hM hx
  have l9 : lv cp 14 9 := lv_r (by decide)
  have lx : lv cp 14 (1 + x) := lv_r (by omega)
  have eg : grt M x p q n = if (2 ≤ lcN M x p (q - p) ∧ gcN M x p (q - p) = lcN M x p (q - p)) then n else if isG (M 19 (600 * x + p)) then 1 else 0 := rfl
  have lcl : ∀ j, lcN M x p j ≤ j := fun j => fb_ct_le _ j
  have gcl : ∀ j, gcN M x p j ≤ j := fun j => fb_ct_le _ j
  have lcs : ∀ j, lcN M x p (j + 1) = lcN M x p j + (if decide (isL (M 19 (600 * x + (p + j)))) = true then 1 else 0) := fun j => rfl
  have gcs : ∀ j, gcN M x p (j + 1) = gcN M x p j + (if decide (isG (M 19 (600 * x + (p + j)))) = true then 1 else 0) := fun j => rfl
  have l0 : lcN M x p 0 = 0 := rfl
  have g0 : gcN M x p 0 = 0 := rfl
  rw [eg] at hQ
  generalize lcN M x p = lc at lcl lcs l0 hQ
  generalize gcN M x p = gc at gcl gcs g0 hQ
  have f69 : ¬ (2 ≤ lc (q - p) ∧ gc (q - p) = lc (q - p)) → wp_X2_greatBytes_69 dA zz Q L f (ad 14 (1 + x)) (nI p) := by
    intro hn
    rw [if_neg hn] at hQ
    have bb := b256 p (by omega)
    unfold wp_X2_greatBytes_69
    refine ⟨cO (c := 14) h lx rfl, rw_at kx p (by omega) ?_⟩
    unfold atv
    rw [if_pos (show p < M 20 x by omega)]
    refine x_great (c := M 19 (600 * x + p)) (by omega) (bq bI_z (fun k1 => ?_) (fun k1 => ?_))
    · rw [if_neg k1] at hQ; exact hQ
    · rw [if_pos (Classical.not_not.mp k1)] at hQ; exact hQ
  unfold wp_X2_greatBytes_0
  have key : ∃ n9, wp_X2_greatBytes_9 dA zz Q n9 L f (ad 13 0) (ad 14 (1 + x)) (nI p) (nI q) (nI (lc 0)) (nI (gc 0)) (nI (p + 0)) := by
    refine pk_loop (σ := Unit) (fun n9 j _ => wp_X2_greatBytes_9 dA zz Q n9 L f (ad 13 0) (ad 14 (1 + x)) (nI p) (nI q) (nI (lc j)) (nI (gc j)) (nI (p + j))) (fun _ _ => True) (q - p) 0 () (Nat.zero_le _) trivial ?_ ?_
    · intro n9 _ _
      have c1 := lcl (q - p)
      have c2 := gcl (q - p)
      unfold wp_X2_greatBytes_9
      refine bt1 ((i_le q (p + (q - p))).mpr (by omega)) ?_
      unfold wp_X2_greatBytes_48 wp_X4_size_0
      refine bq (i_lt (lc (q - p)) 2) (fun k1 => f69 (fun o => by have := o.1; omega)) (fun k1 => bn (i_eq (gc (q - p)) (lc (q - p))) (fun k2 => cgR (c := 13) h rfl rfl rfl ⟨cO (c := 14) h l9 rfl, cgI (c := 14) h l9 rfl rfl ?_⟩) (fun k2 => f69 (fun o => k2 o.2)))
      rw [if_pos ⟨by omega, k2⟩] at hQ
      rw [h9]
      exact hQ
    · intro n9 j _ hj _ ih
      have c1 := lcl j
      have c2 := gcl j
      have cs := lcs j
      have gs := gcs j
      have bb := b256 (p + j) (by omega)
      have hle : p + j < M 20 x := by omega
      have next : ∀ d d2 : Nat, d = lc (j + 1) → d2 = gc (j + 1) → wp_X2_greatBytes_42 dA zz Q (wp_X2_greatBytes_9 dA zz Q n9) L f (ad 13 0) (ad 14 (1 + x)) (nI p) (nI q) (nI d) (nI d2) (nI (p + j)) := by
        intro d d2 hd1 hd2
        unfold wp_X2_greatBytes_42
        rintro _ rfl
        rw [nI_1, hd1, hd2]
        exact ih () trivial
      unfold wp_X2_greatBytes_9
      refine bf1 (by rw [i_le q (p + j)]; omega) ⟨cO (c := 14) h lx rfl, rw_letter kx (p + j) (by omega) (bq bI_z (fun k1 => next _ _ ?_ ?_) (fun k1 => ?_))⟩
      · have nl : ¬ isL (M 19 (600 * x + (p + j))) := fun o => k1 ⟨hle, o⟩
        rw [cs, if_neg (by rw [decide_eq_true_iff]; exact nl)]
        rfl
      · have nl : ¬ isL (M 19 (600 * x + (p + j))) := fun o => k1 ⟨hle, o⟩
        rw [gs, if_neg (by rw [decide_eq_true_iff]; exact fun o => nl (Or.inr o))]
        rfl
      · have yl : isL (M 19 (600 * x + (p + j))) := (Classical.not_not.mp k1).2
        rw [if_pos (decide_eq_true yl)] at cs
        rintro _ rfl
        rw [nI_1]
        refine ⟨cO (c := 14) h lx rfl, rw_at kx (p + j) (by omega) ?_⟩
        unfold atv
        rw [if_pos hle]
        refine x_great (c := M 19 (600 * x + (p + j))) (by omega) (bq bI_z (fun k2 => next _ _ cs.symm ?_) (fun k2 => ?_))
        · rw [gs, if_neg (by rw [decide_eq_true_iff]; exact k2)]
          rfl
        · rintro _ rfl
          rw [nI_1]
          refine next _ _ cs.symm ?_
          rw [gs, if_pos (decide_eq_true (Classical.not_not.mp k2))]
  rw [l0, g0] at key
  exact key
theorem c_greaten {Q : List Nat → pF → Prop} (h : CH dA zz ad cp V Z L f) (c9 : cp 15 9 = 44) {r n : Nat} {b : Nat → Nat} (h9 : V 14 9 0 = nI n) (hb : ∀ j, j < n → V 15 9 j = sb (b j)) (hb2 : ∀ j, j < n → b j < 128) (hr : r ≤ n) (hn : n ≤ 44) (hQ : ∀ (V' : cV) (f' : pF), CH dA zz ad cp V' Z L f' → fr9 V' V → V' 14 9 0 = nI n → (∀ j, j < n → V' 15 9 j = sb (gB r b j)) → Q L f') : wp_X4_greaten_0 dA zz Q L f (ad 14 9) (nI r) := by
  have l9 : lv cp 14 9 := lv_r (by decide)
  have l15 : lv cp 15 9 := Or.inl (by omega)
  unfold wp_X4_greaten_0
  refine pk_loop (σ := cV × pF) (fun n9 k st => wp_X4_greaten_2 dA zz Q n9 L st.2 (ad 14 9) (nI r) (nI k)) (fun k st => CH dA zz ad cp st.1 Z L st.2 ∧ fr9 st.1 V ∧ st.1 14 9 0 = nI n ∧ (∀ j, j < k → st.1 15 9 j = sb (gB r b j)) ∧ ∀ j, k ≤ j → j < n → st.1 15 9 j = sb (b j)) r 0 (V, f) (Nat.zero_le _) ⟨h, fun _ _ _ _ => rfl, h9, fun j hj => absurd hj (Nat.not_lt_zero j), fun j _ hj => hb j hj⟩ ?_ ?_
  · rintro n9 ⟨V1, f1⟩ ⟨h1, fr1, s1, b1, e1⟩
    have b1 : ∀ j, j < r → V1 15 9 j = sb (gB r b j) := b1
    have e1 : ∀ j, r ≤ j → j < n → V1 15 9 j = sb (b j) := e1
    dsimp only
    unfold wp_X4_greaten_2
    refine bt1 ((i_le r r).mpr (Nat.le_refl _)) (hQ V1 f1 h1 fr1 s1 (fun j hj => ?_))
    by_cases hjr : j < r
    · exact b1 j hjr
    · rw [e1 j (by omega) hj]
      unfold gB
      rw [if_neg (fun o => hjr o.1)]
  · rintro n9 k ⟨V1, f1⟩ hk ⟨h1, fr1, s1, b1, e1⟩ ih
    have h1 : CH dA zz ad cp V1 Z L f1 := h1
    have fr1 : fr9 V1 V := fr1
    have s1 : V1 14 9 0 = nI n := s1
    have b1 : ∀ j, j < k → V1 15 9 j = sb (gB r b j) := b1
    have e1 : ∀ j, k ≤ j → j < n → V1 15 9 j = sb (b j) := e1
    have bk := hb2 k (by omega)
    have vk : V1 15 9 k = nI (b k) := by rw [e1 k (Nat.le_refl _) (by omega)]; exact fa_byte_small bk
    have next : ∀ (V2 : cV) (f2 : pF), CH dA zz ad cp V2 Z L f2 → fr9 V2 V → V2 14 9 0 = nI n → (∀ j, j < k + 1 → V2 15 9 j = sb (gB r b j)) → (∀ j, k + 1 ≤ j → j < n → V2 15 9 j = sb (b j)) → wp_X4_greaten_49 dA zz Q (wp_X4_greaten_2 dA zz Q n9) L f2 (ad 14 9) (nI r) (nI k) := by
      intro V2 f2 h2 fr2 s2 b2 e2
      unfold wp_X4_greaten_49
      rintro _ rfl
      rw [nI_1]
      exact ih (V2, f2) ⟨h2, fr2, s2, b2, e2⟩
    have same : ¬ (97 ≤ b k ∧ b k ≤ 122) → wp_X4_greaten_49 dA zz Q (wp_X4_greaten_2 dA zz Q n9) L f1 (ad 14 9) (nI r) (nI k) := by
      intro hno
      refine next V1 f1 h1 fr1 s1 (fun j hj => ?_) (fun j hj1 hj2 => e1 j (by omega) hj2)
      by_cases e : j = k
      · rw [e, e1 k (Nat.le_refl _) (by omega)]
        unfold gB
        rw [if_neg (fun o => hno o.2)]
      · exact b1 j (by omega)
    dsimp only
    unfold wp_X4_greaten_2
    refine bf1 (by rw [i_le r k]; omega) (cgI (c := 14) h1 l9 rfl rfl (bf1 (by rw [i_le n k (hx := s1)]; omega) (cgR (c := 14) h1 l9 rfl rfl (caI (c := 15) (i := 9) (n := cp 15 9) h1 l15 rfl k rfl (by omega) (by omega) ?_))))
    rw [vk]
    refine bq (i_lt (b k) 97) (fun k1 => same (by omega)) (fun k1 => cgR (c := 14) h1 l9 rfl rfl (caI (c := 15) (i := 9) (n := cp 15 9) h1 l15 rfl k rfl (by omega) (by omega) ?_))
    rw [vk]
    refine bq (i_lt 122 (b k)) (fun k2 => same (by omega)) (fun k2 => cgR (c := 14) h1 l9 rfl rfl (caI (c := 15) (i := 9) (n := cp 15 9) h1 l15 rfl k rfl (by omega) (by omega) (caIs (c := 15) (i := 9) (n := cp 15 9) h1 l15 rfl k rfl (by omega) (by omega) rfl (fun f2 h2 => ?_))))
    rw [vk, show (32 : Int32) = nI 32 from rfl, n_sub (by omega), sb_nar] at h2
    refine next _ f2 h2 (fun c i n14 n15 => by rw [vst_n n15]; exact fr1 c i n14 n15) (by rw [vst_c (by decide)]; exact s1) (fun j hj => ?_) (fun j hj1 hj2 => ?_)
    · by_cases e : j = k
      · rw [e, vst_v]
        unfold gB
        rw [if_pos ⟨hk, by omega, by omega⟩]
        rfl
      · rw [vst_j e]; exact b1 j (by omega)
    · rw [vst_j (by omega)]; exact e1 j (by omega) hj2
end CFO
