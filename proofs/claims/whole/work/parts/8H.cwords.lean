/-! pure: the words of a text in the component -/
theorem sm_lto {c l : Nat} (h1 : 1 ≤ l) (h2 : l ≤ 26) : (sm c = 96 + l ∨ 96 + l = 32 ∧ sm c = 10) ↔ lto c = l := by
  unfold sm lto
  split <;> split <;> (try split) <;> omega
/-- a neighbour of thing g is the word from p to e -/
abbrev nbr (M : mN) (x g p e : Nat) : Prop := ∃ i, i < M 16 g ∧ M 15 (8 * g + i) = e - p ∧ ∀ k, k < e - p → M 14 (96 * g + 12 * i + k) = lto (M 19 (600 * x + (p + k)))
section CW
variable {dA : Nat → ClassId} {zz : Nat → Nat} {x0 ou : Nat} {M : mN} {D : Nat → Int64} {mn : Int32} {L : List Nat} {f : pF}
variable {ad cp : Nat → Nat → Nat} {V : cV} {Z : cZ} {ng : Nat → Nat}
/-- a form that is one neighbour's word stands there, just so long -/
abbrev nmt (M : mN) (ng : Nat → Nat) (x p e j : Nat) : Prop := mat (M 20 x) (tbx M x) p (M 15 (8 * ng j + ngI ng j)) (fun k => 96 + M 14 (96 * ng j + 12 * ngI ng j + k)) ∧ p + M 15 (8 * ng j + ngI ng j) = e
theorem nmt_iff (hd : CD M D mn cp V Z ng) (hM : MI M D) {x p e g : Nat} (hg : g < 40) (hpe : p ≤ e) (hen : e ≤ M 20 x) : (∃ j, j < cp 3 2 ∧ ng j = g ∧ nmt M ng x p e j) ↔ nbr M x g p e := by
  constructor
  · rintro ⟨j, hj, rfl, h1, h2⟩
    obtain ⟨a1, a2, a3, a4, a5, a6⟩ := hd.N hj
    obtain ⟨b1, b2, b3⟩ := (hM.2.2.2.1 (ng j) a1).2.1 _ a3
    refine ⟨ngI ng j, a3, by omega, fun k hk => ?_⟩
    obtain ⟨c1, c2⟩ := h1 k (by omega)
    obtain ⟨d1, d2⟩ := b3 k (by omega)
    exact ((sm_lto d1 d2).mp c2).symm
  · rintro ⟨i, hi, h1, h2⟩
    have hct := hd.2.2.2.2.2.2.2.1 g hg
    rw [hct] at hi
    obtain ⟨j, j1, j2, j3⟩ := fb_ct_kth hi
    have ej : ng j = g := by simpa using j2
    have ei : ngI ng j = i := by unfold ngI; rw [ej]; exact j3
    obtain ⟨a1, a2, a3, a4, a5, a6⟩ := hd.N j1
    obtain ⟨b1, b2, b3⟩ := (hM.2.2.2.1 (ng j) a1).2.1 _ a3
    refine ⟨j, j1, ej, fun k hk => ?_, ?_⟩
    · obtain ⟨d1, d2⟩ := b3 k hk
      rw [ej, ei] at hk d1 d2 ⊢
      rw [h1] at hk
      refine ⟨by omega, (sm_lto d1 d2).mpr ?_⟩
      exact (h2 k hk).symm
    · rw [ej, ei, h1]; omega
def neI (M : mN) (ng : Nat → Nat) (x p e : Nat) : Nat → Int64
  | 0 => 0
  | j + 1 => if nmt M ng x p e j then neI M ng x p e j ||| ((1 : Int64) <<< ((nI (ng j)).toInt64 &&& 63)) else neI M ng x p e j
theorem neI_in (hng : ∀ j, j < cp 3 2 → ng j < 40) {x p e : Nat} : ∀ {m : Nat}, m ≤ cp 3 2 → ∀ {g : Nat}, (tb (neI M ng x p e m) g = true ↔ ∃ j, j < m ∧ ng j = g ∧ nmt M ng x p e j)
  | 0, _, g => by rw [neI, tb_0]; exact ⟨fun h => absurd h (by decide), fun ⟨t, h1, _⟩ => absurd h1 (Nat.not_lt_zero t)⟩
  | m + 1, hm, g => by
    have ih := neI_in hng (x := x) (p := p) (e := e) (m := m) (by omega) (g := g)
    have h40 := hng m (by omega)
    rw [neI]
    by_cases hn : nmt M ng x p e m
    · rw [if_pos hn, tb_set (by omega), Bool.or_eq_true, decide_eq_true_eq, ih]
      constructor
      · rintro (⟨t, h1, h2⟩ | e2)
        · exact ⟨t, by omega, h2⟩
        · exact ⟨m, Nat.lt_succ_self m, e2.symm, hn⟩
      · rintro ⟨t, h1, h2, h3⟩
        by_cases e2 : t = m
        · subst e2; exact Or.inr h2.symm
        · exact Or.inl ⟨t, by omega, h2, h3⟩
    · rw [if_neg hn, ih]
      constructor
      · rintro ⟨t, h1, h2⟩; exact ⟨t, by omega, h2⟩
      · rintro ⟨t, h1, h2, h3⟩
        by_cases e2 : t = m
        · subst e2; exact absurd h3 hn
        · exact ⟨t, by omega, h2, h3⟩
theorem c_near {Q : Int64 → List Nat → pF → Prop} (h : CH dA zz ad cp V Z L f) (hd : CD M D mn cp V Z ng) (hM : MI M D) {x p e : Nat} (hx : x < 8) (hpe : p ≤ e) (hen : e ≤ M 20 x) (hQ : ∀ z : Int64, (∀ g, tb z g = decide (g < 40 ∧ nbr M x g p e)) → Q z L f) : wp_X1_thingsNear_0 dA zz Q L f (ad 2 0) (ad 14 (1 + x)) (nI p) (nI e) := by
  have hnn := hd.nn hM
  have b600 := (hM.2.2.2.2.2 x hx).1
  have hrow := kX h hd hM hx
  unfold wp_X1_thingsNear_0
  refine pk_loop (σ := Unit) (fun n9 j _ => wp_X1_thingsNear_6 dA zz Q n9 L f (ad 2 0) (ad 14 (1 + x)) (nI p) (nI e) (neI M ng x p e j) (nI j)) (fun _ _ => True) (cp 3 2) 0 () (Nat.zero_le _) trivial ?_ ?_
  · intro n9 _ _
    unfold wp_X1_thingsNear_6
    refine cgR (c := 2) h rfl rfl rfl ⟨l_O h (by decide), l_size h (by decide) (bt1 ((i_le (cp 3 2) (cp 3 2)).mpr (Nat.le_refl _)) (hQ _ (fun g => ?_)))⟩
    have hi := neI_in (M := M) (ng := ng) (fun j hj => (hd.N hj).1) (x := x) (p := p) (e := e) (Nat.le_refl (cp 3 2)) (g := g)
    by_cases hg : g < 40
    · rw [nmt_iff hd hM hg hpe hen] at hi
      by_cases hb : nbr M x g p e
      · rw [hi.mpr hb]; simp only [hg, hb, and_self, decide_true]
      · rw [Bool.eq_false_iff.mpr (fun h9 => hb (hi.mp h9))]; simp only [hb, and_false, decide_false]
    · have : ¬ tb (neI M ng x p e (cp 3 2)) g = true := fun h9 => by
        obtain ⟨j, j1, j2, _⟩ := hi.mp h9
        have := (hd.N j1).1
        omega
      rw [Bool.eq_false_iff.mpr this]; simp only [hg, false_and, decide_false]
  · intro n9 j _ hj _ ih
    have ei : neI M ng x p e (j + 1) = if nmt M ng x p e j then neI M ng x p e j ||| ((1 : Int64) <<< ((nI (ng j)).toInt64 &&& 63)) else neI M ng x p e j := rfl
    obtain ⟨a1, a2, a3, a4, a5, a6⟩ := hd.N hj
    obtain ⟨b1, b2, b3⟩ := (hM.2.2.2.1 (ng j) a1).2.1 _ a3
    have next : ∀ z, z = neI M ng x p e (j + 1) → wp_X1_thingsNear_58 dA zz Q (wp_X1_thingsNear_6 dA zz Q n9) L f (ad 2 0) (ad 14 (1 + x)) (nI p) (nI e) z (nI j) := by
      intro z hz
      subst hz
      unfold wp_X1_thingsNear_58
      rintro _ rfl
      rw [nI_1]
      exact ih () trivial
    unfold wp_X1_thingsNear_6
    refine cgR (c := 2) h rfl rfl rfl ⟨l_O h (by decide), l_size h (by decide) (bf1 (by rw [i_le (cp 3 2) j]; omega) (cgR (c := 2) h rfl rfl rfl ⟨l_O h (by decide), l_get2 h j hj ⟨cO (c := 17) h (lv_17 h hj) rfl, cgR (c := 17) h (lv_17 h hj) rfl rfl ⟨hrow.O, rw_eof hrow (kN h hd hM hj) p (by omega) ?_⟩⟩⟩))⟩
    by_cases hmt : mat (M 20 x) (tbx M x) p (M 15 (8 * ng j + ngI ng j)) (fun k => 96 + M 14 (96 * ng j + 12 * ngI ng j + k))
    · rw [if_pos hmt]
      refine bn (i_eq (p + M 15 (8 * ng j + ngI ng j)) e) (fun he => cgI (c := 17) h (lv_17 h hj) rfl rfl ?_) (fun he => next _ (by rw [ei, if_neg (fun h9 => he h9.2)]))
      rw [a2]
      rintro _ rfl
      exact next _ (by rw [ei, if_pos ⟨hmt, he⟩])
    · rw [if_neg hmt]
      exact bf2 (fun h9 => n_m1 (by omega) h9.symm) (next _ (by rw [ei, if_neg (fun h9 => hmt h9.1)]))
/-- what the words' read leaves -/
def WR (M : mN) (x : Nat) (V : cV) (Z : cZ) : Prop := V 10 0 0 = nI (fnd (M 20 x) (tbx M x)) ∧ V 10 0 1 = -1 ∧ (∀ k, k < fnd (M 20 x) (tbx M x) → V 11 0 k = nI (wpA (M 20 x) (tbx M x) k) ∧ V 11 1 k = nI (weA (M 20 x) (tbx M x) k) ∧ V 11 2 k = nI (snA (tbx M x) (wpA (M 20 x) (tbx M x) k))) ∧ ∀ k, k < fnd (M 20 x) (tbx M x) → ∀ g, tb (Z 12 k) g = decide (g < 40 ∧ nbr M x g (wpA (M 20 x) (tbx M x) k) (weA (M 20 x) (tbx M x) k))
theorem c_keep {Q : List Nat → pF → Prop} {c : Nat} {p e s : Int32} (h : CH dA zz ad cp V Z L f) (hc : V 10 0 0 = nI c) (h3 : c < 300) (hQ : ∀ f' : pF, CH dA zz ad cp (vst (vst (vst (vst V 11 0 c p) 11 1 c e) 11 2 c s) 10 0 0 (nI (c + 1))) Z L f' → Q L f') : wp_X7_keepWord_0 dA zz Q L f (ad 10 0) p e s := by
  unfold wp_X7_keepWord_0
  refine cgI (c := 10) h rfl rfl rfl (bf1 (by rw [i_le 300 c (hy := hc)]; omega) (cgR (c := 10) h rfl rfl rfl (cgI (c := 10) h rfl rfl rfl (caIs (c := 11) (i := 0) (n := 300) h (lv_11 (by decide)) rfl c hc h3 (by decide) rfl ?_))))
  intro f1 h1
  have c1 : vst V 11 0 c p 10 0 0 = nI c := by rw [vst_c (by decide)]; exact hc
  refine cgR (c := 10) h1 rfl rfl rfl (cgI (c := 10) h1 rfl rfl rfl (caIs (c := 11) (i := 1) (n := 300) h1 (lv_11 (by decide)) rfl c c1 h3 (by decide) rfl ?_))
  intro f2 h2
  have c2 : vst (vst V 11 0 c p) 11 1 c e 10 0 0 = nI c := by rw [vst_c (by decide)]; exact c1
  refine cgR (c := 10) h2 rfl rfl rfl (cgI (c := 10) h2 rfl rfl rfl (caIs (c := 11) (i := 2) (n := 300) h2 (lv_11 (by decide)) rfl c c2 h3 (by decide) rfl ?_))
  intro f3 h3'
  have c3 : vst (vst (vst V 11 0 c p) 11 1 c e) 11 2 c s 10 0 0 = nI c := by rw [vst_c (by decide)]; exact c2
  refine cgI (c := 10) h3' rfl rfl rfl (cgPi (c := 10) h3' rfl rfl 0 (by show 6 < 8; decide) rfl ?_)
  intro f4 h4
  rw [c3, nI_1] at h4
  exact hQ f4 h4
set_option maxHeartbeats 1000000 in
theorem c_words {Q : List Nat → pF → Prop} (h : CH dA zz ad cp V Z L f) (hd : CD M D mn cp V Z ng) (hM : MI M D) {x : Nat} (hx : x < 8) (hQ : ∀ (V' : cV) (Z' : cZ) (f' : pF), CH dA zz ad cp V' Z' L f' → (∀ c j, c ≠ 10 → c ≠ 11 → V' c j = V c j) → (∀ c, c ≠ 12 → Z' c = Z c) → WR M x V' Z' → Q L f') : wp_X7_read_0 dA zz Q L f (ad 10 0) (ad 14 (1 + x)) := by
  have b600 := (hM.2.2.2.2.2 x hx).1
  unfold wp_X7_read_0
  refine cgPi (c := 10) h rfl rfl 0 (by show 6 < 8; decide) rfl ?_
  intro f1 h1
  refine cgPi (c := 10) h1 rfl rfl 1 (by show 7 < 8; decide) rfl ?_
  intro f2 h2
  have cdOf : ∀ {V' : cV} {Z' : cZ}, (∀ c j, c ≠ 10 → c ≠ 11 → V' c j = V c j) → (∀ c, c ≠ 12 → Z' c = Z c) → CD M D mn cp V' Z' ng := fun hv hz => hd.fr2 (fun c j hc => hv c j (by omega) (by omega)) (hz 5 (by decide)) (hz 6 (by decide))
  generalize hnn : M 20 x = n at *
  generalize hbx : tbx M x = b at *
  have hlo : ∀ k, ((k < M 20 x ∧ isL (M 19 (600 * x + k))) ↔ ltA n b k) := fun k => by rw [hnn, ← hbx]
  refine pk_loop (σ := cV × pF × Nat × Nat × Nat) (fun n9 i st => wp_X7_read_17 dA zz Q n9 L st.2.1 (ad 10 0) (ad 14 (1 + x)) (nI st.2.2.1) (nI st.2.2.2.1) (nI i)) (fun i st => CH dA zz ad cp st.1 Z L st.2.1 ∧ (∀ c j, c ≠ 10 → c ≠ 11 → st.1 c j = V c j) ∧ st.1 10 0 1 = -1 ∧ st.1 10 0 0 = nI st.2.2.2.2 ∧ st.2.2.1 = snA b i ∧ (0 < i ∧ ltA n b (i - 1) ∧ ltA n b i → st.2.2.2.1 = wpA n b st.2.2.2.2 ∧ wpA n b st.2.2.2.2 < i ∧ ∀ j, wpA n b st.2.2.2.2 ≤ j → j < i → ltA n b j) ∧ (¬ (0 < i ∧ ltA n b (i - 1) ∧ ltA n b i) → nxt n b i = wpA n b st.2.2.2.2) ∧ (∀ k, k < st.2.2.2.2 → wpA n b k < n) ∧ ∀ k, k < st.2.2.2.2 → st.1 11 0 k = nI (wpA n b k) ∧ st.1 11 1 k = nI (weA n b k) ∧ st.1 11 2 k = nI (snA b (wpA n b k))) n 0 (vst (vst V 10 0 0 0) 10 0 1 (-1), f2, 0, 0, 0) (Nat.zero_le _) ⟨h2, fun c j h10 h11 => by dsimp only; rw [vst_c h10, vst_c h10], by dsimp only; rw [vst_v], by dsimp only; rw [vst_j (by decide), vst_v]; rfl, rfl, fun h9 => absurd h9.1 (Nat.lt_irrefl 0), fun _ => rfl, fun k hk => absurd hk (Nat.not_lt_zero k), fun k hk => absurd hk (Nat.not_lt_zero k)⟩ ?_ ?_
  · rintro n9 ⟨V1, f3, s, p, c⟩ ⟨k1, k2, k3, k4, k5, k6, k7, k8, k9⟩
    have k1 : CH dA zz ad cp V1 Z L f3 := k1
    have k2 : ∀ c j, c ≠ 10 → c ≠ 11 → V1 c j = V c j := k2
    have k3 : V1 10 0 1 = -1 := k3
    have k4 : V1 10 0 0 = nI c := k4
    have k7 : nxt n b n = wpA n b c := k7 (fun h9 => Nat.lt_irrefl n h9.2.2.1)
    have k8 : ∀ k, k < c → wpA n b k < n := k8
    have k9 : ∀ k, k < c → V1 11 0 k = nI (wpA n b k) ∧ V1 11 1 k = nI (weA n b k) ∧ V1 11 2 k = nI (snA b (wpA n b k)) := k9
    rw [nxt_n] at k7
    have hf := fnd_is k7.symm k8
    have hfl := fnd_le (n := n) (b := b)
    have hrow := kX k1 (cdOf k2 (fun _ _ => rfl)) hM hx
    unfold wp_X7_read_17
    refine ⟨hrow.O, rw_size hrow (bt1 ((i_le (M 20 x) n).mpr (by omega)) ?_)⟩
    unfold wp_X7_read_94
    refine pk_loop (σ := cZ × pF) (fun n9 i st => wp_X7_read_97 dA zz Q n9 L st.2 (ad 10 0) (ad 14 (1 + x)) (nI i)) (fun i st => CH dA zz ad cp V1 st.1 L st.2 ∧ (∀ c, c ≠ 12 → st.1 c = Z c) ∧ ∀ k, k < i → ∀ g, tb (st.1 12 k) g = decide (g < 40 ∧ nbr M x g (wpA n b k) (weA n b k))) c 0 (Z, f3) (Nat.zero_le _) ⟨k1, fun _ _ => rfl, fun k hk => absurd hk (Nat.not_lt_zero k)⟩ ?_ ?_
    · rintro n8 ⟨Z1, f4⟩ ⟨j1, j2, j3⟩
      unfold wp_X7_read_97
      refine cgI (c := 10) j1 rfl rfl rfl (bt1 ((i_le c c (hx := k4)).mpr (Nat.le_refl _)) (hQ V1 Z1 f4 j1 k2 j2 ?_))
      unfold WR
      rw [hnn, hbx, hf]
      exact ⟨k4, k3, k9, j3⟩
    · rintro n8 i ⟨Z1, f4⟩ hi ⟨j1, j2, j3⟩ ih
      have j2 : ∀ c, c ≠ 12 → Z1 c = Z c := j2
      have j3 : ∀ k, k < i → ∀ g, tb (Z1 12 k) g = decide (g < 40 ∧ nbr M x g (wpA n b k) (weA n b k)) := j3
      obtain ⟨q1, q2, q3⟩ := k9 i hi
      have hgt := weA_gt (k8 i hi)
      have hwl := weA_le (n := n) (b := b) i
      unfold wp_X7_read_97
      refine cgI (c := 10) j1 rfl rfl rfl (bf1 (by rw [i_le c i (hx := k4)]; omega) (cgR (c := 10) j1 rfl rfl rfl (cgR (c := 10) j1 rfl rfl rfl (cgR (c := 10) j1 rfl rfl rfl (caI (c := 11) (i := 0) (n := 300) j1 (lv_11 (by decide)) rfl i rfl (by omega) (by decide) (cgR (c := 10) j1 rfl rfl rfl (caI (c := 11) (i := 1) (n := 300) j1 (lv_11 (by decide)) rfl i rfl (by omega) (by decide) ⟨cO (c := 2) j1 rfl rfl, ?_⟩)))))))
      rw [q1, q2]
      refine c_near j1 (cdOf k2 j2) hM hx (by omega) (by omega) (fun z hz => ?_)
      refine caJs (c := 12) (n := 300) j1 rfl l0_12 rfl i rfl (by omega) (by decide) rfl ?_
      intro f5 i1
      rintro _ rfl
      rw [nI_1]
      refine ih (zst Z1 12 i z, f5) ⟨i1, fun c hc => by dsimp only; rw [zst_c hc]; exact j2 c hc, fun k hk g => ?_⟩
      dsimp only
      by_cases e : k = i
      · subst e; rw [zst_v]; exact hz g
      · rw [zst_j e]; exact j3 k (by omega) g
  · rintro n9 i ⟨V1, f3, s, p, c⟩ hi ⟨k1, k2, k3, k4, k5, k6, k7, k8, k9⟩ ih
    have k1 : CH dA zz ad cp V1 Z L f3 := k1
    have k2 : ∀ c j, c ≠ 10 → c ≠ 11 → V1 c j = V c j := k2
    have k3 : V1 10 0 1 = -1 := k3
    have k4 : V1 10 0 0 = nI c := k4
    have k5 : s = snA b i := k5
    have k6 : 0 < i ∧ ltA n b (i - 1) ∧ ltA n b i → p = wpA n b c ∧ wpA n b c < i ∧ ∀ j, wpA n b c ≤ j → j < i → ltA n b j := k6
    have k7 : ¬ (0 < i ∧ ltA n b (i - 1) ∧ ltA n b i) → nxt n b i = wpA n b c := k7
    have k8 : ∀ k, k < c → wpA n b k < n := k8
    have k9 : ∀ k, k < c → V1 11 0 k = nI (wpA n b k) ∧ V1 11 1 k = nI (weA n b k) ∧ V1 11 2 k = nI (snA b (wpA n b k)) := k9
    have hsl := snA_le (b := b) i
    have hrow := kX k1 (cdOf k2 (fun _ _ => rfl)) hM hx
    have hbi : M 19 (600 * x + i) = b i := by rw [← hbx]
    have es : snA b (i + 1) = snA b i + (if decide (isE4 (b i)) then 1 else 0) := fb_ct_succ _ _
    unfold wp_X7_read_17
    refine ⟨hrow.O, rw_size hrow (bf1 (by rw [i_le (M 20 x) i]; omega) ⟨hrow.O, rw_letter hrow i (by omega) ?_⟩)⟩
    by_cases hl : ltA n b i
    · rw [bI_t ((hlo i).mpr hl)]
      -- the word's begin is known now
      have next : ∀ p' : Nat, p' = wpA n b c → wpA n b c ≤ i → (∀ j, wpA n b c ≤ j → j ≤ i → ltA n b j) → wp_X7_read_49 dA zz Q (wp_X7_read_17 dA zz Q n9) L f3 (ad 10 0) (ad 14 (1 + x)) (nI s) (nI p') (nI i) := by
        intro p' hp' hci hall
        have hc2 := (wpA_2 (n := n) (b := b) (k := c) (by omega)).1
        unfold wp_X7_read_49
        rw [nI_1]
        refine ⟨hrow.O, rw_letter hrow (i + 1) (by omega) ?_⟩
        have sn1 : snA b (i + 1) = snA b i := by rw [es, if_neg (by simpa using not_E4 hl.2)]; rfl
        by_cases hl2 : ltA n b (i + 1)
        · rw [bI_t ((hlo (i + 1)).mpr hl2)]
          refine bf2 (by decide) ?_
          unfold wp_X7_read_88
          rintro _ rfl
          rw [nI_1]
          exact ih (V1, f3, s, p', c) ⟨k1, k2, k3, k4, by show s = snA b (i + 1); rw [sn1]; exact k5, fun _ => ⟨hp', Nat.lt_succ_of_le hci, fun j h1 h2 => hall j h1 (Nat.le_of_lt_succ h2)⟩, fun h9 => absurd ⟨by omega, by rw [Nat.add_sub_cancel]; exact hl, hl2⟩ h9, k8, k9⟩
        · rw [bI_f (fun h9 => hl2 ((hlo (i + 1)).mp h9))]
          have hwe : weA n b c = i + 1 := enn_is (by omega) (fun j h1 h2 => hall j h1 (by omega)) hl2 (wpA_le c)
          have hsw : snA b i = snA b (wpA n b c) := snA_same hci (fun j h1 h2 => not_E4 (hall j h1 (by omega)).2)
          refine bt2 rfl ⟨cO (c := 10) k1 rfl rfl, c_keep k1 k4 (by omega) (fun f4 j1 => ?_)⟩
          unfold wp_X7_read_88
          rintro _ rfl
          rw [nI_1]
          refine ih (vst (vst (vst (vst V1 11 0 c (nI p')) 11 1 c (nI (i + 1))) 11 2 c (nI s)) 10 0 0 (nI (c + 1)), f4, s, p', c + 1) ⟨j1, fun c' j h10 h11 => by dsimp only; rw [vst_c h10, vst_c h11, vst_c h11, vst_c h11]; exact k2 c' j h10 h11, ?_, by dsimp only; rw [vst_v], by show s = snA b (i + 1); rw [sn1]; exact k5, fun h9 => absurd h9.2.2 hl2, fun _ => ?_, lt_s k8 (by omega), fun k hk => ?_⟩
          · dsimp only
            rw [vst_j (by decide), vst_c (by decide), vst_c (by decide), vst_c (by decide)]; exact k3
          · show nxt n b (i + 1) = wpA n b (c + 1)
            rw [wpA_s, hwe]
          · have hk : k < c + 1 := hk
            dsimp only
            rw [vst_c (show (11 : Nat) ≠ 10 by decide)]
            by_cases e : k = c
            · rw [e, vst_n (by decide), vst_n (by decide), vst_v, vst_n (by decide), vst_v, vst_v, hp', hwe, k5, hsw]
              exact ⟨rfl, rfl, rfl⟩
            · rw [vst_n (by decide), vst_n (by decide), vst_j e, vst_n (by decide), vst_j e, vst_j e, vst_n (by decide), vst_n (by decide), vst_n (by decide)]
              exact k9 k (by omega)
      refine bf1 (by decide) ⟨hrow.O, ?_⟩
      have old : (0 < i ∧ ltA n b (i - 1)) → wp_X7_read_49 dA zz Q (wp_X7_read_17 dA zz Q n9) L f3 (ad 10 0) (ad 14 (1 + x)) (nI s) (nI p) (nI i) := by
        intro h9
        obtain ⟨a1, a2, a3⟩ := k6 ⟨h9.1, h9.2, hl⟩
        refine next p a1 (by omega) (fun j h1 h2 => ?_)
        by_cases e : j = i
        · rw [e]; exact hl
        · exact a3 j h1 (by omega)
      have new : ¬ (0 < i ∧ ltA n b (i - 1)) → wp_X7_read_49 dA zz Q (wp_X7_read_17 dA zz Q n9) L f3 (ad 10 0) (ad 14 (1 + x)) (nI s) (nI i) (nI i) := by
        intro h9
        have e := k7 (fun h8 => h9 ⟨h8.1, h8.2.1⟩)
        rw [nxt_yes hl] at e
        refine next i e (by omega) (fun j h1 h2 => ?_)
        have : j = i := by omega
        rw [this]; exact hl
      by_cases h0 : i = 0
      · rw [h0]
        rw [h0] at new
        exact rw_letter_m hrow (by decide) (bt2 rfl (new (fun h9 => absurd h9.1 (Nat.lt_irrefl 0))))
      · rw [n_sub1 (by omega)]
        refine rw_letter hrow (i - 1) (by omega) ?_
        by_cases hl1 : ltA n b (i - 1)
        · rw [bI_t ((hlo (i - 1)).mpr hl1)]
          exact bf2 (by decide) (old ⟨by omega, hl1⟩)
        · rw [bI_f (fun h9 => hl1 ((hlo (i - 1)).mp h9))]
          exact bt2 rfl (new (fun h9 => hl1 h9.2))
    · rw [bI_f (fun h9 => hl ((hlo i).mp h9))]
      refine bt1 rfl ⟨hrow.O, rw_at hrow i (by omega) ?_⟩
      rw [atv, if_pos (by omega), hbi]
      have hb256 := (hM.2.2.2.2.2 x hx).2 i (by omega)
      rw [hbi] at hb256
      have hstep : nxt n b (i + 1) = wpA n b c := by rw [nxt_no hi hl]; exact k7 (fun h9 => hl h9.2.2)
      refine x_ends (by omega) ?_
      by_cases he : isE4 (b i)
      · rw [bI_t he]
        refine bf1 (by decide) ?_
        rintro _ rfl
        unfold wp_X7_read_88
        rintro _ rfl
        rw [nI_1, nI_1]
        exact ih (V1, f3, s + 1, p, c) ⟨k1, k2, k3, k4, by show s + 1 = snA b (i + 1); rw [es, if_pos (by simpa using he), k5], fun h9 => absurd (by have := h9.2.1; rwa [Nat.add_sub_cancel] at this) hl, fun _ => hstep, k8, k9⟩
      · rw [bI_f he]
        refine bt1 rfl ?_
        unfold wp_X7_read_88
        rintro _ rfl
        rw [nI_1]
        exact ih (V1, f3, s, p, c) ⟨k1, k2, k3, k4, by show s = snA b (i + 1); rw [es, if_neg (by simpa using he), k5]; rfl, fun h9 => absurd (by have := h9.2.1; rwa [Nat.add_sub_cancel] at this) hl, fun _ => hstep, k8, k9⟩
end CW
