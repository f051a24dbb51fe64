/-! pure: neighbour of the component -/
section KN
variable {dA : Nat → ClassId} {zz : Nat → Nat} {x0 ou : Nat} {M : mN} {D : Nat → Int64} {mn : Int32} {L : List Nat} {f : pF}
variable {ad cp : Nat → Nat → Nat} {V : cV} {Z : cZ} {ng : Nat → Nat}
theorem CD.N (hd : CD M D mn cp V Z ng) {j : Nat} (hj : j < cp 3 2) : ng j < 40 ∧ V 17 j 0 = nI (ng j) ∧ ngI ng j < M 16 (ng j) ∧ cp 15 (76 + j) = M 15 (8 * ng j + ngI ng j) ∧ V 14 (76 + j) 0 = nI (M 15 (8 * ng j + ngI ng j)) ∧ ∀ k, k < M 15 (8 * ng j + ngI ng j) → V 15 (76 + j) k = sb (96 + M 14 (96 * ng j + 12 * ngI ng j + k)) := hd.2.2.2.2.2.2.1 j hj
theorem CD.nn (hd : CD M D mn cp V Z ng) (hM : MI M D) : cp 3 2 ≤ 320 := by
  rw [hd.1.2.2.2.2.2.2]
  exact fb_sm_bound (c := 8) (n := 40) (fun k hk => (hM.2.2.2.1 k hk).1)
theorem kN (h : CH dA zz ad cp V Z L f) (hd : CD M D mn cp V Z ng) (hM : MI M D) {j : Nat} (hj : j < cp 3 2) : isRow dA L f (ad 14 (76 + j)) (ad 15 (76 + j)) (cp 15 (76 + j)) (M 15 (8 * ng j + ngI ng j)) (fun k => 96 + M 14 (96 * ng j + 12 * ngI ng j + k)) := by
  obtain ⟨a1, a2, a3, a4, a5, a6⟩ := hd.N hj
  obtain ⟨b1, b2, b3⟩ := (hM.2.2.2.1 (ng j) a1).2.1 _ a3
  exact h.row (lv_rn h hj) a5 (fun k hk => ⟨by have := (b3 k hk).2; show 96 + _ < 256; omega, a6 k hk⟩) (by rw [a4]; exact Nat.le_refl _) (by rw [a4]; omega)
/-- a neighbour's word is the one that waits -/
theorem same_iff (hM : MI M D) {g i : Nat} (hg : g < 40) (hi : i < M 16 g) (hw : wwn 12 (M 2) (M 1 0) = 1) : (M 15 (8 * g + i) = M 1 0 ∧ mat (M 15 (8 * g + i)) (fun k => 96 + M 14 (96 * g + 12 * i + k)) 0 (M 1 0) (fun k => chr (M 2 k))) ↔ (M 15 (8 * g + i) = M 1 0 ∧ ∀ k, k < M 1 0 → M 14 (96 * g + 12 * i + k) = M 2 k) := by
  obtain ⟨n1, n2, n3⟩ := wwn_one.mp hw
  obtain ⟨b1, b2, b3⟩ := (hM.2.2.2.1 g hg).2.1 i hi
  have hch : ∀ k, k < M 1 0 → chr (M 2 k) = 96 + M 2 k := fun k hk => by unfold chr; rw [if_neg (by have := n3 k hk; omega)]
  constructor
  · rintro ⟨e, hm⟩
    refine ⟨e, fun k hk => ?_⟩
    obtain ⟨h1, h2⟩ := hm k hk
    have h14 := b3 k (by omega)
    have h26 := hM.1.2 k
    have h0 := n3 k hk
    rw [Nat.zero_add] at h2
    have hs : sm (96 + M 14 (96 * g + 12 * i + k)) = 96 + M 14 (96 * g + 12 * i + k) := by unfold sm; rw [if_neg (by omega)]
    dsimp only at h2
    rw [hs, hch k hk] at h2
    omega
  · rintro ⟨e, hm⟩
    refine ⟨e, fun k hk => ⟨by omega, Or.inl ?_⟩⟩
    have h14 := b3 k (by omega)
    rw [Nat.zero_add]
    have hs : sm (96 + M 14 (96 * g + 12 * i + k)) = 96 + M 14 (96 * g + 12 * i + k) := by unfold sm; rw [if_neg (by omega)]
    dsimp only
    rw [hs, hch k hk, hm k hk]
set_option maxHeartbeats 1000000 in
theorem k_neighbour {Q : Int32 → List Nat → pF → Prop} {X : String → List Nat → pF → Prop} (h : CI dA zz x0 ou M D mn L f) (hM : MI M D) (a : Int32) (yes : ∀ g, g < 40 → a = nI g → okNb M g → ∀ (L' : List Nat) (f' : pF), CI dA zz x0 ou (aNb M g) D mn L' f' → Q (nI (M 16 g + 1)) L' f') (nope : ∀ g, g < 40 → a = nI g → ¬ okNb M g → ∀ (L' : List Nat) (f' : pF), CI dA zz x0 ou (ad2 M 1 0 0) D mn L' f' → Q (-1) L' f') (no : ¬ okN a 40 → X "java/lang/IllegalArgumentException" L f) : wp_X8_neighbour_0 dA zz Q X L f x0 a := by
  obtain ⟨ad, cp, V, Z, ng, h, rfl, rfl, hd⟩ := h
  have h40 := hM.1.1
  have hnn := hd.nn hM
  have d20 := hd.1.2.2.2.2.2.1
  have c202 : cp 20 2 = cp 3 2 := d20 2 (by decide)
  have c201 : cp 20 1 = cp 3 1 := d20 1 (by decide)
  have c200 : cp 20 0 = cp 3 0 := d20 0 (by decide)
  have b60 := hM.2.2.1.1
  have b6 := hM.2.1.1
  have c31 := hd.c31
  have c30 := hd.c30
  have hct := hd.2.2.2.2.2.2.2.1
  have hrow := kW h hd hM
  have hO : isO L f 5 (ad 14 0) := cO (c := 14) h (lv_r (by decide)) rfl
  unfold wp_X8_neighbour_0
  refine x8_thing (fun ok => ?_) no
  obtain ⟨g, hg, rfl⟩ := okN_of ok (by decide)
  have q8 := (hM.2.2.2.1 g hg).1
  have out : ¬ okNb M g → (gR L f 9 (ad 0 0) 0 (fun g_13 => isO L f 5 g_13 ∧ wp_X4_shorten_0 dA zz (fun L_17 f_17 => Q (-1) L_17 f_17) L f g_13 0)) := by
    intro hn
    refine cgR (c := 0) h rfl rfl rfl ⟨hO, ?_⟩
    exact c_shorten (m := 0) h (lv_r (by decide)) hd.W.1 (Nat.zero_le _) (by omega) (fun f1 h1 => nope g hg rfl hn L f1 ⟨ad, cp, _, Z, ng, h1, rfl, rfl, hd.w0⟩)
  refine cgR (c := 0) h rfl rfl rfl (cgR (c := 0) h rfl rfl rfl ⟨cO (c := 2) h rfl rfl, ?_⟩)
  unfold wp_X1_addNeighbour_0
  refine ⟨hO, rw_words hrow (kW_L hM) (bq (wot_one h40) (fun hk => ?_) (fun hk => out (fun o => hk o.1)))⟩
  obtain ⟨n1, n2, n3⟩ := wwn_one.mp hk
  refine pk_loop (σ := Unit) (fun n9 j _ => wp_X1_addNeighbour_15 dA zz _ n9 L f (ad 2 0) (ad 14 0) (nI g) (nI (fb_ct (fun k => ng k == g) j)) (nI j)) (fun j _ => ∀ i, i < j → ng i = g → ¬ (M 15 (8 * g + ngI ng i) = M 1 0 ∧ ∀ k, k < M 1 0 → M 14 (96 * g + 12 * ngI ng i + k) = M 2 k)) (cp 3 2) 0 () (Nat.zero_le _) (fun i hi => absurd hi (Nat.not_lt_zero i)) ?_ ?_
  rotate_left
  · intro n9 j _ hj hI ih
    obtain ⟨a1, a2, a3, a4, a5, a6⟩ := hd.N hj
    have es := fb_ct_succ (fun k => ng k == g) j
    have hle := fb_ct_le (fun k => ng k == g) j
    unfold wp_X1_addNeighbour_15
    refine cgR (c := 2) h rfl rfl rfl ⟨l_O h (by decide), l_size h (by decide) (bf1 (by rw [i_le (cp 3 2) j]; omega) (cgR (c := 2) h rfl rfl rfl ⟨l_O h (by decide), l_get2 h j hj ⟨cO (c := 17) h (lv_17 h hj) rfl, cgI (c := 17) h (lv_17 h hj) rfl rfl ?_⟩⟩))⟩
    refine bn (i_eq (ng j) g (hx := a2)) (fun eg => ?_) (fun eg => ?_)
    · refine cgR (c := 17) h (lv_17 h hj) rfl rfl ⟨cO (c := 14) h (lv_rn h hj) rfl, rw_same (kN h hd hM hj) hrow ?_⟩
      have hs := same_iff hM hg (i := ngI ng j) (by rw [← eg]; exact a3) hk
      rw [← eg] at hs
      by_cases hsame : M 15 (8 * ng j + ngI ng j) = M 1 0 ∧ mat (M 15 (8 * ng j + ngI ng j)) (fun k => 96 + M 14 (96 * ng j + 12 * ngI ng j + k)) 0 (M 1 0) (fun k => chr (M 2 k))
      · rw [bI_t hsame]
        refine bf1 (by decide) (out (fun o => o.2.2 ⟨ngI ng j, by rw [← eg]; exact a3, ?_⟩))
        have := hs.mp hsame
        rw [eg] at this
        exact this
      · rw [bI_f hsame]
        refine bt1 rfl ?_
        rintro _ rfl
        unfold wp_X1_addNeighbour_67
        rintro _ rfl
        have e1 : (ng j == g) = true := by simpa using eg
        simp only [e1, if_true] at es
        rw [nI_1, nI_1, ← es]
        refine ih () (fun i hi ei => ?_)
        by_cases e : i = j
        · subst e
          rw [← eg]
          exact fun h9 => hsame (hs.mpr h9)
        · exact hI i (by omega) ei
    · unfold wp_X1_addNeighbour_67
      rintro _ rfl
      have e1 : (ng j == g) = false := by simpa using eg
      simp only [e1, Bool.false_eq_true, if_false, Nat.add_zero] at es
      rw [nI_1]
      have := ih () (fun i hi ei => by
        by_cases e : i = j
        · subst e; exact absurd ei eg
        · exact hI i (by omega) ei)
      rw [es] at this
      exact this
  · intro n9 _ hI
    have hm16 : M 16 g = fb_ct (fun k => ng k == g) (cp 3 2) := hct g hg
    have hdup : ¬ dupN M g := by
      rintro ⟨i, hi, hm⟩
      rw [hm16] at hi
      obtain ⟨j, j1, j2, j3⟩ := fb_ct_kth hi
      have ej : ng j = g := by simpa using j2
      have ei : ngI ng j = i := by unfold ngI; rw [ej]; exact j3
      have := hI j j1 ej
      rw [ei] at this
      exact this hm
    unfold wp_X1_addNeighbour_15
    refine cgR (c := 2) h rfl rfl rfl ⟨l_O h (by decide), l_size h (by decide) (bt1 ((i_le (cp 3 2) (cp 3 2)).mpr (Nat.le_refl _)) ?_)⟩
    rw [← hm16]
    unfold wp_X1_addNeighbour_73
    refine bq (i_lt (M 16 g) 8) (fun h8 => ?_) (fun h8 => out (fun o => h8 o.2.1))
    have okn : okNb M g := ⟨hk, h8, hdup⟩
    refine cgR (c := 2) h rfl rfl rfl ?_
    rintro q3 hq3 hz3 _ _ rfl rfl
    have hL1 : ∀ x ∈ L, x ∈ L ++ [q3] := fun x hx => List.mem_append_left _ hx
    have hf1 : ∀ x ∈ L, va_up f q3 (.inr (4, [.null, .int 0])) x = f x := fun x hx => va_up_n (nmem hx hq3)
    have hrow1 := hrow.ext hL1 hf1
    refine ⟨hrow1.O, rw_copied hrow1 ?_⟩
    intro q q2 f1 hq hq2 hqq hr hf
    have hqL : q ∉ L := fun hx => hq (hL1 _ hx)
    have hq2L : q2 ∉ L := fun hx => hq2 (hL1 _ hx)
    have m3 : q3 ∈ L ++ [q3] := List.mem_append_right _ (List.mem_singleton.mpr rfl)
    have n13 : q ≠ q3 := fun e => hq (e ▸ m3)
    have n23 : q2 ≠ q3 := fun e => hq2 (e ▸ m3)
    obtain ⟨LL, hLL⟩ : ∃ LL, LL = L ++ [q3] ++ [q] ++ [q2] := ⟨_, rfl⟩
    rw [← hLL] at hr ⊢
    have m3' : q3 ∈ LL := by rw [hLL]; exact List.mem_append_left _ (List.mem_append_left _ m3)
    have hLall : ∀ x ∈ L, x ∈ LL := fun x hx => by rw [hLL]; exact List.mem_append_left _ (List.mem_append_left _ (hL1 x hx))
    have f3a : f1 q3 = .inr (4, [.null, .int 0]) := by rw [hf q3 m3, va_up_s]
    unfold wp_X3_init_0
    refine ⟨_, ⟨m3', f3a, by show 0 < 2; decide⟩, ?_⟩
    rintro _ rfl
    refine ⟨_, ⟨m3', va_up_s, by show 1 < 2; decide⟩, ?_⟩
    intro f5 hf5
    have f5q : f5 q3 = .inr (4, [.ref q, .int (nI g)]) := by rw [hf5, va_up_s]; rfl
    have f5o : ∀ x, x ≠ q3 → f5 x = f1 x := fun x hx => by rw [hf5, va_up_n hx, va_up_n hx]
    have hr5 : isRow dA LL f5 q q2 (M 1 0) (M 1 0) (fun k => chr (M 2 k)) := by
      obtain ⟨r1, r2, r3, ⟨g9, r4, r5⟩, r6⟩ := hr
      exact ⟨r1, r2, by rw [f5o q n13]; exact r3, ⟨g9, by rw [f5o q2 n23]; exact r4, r5⟩, r6⟩
    have hfL : ∀ x ∈ L, f5 x = f x := fun x hx => by rw [f5o x (nmem hx hq3), hf x (hL1 x hx)]; exact hf1 x hx
    obtain ⟨ad', cp', V', h1, hold, p1, p2, p3, p4, p5, a1, v0, v1, v2⟩ := k_ad12 (l := 2) (s := 17) (b := 76) (g3 := fun _ => nI g) (Or.inr ⟨rfl, rfl, rfl⟩) h (by omega) (by omega) hLall hfL hqL hq2L hq3 hqq n13 n23 hr5 m3' (by rw [f5q, if_neg (by decide)])
    have e3 : ad 3 2 = ad' 3 2 := (hold 3 2 (by show 2 < 3; decide)).1.symm
    have e0 : ad 0 0 = ad' 0 0 := (hold 0 0 rfl).1.symm
    have e18 : ad 18 0 = ad' 18 0 := (hold 18 0 rfl).1.symm
    have q32 : cp' 3 2 = cp 3 2 := by rw [p1 3 (by decide) (by decide)]
    refine ⟨by rw [e3]; exact l_O h1 (by decide), ?_⟩
    rw [e3, e0]
    refine l_addv (i := 2) (by show q3 = ad' 17 (0 + cp' 3 2); rw [Nat.zero_add, q32, ← c202]; exact a1.symm) h1 (by decide) (by omega) (by omega) ?_
    intro q4 cap V3 L3 f3 hV3 h3
    have g0 : ad' 0 0 = ad2 ad' 4 2 q4 0 0 := (ad2_c (by decide)).symm
    rw [g0, nI_1]
    have k3 : ad2 (ad2 cp' 3 2 (cp' 3 2 + 1)) 4 2 cap 3 2 = cp 3 2 + 1 := by rw [ad2_c (by decide), ad2_s, q32]
    refine cgR (c := 0) h3 rfl rfl rfl ⟨cO (c := 14) h3 (lv_r (by decide)) rfl, ?_⟩
    have w3 : V3 14 0 0 = nI (M 1 0) := by rw [hV3 14 0 (by decide), (hold 14 0 (lv_r (by decide))).2]; exact hd.W.1
    refine c_shorten (m := 0) h3 (lv_r (by decide)) w3 (Nat.zero_le _) (by omega) (fun f4 h4 => ?_)
    refine yes g hg rfl okn L3 f4 ⟨_, _, _, Z, (fun j => if j = cp 3 2 then g else ng j), h4, ?_, ?_, ?_⟩
    · rw [← g0, ← e0]
    · rw [ad2_c (by decide), ← e18]
    · have k15 : ∀ i, ad2 (ad2 cp' 3 2 (cp' 3 2 + 1)) 4 2 cap 15 i = cp' 15 i := fun i => by rw [ad2_c (by decide), ad2_c (by decide)]
      have k20 : ∀ i, ad2 (ad2 cp' 3 2 (cp' 3 2 + 1)) 4 2 cap 20 i = cp' 20 i := fun i => by rw [ad2_c (by decide), ad2_c (by decide)]
      have k3o : ∀ i, i ≠ 2 → ad2 (ad2 cp' 3 2 (cp' 3 2 + 1)) 4 2 cap 3 i = cp 3 i := fun i hi => by rw [ad2_c (by decide), ad2_i hi, p1 3 (by decide) (by decide)]
      have hVall : ∀ c i, lv cp c i → 13 ≤ c → ¬ (c = 14 ∧ i = 0) → vst V3 14 0 0 (nI 0) c i = V c i := fun c i hl h13 hn => by rw [vst_n hn, hV3 c i (by omega), (hold c i hl).2]
      generalize hcp : ad2 (ad2 cp' 3 2 (cp' 3 2 + 1)) 4 2 cap = cp3 at *
      have lne : ∀ i, lv cp 15 i → i ≠ 76 + cp 20 2 := fun i hl e => by
        have hl : i < 10 + cp 20 0 ∨ 16 ≤ i ∧ i < 16 + cp 20 1 ∨ 76 ≤ i ∧ i < 76 + cp 20 2 := hl
        omega
      obtain ⟨o15, oX, oI, oE, oT, oN, oM⟩ := hd.old (cp3 := cp3) hVall (fun i hl => by rw [k15, p2 i (lne i hl)])
      have eo : ∀ a, a ≠ 1 → a ≠ 14 → a ≠ 15 → a ≠ 16 → aNb M g a = M a := fun a => aNb_f
      have e16 : aNb M g 16 = fun h => if h = g then M 16 g + 1 else M 16 h := funext fun h => aNb_16
      have hcount : ∀ x m, m ≤ cp 3 2 → fb_ct (fun k => (if k = cp 3 2 then g else ng k) == x) m = fb_ct (fun k => ng k == x) m := fun x m hm => fb_ct_cong (fun k hk => by rw [if_neg (by omega)])
      have hng : ∀ j, j < cp 3 2 → ngI (fun j => if j = cp 3 2 then g else ng j) j = ngI ng j := fun j hj => by
        unfold ngI
        dsimp only
        rw [if_neg (by omega), hcount _ j (by omega)]
      have hngn : ngI (fun j => if j = cp 3 2 then g else ng j) (cp 3 2) = M 16 g := by
        unfold ngI
        dsimp only
        rw [if_pos rfl, hcount _ _ (Nat.le_refl _), hm16]
      refine ⟨⟨o15.1, o15.2.1, o15.2.2, by rw [k3o 0 (by decide), c30, eo 3 (by decide) (by decide) (by decide) (by decide)], by rw [k3o 1 (by decide), c31, eo 4 (by decide) (by decide) (by decide) (by decide)], fun i hi => ?_, ?_⟩, ⟨by rw [vst_v, aNb_1], fun j hj => by rw [aNb_1] at hj; exact absurd hj (Nat.not_lt_zero j)⟩, ?_, oI, ?_, ?_, ?_, ?_, hd.Z6, ?_, oM⟩
      · by_cases e : i = 2
        · subst e; rw [k20, p4, k3, c202]
        · rw [k20, p3 i e, k3o i e]; exact d20 i hi
      · rw [k3, e16]
        have := fb_sm_upd (M 16) (M 16 g + 1) hg
        have hs := hd.1.2.2.2.2.2.2
        omega
      · intro x hx
        rw [eo 20 (by decide) (by decide) (by decide) (by decide), eo 19 (by decide) (by decide) (by decide) (by decide)]; exact oX x hx
      · rw [eo 3 (by decide) (by decide) (by decide) (by decide), eo 7 (by decide) (by decide) (by decide) (by decide), eo 6 (by decide) (by decide) (by decide) (by decide)]; exact oE
      · rw [eo 4 (by decide) (by decide) (by decide) (by decide), eo 10 (by decide) (by decide) (by decide) (by decide), eo 11 (by decide) (by decide) (by decide) (by decide), eo 12 (by decide) (by decide) (by decide) (by decide), eo 13 (by decide) (by decide) (by decide) (by decide)]
        intro t ht
        obtain ⟨b1, b2, b3, b4⟩ := oT t ht
        rw [rowN_c (eo 9 (by decide) (by decide) (by decide) (by decide)) (eo 10 (by decide) (by decide) (by decide) (by decide))]
        exact ⟨b1, b2, b3, fun k hk => by rw [rowB_c (eo 9 (by decide) (by decide) (by decide) (by decide)) (eo 8 (by decide) (by decide) (by decide) (by decide))]; exact b4 k hk⟩
      · intro j hj
        rw [k3] at hj
        by_cases ej : j = cp 3 2
        · subst ej
          rw [hngn]
          dsimp only
          rw [if_pos rfl, ← c202, k15, p5, vst_c (show (17 : Nat) ≠ 14 by decide), vst_n (by omega), vst_c (show (15 : Nat) ≠ 14 by decide), hV3 17 _ (by decide), hV3 14 _ (by decide), hV3 15 _ (by decide), v0, aNb_16, if_pos rfl, aNb_15, if_pos rfl]
          refine ⟨hg, rfl, by omega, rfl, v1, fun k hk => ?_⟩
          rw [v2 k hk, aNb_new hk]
          unfold chr
          rw [if_neg (by have := n3 k hk; omega)]
        · have hj2 : j < cp 3 2 := by omega
          obtain ⟨b1, b2, b3, b4, b5, b6⟩ := oN j hj2
          obtain ⟨r1, r2, r3⟩ := hM.2.2.2.1 (ng j) b1
          obtain ⟨t1, t2, t3⟩ := r2 _ b3
          have hne : ¬ (ng j = g ∧ ngI ng j = M 16 g) := by
            rintro ⟨z1, z2⟩
            rw [z1, z2] at b3
            exact absurd b3 (Nat.lt_irrefl _)
          rw [hng j hj2]
          dsimp only
          rw [if_neg ej]
          have f15 : aNb M g 15 (8 * ng j + ngI ng j) = M 15 (8 * ng j + ngI ng j) := by rw [aNb_15, if_neg (by omega)]
          rw [f15]
          refine ⟨b1, b2, ?_, b4, b5, fun k hk => ?_⟩
          · rw [aNb_16]
            by_cases z : ng j = g
            · rw [if_pos z]; rw [z] at b3; omega
            · rw [if_neg z]; exact b3
          · rw [aNb_old n2 h8 (by omega) (by omega) hne]; exact b6 k hk
      · intro x hx
        have hlast : fb_ct (fun k => (if k = cp 3 2 then g else ng k) == x) (cp 3 2 + 1) = fb_ct (fun k => ng k == x) (cp 3 2) + (if g = x then 1 else 0) := by
          rw [fb_ct_succ, hcount x _ (Nat.le_refl _)]; simp
        rw [k3, aNb_16, hlast, ← hct x hx]
        by_cases z : x = g
        · rw [if_pos z, if_pos z.symm, z]
        · rw [if_neg z, if_neg (fun e => z e.symm)]; rfl
      · rw [eo 18 (by decide) (by decide) (by decide) (by decide)]; exact hd.Z5
end KN
