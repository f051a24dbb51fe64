/-! pure: the reference's ring -/
section RR
variable {M : mN} {D : Nat → Int64} {mn : Int32} {S : mS} {G : mG}
theorem rt_round {Q : Int32 → mS → mG → Prop} (hG : ∀ j, G 17 j = D j) (hD : ∀ g, g < 40 → lo40 (D g)) (s : Nat) (hs : s < 40) (hQ : ∀ G' : mG, (∀ k, k ≠ 33 → G' k = G k) → (∀ n, n ≤ 40 → ∀ g, g < 64 → tb (G' 33 n) g = rk D s n g) → Q (nI (if lst D s s 40 = 0 then 41 else lst D s s 40)) S G') : wp_X9_round_0 Q S G (nI s) := by
  unfold wp_X9_round_0
  refine ⟨n_in (by decide) (by decide), ?_⟩
  rintro _ rfl
  refine pk_loop (σ := mG) (fun n9 k st => wp_X9_round_14 Q n9 S st (nI s) (nI (if lst D s s k = 0 then 41 else lst D s s k)) (nI (k + 1))) (fun k st => (∀ a, a ≠ 33 → st a = G a) ∧ ∀ n, n ≤ k → ∀ g, g < 64 → tb (st 33 n) g = rk D s n g) 40 0 _ (Nat.zero_le _) ⟨fun a ha => by rw [ml_out _ _ _ _ _ ha], fun n hn g hg => ?_⟩ ?_ ?_
  · have e : n = 0 := by omega
    subst e
    show tb (mstL G 33 0 _ 33 0) g = _
    rw [ml_same, tb_sh (by omega), rk]
    rfl
  · rintro n9 G1 ⟨k1, k2⟩
    unfold wp_X9_round_14
    exact bt1 (by decide) (hQ G1 k1 k2)
  · rintro n9 k G1 hk ⟨k1, k2⟩ ih
    unfold wp_X9_round_14
    refine bf1 (by rw [i_lt 40 (k + 1)]; omega) ⟨n_in (by omega) (by decide), ?_⟩
    rw [n_cl (by omega)]
    rintro _ rfl
    have hle := lst_le (D := D) (s := s) (g := s) k
    refine pk_loop (σ := mG) (fun n8 j st => wp_X9_round_30 Q (wp_X9_round_14 Q n9) n8 S st (nI s) (nI (if lst D s s k = 0 then 41 else lst D s s k)) (nI (k + 1)) (nI j)) (fun j st => (∀ a, a ≠ 33 → st a = G a) ∧ (∀ n, n ≤ k → ∀ g, g < 64 → tb (st 33 n) g = rk D s n g) ∧ ∀ g, g < 64 → tb (st 33 (k + 1)) g = (decide (g < j) && rk D s (k + 1) g)) 40 0 _ (Nat.zero_le _) ⟨fun a ha => by rw [ml_out _ _ _ _ _ ha]; exact k1 a ha, fun n hn g hg => by rw [ml_ne _ _ _ _ _ (by omega)]; exact k2 n hn g hg, fun g hg => by rw [ml_same, tb_0]; simp⟩ ?_ ?_
    · rintro n8 G2 ⟨j1, j2, j3⟩
      unfold wp_X9_round_30
      refine bt1 (by decide) ?_
      have bits : ∀ n, n ≤ k + 1 → ∀ g, g < 64 → tb (G2 33 n) g = rk D s n g := by
        intro n hn g hg
        by_cases e : n = k + 1
        · subst e
          rw [j3 g hg]
          by_cases h40 : g < 40
          · simp [h40]
          · have : rk D s (k + 1) g = false := by
              apply Bool.eq_false_iff.mpr
              intro h9
              exact h40 (rk_s.mp h9).1
            simp [this]
        · exact j2 n (by omega) g hg
      have go : ∀ x, x = lst D s s (k + 1) → wp_X9_round_100 Q (wp_X9_round_14 Q n9) S G2 (nI s) (nI (if x = 0 then 41 else x)) (nI (k + 1)) := by
        intro x hx
        subst hx
        unfold wp_X9_round_100
        rintro _ rfl
        rw [nI_1]
        exact ih G2 ⟨j1, bits⟩
      unfold wp_X9_round_77
      rw [lst_step] at go
      obtain ⟨n, hn⟩ : ∃ n, lst D s s k = n := ⟨_, rfl⟩
      rw [hn] at hle go ⊢
      by_cases h0 : n = 0
      · rw [if_pos h0]
        refine bt2 rfl ⟨n_in (by omega) (by decide), ?_⟩
        rw [n_cl (by omega)]
        refine bn (tb_c1 (by omega)) (fun h1 => ?_) (fun h1 => ?_)
        · have h1 : tb (G2 33 (k + 1)) s = true := h1
          rw [bits (k + 1) (Nat.le_refl _) s (by omega)] at h1
          have := go (k + 1) (by rw [if_pos ⟨h0, h1⟩])
          rw [if_neg (by omega)] at this
          exact this
        · have h1 : ¬ tb (G2 33 (k + 1)) s = true := h1
          rw [bits (k + 1) (Nat.le_refl _) s (by omega)] at h1
          have := go n (by rw [if_neg (fun h9 => h1 h9.2)])
          rw [if_pos h0] at this
          exact this
      · rw [if_neg h0]
        refine bf2 ?_ ?_
        · intro h9
          have := (i_eq n 41).mp h9
          omega
        · have := go n (by rw [if_neg (fun h9 => h0 h9.1)])
          rw [if_neg h0] at this
          exact this
    · rintro n8 j G2 hj ⟨j1, j2, j3⟩ jh
      have e17 : G2 17 j = D j := by rw [j1 17 (by decide)]; exact hG j
      unfold wp_X9_round_30
      have ek : nI (k + 1) - 1 = nI k := nI_pred k
      rw [ek]
      refine bf1 (by rw [i_le 40 j]; omega) ⟨n_in hj (by decide), n_in (by omega) (by decide), ?_⟩
      rw [n_cl (by omega), n_cl (by omega), n_cl (by omega), e17]
      have hmeet : D j &&& G2 33 k ≠ 0 ↔ rk D s (k + 1) j = true := by
        rw [tb_meet, rk_s]
        constructor
        · rintro ⟨g, q1, q2, q3⟩
          have hg40 : g < 40 := by
            apply Classical.byContradiction
            intro h9
            rw [hD j hj g (by omega)] at q2
            exact absurd q2 (by decide)
          exact ⟨hj, g, hg40, q2, by rw [← j2 k (Nat.le_refl _) g q1]; exact q3⟩
        · rintro ⟨_, g, q1, q2, q3⟩
          exact ⟨g, by omega, q2, by rw [j2 k (Nat.le_refl _) g (by omega)]; exact q3⟩
      refine bq lc_0 (fun hz => ?_) (fun hz => ?_)
      · have hno : rk D s (k + 1) j = false := Bool.eq_false_iff.mpr (fun h9 => hmeet.mpr h9 hz)
        unfold wp_X9_round_71
        rintro _ rfl
        rw [nI_1]
        refine jh G2 ⟨j1, j2, fun g hg => ?_⟩
        rw [j3 g hg]
        by_cases e : g = j
        · subst e; simp [hno]
        · by_cases e2 : g < j
          · simp [e2, show g < j + 1 by omega]
          · simp [e2, show ¬ g < j + 1 by omega]
      · have hyes := hmeet.mp hz
        refine ⟨n_in (by omega) (by decide), n_in (by omega) (by decide), ?_⟩
        rintro _ rfl
        unfold wp_X9_round_71
        rintro _ rfl
        rw [nI_1]
        refine jh _ ⟨fun a ha => by rw [ml_out _ _ _ _ _ ha]; exact j1 a ha, fun n hn g hg => by rw [ml_ne _ _ _ _ _ (by omega)]; exact j2 n hn g hg, fun g hg => ?_⟩
        rw [ml_same, tb_set (by omega), j3 g hg]
        by_cases e : g = j
        · subst e; simp [hyes]
        · by_cases e2 : g < j
          · simp [e, e2, show g < j + 1 by omega]
          · simp [e, e2, show ¬ g < j + 1 by omega]
theorem rt_rings {Q : Int32 → mS → mG → Prop} (hG : ∀ j, G 17 j = D j) (hD : ∀ g, g < 40 → lo40 (D g)) (hQ : ∀ (S' : mS) (G' : mG), (∀ k, k ≠ 34 → S' k = S k) → (∀ k, k ≠ 33 → G' k = G k) → (∀ i, i < rgl D → S' 34 i = nI (rgA D i)) → Q (nI (rgl D)) S' G') : wp_X9_rings_0 Q S G := by
  unfold wp_X9_rings_0
  refine pk_loop (σ := mG) (fun n9 i st => wp_X9_rings_7 Q n9 S st (nI (bst D i).1) (if (bst D i).1 = 41 then -1 else nI (bst D i).2) (nI i)) (fun i st => ∀ k, k ≠ 33 → st k = G k) 40 0 G (Nat.zero_le _) (fun _ _ => rfl) ?_ ?_
  · rintro n9 G1 k1
    have hG1 : ∀ j, G1 17 j = D j := fun j => by rw [k1 17 (by decide)]; exact hG j
    unfold wp_X9_rings_7
    refine bt1 (by decide) ?_
    unfold wp_X9_rings_40
    rcases bst_ok (D := D) 40 with hb | hb
    · have e0 : rgl D = 0 := by unfold rgl; rw [hb]; rfl
      rw [hb]
      have := hQ S G1 (fun _ _ => rfl) k1 (fun i hi => by rw [e0] at hi; exact absurd hi (Nat.not_lt_zero i))
      rw [e0] at this
      exact bt2 rfl this
    · have en : ¬ (bst D 40).1 = 41 := by omega
      have er : rgl D = (bst D 40).1 := by unfold rgl; rw [if_neg en]
      have eA : ∀ i, rgA D i = rrw D (bst D 40).2 (bst D 40).1 i := fun _ => rfl
      rw [if_neg en]
      obtain ⟨b1, b2, b3, b4⟩ := hb
      rw [er] at hQ
      generalize (bst D 40).1 = len at *
      generalize (bst D 40).2 = s at *
      refine bf2 (n_m1 (by omega)) (rt_round hG1 hD s b1 ?_)
      intro G2 j1 j2
      refine ⟨n_in (by decide) (by decide), ?_⟩
      rintro _ rfl
      refine pk_loop (σ := mS) (fun n9 i st => wp_X9_rings_62 Q n9 st G2 (nI len) (nI i)) (fun i st => 1 ≤ i ∧ (∀ k, k ≠ 34 → st k = S k) ∧ ∀ k, k < i → st 34 k = nI (rrw D s len k)) len 1 _ b2 ⟨Nat.le_refl 1, fun k hk => by rw [ms_out _ _ _ _ _ hk], fun k hk => ?_⟩ ?_ ?_
      · have e : k = 0 := by omega
        subst e
        exact ms_same _ _ _ _
      · rintro n8 S2 ⟨_, i1, i2⟩
        unfold wp_X9_rings_62
        refine bt1 ((i_le len len).mpr (Nat.le_refl _)) (hQ S2 G2 i1 (fun k hk => by rw [j1 k hk]; exact k1 k hk) (fun i hi => by rw [eA]; exact i2 i hi))
      · rintro n8 i S2 hi ⟨i0, i1, i2⟩ ih
        obtain ⟨i', rfl⟩ : ∃ i', i = i' + 1 := ⟨i - 1, by omega⟩
        obtain ⟨a1, a2, a3⟩ := rrw_ok b1 b4 b2 i' (by omega)
        obtain ⟨c1, c2, c3⟩ := rrw_ok b1 b4 b2 (i' + 1) hi
        have erow : S2 34 i' = nI (rrw D s len i') := i2 i' (by omega)
        have edef : rrw D s len (i' + 1) = fa_first (fun g => tb (D (rrw D s len i')) g && rk D s (len - (i' + 1)) g) 40 := rfl
        generalize hp : (fun g => tb (D (rrw D s len i')) g && rk D s (len - (i' + 1)) g) = p at edef
        have e17 : ∀ j, G2 17 j = D j := fun j => by rw [j1 17 (by decide)]; exact hG1 j
        have test : ∀ g, g < 40 → (lg_cmp (D (rrw D s len i') &&& G2 33 (len - (i' + 1)) &&& ((1 : Int64) <<< (Int32.toInt64 (nI g) &&& 63))) 0 = 0 ↔ p g = false) := by
          intro g hg
          rw [lc_0, ← hp]
          have hb := j2 (len - (i' + 1)) (by omega) g (by omega)
          constructor
          · intro hz
            apply Bool.eq_false_iff.mpr
            intro h9
            simp only [Bool.and_eq_true] at h9
            have : D (rrw D s len i') &&& G2 33 (len - (i' + 1)) &&& ((1 : Int64) <<< (Int32.toInt64 (nI g) &&& 63)) ≠ 0 := by
              rw [tb_nz]
              refine ⟨g, by omega, ?_⟩
              rw [tb_and, tb_and, tb_sh (by omega), h9.1, hb, h9.2]
              simp
            exact this hz
          · intro hf
            apply tb_ext
            intro x hx
            rw [tb_and, tb_and, tb_sh (by omega), tb_0]
            by_cases e : x = g
            · subst e
              rw [hb]
              simp only [] at hf
              rw [hf]; rfl
            · simp [e]
        unfold wp_X9_rings_62
        refine bf1 (by rw [i_le len (i' + 1)]; omega) ?_
        refine pk_loop (σ := Unit) (fun n7 g _ => wp_X9_rings_70 Q (wp_X9_rings_62 Q n8) n7 S2 G2 (nI len) (nI (i' + 1)) (nI g)) (fun g _ => True) (rrw D s len (i' + 1)) 0 () (Nat.zero_le _) trivial ?_ ?_
        · intro n7 _ _
          unfold wp_X9_rings_70
          rw [nI_pred, n_sub (by omega), n_cl (show i' < _ by omega), erow, n_cl (show rrw D s len i' < _ by omega), n_cl (show len - (i' + 1) < _ by omega), e17]
          refine ⟨n_in (by omega) (by decide), n_in a1 (by decide), n_in (by omega) (by decide), bn (test _ c1) (fun h9 => ?_) (fun h9 => ?_)⟩
          · rw [edef, fa_first_yes p 40 (by rw [← edef]; exact c1)] at h9
            exact absurd h9 (by decide)
          · unfold wp_X9_rings_108
            refine ⟨n_in (by omega) (by decide), ?_⟩
            rw [n_cl (by omega)]
            rintro _ rfl
            rintro _ rfl
            rw [nI_1]
            refine ih _ ⟨by omega, fun k hk => by rw [ms_out _ _ _ _ _ hk]; exact i1 k hk, fun k hk => ?_⟩
            by_cases e : k = i' + 1
            · subst e; rw [ms_same]
            · rw [ms_ne _ _ _ _ _ e]; exact i2 k (by omega)
        · intro n7 g _ hg _ gh
          unfold wp_X9_rings_70
          rw [nI_pred, n_sub (by omega), n_cl (show i' < _ by omega), erow, n_cl (show rrw D s len i' < _ by omega), n_cl (show len - (i' + 1) < _ by omega), e17]
          refine ⟨n_in (by omega) (by decide), n_in a1 (by decide), n_in (by omega) (by decide), bn (test g (by omega)) (fun h9 => ?_) (fun h9 => ?_)⟩
          · rintro _ rfl
            rw [nI_1]
            exact gh () trivial
          · exact absurd (fa_first_no p 40 g (by rw [← edef]; exact hg)) h9
  · rintro n9 i G1 hi k1 ih
    have hG1 : ∀ j, G1 17 j = D j := fun j => by rw [k1 17 (by decide)]; exact hG j
    have hb := bst_ok (D := D) i
    have hb1 : (bst D i).1 ≤ 41 := by
      rcases hb with hb | hb
      · rw [hb]; exact Nat.le_refl _
      · omega
    have hle := lst_le (D := D) (s := i) (g := i) 40
    have hstep : bst D (i + 1) = if lst D i i 40 ≠ 0 ∧ lst D i i 40 < (bst D i).1 then (lst D i i 40, i) else bst D i := rfl
    unfold wp_X9_rings_7
    refine bf1 (by rw [i_le 40 i]; omega) (rt_round hG1 hD i hi ?_)
    intro G2 j1 j2
    obtain ⟨n, hn⟩ : ∃ n, lst D i i 40 = n := ⟨_, rfl⟩
    rw [hn] at hle hstep ⊢
    have fr : ∀ k, k ≠ 33 → G2 k = G k := fun k hk => by rw [j1 k hk]; exact k1 k hk
    have hx : ∃ x, x = (if n = 0 then 41 else n) := ⟨_, rfl⟩
    obtain ⟨x, hx⟩ := hx
    rw [← hx]
    have hx2 : x ≤ 41 ∧ (x < (bst D i).1 ↔ n ≠ 0 ∧ n < (bst D i).1) := by
      rw [hx]
      by_cases h0 : n = 0
      · rw [if_pos h0]; omega
      · rw [if_neg h0]; omega
    refine bq (i_lt x (bst D i).1) (fun h9 => ?_) (fun h9 => ?_)
    · have hy := hx2.2.mp h9
      rw [if_pos hy] at hstep
      unfold wp_X9_rings_34
      rintro _ rfl
      rw [nI_1]
      have := ih G2 fr
      rw [hstep] at this
      have this : wp_X9_rings_7 Q n9 S G2 (nI n) (if n = 41 then -1 else nI i) (nI (i + 1)) := this
      rw [if_neg (by omega)] at this
      rw [hx, if_neg hy.1]
      exact this
    · rw [if_neg (fun h8 => h9 (hx2.2.mpr h8))] at hstep
      unfold wp_X9_rings_34
      rintro _ rfl
      rw [nI_1]
      have := ih G2 fr
      rw [hstep] at this
      exact this
/-- what ring answers: i of an int, n things -/
abbrev okRing (D : Nat → Int64) (i : Int32) : Prop := -1 ≤ i ∧ i < nI (rgl D)
def aRing (D : Nat → Int64) (i : Int32) : Int32 := if i = -1 then nI (rgl D) else nI (rgA D i.toNatClampNeg)
theorem rt_ring {Q : Int32 → mS → mG → Prop} (h : RI M D mn S G) (i : Int32) (yes : okRing D i → ∀ (S' : mS) (G' : mG), RI M D mn S' G' → S' 0 0 = 0 → Q (aRing D i) S' G') (no : ¬ okRing D i → ∀ (S' : mS) (G' : mG), RI M D mn S' G' → S' 0 0 = 1 → Q 0 S' G') : wp_X9_ring_0 Q S G i := by
  have hD : ∀ g, g < 40 → lo40 (D g) := fun g hg => (h.2.2.2.2.2.2.2.1 g hg).1
  have hl := rgl_le (D := D)
  unfold wp_X9_ring_0
  rintro _ rfl
  have h1 := h.thr 0
  have z1 : mst S 0 0 0 0 0 = 0 := ms_same _ _ _ _
  generalize mst S 0 0 0 = S1 at h1 z1 ⊢
  refine rt_rings h1.2.1 hD ?_
  intro S2 G2 k1 k2 k3
  have h2 : RI M D mn S2 G2 := ⟨fun k hk j => by rw [k1 k (fun e => by rw [e] at hk; exact absurd hk (by decide))]; exact h1.1 k hk j, fun j => by rw [k2 17 (by decide)]; exact h1.2.1 j, by rw [k1 5 (by decide)]; exact h1.2.2.1, h1.2.2.2⟩
  have z2 : S2 0 0 = 0 := by rw [k1 0 (by decide)]; exact z1
  have bad : ¬ okRing D i → wp_X9_ring_25 Q S2 G2 i (nI (rgl D)) := by
    intro hn
    unfold wp_X9_ring_25 wp_X9_ring_26
    exact rt_right0 z2 (by decide) (bt2 rfl (no hn _ _ (h2.thr 1) (ms_same _ _ _ _)))
  refine ⟨fun h9 => bad (fun ok => ?_), fun h9 => ⟨fun h8 => bad (fun ok => ?_), fun h8 => ?_⟩⟩
  · have := ok.1; rw [fa_lt] at h9; rw [fa_le] at this; omega
  · have := ok.2; rw [fa_le] at h8; rw [fa_lt] at this; omega
  · have ok : okRing D i := ⟨fa_of_nlt h9, fa_of_nle h8⟩
    have hy := yes ok S2 G2 h2 z2
    unfold wp_X9_ring_26
    refine rt_right1 z2 (bf2 (by decide) ?_)
    unfold aRing at hy
    by_cases e : i = -1
    · rw [if_pos e] at hy
      exact bt2 e hy
    · rw [if_neg e] at hy
      have hnn : ¬ i < 0 := by
        intro h7
        rw [fa_lt] at h7
        rw [fa_lt, nm1] at h9
        rw [fa_eq, nm1] at e
        have : (0 : Int32).toInt = 0 := by decide
        omega
      obtain ⟨k, hk, rfl⟩ := n_of hnn
      have hk2 : k < rgl D := (i_lt k (rgl D)).mp ok.2
      rw [n_cl hk] at hy
      refine bf2 e ⟨n_in (by omega) (by decide), ?_⟩
      rw [n_cl hk, k3 k hk2]
      exact hy
end RR
section CRK
variable {dA : Nat → ClassId} {zz : Nat → Nat} {x0 ou : Nat} {M : mN} {D : Nat → Int64} {mn : Int32} {L : List Nat} {f : pF}
theorem k_ring {Q : Int32 → List Nat → pF → Prop} {X : String → List Nat → pF → Prop} (h : CI dA zz x0 ou M D mn L f) (hM : MI M D) (i : Int32) (yes : okRing D i → ∀ (L' : List Nat) (f' : pF), CI dA zz x0 ou M D mn L' f' → Q (aRing D i) L' f') (no : ¬ okRing D i → ∀ (L' : List Nat) (f' : pF), CI dA zz x0 ou M D mn L' f' → X "java/util/NoSuchElementException" L' f') : wp_X8_ring_0 dA zz Q X L f x0 i := by
  obtain ⟨ad, cp, V, Z, ng, h, rfl, rfl, hd⟩ := h
  have hZ : Z 6 = D := hd.2.2.2.2.2.2.2.2.1
  have hD : ∀ g, g < 40 → lo40 (Z 6 g) := fun g hg => by rw [hZ]; exact (hM.2.2.2.2.1 g hg).1
  have hl := rgl_le (D := D)
  unfold wp_X8_ring_0
  refine cgR (c := 0) h rfl rfl rfl ⟨cO (c := 5) h rfl rfl, c_findRing h hD ?_⟩
  intro V1 f1 k1 k2 k3 k4
  rw [hZ] at k3 k4
  have hc : CI dA zz (ad 0 0) (ad 18 0) M D mn L f1 := ⟨ad, cp, V1, Z, ng, k1, rfl, rfl, hd.fr2 (fun c j hc => k2 c j (by omega) (by omega)) rfl rfl⟩
  by_cases e : i = -1
  · refine bt2 e (cgR (c := 0) k1 rfl rfl rfl ⟨cO (c := 5) k1 rfl rfl, ?_⟩)
    unfold wp_X0_ringSize_0
    refine cgI (c := 5) k1 rfl rfl rfl ?_
    have ok : okRing D i := ⟨by rw [e]; decide, by rw [e]; exact n_m1_lt (by omega)⟩
    have := yes ok L f1 hc
    rw [aRing, if_pos e, ← k3] at this
    exact this
  · refine bf2 e ⟨fun h9 => no (fun ok => ?_) L f1 hc, fun h9 => ?_⟩
    · have := ok.1
      rw [fa_lt] at h9
      rw [fa_le, nm1] at this
      rw [fa_eq, nm1] at e
      have : (0 : Int32).toInt = 0 := by decide
      omega
    · obtain ⟨k, hk, rfl⟩ := n_of h9
      refine cgR (c := 0) k1 rfl rfl rfl ⟨cO (c := 5) k1 rfl rfl, ?_⟩
      unfold wp_X0_ringSize_0
      refine cgI (c := 5) k1 rfl rfl rfl ?_
      refine bq (i_lt k (rgl D) (hy := k3)) (fun h8 => ?_) (fun h8 => no (fun ok => h8 ((i_lt k (rgl D)).mp ok.2)) L f1 hc)
      have ok : okRing D (nI k) := ⟨by rw [fa_le, nm1, nI_toInt hk]; omega, nI_lt h8 (by omega)⟩
      have hy := yes ok L f1 hc
      rw [aRing, if_neg e, n_cl hk, ← k4 k h8] at hy
      refine cgR (c := 0) k1 rfl rfl rfl ⟨cO (c := 5) k1 rfl rfl, ?_⟩
      unfold wp_X0_ringAt_0
      refine bf1 h9 (cgI (c := 5) k1 rfl rfl rfl (bf1 (by rw [i_le (rgl D) k (hx := k3)]; omega) (cgR (c := 5) k1 rfl rfl rfl ?_)))
      exact caI (c := 7) (i := 1) (n := 40) k1 (lv_7 (by decide)) rfl k rfl (by omega) (by decide) hy
end CRK
