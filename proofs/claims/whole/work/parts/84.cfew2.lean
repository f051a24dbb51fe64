/-! pure: the component's fewest, second part -/
section CF2
variable {dA : Nat → ClassId} {zz : Nat → Nat} {ad : Nat → Nat → Nat} {cp : Nat → Nat → Nat} {V : cV} {Z : cZ} {L : List Nat} {f : pF}
theorem c_gather {Q : Int32 → List Nat → pF → Prop} (h : CH dA zz ad cp V Z L f) (hD : ∀ g, g < 40 → lo40 (Z 6 g)) (yes : cntA (Z 6) ≤ 14 → ∀ (V' : cV) (f' : pF), CH dA zz ad cp V' Z L f' → (∀ c j, c ≠ 7 → c ≠ 5 → V' c j = V c j) → V' 5 0 1 = nI (cntA (Z 6)) → (∀ k, k < cntA (Z 6) → V' 7 2 k = nI (mb (Z 6) k)) → (∀ k, k < cntA (Z 6) → V' 7 3 k = nI (ndN (Z 6) (Z 6 (mb (Z 6) k)) (cntA (Z 6)))) → Q 1 L f') (no : ¬ cntA (Z 6) ≤ 14 → ∀ (V' : cV) (f' : pF), CH dA zz ad cp V' Z L f' → (∀ c j, c ≠ 7 → c ≠ 5 → V' c j = V c j) → Q 0 L f') : wp_X0_gatherMembers_0 dA zz Q L f (ad 5 0) := by
  generalize hZ : Z 6 = D at *
  unfold wp_X0_gatherMembers_0
  refine pk_loop (σ := Unit) (fun n9 i _ => wp_X0_gatherMembers_4 dA zz Q n9 L f (ad 5 0) (alI D i) (nI i)) (fun _ _ => True) 40 0 () (Nat.zero_le _) trivial ?_ ?_
  rotate_left
  · intro n9 i _ hi _ ih
    have ea : alI D (i + 1) = if D i = 0 then alI D i else alI D i ||| (D i ||| ((1 : Int64) <<< ((nI i).toInt64 &&& 63))) := rfl
    have e6 : Z 6 i = D i := by rw [hZ]
    unfold wp_X0_gatherMembers_4
    refine bf1 (by rw [i_le 40 i]; omega) (cgR (c := 5) h rfl rfl rfl (caJ (c := 6) (n := 40) h rfl rfl i rfl hi (by decide) ?_))
    rw [e6]
    refine bq lc_0 (fun h0 => ?_) (fun h0 => cgR (c := 5) h rfl rfl rfl (caJ (c := 6) (n := 40) h rfl rfl i rfl hi (by decide) ?_))
    · unfold wp_X0_gatherMembers_34
      rintro _ rfl
      rw [nI_1]
      have := ih () trivial
      rw [ea, if_pos h0] at this
      exact this
    · rw [e6]
      rintro _ rfl
      unfold wp_X0_gatherMembers_34
      rintro _ rfl
      rw [nI_1]
      have := ih () trivial
      rw [ea, if_neg h0] at this
      exact this
  · intro n9 _ _
    unfold wp_X0_gatherMembers_4
    refine bt1 (by decide) ?_
    unfold wp_X0_gatherMembers_40
    refine cgPi (c := 5) h rfl rfl 1 (by show 7 < 8; decide) rfl ?_
    intro f1 h1
    show wp_J13_bitCount_95d88_0 _ (AL D)
    refine pop_L (AL D) ?_
    rw [ct_64 hD]
    have fr1 : ∀ c j, c ≠ 7 → c ≠ 5 → vst V 5 0 1 0 c j = V c j := fun c j _ h5 => by rw [vst_c h5]
    refine bq (i_le (cntA D) 14 (ha := by have := fb_ct_le (tb (AL D)) 40; show fb_ct (tb (AL D)) 40 < _; omega)) (fun hn => ?_) (fun hn => no hn _ f1 h1 fr1)
    have yes := yes hn
    have last : ∀ (V1 : cV) (f2 : pF), CH dA zz ad cp V1 Z L f2 → (∀ c j, c ≠ 7 → c ≠ 5 → V1 c j = V c j) → V1 5 0 1 = nI (cntA D) → (∀ k, k < cntA D → V1 7 2 k = nI (mb D k)) → wp_X0_gatherMembers_109 dA zz Q L f2 (ad 5 0) := by
      intro V1 f2 k1 k2 k3 k4
      unfold wp_X0_gatherMembers_109
      refine pk_loop (σ := cV × pF) (fun n9 i st => wp_X0_gatherMembers_111 dA zz Q n9 L st.2 (ad 5 0) (nI i)) (fun i st => CH dA zz ad cp st.1 Z L st.2 ∧ (∀ c j, c ≠ 7 → c ≠ 5 → st.1 c j = V c j) ∧ st.1 5 0 1 = nI (cntA D) ∧ (∀ k, k < cntA D → st.1 7 2 k = nI (mb D k)) ∧ ∀ k, k < i → st.1 7 3 k = nI (ndN D (D (mb D k)) (cntA D))) (cntA D) 0 (V1, f2) (Nat.zero_le _) ⟨k1, k2, k3, k4, fun k hk => absurd hk (Nat.not_lt_zero k)⟩ ?_ ?_
      · rintro n8 ⟨V2, f3⟩ ⟨j1, j2, j3, j4, j5⟩
        unfold wp_X0_gatherMembers_111
        exact cgI (c := 5) j1 rfl rfl rfl (bt1 ((i_le _ _ (hx := j3)).mpr (Nat.le_refl _)) (yes V2 f3 j1 j2 j3 j4 j5))
      · rintro n8 i ⟨V2, f3⟩ hi ⟨j1, j2, j3, j4, j5⟩ ih
        have j3 : V2 5 0 1 = nI (cntA D) := j3
        have j4 : ∀ k, k < cntA D → V2 7 2 k = nI (mb D k) := j4
        have j5 : ∀ k, k < i → V2 7 3 k = nI (ndN D (D (mb D k)) (cntA D)) := j5
        have hmb := (mb_ok hi).1
        unfold wp_X0_gatherMembers_111
        refine cgI (c := 5) j1 rfl rfl rfl (bf1 (by rw [i_le (cntA D) i (hx := j3)]; omega) (cgR (c := 5) j1 rfl rfl rfl (cgR (c := 5) j1 rfl rfl rfl (cgR (c := 5) j1 rfl rfl rfl ?_))))
        refine caI (c := 7) (i := 2) (n := 14) j1 (lv_7 (by decide)) rfl i rfl (by omega) (by decide) ?_
        refine caJ (c := 6) (n := 40) j1 rfl rfl (mb D i) (j4 i hi) hmb (by decide) ⟨cO (c := 5) j1 rfl rfl, ?_⟩
        refine c_among j1 hn j3 j4 _ ?_
        refine caIs (c := 7) (i := 3) (n := 14) j1 (lv_7 (by decide)) rfl i rfl (by omega) (by decide) rfl ?_
        intro f4 i1
        rintro _ rfl
        rw [nI_1]
        refine ih (vst V2 7 3 i (nI (ndN D (Z 6 (mb D i)) (cntA D))), f4) ⟨i1, fun c j h7 h5 => by dsimp only; rw [vst_c h7]; exact j2 c j h7 h5, by dsimp only; rw [vst_c (by decide)]; exact j3, fun k hk => by dsimp only; rw [vst_n (by decide)]; exact j4 k hk, fun k hk => ?_⟩
        dsimp only
        by_cases e : k = i
        · subst e; rw [vst_v, hZ]
        · rw [vst_j e]; exact j5 k (by omega)
    refine pk_loop (σ := cV × pF) (fun n9 g st => wp_X0_gatherMembers_58 dA zz Q n9 L st.2 (ad 5 0) (AL D) (nI g)) (fun g st => CH dA zz ad cp st.1 Z L st.2 ∧ (∀ c j, c ≠ 7 → c ≠ 5 → st.1 c j = V c j) ∧ st.1 5 0 1 = nI (idx D g) ∧ ∀ k, k < idx D g → st.1 7 2 k = nI (mb D k)) 40 0 (_, f1) (Nat.zero_le _) ⟨h1, fr1, by show vst V 5 0 1 0 5 0 1 = _; rw [vst_v]; rfl, fun k hk => absurd hk (Nat.not_lt_zero k)⟩ ?_ ?_
    · rintro n8 ⟨V1, f2⟩ ⟨k1, k2, k3, k4⟩
      unfold wp_X0_gatherMembers_58
      exact bt1 (by decide) (last V1 f2 k1 k2 k3 k4)
    · rintro n8 g ⟨V1, f2⟩ hg ⟨k1, k2, k3, k4⟩ ih
      have k3 : V1 5 0 1 = nI (idx D g) := k3
      have k4 : ∀ k, k < idx D g → V1 7 2 k = nI (mb D k) := k4
      have hmono : idx D g ≤ cntA D := fb_ct_mono (tb (AL D)) (m := g) (n := 40) (by omega)
      have es := idx_s (D := D) g
      unfold wp_X0_gatherMembers_58
      refine bf1 (by rw [i_le 40 g]; omega) (cgI (c := 5) k1 rfl rfl rfl (bq (i_le 14 (idx D g) (hy := k3)) (fun h14 => ?_) (fun h14 => bq (tb_c0 (by omega)) (fun ht => ?_) (fun ht => ?_))))
      · have e : idx D g = cntA D := by omega
        rw [e] at k3 k4
        exact last V1 f2 k1 k2 k3 k4
      · rw [ht] at es
        simp only [Bool.false_eq_true, if_false, Nat.add_zero] at es
        unfold wp_X0_gatherMembers_103
        rintro _ rfl
        rw [nI_1]
        exact ih (V1, f2) ⟨k1, k2, by rw [es]; exact k3, by rw [es]; exact k4⟩
      · have ht : tb (AL D) g = true := by simpa using ht
        rw [ht] at es
        simp only [if_true] at es
        refine cgR (c := 5) k1 rfl rfl rfl (cgI (c := 5) k1 rfl rfl rfl ?_)
        refine caIs (c := 7) (i := 2) (n := 14) k1 (lv_7 (by decide)) rfl (idx D g) k3 (by omega) (by decide) rfl ?_
        intro f3 j1
        have k3b : vst V1 7 2 (idx D g) (nI g) 5 0 1 = nI (idx D g) := by rw [vst_c (by decide)]; exact k3
        refine cgI (c := 5) j1 rfl rfl rfl (cgPi (c := 5) j1 rfl rfl 1 (by show 7 < 8; decide) rfl ?_)
        intro f4 i1
        unfold wp_X0_gatherMembers_103
        rintro _ rfl
        rw [nI_1]
        refine ih (vst (vst V1 7 2 (idx D g) (nI g)) 5 0 1 (vst V1 7 2 (idx D g) (nI g) 5 0 1 + 1), f4) ⟨i1, fun c j h7 h5 => ?_, ?_, fun k hk => ?_⟩
        · dsimp only
          rw [vst_c h5, vst_c h7]; exact k2 c j h7 h5
        · dsimp only
          rw [vst_v, k3b, nI_1, es]
        · dsimp only
          rw [vst_c (by decide)]
          rw [es] at hk
          by_cases e : k = idx D g
          · subst e; rw [vst_v, mb_idx hg ht]
          · rw [vst_j e]; exact k4 k (by omega)
theorem c_fewest {Q : Int64 → List Nat → pF → Prop} (h : CH dA zz ad cp V Z L f) (hD : ∀ g, g < 40 → lo40 (Z 6 g)) (hQ : ∀ (V' : cV) (f' : pF), CH dA zz ad cp V' Z L f' → (∀ c j, c ≠ 7 → c ≠ 5 → V' c j = V c j) → Q (aFew (Z 6)) L f') : wp_X0_findFewest_0 dA zz Q L f (ad 5 0) := by
  unfold wp_X0_findFewest_0
  refine ⟨cO (c := 5) h rfl rfl, c_gather h hD (fun hn V1 f1 h1 fr e5 e72 e73 => ?_) (fun hn V1 f1 h1 fr => ?_)⟩
  · have hq := hQ V1 f1 h1 fr
    rw [aFew, if_neg (by omega)] at hq
    have hc14 : c14 (bvN (Z 6) 0) = cntA (Z 6) := c14_all _ hn
    have hb0 : bvN (Z 6) 0 = 2 ^ cntA (Z 6) - 1 := rfl
    have hlt : ∀ v, v ≤ 2 ^ cntA (Z 6) → bvN (Z 6) v < 2 ^ cntA (Z 6) := bvN_lt
    have h14 : 2 ^ cntA (Z 6) ≤ 2 ^ 14 := Nat.pow_le_pow_right (by decide) hn
    rw [show (2 : Nat) ^ 14 = 16384 by decide] at h14
    have hp := Nat.two_pow_pos (cntA (Z 6))
    have esh : (1 : Int32) <<< (V1 5 0 1 &&& 31) = nI (2 ^ cntA (Z 6)) := by rw [e5, sh32 _ (by omega)]
    refine bf2 (by decide) (cgI (c := 5) h1 rfl rfl rfl ?_)
    rintro _ rfl
    rw [esh, n_sub1 hp]
    refine pk_loop (σ := Unit) (fun n9 v _ => wp_X0_findFewest_22 dA zz Q n9 L f1 (ad 5 0) (nI (bvN (Z 6) v)) (nI v)) (fun _ _ => True) (2 ^ cntA (Z 6)) 0 () (Nat.zero_le _) trivial ?_ ?_
    · intro n9 _ _
      unfold wp_X0_findFewest_22
      refine cgI (c := 5) h1 rfl rfl rfl (bt1 (by rw [esh]; exact (i_le _ _).mpr (Nat.le_refl _)) ?_)
      unfold wp_X0_findFewest_59
      have hbl := hlt _ (Nat.le_refl _)
      generalize bvN (Z 6) (2 ^ cntA (Z 6)) = bb at hq hbl ⊢
      refine pk_loop (σ := Unit) (fun n8 k _ => wp_X0_findFewest_64 dA zz Q n8 L f1 (ad 5 0) (nI bb) (stI (Z 6) bb k) (nI k)) (fun _ _ => True) (cntA (Z 6)) 0 () (Nat.zero_le _) trivial ?_ ?_
      · intro n8 _ _
        unfold wp_X0_findFewest_64
        exact cgI (c := 5) h1 rfl rfl rfl (bt1 ((i_le _ _ (hx := e5)).mpr (Nat.le_refl _)) hq)
      · intro n8 k _ hk _ kh
        have e1 : stI (Z 6) bb (k + 1) = if bb.testBit k then stI (Z 6) bb k ||| ((1 : Int64) <<< ((nI (mb (Z 6) k)).toInt64 &&& 63)) else stI (Z 6) bb k := rfl
        unfold wp_X0_findFewest_64
        refine cgI (c := 5) h1 rfl rfl rfl (bf1 (by rw [i_le (cntA (Z 6)) k (hx := e5)]; omega) (bq (t3_c0 (by omega)) (fun hz => ?_) (fun hz => ?_)))
        · rw [t3_nI _ (by omega)] at hz
          rw [hz] at e1
          unfold wp_X0_findFewest_94
          rintro _ rfl
          rw [nI_1]
          have := kh () trivial
          rw [e1] at this
          exact this
        · rw [t3_nI _ (by omega)] at hz
          have hz : bb.testBit k = true := by simpa using hz
          rw [hz] at e1
          refine cgR (c := 5) h1 rfl rfl rfl (caI (c := 7) (i := 2) (n := 14) h1 (lv_7 (by decide)) rfl k rfl (by omega) (by decide) ?_)
          rw [e72 k hk]
          rintro _ rfl
          unfold wp_X0_findFewest_94
          rintro _ rfl
          rw [nI_1]
          have := kh () trivial
          rw [e1] at this
          exact this
    · intro n9 v _ hv _ ih
      have hs : bvN (Z 6) (v + 1) = if c14 v < c14 (bvN (Z 6) v) ∧ exB (Z 6) v = true then v else bvN (Z 6) v := rfl
      have hbl := hlt v (by omega)
      have hcb := c14_le (bvN (Z 6) v)
      have hcv := c14_le v
      unfold wp_X0_findFewest_22
      refine cgI (c := 5) h1 rfl rfl rfl (bf1 (by rw [esh, i_le (2 ^ cntA (Z 6)) v]; omega) (pop_I v (by omega) (pop_I (bvN (Z 6) v) (by omega) ?_)))
      have stay : ¬ (c14 v < c14 (bvN (Z 6) v) ∧ exB (Z 6) v = true) → wp_X0_findFewest_53 dA zz Q (wp_X0_findFewest_22 dA zz Q n9) L f1 (ad 5 0) (nI (bvN (Z 6) v)) (nI v) := by
        intro hno
        rw [if_neg hno] at hs
        unfold wp_X0_findFewest_53
        rintro _ rfl
        rw [nI_1]
        have := ih () trivial
        rw [hs] at this
        exact this
      refine bq (i_le (c14 (bvN (Z 6) v)) (c14 v)) (fun h9 => stay (fun h8 => by omega)) (fun h9 => ⟨cO (c := 5) h1 rfl rfl, c_explains h1 hD hn e5 e73 hv ?_⟩)
      by_cases hx : exB (Z 6) v = true
      · rw [bI_t hx]
        refine bf1 (by decide) ?_
        rw [if_pos ⟨by omega, hx⟩] at hs
        unfold wp_X0_findFewest_53
        rintro _ rfl
        rw [nI_1]
        have := ih () trivial
        rw [hs] at this
        exact this
      · rw [bI_f hx]
        exact bt1 rfl (stay (fun h8 => hx h8.2))
  · have hq := hQ V1 f1 h1 fr
    rw [aFew, if_pos (by omega)] at hq
    exact bt2 rfl hq
end CF2
section CFK
variable {dA : Nat → ClassId} {zz : Nat → Nat} {x0 ou : Nat} {M : mN} {D : Nat → Int64} {mn : Int32} {L : List Nat} {f : pF}
theorem k_fewest {Q : Int64 → List Nat → pF → Prop} (h : CI dA zz x0 ou M D mn L f) (hM : MI M D) (hQ : ∀ (L' : List Nat) (f' : pF), CI dA zz x0 ou M D mn L' f' → Q (aFew D) L' f') : wp_X8_fewest_0 dA zz Q L f x0 := by
  obtain ⟨ad, cp, V, Z, ng, h, rfl, rfl, hd⟩ := h
  have hZ : Z 6 = D := hd.2.2.2.2.2.2.2.2.1
  have hD : ∀ g, g < 40 → lo40 (Z 6 g) := fun g hg => by rw [hZ]; exact (hM.2.2.2.2.1 g hg).1
  unfold wp_X8_fewest_0
  refine cgR (c := 0) h rfl rfl rfl ⟨cO (c := 5) h rfl rfl, c_fewest h hD ?_⟩
  intro V1 f1 k1 k2
  rw [hZ]
  exact hQ L f1 ⟨ad, cp, V1, Z, ng, k1, rfl, rfl, hd.fr2 (fun c j hc => k2 c j (by omega) (by omega)) rfl rfl⟩
end CFK
