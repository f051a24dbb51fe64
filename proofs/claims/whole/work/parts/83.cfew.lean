/-! pure: the component's fewest -/
section FX
variable {D : Nat → Int64}
/-- the places of a set of things -/
def ndN (D : Nat → Int64) (x : Int64) : Nat → Nat
  | 0 => 0
  | k + 1 => if tb x (mb D k) then ndN D x k ||| 2 ^ k else ndN D x k
theorem ndN_lt {x : Int64} : ∀ k, ndN D x k < 2 ^ k
  | 0 => by rw [ndN]; decide
  | k + 1 => by
    have ih := ndN_lt (x := x) k
    have h2 : (2 : Nat) ^ k < 2 ^ (k + 1) := Nat.pow_lt_pow_right (by decide) (Nat.lt_succ_self k)
    rw [ndN]
    split
    · exact Nat.or_lt_two_pow (by omega) h2
    · omega
theorem ndN_tb {x : Int64} : ∀ (k : Nat) {j : Nat}, j < k → (ndN D x k).testBit j = tb x (mb D j)
  | 0, j, h => absurd h (Nat.not_lt_zero j)
  | k + 1, j, h => by
    rw [ndN]
    by_cases e : j = k
    · subst e
      have h0 : (ndN D x j).testBit j = false := Nat.testBit_lt_two_pow (ndN_lt j)
      by_cases ht : tb x (mb D j) = true
      · rw [if_pos ht, fb_bit_set, ht]; simp
      · rw [if_neg ht, h0]; simpa using ht
    · have ih := ndN_tb (x := x) k (j := j) (by omega)
      split
      · rw [fb_bit_set, ih]; simp [e]
      · exact ih
theorem bits_eq {n x y : Nat} (hx : x < 2 ^ n) (hy : y < 2 ^ n) (h : ∀ k, k < n → x.testBit k = y.testBit k) : x = y := by
  apply Nat.eq_of_testBit_eq
  intro i
  by_cases hi : i < n
  · exact h i hi
  · rw [Nat.testBit_lt_two_pow (Nat.lt_of_lt_of_le hx (Nat.pow_le_pow_right (by decide) (by omega))), Nat.testBit_lt_two_pow (Nat.lt_of_lt_of_le hy (Nat.pow_le_pow_right (by decide) (by omega)))]
theorem im_inj {x y : Nat} (hx : x < 2 ^ cntA D) (hy : y < 2 ^ cntA D) (h : im D x = im D y) : x = y :=
  bits_eq hx hy (fun k hk => by rw [← im_mb hk, ← im_mb hk, h])
/-- where place i's thing stands -/
def bd (D : Nat → Int64) (i : Nat) : Nat := if i < cntA D then mb D i else 40
theorem bd_0 {e : Nat → Bool} : ps D e (bd D 0) = e := by
  have : ∀ j, 0 ≤ j → j < 0 + bd D 0 → tb (AL D) j = false := by
    intro j _ hj
    apply Bool.eq_false_iff.mpr
    intro ht
    unfold bd at hj
    by_cases h : 0 < cntA D
    · rw [if_pos h] at hj
      obtain ⟨m1, m2, m3⟩ := mb_ok h
      have h1 : fb_ct (tb (AL D)) (j + 1) = fb_ct (tb (AL D)) j + 1 := by rw [fb_ct_succ, if_pos ht]
      have h2 := fb_ct_mono (tb (AL D)) (m := j + 1) (n := mb D 0) (by omega)
      unfold idx at m3
      omega
    · rw [if_neg h] at hj
      have := idx_lt (by omega) ht
      omega
  have h := ps_skip (e := e) this
  rw [Nat.zero_add] at h
  exact h
theorem bd_s {e : Nat → Bool} {i : Nat} (hi : i < cntA D) : ps D e (bd D (i + 1)) = ps D e (mb D i + 1) := by
  obtain ⟨m1, m2, m3⟩ := mb_ok hi
  have hge : mb D i + 1 ≤ bd D (i + 1) := by
    unfold bd
    by_cases h : i + 1 < cntA D
    · rw [if_pos h]
      obtain ⟨q1, q2, q3⟩ := mb_ok h
      apply Classical.byContradiction
      intro h9
      have h2 := fb_ct_mono (tb (AL D)) (m := mb D (i + 1)) (n := mb D i) (by omega)
      unfold idx at m3 q3
      omega
    · rw [if_neg h]; omega
  have : ∀ j, mb D i + 1 ≤ j → j < mb D i + 1 + (bd D (i + 1) - (mb D i + 1)) → tb (AL D) j = false := by
    intro j h1 h2
    apply Bool.eq_false_iff.mpr
    intro ht
    have a1 : fb_ct (tb (AL D)) (mb D i + 1) = fb_ct (tb (AL D)) (mb D i) + 1 := by rw [fb_ct_succ, if_pos m2]
    have a2 := fb_ct_mono (tb (AL D)) (m := mb D i + 1) (n := j) h1
    have a3 : fb_ct (tb (AL D)) (j + 1) = fb_ct (tb (AL D)) j + 1 := by rw [fb_ct_succ, if_pos ht]
    have h2 : j < bd D (i + 1) := by omega
    unfold bd at h2
    unfold idx at m3
    by_cases h : i + 1 < cntA D
    · rw [if_pos h] at h2
      obtain ⟨q1, q2, q3⟩ := mb_ok h
      have a4 := fb_ct_mono (tb (AL D)) (m := j + 1) (n := mb D (i + 1)) (by omega)
      unfold idx at q3
      omega
    · rw [if_neg h] at h2
      have a4 := fb_ct_mono (tb (AL D)) (m := j + 1) (n := 40) (by omega)
      unfold cntA at h
      omega
  have h := ps_skip (e := e) this
  rw [show mb D i + 1 + (bd D (i + 1) - (mb D i + 1)) = bd D (i + 1) by omega] at h
  exact h
theorem ct_64 (hD : ∀ g, g < 40 → lo40 (D g)) : fb_ct (tb (AL D)) 64 = cntA D := by
  have h := fb_ct_split (tb (AL D)) 40 24
  have h0 : fb_ct (fun k => tb (AL D) (40 + k)) 24 = 0 := fb_ct_zero.mpr (fun k _ => al_lo hD _ (by omega))
  rw [h0] at h
  exact h
/-- the condition of a pass, by places -/
theorem cnd_nd (hD : ∀ g, g < 40 → lo40 (D g)) {i y : Nat} (hi : i < cntA D) : cnd D (mb D i) (im D y) = true ↔ ndN D (D (mb D i)) (cntA D) ≠ 0 ∧ ∀ k, k < cntA D → (ndN D (D (mb D i)) (cntA D)).testBit k = true → y.testBit k = true := by
  obtain ⟨m1, m2, m3⟩ := mb_ok hi
  have mem : ∀ h, tb (D (mb D i)) h = true → h < 40 ∧ tb (AL D) h = true := by
    intro h ht
    refine ⟨?_, al_sub m1 ht⟩
    apply Classical.byContradiction
    intro h9
    rw [hD _ m1 h (by omega)] at ht
    exact absurd ht (by decide)
  rw [cnd_iff]
  constructor
  · rintro ⟨_, h2, h3⟩
    obtain ⟨g, hg, ht⟩ := tb_nz.mp h2
    obtain ⟨g1, g2⟩ := mem g ht
    refine ⟨fun e => ?_, fun k hk htk => ?_⟩
    · have := ndN_tb (D := D) (x := D (mb D i)) (cntA D) (idx_lt g1 g2)
      rw [e, mb_idx g1 g2, ht] at this
      simp at this
    · rw [ndN_tb _ hk] at htk
      have := h3 (mb D k) (by have := (mb_ok hk).1; omega) htk
      rwa [im_mb hk] at this
  · rintro ⟨h2, h3⟩
    refine ⟨m2, fun e => h2 ?_, fun h hh ht => ?_⟩
    · apply Nat.eq_of_testBit_eq
      intro k
      by_cases hk : k < cntA D
      · rw [ndN_tb _ hk, e, tb_0]; simp
      · rw [Nat.testBit_lt_two_pow (Nat.lt_of_lt_of_le (ndN_lt _) (Nat.pow_le_pow_right (by decide) (by omega)))]; simp
    · obtain ⟨g1, g2⟩ := mem h ht
      have hk := idx_lt g1 g2
      have := h3 (idx D h) hk (by rw [ndN_tb _ hk, mb_idx g1 g2]; exact ht)
      rw [im, g2, this]; rfl
theorem ex_full (hD : ∀ g, g < 40 → lo40 (D g)) {v x m : Nat} (hm : m ≤ 40) (hx : x < 2 ^ cntA D) (h1 : im D x = itp D (im D v) m) (h2 : itp D (im D v) (m + 1) = itp D (im D v) m) : exB D v = true ↔ x = 2 ^ cntA D - 1 := by
  rw [exB_iff, itp_40 hm h2, ← h1]
  constructor
  · intro h
    apply bits_eq hx (by have := Nat.two_pow_pos (cntA D); omega)
    intro k hk
    obtain ⟨m1, m2, m3⟩ := mb_ok hk
    rw [← im_mb hk, h _ (by omega) m2, Nat.testBit_two_pow_sub_one]
    simp [hk]
  · intro e g _ ht
    have hg : g < 40 := by
      apply Classical.byContradiction
      intro h9
      rw [al_lo hD g (by omega)] at ht
      exact absurd ht (by decide)
    rw [im, ht, e, Nat.testBit_two_pow_sub_one]
    simp [idx_lt hg ht]
end FX
section CF
variable {dA : Nat → ClassId} {zz : Nat → Nat} {ad : Nat → Nat → Nat} {cp : Nat → Nat → Nat} {V : cV} {Z : cZ} {L : List Nat} {f : pF}
theorem c_among {Q : Int32 → List Nat → pF → Prop} {D : Nat → Int64} (h : CH dA zz ad cp V Z L f) (hn : cntA D ≤ 14) (h5 : V 5 0 1 = nI (cntA D)) (hm : ∀ k, k < cntA D → V 7 2 k = nI (mb D k)) (x : Int64) (hQ : Q (nI (ndN D x (cntA D))) L f) : wp_X0_membersAmong_0 dA zz Q L f (ad 5 0) x := by
  unfold wp_X0_membersAmong_0
  refine pk_loop (σ := Unit) (fun n9 i _ => wp_X0_membersAmong_5 dA zz Q n9 L f (ad 5 0) x (nI (ndN D x i)) (nI i)) (fun _ _ => True) (cntA D) 0 () (Nat.zero_le _) trivial ?_ ?_
  · intro n9 _ _
    unfold wp_X0_membersAmong_5
    exact cgI (c := 5) h rfl rfl rfl (bt1 ((i_le _ _ (hx := h5)).mpr (Nat.le_refl _)) hQ)
  · intro n9 i _ hi _ ih
    have hmb := (mb_ok hi).1
    have es : ndN D x (i + 1) = if tb x (mb D i) then ndN D x i ||| 2 ^ i else ndN D x i := rfl
    unfold wp_X0_membersAmong_5
    refine cgI (c := 5) h rfl rfl rfl (bf1 (by rw [i_le (cntA D) i (hx := h5)]; omega) (cgR (c := 5) h rfl rfl rfl (caI (c := 7) (i := 2) (n := 14) h (lv_7 (by decide)) rfl i rfl (by omega) (by decide) ?_)))
    rw [hm i hi]
    refine bq (tb_c0 (by omega)) (fun ht => ?_) (fun ht => ?_)
    · rw [ht] at es
      unfold wp_X0_membersAmong_37
      rintro _ rfl
      rw [nI_1]
      have := ih () trivial
      rw [es] at this
      exact this
    · have ht : tb x (mb D i) = true := by simpa using ht
      rw [if_pos ht] at es
      rintro _ rfl
      unfold wp_X0_membersAmong_37
      rintro _ rfl
      rw [nI_1, sh32 i (by omega), fa_or]
      have := ih () trivial
      rw [es] at this
      exact this
theorem c_explains {Q : Int32 → List Nat → pF → Prop} (h : CH dA zz ad cp V Z L f) (hD : ∀ g, g < 40 → lo40 (Z 6 g)) (hn : cntA (Z 6) ≤ 14) (h5 : V 5 0 1 = nI (cntA (Z 6))) (hd : ∀ k, k < cntA (Z 6) → V 7 3 k = nI (ndN (Z 6) (Z 6 (mb (Z 6) k)) (cntA (Z 6)))) {v : Nat} (hv : v < 2 ^ cntA (Z 6)) (hQ : Q (bI (exB (Z 6) v = true)) L f) : wp_X0_explainsAll_0 dA zz Q L f (ad 5 0) (nI v) := by
  generalize hZ : Z 6 = D at *
  have h14 : 2 ^ cntA D ≤ 2 ^ 14 := Nat.pow_le_pow_right (by decide) hn
  rw [show (2 : Nat) ^ 14 = 16384 by decide] at h14
  have he : ∀ g, im D v g = true → tb (AL D) g = true := fun g h => by rw [im, Bool.and_eq_true] at h; exact h.1
  have fin : ∀ x m, m ≤ 40 → x < 2 ^ cntA D → im D x = itp D (im D v) m → itp D (im D v) (m + 1) = itp D (im D v) m → wp_X0_explainsAll_79 dA zz Q L f (ad 5 0) (nI x) := by
    intro x m hm hx h1 h2
    have hf := ex_full hD hm hx h1 h2
    have hp := Nat.two_pow_pos (cntA D)
    unfold wp_X0_explainsAll_79
    refine cgI (c := 5) h rfl rfl rfl ?_
    have e : ((1 : Int32) <<< (V 5 0 1 &&& 31)) - 1 = nI (2 ^ cntA D - 1) := by rw [h5, sh32 _ (by omega), n_sub1 hp]
    rw [e]
    refine bn ((i_eq x (2 ^ cntA D - 1)).trans hf.symm) (fun h9 => ?_) (fun h9 => ?_)
    · rw [bI_t h9] at hQ; exact hQ
    · rw [bI_f h9] at hQ; exact hQ
  unfold wp_X0_explainsAll_0
  refine pk_loop (σ := Nat) (fun n9 r x => wp_X0_explainsAll_4 dA zz Q n9 L f (ad 5 0) (nI x) (nI r)) (fun r x => x < 2 ^ cntA D ∧ im D x = itp D (im D v) r ∧ ∀ k, k < r → itp D (im D v) (k + 1) ≠ itp D (im D v) k) (cntA D) 0 v (Nat.zero_le _) ⟨hv, rfl, fun k hk => absurd hk (Nat.not_lt_zero k)⟩ ?_ ?_
  · rintro n9 x ⟨k1, k2, k3⟩
    unfold wp_X0_explainsAll_4
    refine cgI (c := 5) h rfl rfl rfl (bt1 ((i_le _ _ (hx := h5)).mpr (Nat.le_refl _)) (fin x (cntA D) (by omega) k1 k2 ?_))
    apply Classical.byContradiction
    intro hne
    have hc := itp_cnt hD he (lt_s k3 hne)
    have hs : fb_ct (itp D (im D v) (cntA D + 1)) 40 ≤ fb_ct (tb (AL D)) 40 := fb_ct_sub (fun k _ hk => itp_in he _ k hk)
    have : fb_ct (tb (AL D)) 40 = cntA D := rfl
    omega
  · rintro n9 r x hr ⟨k1, k2, k3⟩ ih
    unfold wp_X0_explainsAll_4
    refine cgI (c := 5) h rfl rfl rfl (bf1 (by rw [i_le (cntA D) r (hx := h5)]; omega) ?_)
    refine pk_loop (σ := Nat) (fun n8 i y => wp_X0_explainsAll_18 dA zz Q (wp_X0_explainsAll_4 dA zz Q n9) n8 L f (ad 5 0) (nI y) (nI r) (nI x) (nI i)) (fun i y => y < 2 ^ cntA D ∧ im D y = ps D (itp D (im D v) r) (bd D i)) (cntA D) 0 x (Nat.zero_le _) ⟨k1, by rw [bd_0]; exact k2⟩ ?_ ?_
    · rintro n8 y ⟨j1, j2⟩
      have j2 : im D y = itp D (im D v) (r + 1) := by rw [j2, bd, if_neg (Nat.lt_irrefl _)]; rfl
      unfold wp_X0_explainsAll_18
      refine cgI (c := 5) h rfl rfl rfl (bt1 ((i_le _ _ (hx := h5)).mpr (Nat.le_refl _)) ?_)
      unfold wp_X0_explainsAll_64
      refine bn (i_eq y x) (fun e => ?_) (fun e => ?_)
      · subst e
        exact fin y r (by omega) j1 k2 (by rw [← j2, k2])
      · rintro _ rfl
        rw [nI_1]
        exact ih y ⟨j1, j2, lt_s k3 (fun h9 => e (im_inj j1 k1 (by rw [j2, k2, h9])))⟩
    · rintro n8 i y hi ⟨j1, j2⟩ jh
      have j2a : im D y = ps D (itp D (im D v) r) (mb D i) := by rw [j2, bd, if_pos hi]
      have hnd := ndN_lt (D := D) (x := D (mb D i)) (cntA D)
      have hc := cnd_nd hD (y := y) hi
      generalize hdd : ndN D (D (mb D i)) (cntA D) = nd at hnd hc
      have e7 : V 7 3 i = nI nd := by rw [hd i hi, hdd]
      have skip : ¬ (nd ≠ 0 ∧ ∀ k, k < cntA D → nd.testBit k = true → y.testBit k = true) → wp_X0_explainsAll_58 dA zz Q (wp_X0_explainsAll_4 dA zz Q n9) (wp_X0_explainsAll_18 dA zz Q (wp_X0_explainsAll_4 dA zz Q n9) n8) L f (ad 5 0) (nI y) (nI r) (nI x) (nI i) := by
        intro hno
        unfold wp_X0_explainsAll_58
        rintro _ rfl
        rw [nI_1]
        refine jh y ⟨j1, ?_⟩
        rw [bd_s hi, ps_no (Or.inl ?_), j2a]
        rw [← j2a]
        exact Bool.eq_false_iff.mpr (fun h9 => hno (hc.mp h9))
      unfold wp_X0_explainsAll_18
      refine cgI (c := 5) h rfl rfl rfl (bf1 (by rw [i_le (cntA D) i (hx := h5)]; omega) (cgR (c := 5) h rfl rfl rfl (caI (c := 7) (i := 3) (n := 14) h (lv_7 (by decide)) rfl i rfl (by omega) (by decide) ?_)))
      refine bq (i_eq nd 0 (hx := e7)) (fun h0 => skip (fun h9 => h9.1 h0)) (fun h0 => cgR (c := 5) h rfl rfl rfl (caI (c := 7) (i := 3) (n := 14) h (lv_7 (by decide)) rfl i rfl (by omega) (by decide) ?_))
      rw [e7]
      have hnd14 : nd < 2 ^ 14 := Nat.lt_of_lt_of_le hnd (Nat.pow_le_pow_right (by decide) hn)
      refine bn (t3_sub hnd14) (fun hs => ?_) (fun hs => skip (fun h9 => hs (fun k hk ht => ?_)))
      · have hcc := hc.mpr ⟨h0, fun k hk ht => hs k (by omega) ht⟩
        rintro _ rfl
        unfold wp_X0_explainsAll_58
        rintro _ rfl
        rw [nI_1, sh32 i (by omega), fa_or]
        have h2i : (2 : Nat) ^ i < 2 ^ cntA D := Nat.pow_lt_pow_right (by decide) hi
        refine jh (y ||| 2 ^ i) ⟨Nat.or_lt_two_pow j1 h2i, ?_⟩
        rw [bd_s hi]
        funext g
        show im D (y ||| 2 ^ i) g = (ps D (itp D (im D v) r) (mb D i) g || (g == mb D i && cnd D (mb D i) (ps D (itp D (im D v) r) (mb D i))))
        rw [← j2a, hcc, Bool.and_true]
        obtain ⟨m1, m2, m3⟩ := mb_ok hi
        by_cases eg : g = mb D i
        · rw [eg, im_mb hi, fb_bit_set]; simp
        · rw [show (g == mb D i) = false from by simpa using eg, Bool.or_false, im, im, fb_bit_set]
          by_cases ht : tb (AL D) g = true
          · have hg : g < 40 := by
              apply Classical.byContradiction
              intro h9
              rw [al_lo hD g (by omega)] at ht
              exact absurd ht (by decide)
            have : idx D g ≠ i := fun e2 => eg (by rw [← e2, mb_idx hg ht])
            simp [this]
          · simp [ht]
      · by_cases hk2 : k < cntA D
        · exact h9.2 k hk2 ht
        · rw [Nat.testBit_lt_two_pow (Nat.lt_of_lt_of_le hnd (Nat.pow_le_pow_right (by decide) (by omega)))] at ht
          exact absurd ht (by decide)
end CF
