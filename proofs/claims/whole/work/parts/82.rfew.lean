/-! pure: the reference's fewest -/
theorem c14_n {v n : Nat} (hv : v < 2 ^ n) (hn : n ≤ 14) : fb_ct (fun k => v.testBit k) n = c14 v := by
  unfold c14
  have h := fb_ct_split (fun k => v.testBit k) n (14 - n)
  rw [show n + (14 - n) = 14 by omega] at h
  rw [h]
  have : fb_ct (fun k => v.testBit (n + k)) (14 - n) = 0 := fb_ct_zero.mpr (fun k _ => Nat.testBit_lt_two_pow (Nat.lt_of_lt_of_le hv (Nat.pow_le_pow_right (by decide) (by omega))))
  rw [this]; rfl
theorem c14_all : ∀ n, n ≤ 14 → c14 (2 ^ n - 1) = n := by
  have h : ∀ k : Fin 15, c14 (2 ^ k.val - 1) = k.val := by decide +kernel
  intro n hn
  exact h ⟨n, by omega⟩
theorem c14_le (v : Nat) : c14 v ≤ 14 := fb_ct_le _ 14
section RF
variable {M : mN} {D : Nat → Int64} {mn : Int32} {S : mS} {G : mG}
theorem rt_expl {Q : Int32 → mS → mG → Prop} {v : Nat} {x : Int64} (hG : ∀ j, G 17 j = D j) (hD : ∀ g, g < 40 → lo40 (D g)) (hx : tb x = im D v) (hQ : Q (bI (exB D v = true)) S G) : wp_X9_explains_0 Q S G x (AL D) := by
  have he : ∀ g, im D v g = true → tb (AL D) g = true := fun g h => by rw [im, Bool.and_eq_true] at h; exact h.1
  generalize he0 : im D v = e0 at he hx
  unfold wp_X9_explains_0
  refine loop_m (σ := Int64 × Int32) (fun n s => wp_X9_explains_6 Q n S G (AL D) s.1 s.2) (fun s => (s.2 = 1 ∧ ∃ m, tb s.1 = itp D e0 m ∧ ∀ k, k < m → itp D e0 (k + 1) ≠ itp D e0 k) ∨ (s.2 = 0 ∧ ∃ m, m ≤ 40 ∧ tb s.1 = itp D e0 m ∧ itp D e0 (m + 1) = itp D e0 m)) (fun s => 2 * (41 - fb_ct (tb s.1) 40) + (if s.2 = 0 then 0 else 1)) ?_ (x, 1) (Or.inl ⟨rfl, 0, hx, fun k hk => absurd hk (Nat.not_lt_zero k)⟩)
  rintro n9 ⟨had, more⟩ hI ih
  unfold wp_X9_explains_6
  rcases hI with ⟨hm, m, h1, h2⟩ | ⟨hm, m, h0, h1, h2⟩
  · have hm : more = 1 := hm
    have h1a : tb had = itp D e0 m := h1
    subst hm
    refine bf1 (by show ¬ (1 : Int32) = 0; decide) ?_
    have hct := itp_cnt hD he h2
    have hle := fb_ct_le (itp D e0 m) 40
    refine pk_loop (σ := Int64 × Int32) (fun n8 j s => wp_X9_explains_17 Q (wp_X9_explains_6 Q n9) n8 S G (AL D) s.1 s.2 (nI j)) (fun j s => tb s.1 = ps D (itp D e0 m) j ∧ (s.2 = 0 ∧ ps D (itp D e0 m) j = itp D e0 m ∨ s.2 = 1 ∧ ps D (itp D e0 m) j ≠ itp D e0 m)) 40 0 (had, 0) (Nat.zero_le _) ⟨h1a, Or.inl ⟨rfl, rfl⟩⟩ ?_ ?_
    · rintro n8 ⟨had2, more2⟩ ⟨k1, k2⟩
      have k1a : tb had2 = itp D e0 (m + 1) := k1
      unfold wp_X9_explains_17
      refine bt1 (by decide) ?_
      unfold wp_X9_explains_99
      rcases k2 with ⟨k2, k3⟩ | ⟨k2, k3⟩
      · have k2 : more2 = 0 := k2
        subst k2
        have k3a : itp D e0 (m + 1) = itp D e0 m := k3
        refine ih (had2, 0) (Or.inr ⟨rfl, m, by omega, by show tb had2 = _; rw [k1a, k3a], k3a⟩) ?_
        show 2 * (41 - fb_ct (tb had2) 40) + 0 < 2 * (41 - fb_ct (tb had) 40) + (if (1 : Int32) = 0 then 0 else 1)
        rw [k1a, k3a, h1a, if_neg (by decide)]
        omega
      · have k2 : more2 = 1 := k2
        subst k2
        have k3a : itp D e0 (m + 1) ≠ itp D e0 m := k3
        have h3 : ∀ k, k < m + 1 → itp D e0 (k + 1) ≠ itp D e0 k := lt_s h2 k3a
        have hct2 := itp_cnt hD he h3
        have hle2 := fb_ct_le (itp D e0 (m + 1)) 40
        have : ∃ g, itp D e0 (m + 1) g ≠ itp D e0 m g := by
          apply Classical.byContradiction
          intro h9
          exact k3a (funext fun g => Classical.byContradiction fun h8 => h9 ⟨g, h8⟩)
        obtain ⟨g, hg⟩ := this
        have hmono : ∀ k, itp D e0 m k = true → itp D e0 (m + 1) k = true := fun k hk => ps_mono hk 40
        have g1 : itp D e0 m g = false := by
          apply Bool.eq_false_iff.mpr
          intro h9
          exact hg (by rw [h9, hmono g h9])
        have g2 : itp D e0 (m + 1) g = true := by
          apply Classical.byContradiction
          intro h9
          exact hg (by rw [g1]; simpa using h9)
        have g40 : g < 40 := by
          apply Classical.byContradiction
          intro h9
          have := itp_in he (m + 1) g g2
          rw [al_lo hD g (by omega)] at this
          exact absurd this (by decide)
        have hlt := ct_lt hmono g40 g1 g2
        refine ih (had2, 1) (Or.inl ⟨rfl, m + 1, k1a, h3⟩) ?_
        show 2 * (41 - fb_ct (tb had2) 40) + (if (1 : Int32) = 0 then 0 else 1) < 2 * (41 - fb_ct (tb had) 40) + (if (1 : Int32) = 0 then 0 else 1)
        rw [k1a, h1a, if_neg (by decide)]
        omega
    · rintro n8 j ⟨had2, more2⟩ hj ⟨k1, k2⟩ jh
      have k1 : tb had2 = ps D (itp D e0 m) j := k1
      have skip : (cnd D j (ps D (itp D e0 m) j) = false ∨ ps D (itp D e0 m) j j = true) → wp_X9_explains_93 Q (wp_X9_explains_6 Q n9) (wp_X9_explains_17 Q (wp_X9_explains_6 Q n9) n8) S G (AL D) had2 more2 (nI j) := by
        intro hs
        have e := ps_no hs
        unfold wp_X9_explains_93
        rintro _ rfl
        rw [nI_1]
        exact jh (had2, more2) ⟨by rw [e]; exact k1, by rw [e]; exact k2⟩
      unfold wp_X9_explains_17
      refine bf1 (by rw [i_le 40 j]; omega) (bq (tb_c0 (by omega)) (fun c1 => skip (Or.inl ?_)) (fun c1 => bq (tb_c1 (by omega)) (fun c2 => skip (Or.inr ?_)) (fun c2 => ⟨n_in hj (by decide), ?_⟩)))
      · apply Bool.eq_false_iff.mpr
        intro h9
        have := (cnd_iff.mp h9).1
        rw [c1] at this
        exact absurd this (by decide)
      · rw [← k1]; exact c2
      · rw [n_cl (by omega), hG j]
        refine bq lc_0 (fun c3 => skip (Or.inl ?_)) (fun c3 => ⟨n_in hj (by decide), bq lc_0 (fun c4 => ?_) (fun c4 => skip (Or.inl ?_))⟩)
        · apply Bool.eq_false_iff.mpr
          intro h9
          exact (cnd_iff.mp h9).2.1 c3
        · have hc : cnd D j (ps D (itp D e0 m) j) = true := by
            refine cnd_iff.mpr ⟨by simpa using c1, c3, fun h hh ht => ?_⟩
            rw [← k1]
            apply Classical.byContradiction
            intro h9
            have : D j &&& (had2 ^^^ (-1)) ≠ 0 := tb_meet.mpr ⟨h, hh, ht, by rw [tb_not hh]; simpa using h9⟩
            exact this c4
          rintro _ rfl
          unfold wp_X9_explains_93
          rintro _ rfl
          rw [nI_1]
          refine jh (_, 1) ⟨?_, Or.inr ⟨rfl, ?_⟩⟩
          · funext g
            show tb (had2 ||| ((1 : Int64) <<< (Int32.toInt64 (nI j) &&& 63))) g = (ps D (itp D e0 m) j g || (g == j && cnd D j (ps D (itp D e0 m) j)))
            rw [tb_set (by omega), hc, k1, Bool.and_true]
            congr 1
          · intro h9
            have a1 : itp D e0 m j = true := by
              rw [← h9]
              show (ps D (itp D e0 m) j j || (j == j && cnd D j (ps D (itp D e0 m) j))) = true
              rw [hc]; simp
            have a2 := ps_mono (D := D) a1 j
            rw [← k1] at a2
            exact c2 a2
        · apply Bool.eq_false_iff.mpr
          intro h9
          have hs := (cnd_iff.mp h9).2.2
          apply c4
          apply tb_ext
          intro h hh
          rw [tb_and, tb_not hh, tb_0]
          by_cases ht : tb (D j) h = true
          · have := hs h hh ht
            rw [← k1] at this
            rw [this]; simp
          · simp [ht]
  · have hm : more = 0 := hm
    have h1a : tb had = itp D e0 m := h1
    subst hm
    refine bt1 rfl ?_
    unfold wp_X9_explains_102
    have e40 := itp_40 h0 h2
    have key : had = AL D ↔ exB D v = true := by
      rw [exB_iff, he0, e40, ← h1a]
      constructor
      · intro h g _ ht; rw [h]; exact ht
      · intro h
        apply tb_ext
        intro g hg
        by_cases ht : tb (AL D) g = true
        · rw [ht]; exact h g hg ht
        · have : tb had g ≠ true := fun h9 => ht (itp_in he m g (by rw [← h1a]; exact h9))
          rw [Bool.eq_false_iff.mpr ht, Bool.eq_false_iff.mpr this]
    refine bn (lc_0.trans key) (fun h9 => ?_) (fun h9 => ?_)
    · rw [bI_t h9] at hQ; exact hQ
    · rw [bI_f h9] at hQ; exact hQ
def aFew (D : Nat → Int64) : Int64 := if 14 < cntA D then -1 else stI D (bvN D (2 ^ cntA D)) (cntA D)
theorem idx_s (g : Nat) : idx D (g + 1) = idx D g + (if tb (AL D) g then 1 else 0) := fb_ct_succ _ _
theorem rt_fewest {Q : Int64 → mS → mG → Prop} (h : RI M D mn S G) (hQ : ∀ S' : mS, RI M D mn S' G → Q (aFew D) S' G) : wp_X9_fewest_0 Q S G := by
  have hD : ∀ g, g < 40 → lo40 (D g) := fun g hg => (h.2.2.2.2.2.2.2.1 g hg).1
  have hG := h.2.1
  unfold wp_X9_fewest_0
  rintro _ rfl
  have h1 := h.thr 0
  generalize mst S 0 0 0 = S1 at h1 ⊢
  refine pk_loop (σ := Unit) (fun n9 i _ => wp_X9_fewest_9 Q n9 S1 G (alI D i) (nI i)) (fun i _ => True) 40 0 () (Nat.zero_le _) trivial ?_ ?_
  rotate_left
  · intro n9 i _ hi _ ih
    unfold wp_X9_fewest_9
    refine bf1 (by rw [i_le 40 i]; omega) ⟨n_in hi (by decide), ?_⟩
    rw [n_cl (by omega), hG i]
    have ea : alI D (i + 1) = if D i = 0 then alI D i else alI D i ||| (D i ||| ((1 : Int64) <<< ((nI i).toInt64 &&& 63))) := rfl
    refine bq lc_0 (fun h0 => ?_) (fun h0 => ⟨n_in hi (by decide), ?_⟩)
    · unfold wp_X9_fewest_39
      rintro _ rfl
      have := ih () trivial
      rw [ea, if_pos h0] at this
      rw [nI_1]
      exact this
    · rintro _ rfl
      unfold wp_X9_fewest_39
      rintro _ rfl
      have := ih () trivial
      rw [ea, if_neg h0] at this
      rw [nI_1]
      exact this
  · intro n9 _ _
    unfold wp_X9_fewest_9
    refine bt1 (by decide) ?_
    unfold wp_X9_fewest_45
    show ∃ n9, wp_X9_fewest_50 Q n9 S1 G (AL D) 0 0
    refine pk_loop (σ := mS) (fun n9 g st => wp_X9_fewest_50 Q n9 st G (AL D) (nI (idx D g)) (nI g)) (fun g st => RI M D mn st G ∧ idx D g ≤ 14 ∧ ∀ k, k < idx D g → st 35 k = nI (mb D k)) 40 0 S1 (Nat.zero_le _) ⟨h1, Nat.zero_le _, fun k hk => absurd hk (Nat.not_lt_zero k)⟩ ?_ ?_
    rotate_left
    · rintro n8 g st hg ⟨k1, k2, k3⟩ ih
      have es := idx_s (D := D) g
      unfold wp_X9_fewest_50
      refine bf1 (by rw [i_le 40 g]; omega) (bn (tb_c0 (by omega)) (fun ht => ?_) (fun ht => bn (i_eq (idx D g) 14) (fun h14 => ?_) (fun h14 => ⟨n_in (by omega) (by decide), ?_⟩)))
      · rw [ht] at es
        simp only [Bool.false_eq_true, if_false, Nat.add_zero] at es
        unfold wp_X9_fewest_92
        rintro _ rfl
        rw [nI_1]
        have := ih st
        rw [es] at this
        exact this ⟨k1, k2, k3⟩
      · have ht : tb (AL D) g = true := by simpa using ht
        unfold wp_X9_fewest_77
        have := hQ st k1
        have hlt := idx_lt hg ht
        rw [aFew, if_pos (by omega)] at this
        exact this
      · have ht : tb (AL D) g = true := by simpa using ht
        rw [ht] at es
        simp only [if_true] at es
        rw [n_cl (by omega)]
        rintro _ rfl
        rintro _ rfl
        unfold wp_X9_fewest_92
        rintro _ rfl
        rw [nI_1, nI_1]
        have := ih (mst st 35 (idx D g) (nI g))
        rw [es] at this
        refine this ⟨k1.out (by decide) (by decide) _ _, by omega, fun k hk => ?_⟩
        by_cases e : k = idx D g
        · subst e; rw [ms_same, mb_idx hg ht]
        · rw [ms_ne _ _ _ _ _ e]; exact k3 k (by omega)
    · rintro n8 st ⟨k1, k2, k3⟩
      have k2 : cntA D ≤ 14 := k2
      have k3 : ∀ k, k < cntA D → st 35 k = nI (mb D k) := k3
      have hq := hQ st k1
      rw [aFew, if_neg (by omega)] at hq
      unfold wp_X9_fewest_50
      refine bt1 (by decide) ?_
      unfold wp_X9_fewest_98
      show ∃ n9, wp_X9_fewest_107 Q n9 st G (AL D) (nI (cntA D)) (AL D) (nI (cntA D)) 0
      obtain ⟨n, hn⟩ : ∃ n, cntA D = n := ⟨_, rfl⟩
      have hall := stI_all hD
      have hlt : ∀ v, v ≤ 2 ^ cntA D → bvN D v < 2 ^ cntA D := bvN_lt
      have him : ∀ v, tb (stI D v (cntA D)) = im D v := fun v => stI_im hD
      have hb0 : bvN D 0 = 2 ^ cntA D - 1 := rfl
      have hmb : ∀ k, k < cntA D → mb D k < 40 := fun k hk => (mb_ok hk).1
      rw [hn] at k2 k3 hq hall hlt him hb0 hmb ⊢
      have h14 : 2 ^ n ≤ 2 ^ 14 := Nat.pow_le_pow_right (by decide) k2
      rw [show (2 : Nat) ^ 14 = 16384 by decide] at h14
      refine pk_loop (σ := Unit) (fun n9 v _ => wp_X9_fewest_107 Q n9 st G (AL D) (nI n) (stI D (bvN D v) n) (nI (c14 (bvN D v))) (nI v)) (fun _ _ => True) (2 ^ n) 0 () (Nat.zero_le _) trivial ?_ ?_ |> fun hh => ?_
      · rw [hb0, hall, c14_all n k2] at hh; exact hh
      · intro n7 _ _
        unfold wp_X9_fewest_107
        refine bt1 ?_ hq
        rw [sh32 n (by omega)]
        exact (i_le (2 ^ n) (2 ^ n)).mpr (Nat.le_refl _)
      · intro n7 v _ hv _ ih
        unfold wp_X9_fewest_107
        have hcb := c14_le (bvN D v)
        have hcv := c14_le v
        refine bf1 (by rw [sh32 n (by omega), i_le (2 ^ n) v]; omega) ?_
        refine pk_loop (σ := Unit) (fun n6 k _ => wp_X9_fewest_124 Q (wp_X9_fewest_107 Q n7) n6 st G (AL D) (nI n) (stI D (bvN D v) n) (nI (c14 (bvN D v))) (nI v) (stI D v k) (nI (fb_ct (fun j => v.testBit j) k)) (nI k)) (fun _ _ => True) n 0 () (Nat.zero_le _) trivial ?_ ?_
        · intro n6 _ _
          unfold wp_X9_fewest_124
          refine bt1 ((i_le n n).mpr (Nat.le_refl _)) ?_
          unfold wp_X9_fewest_166
          rw [c14_n hv k2]
          have hs : bvN D (v + 1) = if c14 v < c14 (bvN D v) ∧ exB D v = true then v else bvN D v := rfl
          have stay : ¬ (c14 v < c14 (bvN D v) ∧ exB D v = true) → wp_X9_fewest_194 Q (wp_X9_fewest_107 Q n7) st G (AL D) (nI n) (stI D (bvN D v) n) (nI (c14 (bvN D v))) (nI v) := by
            intro hno
            rw [if_neg hno] at hs
            unfold wp_X9_fewest_194
            rintro _ rfl
            rw [nI_1]
            have := ih () trivial
            rw [hs] at this
            exact this
          refine bq (i_le (c14 (bvN D v)) (c14 v)) (fun h9 => stay (fun h8 => by omega)) (fun h9 => ?_)
          refine rt_expl k1.2.1 hD (him v) ?_
          by_cases hx : exB D v = true
          · rw [bI_t hx]
            refine bf2 (by decide) ?_
            rw [if_pos ⟨by omega, hx⟩] at hs
            unfold wp_X9_fewest_194
            rintro _ rfl
            rw [nI_1]
            have := ih () trivial
            rw [hs] at this
            exact this
          · rw [bI_f hx]
            exact bt2 rfl (stay (fun h8 => hx h8.2))
        · intro n6 k _ hk _ kh
          unfold wp_X9_fewest_124
          have e1 : stI D v (k + 1) = if v.testBit k then stI D v k ||| ((1 : Int64) <<< ((nI (mb D k)).toInt64 &&& 63)) else stI D v k := rfl
          have e2 := fb_ct_succ (fun j => v.testBit j) k
          refine bf1 (by rw [i_le n k]; omega) (bn (t3_c0 (by omega)) (fun hz => ?_) (fun hz => ⟨n_in (by omega) (by decide), ?_⟩))
          · rw [t3_nI _ (by omega)] at hz
            rw [hz] at e1
            simp only [hz] at e2
            unfold wp_X9_fewest_160
            rintro _ rfl
            rw [nI_1]
            have := kh () trivial
            rw [e1, e2] at this
            exact this
          · rw [t3_nI _ (by omega)] at hz
            have hz : v.testBit k = true := by simpa using hz
            rw [n_cl (by omega), k3 k hk]
            rintro _ rfl
            rintro _ rfl
            unfold wp_X9_fewest_160
            rintro _ rfl
            rw [nI_1, nI_1]
            have := kh () trivial
            rw [e1, e2, hz] at this
            simp only [hz, if_true] at this
            exact this
end RF
