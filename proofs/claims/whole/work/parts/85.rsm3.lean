/-! pure: the reference's small calls, third part -/
abbrev okN (a : Int32) (n : Nat) : Prop := ¬ a < 0 ∧ a < nI n
theorem okN_of {a : Int32} {n : Nat} (h : okN a n) (hn : n < 2147483648) : ∃ t, t < n ∧ a = nI t := by
  obtain ⟨t, ht, rfl⟩ := n_of h.1
  exact ⟨t, (n_lt ht hn).mp h.2, rfl⟩
theorem okN_i {t n : Nat} (h : t < n) (hn : n < 2147483648) : okN (nI t) n := ⟨n_lt0 (by omega), nI_lt h hn⟩
theorem x9_thing {Q : Int32 → Prop} {a : Int32} (yes : okN a 40 → Q 1) (no : ¬ okN a 40 → Q 0) : wp_X9_isThing_0 Q a := by
  unfold wp_X9_isThing_0
  exact ⟨fun h => no (fun h9 => h9.1 h), fun h => ⟨fun h2 => no (fun h9 => by have := h9.2; rw [fa_lt] at this; rw [fa_le] at h2; have e : (nI 40).toInt = (40 : Int32).toInt := rfl; omega), fun h2 => yes ⟨h, fa_of_nle h2⟩⟩⟩
/-- a byte of an int -/
def byN (v : Int32) (k : Nat) : Nat := ((v >>> (nI k &&& 31)) &&& 255).toNatClampNeg
theorem byN_ok (v : Int32) (k : Nat) : byN v k < 256 ∧ (v >>> (nI k &&& 31)) &&& 255 = nI (byN v k) := by
  obtain ⟨j, hj, he⟩ := pk_andE (v >>> (nI k &&& 31)) (m := 255) 8 (by decide)
  unfold byN
  rw [he, n_cl (by omega)]
  exact ⟨hj, rfl⟩
theorem t3_255 : ∀ g, g < 32 → t3 255 g = decide (g < 8) := by
  have h : ∀ k : Fin 32, t3 255 k.val = decide (k.val < 8) := by decide +kernel
  intro k hk
  exact h ⟨k, hk⟩
theorem t3_sshr {x : Int32} {k g : Nat} (hk : k < 32) (hg : k + g < 32) : t3 (x >>> (nI k &&& 31)) g = t3 x (k + g) := by
  unfold t3
  rw [Int32.toBitVec_shiftRight, t3_amt k hk]
  have e : (BitVec.ofNat 32 k).toNat = k := by rw [BitVec.toNat_ofNat]; omega
  show (x.toBitVec.sshiftRight (BitVec.ofNat 32 k).toNat).getLsbD g = _
  rw [e, BitVec.getLsbD_sshiftRight]
  simp [hg]; omega
theorem t3_ushr {x : Int32} {k g : Nat} (hk : k < 32) : t3 ((x.toUInt32 >>> ((nI k).toUInt32 &&& Int32.toUInt32 31)).toInt32) g = t3 x (k + g) := by
  have hs : ∀ k : Fin 32, ((nI k.val).toUInt32 &&& Int32.toUInt32 31) = UInt32.ofNat k.val := by decide +kernel
  rw [hs ⟨k, hk⟩]
  unfold t3
  show (x.toUInt32 >>> UInt32.ofNat k).toBitVec.getLsbD g = _
  rw [UInt32.toBitVec_shiftRight]
  have e : ((UInt32.ofNat k).toBitVec % 32).toNat = k := by
    show ((BitVec.ofNat 32 k) % 32).toNat = k
    rw [BitVec.toNat_umod, BitVec.toNat_ofNat]
    show k % 2 ^ 32 % 32 = k
    omega
  rw [BitVec.ushiftRight_eq', e, BitVec.getLsbD_ushiftRight]
  rfl
theorem byN_c (v : Int32) {k : Nat} (hk : k ≤ 24) : ((v.toUInt32 >>> ((nI k).toUInt32 &&& Int32.toUInt32 31)).toInt32).toInt8.toInt32 = sb (byN v k) := by
  unfold sb
  rw [← (byN_ok v k).2, fa_byte_low, ← fa_byte_low]
  congr 1
  rw [← fa_byte_low (v >>> (nI k &&& 31))]
  congr 1
  apply t3_ext
  intro g hg
  rw [t3_and, t3_and, t3_255 g hg]
  by_cases h8 : g < 8
  · rw [t3_ushr (by omega), t3_sshr (by omega) (by omega)]
  · simp [h8]
/-- a byte comes behind a text -/
def wrB (M : mN) (x c : Nat) : mN := ad2 (ad2 M 19 (600 * x + M 20 x) c) 20 x (M 20 x + 1)
def wr4 (M : mN) (x : Nat) (v : Int32) : mN := wrB (wrB (wrB (wrB M x (byN v 24)) x (byN v 16)) x (byN v 8)) x (byN v 0)
theorem wrB_20 {M : mN} {x c : Nat} : wrB M x c 20 x = M 20 x + 1 := ad2_s
theorem wr4_20 {M : mN} {x : Nat} {v : Int32} : wr4 M x v 20 x = M 20 x + 4 := by unfold wr4; rw [wrB_20, wrB_20, wrB_20, wrB_20]
theorem wrB_f {M : mN} {x c a : Nat} (h19 : a ≠ 19) (h20 : a ≠ 20) : wrB M x c a = M a := by unfold wrB; rw [ad2_f h20, ad2_f h19]
theorem wrB_20o {M : mN} {x c y : Nat} (h : y ≠ x) : wrB M x c 20 y = M 20 y := by unfold wrB; rw [ad2_i h, ad2_f (by decide)]
theorem wrB_19n {M : mN} {x c : Nat} : wrB M x c 19 (600 * x + M 20 x) = c := by unfold wrB; rw [ad2_f (by decide), ad2_s]
theorem wrB_19o {M : mN} {x c j : Nat} (h : j ≠ 600 * x + M 20 x) : wrB M x c 19 j = M 19 j := by unfold wrB; rw [ad2_f (by decide), ad2_i h]
theorem wrB_MI {M : mN} {D : Nat → Int64} {x c : Nat} (h : MI M D) (hx : x < 8) (hn : M 20 x < 600) (hc : c < 256) : MI (wrB M x c) D := by
  obtain ⟨m1, m2, m3, m4, m5, m6⟩ := h
  have e : ∀ a, a ≠ 19 → a ≠ 20 → wrB M x c a = M a := fun a h1 h2 => wrB_f h1 h2
  refine ⟨miW_c (e 1 (by decide) (by decide)) (e 2 (by decide) (by decide)) m1, miE_c (e 3 (by decide) (by decide)) (e 6 (by decide) (by decide)) (e 7 (by decide) (by decide)) m2, miT_c (e 4 (by decide) (by decide)) (e 8 (by decide) (by decide)) (e 9 (by decide) (by decide)) (e 10 (by decide) (by decide)) (e 11 (by decide) (by decide)) (e 12 (by decide) (by decide)) (e 13 (by decide) (by decide)) m3, miN_c (e 14 (by decide) (by decide)) (e 15 (by decide) (by decide)) (e 16 (by decide) (by decide)) m4, miD_c (e 18 (by decide) (by decide)) m5, fun y hy => ?_⟩
  obtain ⟨q1, q2⟩ := m6 y hy
  by_cases ey : y = x
  · subst ey
    rw [wrB_20]
    refine ⟨by omega, fun k hk => ?_⟩
    by_cases ek : k = M 20 y
    · subst ek; rw [wrB_19n]; exact hc
    · rw [wrB_19o (by omega)]; exact q2 k (by omega)
  · rw [wrB_20o ey]
    refine ⟨q1, fun k hk => ?_⟩
    have := (m6 x hx).1
    rw [wrB_19o (by omega)]; exact q2 k hk
section RS3
variable {M : mN} {D : Nat → Int64} {mn : Int32} {S : mS} {G : mG}
theorem rt_isTerm {Q : Int32 → mS → mG → Prop} (h : RI M D mn S G) (a : Int32) (yes : okN a (M 4 0) → ∀ S' : mS, RI M D mn S' G → S' 0 0 = 0 → Q 1 S' G) (no : ¬ okN a (M 4 0) → ∀ S' : mS, RI M D mn S' G → S' 0 0 = 1 → Q 0 S' G) : wp_X9_isTerm_0 Q S G a := by
  unfold wp_X9_isTerm_0
  rintro _ rfl
  have h1 := h.thr 0
  have z1 : mst S 0 0 0 0 0 = 0 := ms_same _ _ _ _
  generalize mst S 0 0 0 = S1 at h1 z1 ⊢
  have hb := h1.2.2.2.2.2.1.1
  have bad : ¬ okN a (M 4 0) → wp_X9_isTerm_22 Q S1 G := by
    intro hn
    unfold wp_X9_isTerm_22 wp_X9_isTerm_23
    exact rt_right0 z1 (by decide) ⟨rfl, no hn _ (h1.thr 1) (ms_same _ _ _ _)⟩
  refine ⟨fun h9 => bad (fun ok => ok.1 h9), fun h9 => ⟨fun h8 => bad (fun ok => ?_), fun h8 => ?_⟩⟩
  · rw [h1.g 4 0, fa_le] at h8
    have := ok.2
    rw [fa_lt] at this
    omega
  · have ok : okN a (M 4 0) := ⟨h9, by rw [← h1.g 4 0]; exact fa_of_nle h8⟩
    unfold wp_X9_isTerm_23
    exact rt_right1 z1 ⟨rfl, yes ok S1 h1 z1⟩
theorem rt_isText {Q : Int32 → mS → mG → Prop} (h : RI M D mn S G) (a : Int32) (yes : okN a 8 → ∀ S' : mS, RI M D mn S' G → S' 0 0 = 0 → Q 1 S' G) (no : ¬ okN a 8 → ∀ S' : mS, RI M D mn S' G → S' 0 0 = 1 → Q 0 S' G) : wp_X9_isText_0 Q S G a := by
  unfold wp_X9_isText_0
  rintro _ rfl
  have h1 := h.thr 0
  have z1 : mst S 0 0 0 0 0 = 0 := ms_same _ _ _ _
  generalize mst S 0 0 0 = S1 at h1 z1 ⊢
  have bad : ¬ okN a 8 → wp_X9_isText_20 Q S1 G := by
    intro hn
    unfold wp_X9_isText_20 wp_X9_isText_21
    exact rt_right0 z1 (by decide) ⟨rfl, no hn _ (h1.thr 1) (ms_same _ _ _ _)⟩
  refine ⟨fun h9 => bad (fun ok => ok.1 h9), fun h9 => ⟨fun h8 => bad (fun ok => ?_), fun h8 => ?_⟩⟩
  · rw [fa_le] at h8
    have := ok.2
    rw [fa_lt] at this
    have e : (nI 8).toInt = (8 : Int32).toInt := rfl
    omega
  · have ok : okN a 8 := ⟨h9, fa_of_nle h8⟩
    unfold wp_X9_isText_21
    exact rt_right1 z1 ⟨rfl, yes ok S1 h1 z1⟩
abbrev okL (x : Int64) : Prop := ¬ x < 0 ∧ x < 1099511627776
theorem okL_shr {x : Int64} (h : ¬ x < 0) : x >>> (Int32.toInt64 (40 : Int32) &&& 63) = 0 ↔ x < 1099511627776 := by
  have e : (x >>> (Int32.toInt64 (40 : Int32) &&& 63)).toInt = x.toInt >>> 40 := by
    show (x >>> ((nI 40).toInt64 &&& 63)).toBitVec.toInt = _
    rw [Int64.toBitVec_shiftRight, tb_amt 40 (by decide)]
    show (x.toBitVec.sshiftRight 40).toInt = _
    rw [BitVec.toInt_sshiftRight]
    rfl
  rw [fa_eq64, e, fa_lt64, show (0 : Int64).toInt = 0 by decide, show (1099511627776 : Int64).toInt = 1099511627776 by decide]
  rw [fa_lt64, show (0 : Int64).toInt = 0 by decide] at h
  rw [Int.shiftRight_eq_div_pow]
  show x.toInt / 1099511627776 = 0 ↔ _
  omega
theorem okL_lo {x : Int64} (h : okL x) : lo40 x := by
  obtain ⟨k, hk, rfl⟩ := pk_lOf h.1
  have h2 : k < 1099511627776 := (pk_lLT hk (by decide)).mp h.2
  intro g hg
  by_cases h64 : g < 64
  · unfold tb
    rw [wb_tb, BitVec.getLsbD_ofNat, Nat.testBit_lt_two_pow (Nat.lt_of_lt_of_le (show k < 2 ^ 40 from h2) (Nat.pow_le_pow_right (by decide) hg))]
    simp
  · exact tb_big (by omega)
theorem rt_define {Q : Int64 → mS → mG → Prop} (h : RI M D mn S G) (a : Int32) (x : Int64) (yes : ∀ t, t < 40 → a = nI t → okL x → ∀ (S' : mS) (G' : mG), RI M (vp_updL D t x) mn S' G' → S' 0 0 = 0 → Q (D t) S' G') (no : ¬ (okN a 40 ∧ okL x) → ∀ (S' : mS), RI M D mn S' G → S' 0 0 = 1 → Q 0 S' G) : wp_X9_define_0 Q S G a x := by
  unfold wp_X9_define_0
  rintro _ rfl
  have h1 := h.thr 0
  have z1 : mst S 0 0 0 0 0 = 0 := ms_same _ _ _ _
  generalize mst S 0 0 0 = S1 at h1 z1 ⊢
  have bad : ¬ (okN a 40 ∧ okL x) → wp_X9_define_32 Q S1 G a x := by
    intro hn
    unfold wp_X9_define_32 wp_X9_define_33
    exact rt_right0 z1 (by decide) (bt2 rfl (no hn _ (h1.thr 1) (ms_same _ _ _ _)))
  refine x9_thing (fun ok => bf1 (by decide) (bq lc_n (fun h2 => bad (fun h9 => h9.2.1 h2)) (fun h2 => bn (lc_0.trans (okL_shr h2)) (fun h3 => ?_) (fun h3 => bad (fun h9 => h3 h9.2.2))))) (fun ok => bt1 rfl (bad (fun h9 => ok h9.1)))
  obtain ⟨t, ht, rfl⟩ := okN_of ok (by decide)
  unfold wp_X9_define_33
  refine rt_right1 z1 (bf2 (by decide) ⟨n_in ht (by decide), ?_⟩)
  rw [n_cl (by omega)]
  rintro _ rfl
  refine ⟨n_in ht (by decide), ?_⟩
  rintro _ rfl
  rw [h1.2.1 t]
  refine yes t ht rfl ⟨h2, h3⟩ S1 _ ⟨h1.1, fun j => ?_, h1.2.2.1, ?_⟩ z1
  · by_cases e : j = t
    · subst e; rw [ml_same, pk_uLs]
    · rw [ml_ne _ _ _ _ _ e, pk_uLn e]; exact h1.2.1 j
  · obtain ⟨m1, m2, m3, m4, m5, m6⟩ := h1.2.2.2
    refine ⟨m1, m2, m3, m4, fun g hg => ⟨?_, (m5 g hg).2⟩, m6⟩
    by_cases e : g = t
    · subst e; rw [pk_uLs]; exact okL_lo ⟨h2, h3⟩
    · rw [pk_uLn e]; exact (m5 g hg).1
theorem nb_of {b : Nat} (h : b ≤ 1) : narrow .boolean (.int (nI b)) = .int (nI b) ∧ vp_nar .boolean (nI b) = nI b := by
  have : b = 0 ∨ b = 1 := by omega
  rcases this with rfl | rfl
  · exact ⟨rfl, rfl⟩
  · exact ⟨rfl, rfl⟩
theorem k18_MI (h : MI M D) {t b : Nat} (hb : b ≤ 1) : MI (ad2 M 18 t b) D := by
  obtain ⟨m1, m2, m3, m4, m5, m6⟩ := h
  have e : ∀ a, a ≠ 18 → ad2 M 18 t b a = M a := fun a ha => ad2_f ha
  refine ⟨miW_c (e 1 (by decide)) (e 2 (by decide)) m1, miE_c (e 3 (by decide)) (e 6 (by decide)) (e 7 (by decide)) m2, miT_c (e 4 (by decide)) (e 8 (by decide)) (e 9 (by decide)) (e 10 (by decide)) (e 11 (by decide)) (e 12 (by decide)) (e 13 (by decide)) m3, miN_c (e 14 (by decide)) (e 15 (by decide)) (e 16 (by decide)) m4, fun g hg => ⟨(m5 g hg).1, ?_⟩, miX_c (e 19 (by decide)) (e 20 (by decide)) m6⟩
  by_cases eg : g = t
  · subst eg; rw [ad2_s]; exact hb
  · rw [ad2_i eg]; exact (m5 g hg).2
theorem rt_know {Q : Int32 → mS → mG → Prop} (h : RI M D mn S G) (a : Int32) {b : Nat} (hb : b ≤ 1) (yes : ∀ t, t < 40 → a = nI t → ∀ S' : mS, RI (ad2 M 18 t b) D mn S' G → S' 0 0 = 0 → Q (nI (M 18 t)) S' G) (no : ¬ okN a 40 → ∀ S' : mS, RI M D mn S' G → S' 0 0 = 1 → Q 0 S' G) : wp_X9_know_0 Q S G a (nI b) := by
  unfold wp_X9_know_0
  rintro _ rfl
  have h1 := h.thr 0
  have z1 : mst S 0 0 0 0 0 = 0 := ms_same _ _ _ _
  generalize mst S 0 0 0 = S1 at h1 z1 ⊢
  refine x9_thing (fun ok => rt_right1 z1 (bf2 (by decide) ?_)) (fun ok => rt_right0 z1 (by decide) (bt2 rfl (no ok _ (h1.thr 1) (ms_same _ _ _ _))))
  obtain ⟨t, ht, rfl⟩ := okN_of ok (by decide)
  refine ⟨n_in ht (by decide), ?_⟩
  rw [n_cl (by omega)]
  rintro _ rfl
  refine ⟨n_in ht (by decide), ?_⟩
  rw [(nb_of hb).2]
  rintro _ rfl
  rw [h1.g 18 t]
  refine ⟨(nb_of (h1.2.2.2.2.2.2.2.1 t ht).2).1, yes t ht rfl _ (h1.put 18 t b (by decide) (k18_MI h1.2.2.2 hb)) ?_⟩
  rw [ms_out _ _ _ _ _ (by decide)]; exact z1
theorem k12_MI (h : MI M D) {t k : Nat} (hk : k ≤ 3) : MI (ad2 M 12 t k) D := by
  obtain ⟨m1, m2, m3, m4, m5, m6⟩ := h
  have e : ∀ a, a ≠ 12 → ad2 M 12 t k a = M a := fun a ha => ad2_f ha
  refine ⟨miW_c (e 1 (by decide)) (e 2 (by decide)) m1, miE_c (e 3 (by decide)) (e 6 (by decide)) (e 7 (by decide)) m2, ⟨by rw [e 4 (by decide)]; exact m3.1, fun u hu => ?_⟩, miN_c (e 14 (by decide)) (e 15 (by decide)) (e 16 (by decide)) m4, miD_c (e 18 (by decide)) m5, miX_c (e 19 (by decide)) (e 20 (by decide)) m6⟩
  rw [e 4 (by decide)] at hu
  obtain ⟨q1, q2, q3, q4, q5, q6, q7⟩ := m3.2 u hu
  unfold tOK
  rw [e 10 (by decide), e 9 (by decide), e 8 (by decide), e 11 (by decide), e 13 (by decide)]
  refine ⟨q1, q2, q3, q4, q5, ?_, q7⟩
  by_cases eu : u = t
  · subst eu; rw [ad2_s]; exact hk
  · rw [ad2_i eu]; exact q6
theorem rt_kind {Q : Int32 → mS → mG → Prop} (h : RI M D mn S G) (a b : Int32) (yes : ∀ t k, t < M 4 0 → k < 4 → a = nI t → b = nI k → ∀ S' : mS, RI (ad2 M 12 t k) D mn S' G → S' 0 0 = 0 → Q (nI (M 12 t)) S' G) (no1 : ¬ okN a (M 4 0) → ∀ S' : mS, RI M D mn S' G → S' 0 0 = 1 → Q 0 S' G) (no2 : okN a (M 4 0) → ¬ okN b 4 → ∀ S' : mS, RI M D mn S' G → S' 0 0 = 2 → Q 0 S' G) : wp_X9_kind_0 Q S G a b := by
  unfold wp_X9_kind_0
  refine rt_isTerm h a (fun ok S1 h1 z1 => bf1 (by decide) ?_) (fun ok S1 h1 z1 => bt1 rfl (no1 ok S1 h1 z1))
  have hb := h1.2.2.2.2.2.1.1
  have bad : ¬ okN b 4 → wp_X9_kind_22 Q S1 G a b := by
    intro hn
    unfold wp_X9_kind_22 wp_X9_kind_23
    exact rt_right0 z1 (by decide) (bt2 rfl (no2 ok hn _ (h1.thr 2) (ms_same _ _ _ _)))
  have e4 : (nI 4).toInt = 4 := rfl
  have e3 : (3 : Int32).toInt = 3 := rfl
  refine ⟨fun h9 => bad (fun o => o.1 h9), fun h9 => ⟨fun h8 => bad (fun o => ?_), fun h8 => ?_⟩⟩
  · rw [fa_lt] at h8
    have := o.2
    rw [fa_lt] at this
    omega
  · have o : okN b 4 := ⟨h9, by rw [fa_lt]; rw [fa_lt] at h8; omega⟩
    obtain ⟨t, ht, rfl⟩ := okN_of ok (by omega)
    obtain ⟨k, hk, rfl⟩ := okN_of o (by decide)
    unfold wp_X9_kind_23
    refine rt_right1 z1 (bf2 (by decide) ⟨n_in (by omega) (by decide), ?_⟩)
    rw [n_cl (by omega)]
    rintro _ rfl
    refine ⟨n_in (by omega) (by decide), ?_⟩
    rintro _ rfl
    rw [h1.g 12 t]
    refine yes t k ht hk rfl rfl _ (h1.put 12 t k (by decide) (k12_MI h1.2.2.2 (by omega))) ?_
    rw [ms_out _ _ _ _ _ (by decide)]; exact z1
def aAb (M : mN) (t k : Nat) : Nat := if k = 0 then M 11 t else if k = 1 then M 12 t else if k = 2 then M 13 t else if k = 3 then M 10 t else M 9 (3 * t) + M 9 (3 * t + 1) + M 9 (3 * t + 2)
theorem rt_about {Q : Int32 → mS → mG → Prop} (h : RI M D mn S G) (a b : Int32) (yes : ∀ t k, t < M 4 0 → k < 5 → a = nI t → b = nI k → ∀ S' : mS, RI M D mn S' G → S' 0 0 = 0 → Q (nI (aAb M t k)) S' G) (no : ¬ (okN a (M 4 0) ∧ okN b 5) → ∀ S' : mS, RI M D mn S' G → S' 0 0 = 1 → Q 0 S' G) : wp_X9_about_0 Q S G a b := by
  unfold wp_X9_about_0
  refine rt_isTerm h a (fun ok S1 h1 z1 => bf1 (by decide) ?_) (fun ok S1 h1 z1 => bt1 rfl (no (fun h9 => ok h9.1) S1 h1 z1))
  have hb := h1.2.2.2.2.2.1.1
  have bad : ¬ okN b 5 → wp_X9_about_22 Q S1 G a b := by
    intro hn
    unfold wp_X9_about_22 wp_X9_about_23
    exact rt_right0 z1 (by decide) (bt2 rfl (no (fun h9 => hn h9.2) _ (h1.thr 1) (ms_same _ _ _ _)))
  have e4 : (nI 5).toInt = 5 := rfl
  have e3 : (4 : Int32).toInt = 4 := rfl
  refine ⟨fun h9 => bad (fun o => o.1 h9), fun h9 => ⟨fun h8 => bad (fun o => ?_), fun h8 => ?_⟩⟩
  · rw [fa_lt] at h8
    have := o.2
    rw [fa_lt] at this
    omega
  · have o : okN b 5 := ⟨h9, by rw [fa_lt]; rw [fa_lt] at h8; omega⟩
    obtain ⟨t, ht, rfl⟩ := okN_of ok (by omega)
    obtain ⟨k, hk, rfl⟩ := okN_of o (by decide)
    have hy := yes t k ht hk rfl rfl S1 h1 z1
    have m0 : (3 : Int32) * nI t = nI (3 * t) := pk_mul 3 t
    unfold wp_X9_about_23
    refine rt_right1 z1 (bf2 (by decide) ?_)
    rw [m0, nI_1, show nI (3 * t) + (2 : Int32) = nI (3 * t + 2) from nI_add _ 2, n_cl (show t < _ by omega), n_cl (by omega), n_cl (by omega), n_cl (by omega), h1.g 11 t, h1.g 12 t, h1.g 13 t, h1.g 10 t, h1.g 9 (3 * t), h1.g 9 (3 * t + 1), h1.g 9 (3 * t + 2), nI_add, nI_add]
    have hk5 : k = 0 ∨ k = 1 ∨ k = 2 ∨ k = 3 ∨ k = 4 := by omega
    have v60 : vp_in (nI t) 60 := n_in (by omega) (by decide)
    refine ⟨fun e => ⟨v60, ?_⟩, fun e => ⟨v60, ?_⟩, fun e => ⟨v60, ?_⟩, fun e => ⟨v60, ?_⟩, fun q0 q1 q2 q3 => ⟨n_in (by omega) (by decide), n_in (by omega) (by decide), n_in (by omega) (by decide), ?_⟩⟩
    · have e := (i_eq k 0).mp e; subst e; exact hy
    · have e := (i_eq k 1).mp e; subst e; exact hy
    · have e := (i_eq k 2).mp e; subst e; exact hy
    · have e := (i_eq k 3).mp e; subst e; exact hy
    · have e : k = 4 := by
        rcases hk5 with e | e | e | e | e
        · exact absurd (by rw [e]; rfl) q0
        · exact absurd (by rw [e]; rfl) q1
        · exact absurd (by rw [e]; rfl) q2
        · exact absurd (by rw [e]; rfl) q3
        · exact e
      subst e; exact hy
end RS3
