/-! pure: fewest -/
/-- bit g of an int -/
def t3 (x : Int32) (g : Nat) : Bool := x.toBitVec.getLsbD g
theorem t3_ext {x y : Int32} (h : ∀ g, g < 32 → t3 x g = t3 y g) : x = y := by
  apply Int32.toBitVec_inj.1
  apply BitVec.eq_of_getLsbD_eq
  intro i hi
  exact h i hi
theorem t3_nI (v : Nat) {g : Nat} (h : g < 32) : t3 (nI v) g = v.testBit g := by
  unfold t3
  show (BitVec.ofNat 32 v).getLsbD g = _
  rw [BitVec.getLsbD_ofNat]; simp [h]
theorem t3_or (x y : Int32) (g : Nat) : t3 (x ||| y) g = (t3 x g || t3 y g) := by unfold t3; rw [Int32.toBitVec_or, BitVec.getLsbD_or]
theorem t3_and (x y : Int32) (g : Nat) : t3 (x &&& y) g = (t3 x g && t3 y g) := by unfold t3; rw [Int32.toBitVec_and, BitVec.getLsbD_and]
theorem t3_not {x : Int32} {g : Nat} (h : g < 32) : t3 (x ^^^ (-1)) g = !t3 x g := by
  unfold t3
  rw [Int32.toBitVec_xor, BitVec.getLsbD_xor, show (-1 : Int32).toBitVec = BitVec.allOnes 32 by decide, BitVec.getLsbD_allOnes]
  simp [h]
theorem t3_0 (g : Nat) : t3 0 g = false := by
  unfold t3; rw [show (0 : Int32).toBitVec = 0#32 from rfl]; simp
theorem t3_1 (g : Nat) : t3 1 g = decide (g = 0) := by
  unfold t3; rw [show (1 : Int32).toBitVec = 1#32 from rfl, BitVec.getLsbD_one]; simp
theorem t3_amt : ∀ k, k < 32 → (nI k &&& 31).toBitVec.smod 32 = BitVec.ofNat 32 k := by
  have h : ∀ k : Fin 32, (nI k.val &&& 31).toBitVec.smod 32 = BitVec.ofNat 32 k.val := by decide +kernel
  intro k hk
  exact h ⟨k, hk⟩
theorem t3_shr {x : Int32} {k : Nat} (hk : k < 32) : t3 (x >>> (nI k &&& 31)) 0 = t3 x k := by
  unfold t3
  rw [Int32.toBitVec_shiftRight, t3_amt k hk]
  have e : (BitVec.ofNat 32 k).toNat = k := by rw [BitVec.toNat_ofNat]; omega
  show (x.toBitVec.sshiftRight (BitVec.ofNat 32 k).toNat).getLsbD 0 = _
  rw [e, BitVec.getLsbD_sshiftRight]
  simp [hk]
theorem t3_c0 {x : Int32} {k : Nat} (hk : k < 32) : (x >>> (nI k &&& 31)) &&& 1 = 0 ↔ t3 x k = false := by
  constructor
  · intro h
    have := congrArg (fun y => t3 y 0) h
    simp only [t3_and, t3_shr hk, t3_1, t3_0] at this
    simpa using this
  · intro h
    apply t3_ext
    intro g hg
    rw [t3_and, t3_1, t3_0]
    by_cases e : g = 0
    · subst e; rw [t3_shr hk, h]; rfl
    · simp [e]
theorem sh32 : ∀ i, i < 31 → (1 : Int32) <<< (nI i &&& 31) = nI (2 ^ i) := by
  have h : ∀ k : Fin 31, (1 : Int32) <<< (nI k.val &&& 31) = nI (2 ^ k.val) := by decide +kernel
  intro k hk
  exact h ⟨k, hk⟩
theorem t3_sub {a b : Nat} (ha : a < 2 ^ 14) : nI a &&& (nI b ^^^ (-1)) = 0 ↔ ∀ k, k < 14 → a.testBit k = true → b.testBit k = true := by
  constructor
  · intro h k hk ht
    have := congrArg (fun y => t3 y k) h
    simp only [t3_and, t3_not (show k < 32 by omega), t3_0, t3_nI _ (show k < 32 by omega), ht] at this
    simpa using this
  · intro h
    apply t3_ext
    intro g hg
    rw [t3_and, t3_not hg, t3_0, t3_nI _ hg, t3_nI _ hg]
    by_cases hk : g < 14
    · by_cases ht : a.testBit g = true
      · rw [h g hk ht]; simp
      · simp [ht]
    · rw [Nat.testBit_lt_two_pow (Nat.lt_of_lt_of_le ha (Nat.pow_le_pow_right (by decide) (by omega)))]; rfl
section FW
variable {D : Nat → Int64}
/-- things that have definitions, or are in some, by those below k -/
def alI (D : Nat → Int64) : Nat → Int64
  | 0 => 0
  | k + 1 => if D k = 0 then alI D k else alI D k ||| (D k ||| ((1 : Int64) <<< ((nI k).toInt64 &&& 63)))
def AL (D : Nat → Int64) : Int64 := alI D 40
theorem alI_in : ∀ {k : Nat}, k ≤ 40 → ∀ {g : Nat}, (tb (alI D k) g = true ↔ ∃ h, h < k ∧ D h ≠ 0 ∧ (tb (D h) g = true ∨ g = h))
  | 0, _, g => by
    rw [alI, tb_0]
    exact ⟨fun h => absurd h (by decide), fun ⟨h, h1, _⟩ => absurd h1 (Nat.not_lt_zero h)⟩
  | k + 1, hk, g => by
    have ih := alI_in (k := k) (by omega) (g := g)
    rw [alI]
    by_cases h0 : D k = 0
    · rw [if_pos h0, ih]
      constructor
      · rintro ⟨h, h1, h2⟩; exact ⟨h, by omega, h2⟩
      · rintro ⟨h, h1, h2⟩
        by_cases e : h = k
        · subst e; exact absurd h0 h2.1
        · exact ⟨h, by omega, h2⟩
    · rw [if_neg h0, tb_or, tb_or, tb_sh (by omega), Bool.or_eq_true, Bool.or_eq_true, decide_eq_true_eq, ih]
      constructor
      · rintro (⟨h, h1, h2⟩ | h2)
        · exact ⟨h, by omega, h2⟩
        · exact ⟨k, Nat.lt_succ_self k, h0, h2⟩
      · rintro ⟨h, h1, h2, h3⟩
        by_cases e : h = k
        · subst e; exact Or.inr h3
        · exact Or.inl ⟨h, by omega, h2, h3⟩
theorem al_lo (hD : ∀ g, g < 40 → lo40 (D g)) : lo40 (AL D) := by
  intro g hg
  apply Bool.eq_false_iff.mpr
  intro h
  obtain ⟨h, h1, h2, h3⟩ := (alI_in (Nat.le_refl 40)).mp h
  rcases h3 with h3 | h3
  · rw [hD h h1 g hg] at h3; exact absurd h3 (by decide)
  · omega
theorem al_sub {h g : Nat} (hh : h < 40) (ht : tb (D h) g = true) : tb (AL D) g = true := by
  by_cases hg : g < 64
  · exact (alI_in (Nat.le_refl 40)).mpr ⟨h, hh, tb_nz.mpr ⟨g, hg, ht⟩, Or.inl ht⟩
  · rw [tb_big (by omega)] at ht; exact absurd ht (by decide)
def idx (D : Nat → Int64) (g : Nat) : Nat := fb_ct (tb (AL D)) g
def cntA (D : Nat → Int64) : Nat := fb_ct (tb (AL D)) 40
def mb (D : Nat → Int64) (k : Nat) : Nat := fa_first (fun g => tb (AL D) g && idx D g == k) 40
theorem mb_ok {k : Nat} (hk : k < cntA D) : mb D k < 40 ∧ tb (AL D) (mb D k) = true ∧ idx D (mb D k) = k := by
  obtain ⟨i, h1, h2, h3⟩ := fb_ct_kth hk
  have hlt : mb D k < 40 := by
    apply Nat.lt_of_le_of_lt (m := i) _ h1
    apply Nat.le_of_not_lt
    intro h9
    have := fa_first_no _ 40 i h9
    simp only [h2, idx, h3, beq_self_eq_true, Bool.and_self] at this
    exact absurd this (by decide)
  have hy := fa_first_yes (fun g => tb (AL D) g && idx D g == k) 40 hlt
  simp only [Bool.and_eq_true, beq_iff_eq] at hy
  exact ⟨hlt, hy.1, hy.2⟩
theorem idx_lt {g : Nat} (hg : g < 40) (ht : tb (AL D) g = true) : idx D g < cntA D := by
  have h1 : fb_ct (tb (AL D)) (g + 1) = fb_ct (tb (AL D)) g + 1 := by rw [fb_ct_succ, if_pos ht]
  have h2 := fb_ct_mono (tb (AL D)) (m := g + 1) (n := 40) (by omega)
  unfold idx cntA
  omega
theorem mb_idx {g : Nat} (hg : g < 40) (ht : tb (AL D) g = true) : mb D (idx D g) = g := by
  obtain ⟨h1, h2, h3⟩ := mb_ok (idx_lt hg ht)
  exact fb_ct_kth_one h2 ht h3
theorem mb_inj {j k : Nat} (hj : j < cntA D) (hk : k < cntA D) (e : mb D j = mb D k) : j = k := by
  rw [← (mb_ok hj).2.2, ← (mb_ok hk).2.2, e]
/-- the things of a set of places -/
def im (D : Nat → Int64) (v g : Nat) : Bool := tb (AL D) g && v.testBit (idx D g)
theorem im_mb {v k : Nat} (hk : k < cntA D) : im D v (mb D k) = v.testBit k := by
  obtain ⟨h1, h2, h3⟩ := mb_ok hk
  rw [im, h2, h3, Bool.true_and]
/-- one pass -/
def cnd (D : Nat → Int64) (j : Nat) (e : Nat → Bool) : Bool := tb (AL D) j && decide (D j ≠ 0) && (List.range 64).all (fun h => !tb (D j) h || e h)
theorem cnd_iff {j : Nat} {e : Nat → Bool} : cnd D j e = true ↔ tb (AL D) j = true ∧ D j ≠ 0 ∧ ∀ h, h < 64 → tb (D j) h = true → e h = true := by
  unfold cnd
  rw [Bool.and_eq_true, Bool.and_eq_true, decide_eq_true_eq, List.all_eq_true]
  constructor
  · rintro ⟨⟨h1, h2⟩, h3⟩
    refine ⟨h1, h2, fun h hh ht => ?_⟩
    have := h3 h (List.mem_range.mpr hh)
    simpa [ht] using this
  · rintro ⟨h1, h2, h3⟩
    refine ⟨⟨h1, h2⟩, fun h hh => ?_⟩
    by_cases ht : tb (D j) h = true
    · simp [h3 h (List.mem_range.mp hh) ht]
    · simp [ht]
def ps (D : Nat → Int64) (e : Nat → Bool) : Nat → Nat → Bool
  | 0 => e
  | j + 1 => fun g => ps D e j g || (g == j && cnd D j (ps D e j))
theorem ps_mono {e : Nat → Bool} {g : Nat} (h : e g = true) : ∀ j, ps D e j g = true
  | 0 => h
  | j + 1 => by show (ps D e j g || _) = true; rw [ps_mono h j, Bool.true_or]
theorem ps_in {e : Nat → Bool} {g : Nat} (he : e g = true → tb (AL D) g = true) : ∀ j, ps D e j g = true → tb (AL D) g = true
  | 0, h => he h
  | j + 1, h => by
    have h : (ps D e j g || (g == j && cnd D j (ps D e j))) = true := h
    rw [Bool.or_eq_true, Bool.and_eq_true, beq_iff_eq] at h
    rcases h with h | ⟨rfl, h⟩
    · exact ps_in he j h
    · exact (cnd_iff.mp h).1
theorem ps_no {e : Nat → Bool} {j : Nat} (h : cnd D j (ps D e j) = false ∨ ps D e j j = true) : ps D e (j + 1) = ps D e j := by
  funext g
  show (ps D e j g || (g == j && cnd D j (ps D e j))) = _
  rcases h with h | h
  · rw [h, Bool.and_false, Bool.or_false]
  · by_cases e2 : g = j
    · subst e2; rw [h, Bool.true_or]
    · rw [show (g == j) = false from by simpa using e2, Bool.false_and, Bool.or_false]
theorem ps_skip {e : Nat → Bool} {a : Nat} : ∀ {n : Nat}, (∀ j, a ≤ j → j < a + n → tb (AL D) j = false) → ps D e (a + n) = ps D e a
  | 0, _ => rfl
  | n + 1, h => by
    have ih := ps_skip (e := e) (n := n) (fun j h1 h2 => h j h1 (by omega))
    show ps D e (a + n + 1) = _
    rw [ps_no (Or.inl ?_), ih]
    apply Bool.eq_false_iff.mpr
    intro h9
    have := (cnd_iff.mp h9).1
    rw [h (a + n) (by omega) (by omega)] at this
    exact absurd this (by decide)
/-- passes -/
def itp (D : Nat → Int64) (e : Nat → Bool) : Nat → Nat → Bool
  | 0 => e
  | m + 1 => ps D (itp D e m) 40
theorem itp_in {e : Nat → Bool} (he : ∀ g, e g = true → tb (AL D) g = true) : ∀ m g, itp D e m g = true → tb (AL D) g = true
  | 0, g, h => he g h
  | m + 1, g, h => ps_in (itp_in he m g) 40 h
theorem itp_fix {e : Nat → Bool} {m : Nat} (h : itp D e (m + 1) = itp D e m) : ∀ n, itp D e (m + n) = itp D e m
  | 0 => rfl
  | n + 1 => by
    show ps D (itp D e (m + n)) 40 = _
    rw [itp_fix h n]
    exact h
theorem itp_40 {e : Nat → Bool} {m : Nat} (hm : m ≤ 40) (h : itp D e (m + 1) = itp D e m) : itp D e 40 = itp D e m := by
  have := itp_fix h (40 - m)
  rwa [show m + (40 - m) = 40 by omega] at this
/-- a pass that changes something adds one at least -/
theorem ct_lt {p q : Nat → Bool} {n g : Nat} (hs : ∀ k, p k = true → q k = true) (hg : g < n) (hp : p g = false) (hq : q g = true) : fb_ct p n < fb_ct q n := by
  have h1 := fb_ct_upd p true hg
  rw [hp] at h1
  have h2 : fb_ct (fun k => if k = g then true else p k) n ≤ fb_ct q n := fb_ct_sub (fun k _ hk => by
    by_cases e : k = g
    · rw [e]; exact hq
    · rw [if_neg e] at hk; exact hs k hk)
  simp only [Bool.false_eq_true, if_false, if_true] at h1
  omega
theorem itp_cnt (hD : ∀ g, g < 40 → lo40 (D g)) {e : Nat → Bool} (he : ∀ g, e g = true → tb (AL D) g = true) {m : Nat} (h : ∀ k, k < m → itp D e (k + 1) ≠ itp D e k) : m ≤ fb_ct (itp D e m) 40 := by
  induction m with
  | zero => exact Nat.zero_le _
  | succ m ih =>
    have i1 := ih (fun k hk => h k (by omega))
    have hne := h m (Nat.lt_succ_self m)
    have : ∃ g, itp D e (m + 1) g ≠ itp D e m g := by
      apply Classical.byContradiction
      intro h9
      exact hne (funext fun g => Classical.byContradiction fun h8 => h9 ⟨g, h8⟩)
    obtain ⟨g, hg⟩ := this
    have hm : ∀ k, itp D e m k = true → itp D e (m + 1) k = true := fun k hk => ps_mono hk 40
    have g1 : itp D e m g = false := by
      apply Bool.eq_false_iff.mpr
      intro h9
      exact hg (by rw [h9, hm g h9])
    have g2 : itp D e (m + 1) g = true := by
      apply Classical.byContradiction
      intro h9
      exact hg (by rw [g1]; simpa using h9)
    have g40 : g < 40 := by
      apply Classical.byContradiction
      intro h9
      have := itp_in he (m + 1) g g2
      rw [al_lo hD g (by omega)] at this
      exact absurd this (by decide)
    have := ct_lt hm g40 g1 g2
    omega
/-- a set of places explains all -/
def exB (D : Nat → Int64) (v : Nat) : Bool := (List.range 64).all (fun g => !tb (AL D) g || itp D (im D v) 40 g)
theorem exB_iff {v : Nat} : exB D v = true ↔ ∀ g, g < 64 → tb (AL D) g = true → itp D (im D v) 40 g = true := by
  unfold exB
  rw [List.all_eq_true]
  constructor
  · intro h g hg ht
    have := h g (List.mem_range.mpr hg)
    simpa [ht] using this
  · intro h g hg
    by_cases ht : tb (AL D) g = true
    · simp [h g (List.mem_range.mp hg) ht]
    · simp [ht]
def c14 (v : Nat) : Nat := fb_ct (fun k => v.testBit k) 14
/-- the best set of those below v -/
def bvN (D : Nat → Int64) : Nat → Nat
  | 0 => 2 ^ cntA D - 1
  | v + 1 => if c14 v < c14 (bvN D v) ∧ exB D v = true then v else bvN D v
/-- its things, by places below k -/
def stI (D : Nat → Int64) (v : Nat) : Nat → Int64
  | 0 => 0
  | k + 1 => if v.testBit k then stI D v k ||| ((1 : Int64) <<< ((nI (mb D k)).toInt64 &&& 63)) else stI D v k
theorem stI_tb {v : Nat} : ∀ {k : Nat}, k ≤ cntA D → ∀ {g : Nat}, g < 40 → tb (stI D v k) g = (tb (AL D) g && decide (idx D g < k) && v.testBit (idx D g))
  | 0, _, g, _ => by rw [stI, tb_0]; simp
  | k + 1, hk, g, hg => by
    have ih := stI_tb (v := v) (k := k) (by omega) hg
    obtain ⟨m1, m2, m3⟩ := mb_ok (D := D) (k := k) (by omega)
    rw [stI]
    by_cases hv : v.testBit k = true
    · rw [if_pos hv, tb_set (by omega), ih]
      by_cases e : g = mb D k
      · rw [e, m2, m3, hv]; simp
      · by_cases ht : tb (AL D) g = true
        · have hne : idx D g ≠ k := fun e2 => e (by rw [← e2, mb_idx hg ht])
          by_cases h1 : idx D g < k
          · simp [e, ht, h1, show idx D g < k + 1 by omega]
          · simp [e, ht, h1, show ¬ idx D g < k + 1 by omega]
        · simp [e, ht]
    · rw [if_neg hv, ih]
      by_cases ht : tb (AL D) g = true
      · by_cases e2 : idx D g = k
        · rw [e2]; simp [hv]
        · by_cases h1 : idx D g < k
          · simp [ht, h1, show idx D g < k + 1 by omega]
          · simp [ht, h1, show ¬ idx D g < k + 1 by omega]
      · simp [ht]
theorem stI_lo {v : Nat} : ∀ {k : Nat}, k ≤ cntA D → ∀ {g : Nat}, 40 ≤ g → tb (stI D v k) g = false
  | 0, _, g, _ => by rw [stI, tb_0]
  | k + 1, hk, g, hg => by
    have ih := stI_lo (v := v) (k := k) (by omega) hg
    obtain ⟨m1, m2, m3⟩ := mb_ok (D := D) (k := k) (by omega)
    rw [stI]
    by_cases hv : v.testBit k = true
    · rw [if_pos hv, tb_set (by omega), ih]; simp; omega
    · rw [if_neg hv, ih]
theorem stI_im (hD : ∀ g, g < 40 → lo40 (D g)) {v : Nat} : tb (stI D v (cntA D)) = im D v := by
  funext g
  by_cases hg : g < 40
  · rw [stI_tb (Nat.le_refl _) hg, im]
    by_cases ht : tb (AL D) g = true
    · simp [idx_lt hg ht]
    · simp [ht]
  · rw [stI_lo (Nat.le_refl _) (by omega), im, al_lo hD g (by omega), Bool.false_and]
theorem stI_all (hD : ∀ g, g < 40 → lo40 (D g)) : stI D (2 ^ cntA D - 1) (cntA D) = AL D := by
  apply tb_ext
  intro g _
  rw [stI_im hD, im]
  by_cases ht : tb (AL D) g = true
  · have hg : g < 40 := by
      apply Classical.byContradiction
      intro h9
      rw [al_lo hD g (by omega)] at ht
      exact absurd ht (by decide)
    rw [ht, Nat.testBit_two_pow_sub_one]
    simp [idx_lt hg ht]
  · simp [ht]
theorem bvN_lt : ∀ v, v ≤ 2 ^ cntA D → bvN D v < 2 ^ cntA D
  | 0, _ => by rw [bvN]; have := Nat.two_pow_pos (cntA D); omega
  | v + 1, h => by
    rw [bvN]
    split
    · omega
    · exact bvN_lt v (by omega)
end FW
