/-! pure: branches, numbers, bits of longs -/
theorem bq {c p A B : Prop} (e : c ↔ p) (t : p → A) (u : ¬ p → B) : (c → A) ∧ (¬ c → B) := ⟨fun h => t (e.mp h), fun h => u (fun hp => h (e.mpr hp))⟩
theorem bn {c p A B : Prop} (e : c ↔ p) (t : p → A) (u : ¬ p → B) : (¬ c → B) ∧ (c → A) := ⟨fun h => u (fun hp => h (e.mpr hp)), fun h => t (e.mp h)⟩
theorem bt1 {c A B : Prop} (h : c) (a : A) : (c → A) ∧ (¬ c → B) := ⟨fun _ => a, fun n => absurd h n⟩
theorem bf1 {c A B : Prop} (h : ¬ c) (b : B) : (c → A) ∧ (¬ c → B) := ⟨fun n => absurd n h, fun _ => b⟩
theorem bt2 {c A B : Prop} (h : c) (a : A) : (¬ c → B) ∧ (c → A) := ⟨fun n => absurd h n, fun _ => a⟩
theorem bf2 {c A B : Prop} (h : ¬ c) (b : B) : (¬ c → B) ∧ (c → A) := ⟨fun _ => b, fun n => absurd n h⟩
theorem nm1 : (-1 : Int32).toInt = -1 := by decide
theorem n_lt0 {a : Nat} (h : a < 2147483648) : ¬ nI a < 0 := nI_pos h
theorem n_m1 {a : Nat} (h : a < 2147483648) : ¬ nI a = (-1 : Int32) := by
  intro e
  have e2 := congrArg Int32.toInt e
  rw [nI_toInt h, nm1] at e2
  omega
theorem n_m2 {a : Nat} (h : a < 2147483648) : ¬ nI a = (-2 : Int32) := by
  intro e
  have e2 := congrArg Int32.toInt e
  rw [nI_toInt h, show (-2 : Int32).toInt = -2 by decide] at e2
  omega
theorem n_le_m1 {a : Nat} (h : a < 2147483648) : ¬ nI a ≤ (-1 : Int32) := by
  rw [fa_le, nI_toInt h, nm1]; omega
theorem n_m1_lt {a : Nat} (h : a < 2147483648) : (-1 : Int32) < nI a := by
  rw [fa_lt, nI_toInt h, nm1]; omega
theorem n_of {x : Int32} (h : ¬ x < 0) : ∃ j : Nat, j < 2147483648 ∧ x = nI j := nI_of h
theorem n_sub {a b : Nat} (h : b ≤ a) : nI a - nI b = nI (a - b) := pk_sub h
theorem n_sub1 {a : Nat} (h : 0 < a) : nI a - 1 = nI (a - 1) := pk_sub (b := 1) h
theorem n_lt {a b : Nat} (ha : a < 2147483648) (hb : b < 2147483648) : nI a < nI b ↔ a < b := nI_ltI ha hb
theorem n_le {a b : Nat} (ha : a < 2147483648) (hb : b < 2147483648) : nI a ≤ nI b ↔ a ≤ b := nI_leI ha hb
theorem n_eq {a b : Nat} (ha : a < 2147483648) (hb : b < 2147483648) : nI a = nI b ↔ a = b := nI_eq ha hb
theorem n_in {a n : Nat} (h : a < n) (hn : n < 2147483648) : vp_in (nI a) n := vp_in_nI h hn
theorem n_cl {a : Nat} (h : a < 2147483648) : (nI a).toNatClampNeg = a := nI_clamp h
theorem n_bool {p : Prop} [Decidable p] : narrow .boolean (.int (bI p)) = .int (bI p) := by unfold bI; by_cases h : p <;> simp only [h, if_true, if_false] <;> rfl
theorem bI_z {p : Prop} [Decidable p] : bI p = 0 ↔ ¬ p := bI_0
theorem bI_t {p : Prop} [Decidable p] (h : p) : bI p = 1 := if_pos h
theorem bI_f {p : Prop} [Decidable p] (h : ¬ p) : bI p = 0 := if_neg h
theorem bI_cong {p q : Prop} [Decidable p] [Decidable q] (h : p ↔ q) : bI p = bI q := by unfold bI; by_cases hp : p <;> simp [hp, h.symm]
/-- bit g of a long -/
def tb (x : Int64) (g : Nat) : Bool := x.toBitVec.getLsbD g
theorem tb_ext {x y : Int64} (h : ∀ g, g < 64 → tb x g = tb y g) : x = y := by
  apply Int64.toBitVec_inj.1
  apply BitVec.eq_of_getLsbD_eq
  intro i hi
  exact h i hi
theorem tb_big {x : Int64} {g : Nat} (h : 64 ≤ g) : tb x g = false := BitVec.getLsbD_of_ge _ _ h
theorem tb_or (x y : Int64) (g : Nat) : tb (x ||| y) g = (tb x g || tb y g) := by unfold tb; rw [Int64.toBitVec_or, BitVec.getLsbD_or]
theorem tb_and (x y : Int64) (g : Nat) : tb (x &&& y) g = (tb x g && tb y g) := by unfold tb; rw [Int64.toBitVec_and, BitVec.getLsbD_and]
theorem tb_not {x : Int64} {g : Nat} (h : g < 64) : tb (x ^^^ (-1)) g = !tb x g := by
  unfold tb
  rw [Int64.toBitVec_xor, BitVec.getLsbD_xor, show (-1 : Int64).toBitVec = BitVec.allOnes 64 by decide, BitVec.getLsbD_allOnes]
  simp [h]
theorem tb_0 (g : Nat) : tb 0 g = false := by
  unfold tb; rw [show (0 : Int64).toBitVec = 0#64 from rfl]; simp
theorem tb_m1 {g : Nat} (h : g < 64) : tb (-1) g = true := by
  unfold tb; rw [show (-1 : Int64).toBitVec = BitVec.allOnes 64 by decide, BitVec.getLsbD_allOnes]; simp [h]
theorem tb_amt : ∀ k, k < 64 → ((nI k).toInt64 &&& 63).toBitVec.smod 64 = BitVec.ofNat 64 k := by
  have h : ∀ k : Fin 64, ((nI k.val).toInt64 &&& 63).toBitVec.smod 64 = BitVec.ofNat 64 k.val := by decide +kernel
  intro k hk
  exact h ⟨k, hk⟩
theorem tb_sh {k : Nat} (hk : k < 64) (g : Nat) : tb ((1 : Int64) <<< ((nI k).toInt64 &&& 63)) g = decide (g = k) := by
  unfold tb
  rw [Int64.toBitVec_shiftLeft, tb_amt k hk]
  have e : (BitVec.ofNat 64 k).toNat = k := by rw [BitVec.toNat_ofNat]; omega
  rw [BitVec.shiftLeft_eq', e, BitVec.getLsbD_shiftLeft, show (1 : Int64).toBitVec = 1#64 from rfl]
  by_cases h : g = k
  · subst h; simp [hk]
  · by_cases h1 : g < k
    · simp [h, h1]
    · have h2 : g - k ≠ 0 := by omega
      have h3 : (1#64).getLsbD (g - k) = false := by rw [BitVec.getLsbD_one]; simp [h2]
      simp [h, h3]
theorem tb_shr {x : Int64} {k : Nat} (hk : k < 64) : tb (x >>> ((nI k).toInt64 &&& 63)) 0 = tb x k := by
  unfold tb
  rw [Int64.toBitVec_shiftRight, tb_amt k hk]
  have e : (BitVec.ofNat 64 k).toNat = k := by rw [BitVec.toNat_ofNat]; omega
  show (x.toBitVec.sshiftRight (BitVec.ofNat 64 k).toNat).getLsbD 0 = _
  rw [e, BitVec.getLsbD_sshiftRight]
  simp [hk]
theorem tb_1 (g : Nat) : tb 1 g = decide (g = 0) := by
  unfold tb; rw [show (1 : Int64).toBitVec = 1#64 from rfl, BitVec.getLsbD_one]; simp
/-- one bit taken out by a shift -/
theorem tb_bit {x : Int64} {k : Nat} (hk : k < 64) : (x >>> ((nI k).toInt64 &&& 63)) &&& 1 = if tb x k then 1 else 0 := by
  apply tb_ext
  intro g hg
  rw [tb_and, tb_1]
  by_cases h : g = 0
  · subst h
    rw [tb_shr hk]
    by_cases hx : tb x k = true
    · simp [hx, tb_1]
    · simp [hx, tb_0]
  · by_cases hx : tb x k = true
    · simp [hx, tb_1, h]
    · simp [hx, tb_0, h]
theorem lc_0 {x y : Int64} : lg_cmp x y = 0 ↔ x = y := by
  unfold lg_cmp
  by_cases h : x > y
  · rw [if_pos h]
    exact ⟨fun e => absurd e (by decide), fun e => by subst e; rw [gt_iff_lt, fa_lt64] at h; omega⟩
  · rw [if_neg h]
    by_cases h2 : x = y
    · rw [if_pos h2]; exact ⟨fun _ => h2, fun _ => rfl⟩
    · rw [if_neg h2]; exact ⟨fun e => absurd e (by decide), fun e => absurd e h2⟩
theorem lc_n {x y : Int64} : lg_cmp x y < 0 ↔ x < y := by
  unfold lg_cmp
  by_cases h : x > y
  · rw [if_pos h]
    refine ⟨fun e => absurd e (by decide), fun e => ?_⟩
    rw [gt_iff_lt, fa_lt64] at h; rw [fa_lt64] at e; omega
  · rw [if_neg h]
    by_cases h2 : x = y
    · rw [if_pos h2]
      refine ⟨fun e => absurd e (by decide), fun e => ?_⟩
      subst h2; rw [fa_lt64] at e; omega
    · rw [if_neg h2]
      refine ⟨fun _ => ?_, fun _ => by decide⟩
      rw [gt_iff_lt, fa_lt64] at h
      rw [fa_eq64] at h2
      rw [fa_lt64]; omega
theorem tb_c0 {x : Int64} {k : Nat} (hk : k < 64) : lg_cmp ((x >>> ((nI k).toInt64 &&& 63)) &&& 1) 0 = 0 ↔ tb x k = false := by
  rw [lc_0, tb_bit hk]
  by_cases h : tb x k = true
  · simp [h]
  · simp [h]
theorem tb_c1 {x : Int64} {k : Nat} (hk : k < 64) : lg_cmp ((x >>> ((nI k).toInt64 &&& 63)) &&& 1) 1 = 0 ↔ tb x k = true := by
  rw [lc_0, tb_bit hk]
  by_cases h : tb x k = true
  · simp [h]
  · simp [h]
theorem tb_i32 {x : Int64} {k : Nat} (hk : k < 64) : Int64.toInt32 ((x >>> ((nI k).toInt64 &&& 63)) &&& 1) = nI (if tb x k then 1 else 0) := by
  rw [tb_bit hk]
  by_cases h : tb x k = true
  · simp only [h, if_true]; rfl
  · simp only [h, if_false]; rfl
theorem tb_set {x : Int64} {k : Nat} (hk : k < 64) (g : Nat) : tb (x ||| ((1 : Int64) <<< ((nI k).toInt64 &&& 63))) g = (tb x g || decide (g = k)) := by rw [tb_or, tb_sh hk]
theorem tb_clr {x : Int64} {k : Nat} (hk : k < 64) {g : Nat} (hg : g < 64) : tb (x &&& (((1 : Int64) <<< ((nI k).toInt64 &&& 63)) ^^^ (-1))) g = (tb x g && !decide (g = k)) := by rw [tb_and, tb_not hg, tb_sh hk]
theorem tb_nz {x : Int64} : x ≠ 0 ↔ ∃ g, g < 64 ∧ tb x g = true := by
  constructor
  · intro h
    apply Classical.byContradiction
    intro hn
    apply h
    apply tb_ext
    intro g hg
    rw [tb_0]
    by_cases hx : tb x g = true
    · exact absurd ⟨g, hg, hx⟩ hn
    · simpa using hx
  · rintro ⟨g, _, hg⟩ e
    subst e
    rw [tb_0] at hg
    exact absurd hg (by decide)
theorem tb_meet {x y : Int64} : x &&& y ≠ 0 ↔ ∃ g, g < 64 ∧ tb x g = true ∧ tb y g = true := by
  rw [tb_nz]
  constructor
  · rintro ⟨g, h1, h2⟩
    rw [tb_and, Bool.and_eq_true] at h2
    exact ⟨g, h1, h2⟩
  · rintro ⟨g, h1, h2⟩
    exact ⟨g, h1, by rw [tb_and, Bool.and_eq_true]; exact h2⟩
/-- bits from 40 on are clear -/
def lo40 (x : Int64) : Prop := ∀ g, 40 ≤ g → tb x g = false
theorem i_lt {x y : Int32} (a b : Nat) (hx : x = nI a := by rfl) (hy : y = nI b := by rfl) (ha : a < 2147483648 := by omega) (hb : b < 2147483648 := by omega) : x < y ↔ a < b := by rw [hx, hy]; exact n_lt ha hb
theorem i_le {x y : Int32} (a b : Nat) (hx : x = nI a := by rfl) (hy : y = nI b := by rfl) (ha : a < 2147483648 := by omega) (hb : b < 2147483648 := by omega) : x ≤ y ↔ a ≤ b := by rw [hx, hy]; exact n_le ha hb
theorem i_eq {x y : Int32} (a b : Nat) (hx : x = nI a := by rfl) (hy : y = nI b := by rfl) (ha : a < 2147483648 := by omega) (hb : b < 2147483648 := by omega) : x = y ↔ a = b := by rw [hx, hy]; exact n_eq ha hb
theorem i_neg {x : Int32} (a : Nat) (hx : x = nI a := by rfl) (ha : a < 2147483648 := by omega) : ¬ x < 0 := by rw [hx]; exact n_lt0 ha
