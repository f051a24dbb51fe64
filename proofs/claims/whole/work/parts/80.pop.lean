/-! pure: how many bits (wb_ rows: from the kit's laws) -/
theorem wb_tb (n : Nat) : (lN n).toBitVec = BitVec.ofNat 64 n := rfl
theorem wb_inj {a b : Int64} (h : a.toBitVec = b.toBitVec) : a = b := Int64.toBitVec_inj.mp h
theorem wb_tn {n : Nat} (h : n < 2 ^ 64) : (lN n).toBitVec.toNat = n := by rw [wb_tb, BitVec.toNat_ofNat, Nat.mod_eq_of_lt h]
theorem wb_of (x : Int64) : ∃ n, n < 2 ^ 64 ∧ x = lN n := ⟨x.toBitVec.toNat, x.toBitVec.isLt, wb_inj (by rw [wb_tb]; simp)⟩
theorem wb_cu : ∀ k, k < 64 → ((nI k).toInt64.toUInt64 &&& Int64.toUInt64 63) = UInt64.ofNat k := by decide +kernel
theorem wb_shr {n k : Nat} (hn : n < 2 ^ 64) (hk : k < 64) : ((lN n).toUInt64 >>> ((nI k).toInt64.toUInt64 &&& Int64.toUInt64 63)).toInt64 = lN (n / 2 ^ k) := by
  rw [wb_cu k hk]
  apply wb_inj
  apply BitVec.eq_of_toNat_eq
  show ((lN n).toUInt64 >>> UInt64.ofNat k).toNat = (BitVec.ofNat 64 _).toNat
  have h1 : (UInt64.ofNat k).toNat = k := by
    show (BitVec.ofNat 64 k).toNat = k
    rw [BitVec.toNat_ofNat, Nat.mod_eq_of_lt (by omega)]
  have h2 : (lN n).toUInt64.toNat = n := wb_tn hn
  rw [UInt64.toNat_shiftRight, h1, h2, Nat.mod_eq_of_lt hk, Nat.shiftRight_eq_div_pow, BitVec.toNat_ofNat, Nat.mod_eq_of_lt (Nat.lt_of_le_of_lt (Nat.div_le_self _ _) hn)]
theorem wb_and {a b : Nat} (ha : a < 2 ^ 64) (hb : b < 2 ^ 64) : lN a &&& lN b = lN (a &&& b) := by
  apply wb_inj
  rw [Int64.toBitVec_and, wb_tb, wb_tb, wb_tb]
  apply BitVec.eq_of_toNat_eq
  rw [BitVec.toNat_and, BitVec.toNat_ofNat, BitVec.toNat_ofNat, BitVec.toNat_ofNat, Nat.mod_eq_of_lt ha, Nat.mod_eq_of_lt hb, Nat.mod_eq_of_lt (Nat.and_lt_two_pow _ hb)]
/-- a number by its digits of b bits, the lowest first -/
def ds (b : Nat) : Nat → (Nat → Nat) → Nat
  | 0, _ => 0
  | n + 1, f => f 0 + 2 ^ b * ds b n (fun k => f (k + 1))
theorem ds_cong {b : Nat} : ∀ {n : Nat} {f g : Nat → Nat}, (∀ k, k < n → f k = g k) → ds b n f = ds b n g
  | 0, _, _, _ => rfl
  | n + 1, f, g, h => by rw [ds, ds, h 0 (by omega), ds_cong (fun k hk => h (k + 1) (by omega))]
theorem ds_add {b : Nat} : ∀ (n : Nat) (f g : Nat → Nat), ds b n (fun k => f k + g k) = ds b n f + ds b n g
  | 0, _, _ => rfl
  | n + 1, f, g => by rw [ds, ds, ds, ds_add n, Nat.mul_add]; omega
theorem ds_zero {b : Nat} : ∀ (n : Nat) {f : Nat → Nat}, (∀ k, f k = 0) → ds b n f = 0
  | 0, _, _ => rfl
  | n + 1, f, h => by rw [ds, h 0, ds_zero n (fun k => h (k + 1))]; rfl
theorem ds_lt {b : Nat} : ∀ (n : Nat) {f : Nat → Nat}, (∀ k, f k < 2 ^ b) → ds b n f < 2 ^ (b * n)
  | 0, f, _ => by rw [ds]; exact Nat.two_pow_pos _
  | n + 1, f, h => by
    have ih := ds_lt n (fun k => h (k + 1))
    rw [ds, Nat.mul_succ, Nat.add_comm (b * n) b, Nat.pow_add]
    have h0 := h 0
    have := Nat.mul_le_mul_left (2 ^ b) (Nat.succ_le_of_lt ih)
    rw [Nat.mul_succ] at this
    omega
/-- digits two by two -/
theorem ds_pair {b : Nat} : ∀ (n : Nat) (f : Nat → Nat), ds b (2 * n) f = ds (2 * b) n (fun k => f (2 * k) + 2 ^ b * f (2 * k + 1))
  | 0, _ => rfl
  | n + 1, f => by
    show ds b (2 * n + 1 + 1) f = _
    rw [ds, ds, ds, ds_pair n]
    have e : (2 : Nat) ^ (2 * b) = 2 ^ b * 2 ^ b := by rw [← Nat.pow_add]; congr 1; omega
    rw [e, Nat.mul_add, Nat.mul_assoc]
    show f 0 + (2 ^ b * f 1 + _) = f 0 + 2 ^ b * f 1 + _
    rw [Nat.add_assoc]
    rfl
/-- the next digit on -/
theorem ds_shift {b n : Nat} {f : Nat → Nat} (h : ∀ k, f k < 2 ^ b) (hz : f n = 0) : ds b n f / 2 ^ b = ds b n (fun k => f (k + 1)) := by
  have key : ∀ (n : Nat) (f : Nat → Nat), f n = 0 → ds b (n + 1) f = ds b n f := by
    intro n
    induction n with
    | zero => intro f hf; rw [ds, ds, ds, hf]; rfl
    | succ n ih => intro f hf; rw [ds, ih _ hf]; rfl
  rw [← key n f hz, ds, Nat.add_mul_div_left _ _ (Nat.two_pow_pos b), Nat.div_eq_of_lt (h 0), Nat.zero_add]
def mk2 (b : Nat) : Nat → Nat
  | 0 => 0
  | n + 1 => (2 ^ b - 1) + 2 ^ (2 * b) * mk2 b n
theorem and_two {m f d R K : Nat} (hf : f < 2 ^ m) (hd : d < 2 ^ m) : (f + 2 ^ m * R) &&& (d + 2 ^ m * K) = (f &&& d) + 2 ^ m * (R &&& K) := by
  have e1 : ((f + 2 ^ m * R) &&& (d + 2 ^ m * K)) / 2 ^ m = R &&& K := by
    rw [Nat.and_div_two_pow, Nat.add_mul_div_left _ _ (Nat.two_pow_pos m), Nat.add_mul_div_left _ _ (Nat.two_pow_pos m), Nat.div_eq_of_lt hf, Nat.div_eq_of_lt hd, Nat.zero_add, Nat.zero_add]
  have e2 : ((f + 2 ^ m * R) &&& (d + 2 ^ m * K)) % 2 ^ m = f &&& d := by
    rw [Nat.and_mod_two_pow, Nat.add_mul_mod_self_left, Nat.add_mul_mod_self_left, Nat.mod_eq_of_lt hf, Nat.mod_eq_of_lt hd]
  have := Nat.div_add_mod ((f + 2 ^ m * R) &&& (d + 2 ^ m * K)) (2 ^ m)
  rw [e1, e2] at this
  omega
theorem ds_even {b : Nat} : ∀ (n : Nat) {f : Nat → Nat}, (∀ k, f k < 2 ^ b) → ds b (2 * n) f &&& mk2 b n = ds (2 * b) n (fun k => f (2 * k))
  | 0, f, _ => by show (ds b 0 f &&& 0 : Nat) = 0; rw [ds]; rfl
  | n + 1, f, h => by
    have ih := ds_even n (f := fun k => f (k + 2)) (fun k => h (k + 2))
    have e : (2 : Nat) ^ (2 * b) = 2 ^ b * 2 ^ b := by rw [← Nat.pow_add]; congr 1; omega
    have hp := Nat.two_pow_pos b
    have h0 := h 0
    have h1 := h 1
    have hm : 2 ^ b * f 1 + 2 ^ b ≤ 2 ^ b * 2 ^ b := by
      have := Nat.mul_le_mul_left (2 ^ b) (Nat.succ_le_of_lt h1)
      rwa [Nat.mul_succ] at this
    have e2 : ds b (2 * (n + 1)) f = (f 0 + 2 ^ b * f 1) + 2 ^ (2 * b) * ds b (2 * n) (fun k => f (k + 2)) := by
      show ds b (2 * n + 1 + 1) f = _
      rw [ds, ds, e, Nat.mul_add, Nat.mul_assoc]
      show f 0 + (2 ^ b * f 1 + _) = f 0 + 2 ^ b * f 1 + _
      rw [Nat.add_assoc]
    have hle : 2 ^ b ≤ 2 ^ b * 2 ^ b := Nat.le_mul_of_pos_left _ hp
    rw [e2, mk2, and_two (by rw [e]; omega) (by rw [e]; omega), ih, Nat.and_two_pow_sub_one_eq_mod, Nat.add_mul_mod_self_left, Nat.mod_eq_of_lt h0]
    rfl
theorem ds_odd {b n : Nat} {f : Nat → Nat} (h : ∀ k, f k < 2 ^ b) (hz : f (2 * n) = 0) : ds b (2 * n) f / 2 ^ b &&& mk2 b n = ds (2 * b) n (fun k => f (2 * k + 1)) := by
  rw [ds_shift h hz, ds_even n (fun k => h (k + 1))]
theorem sm_pair (f : Nat → Nat) : ∀ n, fb_sm (fun k => f (2 * k) + f (2 * k + 1)) n = fb_sm f (2 * n)
  | 0 => rfl
  | n + 1 => by rw [fb_sm_succ, sm_pair f n]; show _ = fb_sm f (2 * n + 1 + 1); rw [fb_sm_succ, fb_sm_succ]; omega
/-- a number is made of its bits -/
theorem ds_bits : ∀ (m n : Nat), n < 2 ^ m → ds 1 m (fun k => if n.testBit k then 1 else 0) = n
  | 0, n, h => by rw [ds]; simp at h; exact h.symm
  | m + 1, n, h => by
    have ih := ds_bits m (n / 2) (by rw [Nat.pow_succ] at h; omega)
    have e : (fun k => if n.testBit (k + 1) then 1 else 0) = (fun k => if (n / 2).testBit k then 1 else 0) := by funext k; rw [Nat.testBit_add_one]
    rw [ds, e, ih, Nat.testBit_zero]
    by_cases h2 : n % 2 = 1
    · simp [h2]; omega
    · simp [h2]; omega
theorem mk_1 : mk2 1 32 = 6148914691236517205 := by decide +kernel
theorem mk_2 : mk2 2 16 = 3689348814741910323 := by decide +kernel
theorem mk_4 : mk2 4 8 = 1085102592571150095 := by decide +kernel
theorem ds_shifts {b n : Nat} : ∀ (j : Nat) {f : Nat → Nat}, (∀ k, f k < 2 ^ b) → (∀ k, n ≤ k → f k = 0) → ds b n f / 2 ^ (b * j) = ds b n (fun k => f (k + j))
  | 0, f, _, _ => by rw [Nat.mul_zero, Nat.pow_zero, Nat.div_one]; rfl
  | j + 1, f, h, hz => by
    rw [Nat.mul_succ, Nat.pow_add, ← Nat.div_div_eq_div_mul, ds_shifts j h hz, ds_shift (fun k => h (k + j)) (hz _ (by omega))]
    exact ds_cong (fun k _ => congrArg f (by omega))
theorem pop_core {Q : Int32 → Prop} {n O1 A2 E2 O2 A3 w w2 w3 w4 c : Nat} (hn : n < 2 ^ 64) (s1 : n / 2 ^ 1 &&& 6148914691236517205 = O1) (s1b : n = A2 + O1) (s2 : A2 &&& 3689348814741910323 = E2) (s2b : A2 / 2 ^ 2 &&& 3689348814741910323 = O2) (s2c : E2 + O2 = A3) (l3 : A3 + A3 / 2 ^ 4 < 2 ^ 64) (s3 : A3 + A3 / 2 ^ 4 &&& 1085102592571150095 = w) (lw : w < 2 ^ 64) (e2 : w + w / 2 ^ 8 = w2) (l2 : w2 < 2 ^ 64) (e3 : w2 + w2 / 2 ^ 16 = w3) (lw3 : w3 < 2 ^ 64) (e4 : w3 + w3 / 2 ^ 32 = w4) (hc : w4 % 2 ^ 7 = c) (hQ : Q (nI c)) : wp_J13_bitCount_95d88_0 Q (lN n) := by
  have lA2 : A2 < 2 ^ 64 := by omega
  have lA3 : A3 < 2 ^ 64 := by omega
  have div_lt : ∀ (a m : Nat), a < 2 ^ 64 → a / m < 2 ^ 64 := fun a m h => Nat.lt_of_le_of_lt (Nat.div_le_self a m) h
  unfold wp_J13_bitCount_95d88_0
  intro v9 h9
  have h9 : v9 = lN A2 := by
    rw [h9, show ((lN n).toUInt64 >>> ((Int32.toInt64 (1 : Int32)).toUInt64 &&& Int64.toUInt64 63)).toInt64 = lN (n / 2 ^ 1) from wb_shr (k := 1) hn (by decide), show (6148914691236517205 : Int64) = lN 6148914691236517205 from rfl, wb_and (div_lt _ _ hn) (by decide), s1, lN_sub (by omega)]
    congr 1; omega
  intro v23 h23
  have h23 : v23 = lN A3 := by
    rw [h23, h9, show ((lN A2).toUInt64 >>> ((Int32.toInt64 (2 : Int32)).toUInt64 &&& Int64.toUInt64 63)).toInt64 = lN (A2 / 2 ^ 2) from wb_shr (k := 2) lA2 (by decide), show (3689348814741910323 : Int64) = lN 3689348814741910323 from rfl, wb_and lA2 (by decide), wb_and (div_lt _ _ lA2) (by decide), s2, s2b, lN_add, s2c]
  intro v33 h33
  have h33 : v33 = lN w := by
    rw [h33, h23, show ((lN A3).toUInt64 >>> ((Int32.toInt64 (4 : Int32)).toUInt64 &&& Int64.toUInt64 63)).toInt64 = lN (A3 / 2 ^ 4) from wb_shr (k := 4) lA3 (by decide), show (1085102592571150095 : Int64) = lN 1085102592571150095 from rfl, lN_add, wb_and l3 (by decide), s3]
  intro v40 h40
  have h40 : v40 = lN w2 := by
    rw [h40, h33, show ((lN w).toUInt64 >>> ((Int32.toInt64 (8 : Int32)).toUInt64 &&& Int64.toUInt64 63)).toInt64 = lN (w / 2 ^ 8) from wb_shr (k := 8) lw (by decide), lN_add, e2]
  intro v47 h47
  have h47 : v47 = lN w3 := by
    rw [h47, h40, show ((lN w2).toUInt64 >>> ((Int32.toInt64 (16 : Int32)).toUInt64 &&& Int64.toUInt64 63)).toInt64 = lN (w2 / 2 ^ 16) from wb_shr (k := 16) l2 (by decide), lN_add, e3]
  intro v54 h54
  have h54 : v54 = lN w4 := by
    rw [h54, h47, show ((lN w3).toUInt64 >>> ((Int32.toInt64 (32 : Int32)).toUInt64 &&& Int64.toUInt64 63)).toInt64 = lN (w3 / 2 ^ 32) from wb_shr (k := 32) lw3 (by decide), lN_add, e4]
  have fin : Int64.toInt32 v54 &&& (127 : Int32) = nI c := by
    rw [h54, lN_i, ← hc]
    exact fa_mask w4 7
  rw [fin]
  exact hQ
theorem pop_L {Q : Int32 → Prop} (x : Int64) (hQ : Q (nI (fb_ct (tb x) 64))) : wp_J13_bitCount_95d88_0 Q x := by
  obtain ⟨n, hn, rfl⟩ := wb_of x
  -- the digits
  obtain ⟨f1, hf1⟩ : ∃ f1 : Nat → Nat, f1 = fun k => if n.testBit k then 1 else 0 := ⟨_, rfl⟩
  have b1 : ∀ k, f1 k < 2 ^ 1 := fun k => by rw [hf1]; show (if _ then 1 else 0) < 2; split <;> decide
  have z1 : ∀ k, 64 ≤ k → f1 k = 0 := fun k hk => by
    rw [hf1]; show (if _ then 1 else 0) = 0
    rw [Nat.testBit_lt_two_pow (Nat.lt_of_lt_of_le hn (Nat.pow_le_pow_right (by decide) hk))]; rfl
  have hN : ds 1 64 f1 = n := by rw [hf1]; exact ds_bits 64 n hn
  have tot0 : fb_ct (tb (lN n)) 64 = fb_sm f1 64 := by
    have : ∀ m, m ≤ 64 → fb_ct (tb (lN n)) m = fb_sm f1 m := by
      intro m
      induction m with
      | zero => intro _; rfl
      | succ m ih =>
        intro hm
        rw [fb_ct_succ, fb_sm_succ, ih (by omega), hf1]
        have : tb (lN n) m = n.testBit m := by
          unfold tb
          rw [wb_tb, BitVec.getLsbD_ofNat]
          simp [show m < 64 by omega]
        rw [this]
    exact this 64 (Nat.le_refl _)
  rw [tot0] at hQ
  clear hf1 tot0
  obtain ⟨f2, hf2⟩ : ∃ f2 : Nat → Nat, f2 = fun k => f1 (2 * k) + f1 (2 * k + 1) := ⟨_, rfl⟩
  have c2 : ∀ k, f2 k ≤ 2 := fun k => by rw [hf2]; have := b1 (2 * k); have := b1 (2 * k + 1); show f1 (2 * k) + f1 (2 * k + 1) ≤ 2; omega
  have b2 : ∀ k, f2 k < 2 ^ 2 := fun k => Nat.lt_of_le_of_lt (c2 k) (by decide)
  have z2 : ∀ k, 32 ≤ k → f2 k = 0 := fun k hk => by rw [hf2]; show f1 (2 * k) + f1 (2 * k + 1) = 0; rw [z1 _ (by omega), z1 _ (by omega)]
  obtain ⟨f3, hf3⟩ : ∃ f3 : Nat → Nat, f3 = fun k => f2 (2 * k) + f2 (2 * k + 1) := ⟨_, rfl⟩
  have c3 : ∀ k, f3 k ≤ 4 := fun k => by rw [hf3]; have := c2 (2 * k); have := c2 (2 * k + 1); show f2 (2 * k) + f2 (2 * k + 1) ≤ 4; omega
  have z3 : ∀ k, 16 ≤ k → f3 k = 0 := fun k hk => by rw [hf3]; show f2 (2 * k) + f2 (2 * k + 1) = 0; rw [z2 _ (by omega), z2 _ (by omega)]
  obtain ⟨f4, hf4⟩ : ∃ f4 : Nat → Nat, f4 = fun k => f3 (2 * k) + f3 (2 * k + 1) := ⟨_, rfl⟩
  have c4 : ∀ k, f4 k ≤ 8 := fun k => by rw [hf4]; have := c3 (2 * k); have := c3 (2 * k + 1); show f3 (2 * k) + f3 (2 * k + 1) ≤ 8; omega
  have z4 : ∀ k, 8 ≤ k → f4 k = 0 := fun k hk => by rw [hf4]; show f3 (2 * k) + f3 (2 * k + 1) = 0; rw [z3 _ (by omega), z3 _ (by omega)]
  have e1 : fb_sm f2 32 = fb_sm f1 64 := by rw [hf2]; exact sm_pair f1 32
  have e2 : fb_sm f3 16 = fb_sm f2 32 := by rw [hf3]; exact sm_pair f2 16
  have e3 : fb_sm f4 8 = fb_sm f3 16 := by rw [hf4]; exact sm_pair f3 8
  rw [← e1, ← e2, ← e3] at hQ
  have s1 : n / 2 ^ 1 &&& 6148914691236517205 = ds 2 32 (fun k => f1 (2 * k + 1)) := by rw [← mk_1, ← hN]; exact ds_odd (n := 32) b1 (z1 64 (by decide))
  have s1b : n = ds 2 32 f2 + ds 2 32 (fun k => f1 (2 * k + 1)) := by
    rw [← ds_add, ← hN]
    refine (ds_pair 32 f1).trans (ds_cong (fun k _ => ?_))
    rw [hf2]; show f1 (2 * k) + 2 ^ 1 * f1 (2 * k + 1) = f1 (2 * k) + f1 (2 * k + 1) + f1 (2 * k + 1); omega
  have s2 : ds 2 32 f2 &&& 3689348814741910323 = ds 4 16 (fun k => f2 (2 * k)) := by rw [← mk_2]; exact ds_even 16 b2
  have s2b : ds 2 32 f2 / 2 ^ 2 &&& 3689348814741910323 = ds 4 16 (fun k => f2 (2 * k + 1)) := by rw [← mk_2]; exact ds_odd (n := 16) b2 (z2 32 (by decide))
  have s2c : ds 4 16 (fun k => f2 (2 * k)) + ds 4 16 (fun k => f2 (2 * k + 1)) = ds 4 16 f3 := by rw [← ds_add, hf3]
  have s3 : ds 4 16 f3 / 2 ^ 4 = ds 4 16 (fun k => f3 (k + 1)) := ds_shift (fun k => Nat.lt_of_le_of_lt (c3 k) (by decide)) (z3 16 (by decide))
  have s3b : ds 4 16 f3 + ds 4 16 f3 / 2 ^ 4 &&& 1085102592571150095 = ds 8 8 f4 := by
    rw [s3, ← ds_add, ← mk_4]
    refine (ds_even 8 (f := fun k => f3 k + f3 (k + 1)) (fun k => ?_)).trans (ds_cong (fun k _ => ?_))
    · have := c3 k; have := c3 (k + 1); show f3 k + f3 (k + 1) < 16; omega
    · rw [hf4]
  have lb : ds 4 16 f3 + ds 4 16 f3 / 2 ^ 4 < 2 ^ 64 := by
    rw [s3, ← ds_add]
    exact ds_lt (b := 4) 16 (f := fun k => f3 k + f3 (k + 1)) (fun k => by have := c3 k; have := c3 (k + 1); show f3 k + f3 (k + 1) < 16; omega)
  obtain ⟨g1, hg1⟩ : ∃ g1 : Nat → Nat, g1 = fun k => f4 k + f4 (k + 1) := ⟨_, rfl⟩
  have cg1 : ∀ k, g1 k ≤ 16 := fun k => by rw [hg1]; have := c4 k; have := c4 (k + 1); show f4 k + f4 (k + 1) ≤ 16; omega
  have zg1 : ∀ k, 8 ≤ k → g1 k = 0 := fun k hk => by rw [hg1]; show f4 k + f4 (k + 1) = 0; rw [z4 _ hk, z4 _ (by omega)]
  obtain ⟨g2, hg2⟩ : ∃ g2 : Nat → Nat, g2 = fun k => g1 k + g1 (k + 2) := ⟨_, rfl⟩
  have cg2 : ∀ k, g2 k ≤ 32 := fun k => by rw [hg2]; have := cg1 k; have := cg1 (k + 2); show g1 k + g1 (k + 2) ≤ 32; omega
  have zg2 : ∀ k, 8 ≤ k → g2 k = 0 := fun k hk => by rw [hg2]; show g1 k + g1 (k + 2) = 0; rw [zg1 _ hk, zg1 _ (by omega)]
  have t1 : ds 8 8 f4 + ds 8 8 f4 / 2 ^ 8 = ds 8 8 g1 := by
    rw [ds_shift (fun k => Nat.lt_of_le_of_lt (c4 k) (by decide)) (z4 8 (by decide)), ← ds_add, hg1]
  have t2 : ds 8 8 g1 + ds 8 8 g1 / 2 ^ 16 = ds 8 8 g2 := by
    have := ds_shifts (b := 8) (n := 8) 2 (f := g1) (fun k => Nat.lt_of_le_of_lt (cg1 k) (by decide)) zg1
    rw [show (8 * 2) = 16 from rfl] at this
    rw [this, ← ds_add, hg2]
  have t3 : ds 8 8 g2 + ds 8 8 g2 / 2 ^ 32 = ds 8 8 (fun k => g2 k + g2 (k + 4)) := by
    have := ds_shifts (b := 8) (n := 8) 4 (f := g2) (fun k => Nat.lt_of_le_of_lt (cg2 k) (by decide)) zg2
    rw [show (8 * 4) = 32 from rfl] at this
    rw [this, ← ds_add]
  have t4 : ds 8 8 (fun k => g2 k + g2 (k + 4)) % 2 ^ 7 = fb_sm f4 8 := by
    have hs : fb_sm f4 8 = g2 0 + g2 4 := by
      rw [hg2, hg1]
      simp only [fb_sm_succ]
      show 0 + f4 0 + f4 1 + f4 2 + f4 3 + f4 4 + f4 5 + f4 6 + f4 7 = f4 0 + f4 1 + (f4 2 + f4 3) + (f4 4 + f4 5 + (f4 6 + f4 7))
      omega
    rw [ds]
    have h1 := cg2 0
    have h2 := cg2 4
    generalize ds 8 7 (fun k => g2 (k + 1) + g2 (k + 1 + 4)) = R
    rw [hs]
    show (g2 0 + g2 4 + 2 ^ 8 * R) % 2 ^ 7 = g2 0 + g2 4
    omega
  exact pop_core hn s1 s1b s2 s2b s2c lb s3b (ds_lt (b := 8) 8 (fun k => Nat.lt_of_le_of_lt (c4 k) (by decide))) t1 (ds_lt (b := 8) 8 (fun k => Nat.lt_of_le_of_lt (cg1 k) (by decide))) t2 (ds_lt (b := 8) 8 (fun k => Nat.lt_of_le_of_lt (cg2 k) (by decide))) t3 t4 hQ
