/-! pure: the words of a text -/
abbrev ltA (n : Nat) (b : Nat → Nat) (k : Nat) : Prop := k < n ∧ isL (b k)
/-- how many sentences end ahead of k -/
def snA (b : Nat → Nat) (k : Nat) : Nat := fb_ct (fun j => decide (isE4 (b j))) k
/-- the next letter from q on (n: none) -/
def nxt (n : Nat) (b : Nat → Nat) (q : Nat) : Nat := q + fa_first (fun j => decide (ltA n b (q + j))) (n - q)
/-- where a row of letters from q on ends -/
def enn (n : Nat) (b : Nat → Nat) (q : Nat) : Nat := q + fa_first (fun j => decide (¬ ltA n b (q + j))) (n - q)
section WD
variable {n : Nat} {b : Nat → Nat}
theorem nxt_ok {q : Nat} (hq : q ≤ n) : q ≤ nxt n b q ∧ nxt n b q ≤ n ∧ (∀ j, q ≤ j → j < nxt n b q → ¬ ltA n b j) ∧ (nxt n b q < n → ltA n b (nxt n b q)) := by
  unfold nxt
  have h1 := fa_first_le (fun j => decide (ltA n b (q + j))) (n - q)
  refine ⟨by omega, by omega, fun j hj1 hj2 => ?_, fun hlt => ?_⟩
  · have := fa_first_no (fun j => decide (ltA n b (q + j))) (n - q) (j - q) (by omega)
    rw [show q + (j - q) = j by omega] at this
    exact of_decide_eq_false this
  · have := fa_first_yes (fun j => decide (ltA n b (q + j))) (n - q) (by omega)
    exact of_decide_eq_true this
theorem nxt_is {q r : Nat} (hq : q ≤ r) (hr : r ≤ n) (h1 : ∀ j, q ≤ j → j < r → ¬ ltA n b j) (h2 : r < n → ltA n b r) : nxt n b q = r := by
  obtain ⟨a1, a2, a3, a4⟩ := nxt_ok (n := n) (b := b) (q := q) (by omega)
  rcases Nat.lt_trichotomy (nxt n b q) r with h | h | h
  · exact absurd (a4 (by omega)) (h1 _ a1 h)
  · exact h
  · exact absurd (h2 (by omega)) (a3 r hq h)
theorem nxt_no {q : Nat} (hq : q < n) (h : ¬ ltA n b q) : nxt n b (q + 1) = nxt n b q := by
  obtain ⟨a1, a2, a3, a4⟩ := nxt_ok (n := n) (b := b) (q := q) (by omega)
  have hne : nxt n b q ≠ q := fun e => by rw [e] at a4; exact h (a4 hq)
  exact nxt_is (by omega) a2 (fun j h1 h2 => a3 j (by omega) h2) a4
theorem nxt_yes {q : Nat} (h : ltA n b q) : nxt n b q = q := nxt_is (Nat.le_refl _) (by have := h.1; omega) (fun j h1 h2 => by omega) (fun _ => h)
theorem nxt_n : nxt n b n = n := nxt_is (Nat.le_refl _) (Nat.le_refl _) (fun j h1 h2 => by omega) (fun h => by omega)
theorem enn_ok {q : Nat} (hq : q ≤ n) : q ≤ enn n b q ∧ enn n b q ≤ n ∧ (∀ j, q ≤ j → j < enn n b q → ltA n b j) ∧ ¬ ltA n b (enn n b q) := by
  unfold enn
  have h1 := fa_first_le (fun j => decide (¬ ltA n b (q + j))) (n - q)
  refine ⟨by omega, by omega, fun j hj1 hj2 => ?_, ?_⟩
  · have := fa_first_no (fun j => decide (¬ ltA n b (q + j))) (n - q) (j - q) (by omega)
    rw [show q + (j - q) = j by omega] at this
    exact Classical.not_not.mp (of_decide_eq_false this)
  · by_cases hlt : fa_first (fun j => decide (¬ ltA n b (q + j))) (n - q) < n - q
    · have := fa_first_yes (fun j => decide (¬ ltA n b (q + j))) (n - q) hlt
      exact of_decide_eq_true this
    · intro h; have := h.1; omega
theorem enn_is {q r : Nat} (hq : q ≤ r) (h1 : ∀ j, q ≤ j → j < r → ltA n b j) (h2 : ¬ ltA n b r) (hqn : q ≤ n) : enn n b q = r := by
  obtain ⟨a1, a2, a3, a4⟩ := enn_ok (n := n) (b := b) hqn
  rcases Nat.lt_trichotomy (enn n b q) r with h | h | h
  · exact absurd (h1 _ a1 h) a4
  · exact h
  · exact absurd (a3 r hq h) h2
/-- where word k begins (n: there is none) -/
def wpA (n : Nat) (b : Nat → Nat) : Nat → Nat
  | 0 => nxt n b 0
  | k + 1 => nxt n b (enn n b (wpA n b k))
def weA (n : Nat) (b : Nat → Nat) (k : Nat) : Nat := enn n b (wpA n b k)
theorem wpA_le : ∀ k, wpA n b k ≤ n
  | 0 => (nxt_ok (Nat.zero_le _)).2.1
  | k + 1 => (nxt_ok (enn_ok (wpA_le k)).2.1).2.1
theorem wpA_lt {k : Nat} (h : wpA n b k < n) : ltA n b (wpA n b k) := by
  match k with
  | 0 => exact (nxt_ok (Nat.zero_le _)).2.2.2 h
  | k + 1 => exact (nxt_ok (enn_ok (wpA_le k)).2.1).2.2.2 h
theorem weA_gt {k : Nat} (h : wpA n b k < n) : wpA n b k < weA n b k := by
  obtain ⟨a1, a2, a3, a4⟩ := enn_ok (n := n) (b := b) (wpA_le (n := n) (b := b) k)
  unfold weA
  apply Nat.lt_of_le_of_ne a1
  intro e
  rw [← e] at a4
  exact a4 (wpA_lt h)
theorem weA_le (k : Nat) : weA n b k ≤ n := (enn_ok (wpA_le k)).2.1
theorem weA_no (k : Nat) : ¬ ltA n b (weA n b k) := (enn_ok (wpA_le k)).2.2.2
theorem weA_in {k j : Nat} (h1 : wpA n b k ≤ j) (h2 : j < weA n b k) : ltA n b j := (enn_ok (wpA_le k)).2.2.1 j h1 h2
theorem wpA_s (k : Nat) : wpA n b (k + 1) = nxt n b (weA n b k) := rfl
theorem wpA_gt (k : Nat) : weA n b k ≤ wpA n b (k + 1) ∧ (wpA n b (k + 1) < n → weA n b k < wpA n b (k + 1)) := by
  obtain ⟨a1, a2, a3, a4⟩ := nxt_ok (n := n) (b := b) (weA_le (n := n) (b := b) k)
  refine ⟨a1, fun h => ?_⟩
  apply Nat.lt_of_le_of_ne a1
  intro e
  have := a4 h
  rw [← e] at this
  exact weA_no k this
theorem wpA_2 : ∀ {k : Nat}, wpA n b k < n → 2 * k ≤ wpA n b k ∧ ∀ j, j ≤ k → wpA n b j < n
  | 0, h => ⟨Nat.zero_le _, fun j hj => (Nat.le_zero.mp hj).symm ▸ h⟩
  | k + 1, h => by
    obtain ⟨g1, g2⟩ := wpA_gt (n := n) (b := b) k
    have h1 := g2 h
    have hk : wpA n b k < n := by
      have := (enn_ok (n := n) (b := b) (wpA_le (n := n) (b := b) k)).1
      have h3 : wpA n b k ≤ weA n b k := this
      omega
    obtain ⟨i1, i2⟩ := wpA_2 hk
    have := weA_gt hk
    refine ⟨by omega, fun j hj => ?_⟩
    by_cases e : j = k + 1
    · rw [e]; exact h
    · exact i2 j (by omega)
/-- how many words there are -/
def fnd (n : Nat) (b : Nat → Nat) : Nat := fa_first (fun c => decide (n ≤ wpA n b c)) (n + 1)
theorem fnd_lt {k : Nat} : k < fnd n b ↔ wpA n b k < n := by
  constructor
  · intro h
    have := fa_first_no (fun c => decide (n ≤ wpA n b c)) (n + 1) k h
    have := of_decide_eq_false this
    omega
  · intro h
    apply Classical.byContradiction
    intro h9
    have hle := (wpA_2 h).1
    have hf : fnd n b < n + 1 := by omega
    have := fa_first_yes (fun c => decide (n ≤ wpA n b c)) (n + 1) hf
    have := of_decide_eq_true this
    have h2 := (wpA_2 h).2 (fnd n b) (by omega)
    have h3 : n ≤ wpA n b (fnd n b) := this
    omega
theorem fnd_is {c : Nat} (h : wpA n b c = n) (h2 : ∀ k, k < c → wpA n b k < n) : fnd n b = c := by
  rcases Nat.lt_trichotomy (fnd n b) c with h3 | h3 | h3
  · have := h2 _ h3
    have := fnd_lt.mpr this
    omega
  · exact h3
  · have := fnd_lt.mp h3
    omega
theorem fnd_le : 2 * fnd n b ≤ n + 1 := by
  match hf : fnd n b with
  | 0 => omega
  | k + 1 =>
    have := fnd_lt.mp (show k < fnd n b by omega)
    have := (wpA_2 this).1
    omega
/-- letters end no sentence -/
theorem snA_same {p e : Nat} (hpe : p ≤ e) (h : ∀ j, p ≤ j → j < e → ¬ isE4 (b j)) : snA b e = snA b p := by
  unfold snA
  have hs := fb_ct_split (fun j => decide (isE4 (b j))) p (e - p)
  rw [show p + (e - p) = e by omega] at hs
  have h0 : fb_ct (fun k => decide (isE4 (b (p + k)))) (e - p) = 0 := fb_ct_zero.mpr (fun k hk => decide_eq_false (h (p + k) (by omega) (by omega)))
  rw [h0] at hs
  exact hs
theorem not_E4 {c : Nat} (h : isL c) : ¬ isE4 c := by unfold isE4; unfold isL at h; omega
theorem snA_word (k : Nat) : snA b (weA n b k) = snA b (wpA n b k) := snA_same (enn_ok (wpA_le k)).1 (fun j h1 h2 => not_E4 (weA_in h1 h2).2)
theorem snA_le (k : Nat) : snA b k ≤ k := fb_ct_le _ k
end WD
/-- a letter's number -/
def lto (c : Nat) : Nat := if 97 ≤ c ∧ c ≤ 122 then c - 96 else if 65 ≤ c ∧ c ≤ 90 then c - 64 else 0
theorem lto_0 {c : Nat} : lto c = 0 ↔ ¬ isL c := by unfold lto isL; split <;> (try split) <;> omega
theorem lto_le (c : Nat) : lto c ≤ 26 := by unfold lto; split <;> (try split) <;> omega
theorem x9_great {Q : Int32 → Prop} {c : Nat} (h : c < 2147483648) (hQ : Q (bI (isG c))) : wp_X9_isGreat_0 Q (nI c) := by
  unfold wp_X9_isGreat_0
  refine bq (i_lt c 65) (fun h1 => ?_) (fun h1 => bq (i_lt 90 c) (fun h2 => ?_) (fun h2 => ?_))
  · rwa [bI_f (by omega)] at hQ
  · rwa [bI_f (by omega)] at hQ
  · rwa [bI_t (by omega)] at hQ
theorem x9_lto {Q : Int32 → Prop} {c : Nat} (h : c < 2147483648) (hQ : Q (nI (lto c))) : wp_X9_letterOf_0 Q (nI c) := by
  have h21 : ¬ (97 ≤ c ∧ c ≤ 122) → wp_X9_letterOf_21 Q (nI c) := by
    intro hn
    unfold lto at hQ
    rw [if_neg hn] at hQ
    unfold wp_X9_letterOf_21
    refine x9_great h ?_
    by_cases hg : isG c
    · rw [if_pos hg] at hQ
      rw [bI_t hg]
      refine bf1 (by decide) ?_
      rw [show (65 : Int32) = nI 65 from rfl, n_sub hg.1, nI_1, show c - 65 + 1 = c - 64 by omega]
      exact hQ
    · rw [if_neg hg] at hQ
      rw [bI_f hg]
      exact bt1 rfl hQ
  unfold wp_X9_letterOf_0
  refine bq (i_lt c 97) (fun h1 => h21 (by omega)) (fun h1 => bq (i_lt 122 c) (fun h2 => h21 (by omega)) (fun h2 => ?_))
  unfold lto at hQ
  rw [if_pos (by omega)] at hQ
  rw [show (97 : Int32) = nI 97 from rfl, n_sub (by omega), nI_1, show c - 97 + 1 = c - 96 by omega]
  exact hQ
section RF2
variable {M : mN} {D : Nat → Int64} {mn : Int32} {S : mS} {G : mG}
abbrev tbx (M : mN) (x : Nat) : Nat → Nat := fun k => M 19 (600 * x + k)
theorem rt_at {Q : Int32 → mS → mG → Prop} (h : rS M S) {x k : Nat} (hx : x < 8) (hk : k < 600) (hQ : Q (nI (M 19 (600 * x + k))) S G) : wp_X9_at_0 Q S G (nI x) (nI k) := by
  unfold wp_X9_at_0
  have ei : (600 : Int32) * nI x + nI k = nI (600 * x + k) := (congrArg (· + nI k) (pk_mul 600 x)).trans (nI_add _ _)
  rw [ei, n_cl (by omega), h 19 rfl]
  exact ⟨n_in (by omega) (by decide), hQ⟩
/-- what finds leaves -/
def FD (M : mN) (x : Nat) (S : mS) : Prop := S 21 0 = nI (fnd (M 20 x) (tbx M x)) ∧ ∀ k, k < fnd (M 20 x) (tbx M x) → S 22 k = nI (wpA (M 20 x) (tbx M x) k) ∧ S 23 k = nI (weA (M 20 x) (tbx M x) k) ∧ S 24 k = nI (snA (tbx M x) (wpA (M 20 x) (tbx M x) k))
theorem rt_finds {Q : mS → mG → Prop} (h : RI M D mn S G) {x : Nat} (hx : x < 8) (hQ : ∀ S' : mS, RI M D mn S' G → S' 0 0 = S 0 0 → FD M x S' → Q S' G) : wp_X9_finds_0 Q S G (nI x) := by
  obtain ⟨b600, b256⟩ := h.2.2.2.2.2.2.2.2 x hx
  have hbb : ∀ k, k < M 20 x → tbx M x k < 256 := b256
  have cx : (nI x).toNatClampNeg = x := n_cl (by omega)
  unfold wp_X9_finds_0
  rintro _ rfl
  generalize hnn : M 20 x = n at *
  generalize hbx : tbx M x = b at *
  have hbk : ∀ k, M 19 (600 * x + k) = b k := fun k => by rw [← hbx]
  refine loop_m (σ := mS × Nat × Nat × Nat) (fun n9 s => wp_X9_finds_9 Q n9 s.1 G (nI x) (nI s.2.1) (nI s.2.2.1)) (fun s => RI M D mn s.1 G ∧ s.1 0 0 = S 0 0 ∧ s.2.2.1 ≤ n ∧ s.2.1 = snA b s.2.2.1 ∧ s.1 21 0 = nI s.2.2.2 ∧ nxt n b s.2.2.1 = wpA n b s.2.2.2 ∧ (∀ k, k < s.2.2.2 → wpA n b k < n) ∧ ∀ k, k < s.2.2.2 → s.1 22 k = nI (wpA n b k) ∧ s.1 23 k = nI (weA n b k) ∧ s.1 24 k = nI (snA b (wpA n b k))) (fun s => n - s.2.2.1) ?_ (mst S 21 0 0, 0, 0, 0) ⟨h.out (by decide) (by decide) 0 0, by dsimp only; rw [ms_out _ _ _ _ _ (by decide)], Nat.zero_le _, rfl, (show mst S 21 0 0 21 0 = nI 0 from ms_same _ _ _ _), rfl, fun k hk => absurd hk (Nat.not_lt_zero k), fun k hk => absurd hk (Nat.not_lt_zero k)⟩
  rintro n9 ⟨S1, s, k, c⟩ ⟨k1, k2, k3, k4, k5, k6, k7, k8⟩ ih
  have k1 : RI M D mn S1 G := k1
  have k2 : S1 0 0 = S 0 0 := k2
  have k3 : k ≤ n := k3
  have k4 : s = snA b k := k4
  have k5 : S1 21 0 = nI c := k5
  have k6 : nxt n b k = wpA n b c := k6
  have k7 : ∀ j, j < c → wpA n b j < n := k7
  have k8 : ∀ j, j < c → S1 22 j = nI (wpA n b j) ∧ S1 23 j = nI (weA n b j) ∧ S1 24 j = nI (snA b (wpA n b j)) := k8
  have f20 : S1 20 x = nI n := by rw [k1.g 20 x, hnn]
  have hsk := snA_le (b := b) k
  unfold wp_X9_finds_9
  dsimp only
  rw [cx]
  refine ⟨n_in hx (by decide), bq (i_le n k (hx := f20)) (fun he => ?_) (fun he => ?_)⟩
  · have ek : k = n := by omega
    rw [ek, nxt_n] at k6
    have hf := fnd_is k6.symm k7
    refine hQ S1 k1 k2 ?_
    unfold FD
    rw [hnn, hbx, hf]
    exact ⟨k5, k8⟩
  · have hk : k < n := by omega
    have hb := hbb k hk
    have hl26 := lto_le (b k)
    refine rt_at k1.1 hx (by omega) ?_
    rw [hbk]
    refine x9_lto (by omega) (bn (i_eq (lto (b k)) 0) (fun h0 => ?_) (fun h0 => ?_))
    · have hnl : ¬ ltA n b k := fun h9 => (lto_0.mp h0) h9.2
      have hstep : nxt n b (k + 1) = wpA n b c := by rw [nxt_no hk hnl]; exact k6
      have es : snA b (k + 1) = snA b k + (if decide (isE4 (b k)) then 1 else 0) := fb_ct_succ _ _
      have go66 : ¬ isE4 (b k) → wp_X9_finds_66 Q (wp_X9_finds_9 Q n9) S1 G (nI x) (nI s) (nI k) := by
        intro hn
        unfold wp_X9_finds_66
        rintro _ rfl
        rw [nI_1]
        refine ih (S1, s, k + 1, c) ⟨k1, k2, hk, ?_, k5, hstep, k7, k8⟩ (by show n - (k + 1) < n - k; omega)
        show s = snA b (k + 1)
        rw [es, if_neg (by simpa using hn), k4]; rfl
      have go63 : isE4 (b k) → wp_X9_finds_63 Q (wp_X9_finds_9 Q n9) S1 G (nI x) (nI s) (nI k) := by
        intro hy
        unfold wp_X9_finds_63 wp_X9_finds_66
        rintro _ rfl
        rintro _ rfl
        rw [nI_1, nI_1]
        refine ih (S1, s + 1, k + 1, c) ⟨k1, k2, hk, ?_, k5, hstep, k7, k8⟩ (by show n - (k + 1) < n - k; omega)
        show s + 1 = snA b (k + 1)
        rw [es, if_pos (by simpa using hy), k4]
      refine bq (i_eq (b k) 46) (fun e1 => go63 (Or.inl e1)) (fun e1 => bq (i_eq (b k) 33) (fun e2 => go63 (Or.inr (Or.inl e2))) (fun e2 => bq (i_eq (b k) 63) (fun e3 => go63 (Or.inr (Or.inr (Or.inl e3)))) (fun e3 => bn (i_eq (b k) 59) (fun e4 => go63 (Or.inr (Or.inr (Or.inr e4)))) (fun e4 => go66 (by unfold isE4; omega)))))
    · have hlk : ltA n b k := ⟨hk, Classical.byContradiction fun h9 => h0 (lto_0.mpr h9)⟩
      have ewp : wpA n b c = k := by rw [← k6]; exact nxt_yes hlk
      have hcl := (wpA_2 (n := n) (b := b) (k := c) (by omega)).1
      rw [k5, n_cl (show c < _ by omega)]
      refine ⟨n_in (by omega) (by decide), ?_⟩
      rintro _ rfl
      have hwe := weA_le (n := n) (b := b) c
      have hgt := weA_gt (n := n) (b := b) (k := c) (by omega)
      refine pk_loop (σ := Unit) (fun n8 j _ => wp_X9_finds_82 Q (wp_X9_finds_9 Q n9) n8 (mst S1 22 c (nI k)) G (nI x) (nI s) (nI j)) (fun j _ => wpA n b c ≤ j) (weA n b c) k () (by omega) (by rw [ewp]; exact Nat.le_refl _) ?_ ?_
      · intro n8 _ _
        have hno := weA_no (n := n) (b := b) c
        have fin : wp_X9_finds_110 Q (wp_X9_finds_9 Q n9) (mst S1 22 c (nI k)) G (nI x) (nI s) (nI (weA n b c)) := by
          unfold wp_X9_finds_110
          rw [ms_out _ _ _ _ _ (show (21 : Nat) ≠ 22 by decide), k5, n_cl (show c < _ by omega)]
          refine ⟨n_in (by omega) (by decide), ?_⟩
          rintro _ rfl
          rw [ms_out _ _ _ _ _ (show (21 : Nat) ≠ 23 by decide), ms_out _ _ _ _ _ (show (21 : Nat) ≠ 22 by decide), k5, n_cl (show c < _ by omega)]
          refine ⟨n_in (by omega) (by decide), ?_⟩
          rintro _ rfl
          rintro _ rfl
          rw [ms_out _ _ _ _ _ (show (21 : Nat) ≠ 24 by decide), ms_out _ _ _ _ _ (show (21 : Nat) ≠ 23 by decide), ms_out _ _ _ _ _ (show (21 : Nat) ≠ 22 by decide), k5, nI_1]
          refine ih (mst (mst (mst (mst S1 22 c (nI k)) 23 c (nI (weA n b c))) 24 c (nI s)) 21 0 (nI (c + 1)), s, weA n b c, c + 1) ⟨(((k1.out (by decide) (by decide) _ _).out (by decide) (by decide) _ _).out (by decide) (by decide) _ _).out (by decide) (by decide) _ _, ?_, hwe, ?_, (show mst (mst (mst (mst S1 22 c (nI k)) 23 c (nI (weA n b c))) 24 c (nI s)) 21 0 (nI (c + 1)) 21 0 = nI (c + 1) from ms_same _ _ _ _), rfl, lt_s k7 (by omega), ?_⟩ (by show n - weA n b c < n - k; omega)
          · dsimp only
            rw [ms_out _ _ _ _ _ (by decide), ms_out _ _ _ _ _ (by decide), ms_out _ _ _ _ _ (by decide), ms_out _ _ _ _ _ (by decide)]; exact k2
          · show s = snA b (weA n b c)
            rw [snA_word, ewp]; exact k4
          · intro j hj
            dsimp only
            rw [ms_out _ _ _ _ _ (show (22 : Nat) ≠ 21 by decide), ms_out _ _ _ _ _ (show (22 : Nat) ≠ 24 by decide), ms_out _ _ _ _ _ (show (22 : Nat) ≠ 23 by decide), ms_out _ _ _ _ _ (show (23 : Nat) ≠ 21 by decide), ms_out _ _ _ _ _ (show (23 : Nat) ≠ 24 by decide), ms_out _ _ _ _ _ (show (24 : Nat) ≠ 21 by decide)]
            by_cases e : j = c
            · rw [e, ms_same, ms_same, ms_same, ewp, k4]; exact ⟨rfl, rfl, rfl⟩
            · rw [ms_ne _ _ _ _ _ e, ms_ne _ _ _ _ _ e, ms_ne _ _ _ _ _ e, ms_out _ _ _ _ _ (show (23 : Nat) ≠ 22 by decide), ms_out _ _ _ _ _ (show (24 : Nat) ≠ 23 by decide), ms_out _ _ _ _ _ (show (24 : Nat) ≠ 22 by decide)]
              exact k8 j (by have hj : j < c + 1 := hj; omega)
        have f20b : mst S1 22 c (nI k) 20 x = nI n := by rw [ms_out _ _ _ _ _ (by decide)]; exact f20
        unfold wp_X9_finds_82
        rw [cx]
        refine ⟨n_in hx (by decide), bq (i_le n (weA n b c) (hx := f20b)) (fun _ => fin) (fun hlt => ?_)⟩
        refine rt_at (k1.1.out (by decide) _ _) hx (by omega) ?_
        rw [hbk]
        have hb2 := hbb (weA n b c) (by omega)
        have h26 := lto_le (b (weA n b c))
        refine x9_lto (by omega) (bt1 ((i_le (lto (b (weA n b c))) 0).mpr ?_) fin)
        have : lto (b (weA n b c)) = 0 := lto_0.mpr (fun h9 => hno ⟨by omega, h9⟩)
        omega
      · intro n8 j _ hj hI jh
        have hlj := weA_in hI hj
        have hjn := hlj.1
        have f20b : mst S1 22 c (nI k) 20 x = nI n := by rw [ms_out _ _ _ _ _ (by decide)]; exact f20
        unfold wp_X9_finds_82
        rw [cx]
        refine ⟨n_in hx (by decide), bf1 (by rw [i_le n j (hx := f20b)]; omega) ?_⟩
        refine rt_at (k1.1.out (by decide) _ _) hx (by omega) ?_
        rw [hbk]
        have hb2 := hbb j hjn
        have h26 := lto_le (b j)
        refine x9_lto (by omega) (bf1 ?_ ?_)
        · rw [i_le (lto (b j)) 0]
          have : lto (b j) ≠ 0 := fun e => (lto_0.mp e) hlj.2
          omega
        · rintro _ rfl
          rw [nI_1]
          exact jh () (by omega)
end RF2
