/-! pure: the reference's small methods -/
theorem ms_same (S : mS) (k j : Nat) (v : Int32) : mst S k j v k j = v := by simp [mst, upd]
theorem ms_ne (S : mS) (k j i : Nat) (v : Int32) (h : i ≠ j) : mst S k j v k i = S k i := by simp [mst, upd, h]
theorem ms_out (S : mS) (k j a : Nat) (v : Int32) (h : a ≠ k) : mst S k j v a = S a := by simp [mst, h]
theorem ml_same (G : mG) (k j : Nat) (v : Int64) : mstL G k j v k j = v := by simp [mstL, vp_updL]
theorem ml_ne (G : mG) (k j i : Nat) (v : Int64) (h : i ≠ j) : mstL G k j v k i = G k i := by simp [mstL, vp_updL, h]
theorem ml_out (G : mG) (k j a : Nat) (v : Int64) (h : a ≠ k) : mstL G k j v a = G a := by simp [mstL, h]
def bI (p : Prop) [Decidable p] : Int32 := if p then 1 else 0
theorem bI_0 {p : Prop} [Decidable p] : bI p = 0 ↔ ¬ p := by unfold bI; by_cases h : p <;> simp [h]
theorem nltI (a b : Int32) : (¬ a < b) = (b ≤ a) := by simp
theorem nleI (a b : Int32) : (¬ a ≤ b) = (b < a) := by simp
theorem br_iff {c A B : Prop} [Decidable c] : ((c → A) ∧ (¬ c → B)) ↔ if c then A else B := by by_cases h : c <;> simp [h]
theorem sp_isGreat (Q : Int32 → Prop) (a : Int32) : wp_X9_isGreat_0 Q a ↔ Q (bI (65 ≤ a ∧ a ≤ 90)) := by
  unfold wp_X9_isGreat_0
  by_cases h1 : a < 65
  · have h3 : ¬ (65 ≤ a ∧ a ≤ 90) := fun h => absurd h1 (by rw [nltI]; exact h.1)
    rw [bI, if_neg h3]; exact ⟨fun h => h.1 h1, fun h => ⟨fun _ => h, fun h' => absurd h1 h'⟩⟩
  · by_cases h2 : (90 : Int32) < a
    · have h3 : ¬ (65 ≤ a ∧ a ≤ 90) := fun h => absurd h2 (by rw [nltI]; exact h.2)
      rw [bI, if_neg h3]; exact ⟨fun h => (h.2 h1).1 h2, fun h => ⟨fun _ => h, fun _ => ⟨fun _ => h, fun h' => absurd h2 h'⟩⟩⟩
    · have h3 : 65 ≤ a ∧ a ≤ 90 := ⟨by rw [← nltI]; exact h1, by rw [← nltI]; exact h2⟩
      rw [bI, if_pos h3]; exact ⟨fun h => (h.2 h1).2 h2, fun h => ⟨fun h' => absurd h' h1, fun _ => ⟨fun h' => absurd h' h2, fun _ => h⟩⟩⟩
/-- a byte's letter, 1 to 26; 0: it is none -/
def mLet (c : Int32) : Int32 := if 97 ≤ c ∧ c ≤ 122 then (c - 97) + 1 else if 65 ≤ c ∧ c ≤ 90 then (c - 65) + 1 else 0
theorem sp_letterOf {Q : Int32 → Prop} {a : Int32} (h : Q (mLet a)) : wp_X9_letterOf_0 Q a := by
  have h21 : ¬ (97 ≤ a ∧ a ≤ 122) → wp_X9_letterOf_21 Q a := by
    intro hn
    rw [mLet, if_neg hn] at h
    unfold wp_X9_letterOf_21
    rw [sp_isGreat]
    by_cases h3 : 65 ≤ a ∧ a ≤ 90
    · rw [if_pos h3] at h
      simp only [bI, if_pos h3]
      exact ⟨fun h9 => absurd h9 (by decide), fun _ => h⟩
    · rw [if_neg h3] at h
      simp only [bI, if_neg h3]
      exact ⟨fun _ => h, fun h9 => absurd trivial h9⟩
  unfold wp_X9_letterOf_0
  refine ⟨fun h1 => h21 (fun h9 => absurd h1 (by rw [nltI]; exact h9.1)), fun h1 => ⟨fun h2 => h21 (fun h9 => absurd h2 (by rw [nltI]; exact h9.2)), fun h2 => ?_⟩⟩
  rw [nltI] at h1 h2
  rw [mLet, if_pos ⟨h1, h2⟩] at h
  exact h
theorem sp_isThing {Q : Int32 → Prop} {a : Int32} (h : Q (bI (0 ≤ a ∧ a < 40))) : wp_X9_isThing_0 Q a := by
  unfold wp_X9_isThing_0
  refine ⟨fun h1 => ?_, fun h1 => ⟨fun h2 => ?_, fun h2 => ?_⟩⟩
  · rwa [bI, if_neg (fun h9 => absurd h1 (by rw [nltI]; exact h9.1))] at h
  · rwa [bI, if_neg (fun h9 => absurd h2 (by rw [nleI]; exact h9.2))] at h
  · rw [nltI] at h1; rw [nleI] at h2
    rwa [bI, if_pos ⟨h1, h2⟩] at h
