/-! pure: the score in the component -/
theorem n_decr {c : Nat} (h : 0 < c) : nI c + (-1 : Int32) = nI (c - 1) := by
  obtain ⟨d, rfl⟩ : ∃ d, c = d + 1 := ⟨c - 1, by omega⟩
  rw [← nI_1, Int32.add_assoc, show (1 : Int32) + (-1) = 0 by decide, Int32.add_zero, Nat.add_sub_cancel]
/-- of the sentence's words those outside of the form, and those in it -/
theorem tly_sco {M : mN} {x w m g : Nat} (hm : w + m ≤ fnd (M 20 x) (tbx M x)) (hsn : ∀ v, v < m → snA (tbx M x) (wpA (M 20 x) (tbx M x) (w + v)) = snA (tbx M x) (wpA (M 20 x) (tbx M x) w)) : tly M x (snA (tbx M x) (wpA (M 20 x) (tbx M x) w)) g = sco M x w m g + fb_ct (fun j => decide (nbr M x g (wpA (M 20 x) (tbx M x) (w + j)) (weA (M 20 x) (tbx M x) (w + j)))) m := by
  obtain ⟨inn, hin⟩ : ∃ inn : Nat → Bool, inn = fun v => decide ((w ≤ v ∧ v < w + m) ∧ nbr M x g (wpA (M 20 x) (tbx M x) v) (weA (M 20 x) (tbx M x) v)) := ⟨_, rfl⟩
  obtain ⟨r, hr⟩ : ∃ r, fnd (M 20 x) (tbx M x) = w + m + r := ⟨fnd (M 20 x) (tbx M x) - (w + m), by omega⟩
  have e1 : fb_ct inn (fnd (M 20 x) (tbx M x)) = fb_ct (fun j => decide (nbr M x g (wpA (M 20 x) (tbx M x) (w + j)) (weA (M 20 x) (tbx M x) (w + j)))) m := by
    rw [hr, fb_ct_split, fb_ct_split, (fb_ct_zero (p := inn) (n := w)).mpr, (fb_ct_zero (p := fun k => inn (w + m + k)) (n := r)).mpr, Nat.zero_add, Nat.add_zero]
    · refine fb_ct_cong (fun k hk => ?_)
      rw [hin]
      exact decide_eq_decide.mpr ⟨fun o => o.2, fun o => ⟨⟨by omega, by omega⟩, o⟩⟩
    · intro k hk
      rw [hin]
      exact decide_eq_false (fun o => by have := o.1; omega)
    · intro k hk
      rw [hin]
      exact decide_eq_false (fun o => by have := o.1; omega)
  have e2 : tly M x (snA (tbx M x) (wpA (M 20 x) (tbx M x) w)) g = fb_ct (fun v => decide (scp M x w m g v) || inn v) (fnd (M 20 x) (tbx M x)) := by
    unfold tly
    refine fb_ct_cong (fun v hv => ?_)
    rw [Bool.eq_iff_iff, Bool.or_eq_true, hin]
    unfold tlp
    rw [decide_eq_true_iff, decide_eq_true_iff, decide_eq_true_iff]
    constructor
    · rintro ⟨o1, o2⟩
      by_cases hv2 : w ≤ v ∧ v < w + m
      · exact Or.inr ⟨hv2, o2⟩
      · exact Or.inl ⟨o1, by omega, o2⟩
    · rintro (o | o)
      · exact ⟨o.1, o.2.2⟩
      · have := hsn (v - w) (by omega)
        rw [show w + (v - w) = v by omega] at this
        exact ⟨this, o.2⟩
  rw [e2, fb_ct_or, e1]
  · rfl
  · rintro v _ ⟨o1, o2⟩
    rw [hin] at o2
    have o1 := of_decide_eq_true o1
    have o2 := of_decide_eq_true o2
    omega
