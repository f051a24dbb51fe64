/-! pure: the score in the component -/
theorem n_decr {c : Nat} (h : 0 < c) : nI c + (-1 : Int32) = nI (c - 1) := by
  obtain ⟨d, rfl⟩ : ∃ d, c = d + 1 := ⟨c - 1, by omega⟩
  rw [← nI_1, Int32.add_assoc, show (1 : Int32) + (-1) = 0 by decide, Int32.add_zero, Nat.add_sub_cancel]
/-- of the sentence's words those outside of the form, and those in it -/
theorem tly_sco {M : mN} {x w m g : Nat} (hm : w + m ≤ fnd (M 20 x) (tbx M x)) (hsn : ∀ v, v < m → snA (tbx M x) (wpA (M 20 x) (tbx M x) (w + v)) = snA (tbx M x) (wpA (M 20 x) (tbx M x) w)) : tly M x (snA (tbx M x) (wpA (M 20 x) (tbx M x) w)) g = sco M x w m g + fb_ct (fun j => decide (nbr M x g (wpA (M 20 x) (tbx M x) (w + j)) (weA (M 20 x) (tbx M x) (w + j)))) m := by
  obtain ⟨inn, hin⟩ : ∃ inn : Nat → Bool, inn = fun v => decide ((w ≤ v ∧ v < w + m) ∧ nbr M x g (wpA (M 20 x) (tbx M x) v) (weA (M 20 x) (tbx M x) v)) := ⟨_, rfl⟩
  obtain ⟨r, hr⟩ : ∃ r, fnd (M 20 x) (tbx M x) = w + m + r := ⟨fnd (M 20 x) (tbx M x) - (w + m), by omega⟩
  have e1 : fb_ct inn (fnd (M 20 x) (tbx M x)) = fb_ct (fun j => decide (nbr M x g (wpA (M 20 x) (tbx M x) (w + j)) (weA (M 20 x) (tbx M x) (w + j)))) m := by
    rw [hr, fb_ct_split, fb_ct_split, (fb_ct_zero (p := inn) (n := w)).mpr, (fb_ct_zero (p := fun k => inn (w + m + k)) (n := r)).mpr, Nat.zero_add, Nat.add_zero]
    · refine fb_ct_cong (fun k hk => ?_)
      rw [hin]
      exact decide_eq_decide.mpr ⟨fun o => o.2, fun o => ⟨⟨by omega, by omega⟩, o⟩⟩
    · intro k hk
      rw [hin]
      exact decide_eq_false (fun o => by have := o.1; omega)
    · intro k hk
      rw [hin]
      exact decide_eq_false (fun o => by have := o.1; omega)
  have e2 : tly M x (snA (tbx M x) (wpA (M 20 x) (tbx M x) w)) g = fb_ct (fun v => decide (scp M x w m g v) || inn v) (fnd (M 20 x) (tbx M x)) := by
    unfold tly
    refine fb_ct_cong (fun v hv => ?_)
    rw [Bool.eq_iff_iff, Bool.or_eq_true, hin]
    unfold tlp
    rw [decide_eq_true_iff, decide_eq_true_iff, decide_eq_true_iff]
    constructor
    · rintro ⟨o1, o2⟩
      by_cases hv2 : w ≤ v ∧ v < w + m
      · exact Or.inr ⟨hv2, o2⟩
      · exact Or.inl ⟨o1, by omega, o2⟩
    · rintro (o | o)
      · exact ⟨o.1, o.2.2⟩
      · have := hsn (v - w) (by omega)
        rw [show w + (v - w) = v by omega] at this
        exact ⟨this, o.2⟩
  rw [e2, fb_ct_or, e1]
  · rfl
  · rintro v _ ⟨o1, o2⟩
    rw [hin] at o2
    have o1 := of_decide_eq_true o1
    have o2 := of_decide_eq_true o2
    omega
section CSC
variable {dA : Nat → ClassId} {zz : Nat → Nat} {M : mN} {D : Nat → Int64} {L : List Nat} {f : pF}
variable {ad cp : Nat → Nat → Nat} {V : cV} {Z : cZ}
theorem c_score {Q : Int32 → List Nat → pF → Prop} (h : CH dA zz ad cp V Z L f) (hM : MI M D) {x w m g : Nat} (hx : x < 8) (hT : WT M x V Z) (hm0 : 0 < m) (hm : w + m ≤ fnd (M 20 x) (tbx M x)) (hsn : ∀ v, v < m → snA (tbx M x) (wpA (M 20 x) (tbx M x) (w + v)) = snA (tbx M x) (wpA (M 20 x) (tbx M x) w)) (hg : g < 40) (hQ : ∀ (V' : cV) (f' : pF), CH dA zz ad cp V' Z L f' → (∀ c j, c ≠ 10 → c ≠ 11 → V' c j = V c j) → WT M x V' Z → Q (nI (sco M x w m g)) L f') : wp_X7_scoreOf_0 dA zz Q L f (ad 10 0) (nI g) (nI w) (nI (w + m - 1)) := by
  have b600 := (hM.2.2.2.2.2 x hx).1
  have hfl := fnd_le (n := M 20 x) (b := tbx M x)
  unfold wp_X7_scoreOf_0
  refine bf1 (n_lt0 (by omega)) (bf1 (by rw [i_le 40 g]; omega) (bf1 (n_lt0 (by omega)) (cgI (c := 10) h rfl rfl rfl (bt1 ((i_lt (w + m - 1) (fnd (M 20 x) (tbx M x)) (hy := hT.1)).mpr (by omega)) ⟨cO (c := 10) h rfl rfl, ?_⟩))))
  refine c_tally h hM hx hT (by omega) (fun V1 f1 h1 fr1 T1 y1 => ?_)
  refine cgR (c := 10) h1 rfl rfl rfl (caI (c := 11) (i := 3) (n := 40) h1 (lv_11 (by decide)) rfl g rfl hg (by decide) ?_)
  rw [y1 g hg, tly_sco hm hsn]
  obtain ⟨inn, hin⟩ : ∃ inn : Nat → Bool, inn = fun j => decide (nbr M x g (wpA (M 20 x) (tbx M x) (w + j)) (weA (M 20 x) (tbx M x) (w + j))) := ⟨_, rfl⟩
  rw [← hin]
  have hq := hQ V1 f1 h1 fr1 T1
  have hsc := sco_le (M := M) (x := x) (w := w) (m := m) (g := g)
  generalize sco M x w m g = sc at hq hsc
  have hml := fb_ct_le inn m
  have key : ∃ n9, wp_X7_scoreOf_40 dA zz Q n9 L f1 (ad 10 0) (nI g) (nI (w + m - 1)) (nI (sc + fb_ct inn m - fb_ct inn 0)) (nI (w + 0)) := by
    refine pk_loop (σ := Unit) (fun n9 j _ => wp_X7_scoreOf_40 dA zz Q n9 L f1 (ad 10 0) (nI g) (nI (w + m - 1)) (nI (sc + fb_ct inn m - fb_ct inn j)) (nI (w + j))) (fun _ _ => True) m 0 () (Nat.zero_le _) trivial ?_ ?_
    · intro n9 _ _
      unfold wp_X7_scoreOf_40
      refine bt1 ((i_lt (w + m - 1) (w + m)).mpr (by omega)) ?_
      rw [Nat.add_sub_cancel]
      exact hq
    · intro n9 j _ hj _ ih
      have hmo := fb_ct_mono inn (show j + 1 ≤ m by omega)
      have next : ∀ c, c = sc + fb_ct inn m - fb_ct inn (j + 1) → wp_X7_scoreOf_65 dA zz Q (wp_X7_scoreOf_40 dA zz Q n9) L f1 (ad 10 0) (nI g) (nI (w + m - 1)) (nI c) (nI (w + j)) := by
        intro c hc
        unfold wp_X7_scoreOf_65
        rintro _ rfl
        rw [nI_1, hc]
        exact ih () trivial
      have hbit : tb (Z 12 (w + j)) g = inn j := by
        rw [T1.2.2.1 (w + j) (by omega) g, hin]
        exact decide_eq_decide.mpr ⟨fun o => o.2, fun o => ⟨hg, o⟩⟩
      have hsu := fb_ct_succ inn j
      unfold wp_X7_scoreOf_40
      refine bf1 (by rw [i_lt (w + m - 1) (w + j)]; omega) (cgR (c := 10) h1 rfl rfl rfl (caJ (c := 12) (n := 300) h1 rfl rfl (w + j) rfl (by omega) (by decide) (bq (tb_c0 (by omega)) (fun hb => next _ ?_) (fun hb => ?_))))
      · rw [hbit] at hb
        rw [hb] at hsu
        rw [hsu]; rfl
      · rw [hbit] at hb
        have hb : inn j = true := by simpa using hb
        rw [hb, if_pos rfl] at hsu
        rintro _ rfl
        rw [n_decr (by omega)]
        exact next _ (by omega)
  exact key
end CSC
