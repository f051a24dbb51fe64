/-! pure: the score of a thing at a place, in the reference -/
abbrev mtp (M : mN) (x g p e i : Nat) : Prop := M 15 (8 * g + i) = e - p ∧ ∀ k, k < e - p → M 14 (96 * g + 12 * i + k) = lto (M 19 (600 * x + (p + k)))
abbrev scp (M : mN) (x w m g v : Nat) : Prop := snA (tbx M x) (wpA (M 20 x) (tbx M x) v) = snA (tbx M x) (wpA (M 20 x) (tbx M x) w) ∧ (v < w ∨ w + m ≤ v) ∧ nbr M x g (wpA (M 20 x) (tbx M x) v) (weA (M 20 x) (tbx M x) v)
/-- the words of the sentence around that are neighbours of the thing -/
def sco (M : mN) (x w m g : Nat) : Nat := fb_ct (fun v => decide (scp M x w m g v)) (fnd (M 20 x) (tbx M x))
theorem ct_one {p : Nat → Bool} : ∀ {n : Nat}, (∀ i j, i < n → j < n → p i = true → p j = true → i = j) → (∃ i, i < n ∧ p i = true) → fb_ct p n = 1
  | 0, _, h => by obtain ⟨i, hi, _⟩ := h; exact absurd hi (Nat.not_lt_zero i)
  | n + 1, h1, h => by
    rw [fb_ct_succ]
    by_cases hn : p n = true
    · rw [if_pos hn, fb_ct_zero.mpr]
      intro k hk
      apply Classical.byContradiction
      intro h9
      have : p k = true := by simpa using h9
      have := h1 k n (by omega) (by omega) this hn
      omega
    · rw [if_neg hn, Nat.add_zero]
      refine ct_one (fun i j hi hj => h1 i j (by omega) (by omega)) ?_
      obtain ⟨i, hi, hp⟩ := h
      refine ⟨i, ?_, hp⟩
      have : i ≠ n := fun e => hn (e ▸ hp)
      omega
section SC
variable {M : mN} {D : Nat → Int64} {mn : Int32} {S : mS} {G : mG}
theorem rt_score {Q : Int32 → mS → mG → Prop} (h : RI M D mn S G) {x w m g : Nat} (hx : x < 8) (hF : FD M x S) (hw : w < fnd (M 20 x) (tbx M x)) (hm : w + m ≤ fnd (M 20 x) (tbx M x)) (hg : g < 40) (hQ : Q (nI (sco M x w m g)) S G) : wp_X9_score_0 Q S G (nI x) (nI w) (nI (w + m)) (nI g) := by
  obtain ⟨b600, b256⟩ := h.2.2.2.2.2.2.2.2 x hx
  obtain ⟨n8, nsz, ndis⟩ := h.2.2.2.2.2.2.1 g hg
  have hfl := fnd_le (n := M 20 x) (b := tbx M x)
  obtain ⟨F0, F1⟩ := id hF
  obtain ⟨w1, w2, w3⟩ := F1 w hw
  obtain ⟨prd, hprd⟩ : ∃ prd : Nat → Bool, prd = fun v => decide (scp M x w m g v) := ⟨_, rfl⟩
  have hsn : ∀ v, v < fnd (M 20 x) (tbx M x) → snA (tbx M x) (wpA (M 20 x) (tbx M x) v) ≤ 600 := fun v hv => by
    have h1 := fb_ct_le (fun j => decide (isE4 (tbx M x j))) (wpA (M 20 x) (tbx M x) v)
    have h2 := wpA_le (n := M 20 x) (b := tbx M x) v
    unfold snA
    omega
  unfold wp_X9_score_0
  refine pk_loop (σ := Unit) (fun n9 v _ => wp_X9_score_6 Q n9 S G (nI x) (nI w) (nI (w + m)) (nI g) (nI (fb_ct prd v)) (nI v)) (fun _ _ => True) (fnd (M 20 x) (tbx M x)) 0 () (Nat.zero_le _) trivial ?_ ?_
  · intro n9 _ _
    unfold wp_X9_score_6
    refine bt1 ((i_le _ _ (hx := F0)).mpr (Nat.le_refl _)) ?_
    rw [hprd]; exact hQ
  · intro n9 v _ hv _ ih
    obtain ⟨v1, v2, v3⟩ := F1 v hv
    have hlt := fnd_lt.mp hv
    have hgt := weA_gt hlt
    have hel := weA_le (n := M 20 x) (b := tbx M x) v
    have done : ∀ c, c = fb_ct prd (v + 1) → wp_X9_score_192 Q (wp_X9_score_6 Q n9) S G (nI x) (nI w) (nI (w + m)) (nI g) (nI c) (nI v) := by
      intro c hc
      unfold wp_X9_score_192
      rintro _ rfl
      rw [nI_1, hc]
      exact ih () trivial
    have skip : ¬ scp M x w m g v → fb_ct prd v = fb_ct prd (v + 1) := by
      intro hn
      have : prd v = false := by rw [hprd]; exact decide_eq_false hn
      rw [fb_ct_succ, this]; rfl
    have go : snA (tbx M x) (wpA (M 20 x) (tbx M x) v) = snA (tbx M x) (wpA (M 20 x) (tbx M x) w) → (v < w ∨ w + m ≤ v) → wp_X9_score_46 Q (wp_X9_score_6 Q n9) S G (nI x) (nI w) (nI (w + m)) (nI g) (nI (fb_ct prd v)) (nI v) := by
      intro hs ho
      have hsz : weA (M 20 x) (tbx M x) v ≤ 600 := by omega
      obtain ⟨p, hp⟩ : ∃ p, p = wpA (M 20 x) (tbx M x) v := ⟨_, rfl⟩
      obtain ⟨e, he⟩ : ∃ e, e = weA (M 20 x) (tbx M x) v := ⟨_, rfl⟩
      obtain ⟨mt, hmt⟩ : ∃ mt : Nat → Bool, mt = fun i => decide (mtp M x g p e i) := ⟨_, rfl⟩
      have hscp : scp M x w m g v ↔ nbr M x g p e := by rw [hp, he]; exact ⟨fun o => o.2.2, fun o => ⟨hs, ho, o⟩⟩
      unfold wp_X9_score_46
      have e0 : nI (fb_ct prd v) = nI (fb_ct prd v + fb_ct mt 0) := rfl
      rw [e0]
      refine pk_loop (σ := Unit) (fun n8 i _ => wp_X9_score_49 Q (wp_X9_score_6 Q n9) n8 S G (nI x) (nI w) (nI (w + m)) (nI g) (nI (fb_ct prd v + fb_ct mt i)) (nI v) (nI i)) (fun _ _ => True) (M 16 g) 0 () (Nat.zero_le _) trivial ?_ ?_
      · intro n8 _ _
        unfold wp_X9_score_49
        rw [n_cl (show g < _ by omega)]
        refine ⟨n_in (by omega) (by decide), bt1 ((i_le _ _ (hx := h.g 16 g)).mpr (Nat.le_refl _)) (done _ ?_)⟩
        by_cases hb : nbr M x g p e
        · have hpv : prd v = true := by rw [hprd]; exact decide_eq_true (hscp.mpr hb)
          rw [fb_ct_succ, hpv, ct_one (p := mt)]
          · rfl
          · intro i j hi hj pi pj
            rw [hmt] at pi pj
            have pi := of_decide_eq_true pi
            have pj := of_decide_eq_true pj
            exact ndis i j hi hj (pi.1.trans pj.1.symm) (fun k hk => (pi.2 k (by have := pi.1; omega)).trans (pj.2 k (by have := pi.1; omega)).symm)
          · obtain ⟨i, hi, a1, a2⟩ := hb
            exact ⟨i, hi, by rw [hmt]; exact decide_eq_true ⟨a1, a2⟩⟩
        · rw [← skip (fun o => hb (hscp.mp o)), (fb_ct_zero (p := mt)).mpr (fun i hi => ?_)]
          · rfl
          rw [hmt]
          exact decide_eq_false (fun o => hb ⟨i, hi, o.1, o.2⟩)
      · intro n8 i _ hi _ kh
        obtain ⟨z1, z2, z3⟩ := nsz i hi
        have e8 : (8 : Int32) * nI g + nI i = nI (8 * g + i) := (congrArg (· + nI i) (pk_mul 8 g)).trans (nI_add _ _)
        have next : ∀ c, c = fb_ct mt (i + 1) → wp_X9_score_186 Q (wp_X9_score_6 Q n9) (wp_X9_score_49 Q (wp_X9_score_6 Q n9) n8) S G (nI x) (nI w) (nI (w + m)) (nI g) (nI (fb_ct prd v + c)) (nI v) (nI i) := by
          intro c hc
          unfold wp_X9_score_186
          rintro _ rfl
          rw [nI_1, hc]
          exact kh () trivial
        have last : ∀ a8 : Int32, (a8 = 1 ∧ mtp M x g p e i) ∨ (a8 = 0 ∧ ¬ mtp M x g p e i) → wp_X9_score_178 Q (wp_X9_score_6 Q n9) (wp_X9_score_49 Q (wp_X9_score_6 Q n9) n8) S G (nI x) (nI w) (nI (w + m)) (nI g) (nI (fb_ct prd v + fb_ct mt i)) (nI v) (nI i) a8 := by
          intro a8 ha
          unfold wp_X9_score_178
          rcases ha with ⟨ha, hb⟩ | ⟨ha, hb⟩
          · refine bf1 (by rw [ha]; decide) ?_
            rintro _ rfl
            rw [nI_1]
            refine next (fb_ct mt i + 1) ?_
            have : mt i = true := by rw [hmt]; exact decide_eq_true hb
            rw [fb_ct_succ, this]; rfl
          · refine bt1 ha (next (fb_ct mt i) ?_)
            have : mt i = false := by rw [hmt]; exact decide_eq_false hb
            rw [fb_ct_succ, this]; rfl
        have inner : ∀ a8 : Int32, (a8 = 1 ∧ M 15 (8 * g + i) = e - p) ∨ (a8 = 0 ∧ ¬ mtp M x g p e i) → wp_X9_score_97 Q (wp_X9_score_6 Q n9) (wp_X9_score_49 Q (wp_X9_score_6 Q n9) n8) S G (nI x) (nI w) (nI (w + m)) (nI g) (nI (fb_ct prd v + fb_ct mt i)) (nI v) (nI i) a8 := by
          intro a8 ha
          unfold wp_X9_score_97
          refine pk_loop (σ := Int32) (fun n7 k st => wp_X9_score_102 Q (wp_X9_score_6 Q n9) (wp_X9_score_49 Q (wp_X9_score_6 Q n9) n8) n7 S G (nI x) (nI w) (nI (w + m)) (nI g) (nI (fb_ct prd v + fb_ct mt i)) (nI v) (nI i) st (nI k)) (fun k st => (st = 1 ∧ M 15 (8 * g + i) = e - p ∧ ∀ j, j < k → M 14 (96 * g + 12 * i + j) = lto (M 19 (600 * x + (p + j)))) ∨ (st = 0 ∧ ¬ mtp M x g p e i)) (M 15 (8 * g + i)) 0 a8 (Nat.zero_le _) ?_ ?_ ?_
          · rcases ha with ⟨a1, a2⟩ | ha
            · exact Or.inl ⟨a1, a2, fun j hj => absurd hj (Nat.not_lt_zero j)⟩
            · exact Or.inr ha
          · intro n7 st hI
            unfold wp_X9_score_102
            rw [e8, n_cl (show 8 * g + i < _ by omega)]
            refine ⟨n_in (by omega) (by decide), bt1 ((i_le _ _ (hx := h.g 15 (8 * g + i))).mpr (Nat.le_refl _)) (last st ?_)⟩
            rcases hI with ⟨a1, a2, a3⟩ | hI
            · exact Or.inl ⟨a1, a2, fun k hk => a3 k (by omega)⟩
            · exact Or.inr hI
          · intro n7 k st hk hI jh
            unfold wp_X9_score_102
            rw [e8, n_cl (show 8 * g + i < _ by omega)]
            refine ⟨n_in (by omega) (by decide), bf1 (by rw [i_le (M 15 (8 * g + i)) k (hx := h.g 15 (8 * g + i))]; omega) ?_⟩
            rcases hI with ⟨a1, a2, a3⟩ | hI
            · have e96 : (96 : Int32) * nI g + (12 : Int32) * nI i + nI k = nI (96 * g + 12 * i + k) := by
                rw [show (96 : Int32) * nI g = nI (96 * g) from pk_mul 96 g, show (12 : Int32) * nI i = nI (12 * i) from pk_mul 12 i, nI_add, nI_add]
              rw [e96, n_cl (show v < _ by omega), v1, nI_add, n_cl (show 96 * g + 12 * i + k < _ by omega), h.g 14 (96 * g + 12 * i + k)]
              have hpk : wpA (M 20 x) (tbx M x) v + k < M 20 x := by omega
              have hb2 := b256 _ hpk
              have hlet := z3 k hk
              refine bf1 (by rw [a1]; decide) ⟨n_in (by omega) (by decide), n_in (by omega) (by decide), rt_at h.1 hx (by omega) ?_⟩
              have hl26 := lto_le (M 19 (600 * x + (wpA (M 20 x) (tbx M x) v + k)))
              refine x9_lto (by omega) (bn (i_eq _ _) (fun hq => ?_) (fun hq => ?_))
              · unfold wp_X9_score_170
                rintro _ rfl
                rw [nI_1]
                exact jh 1 (Or.inl ⟨rfl, a2, lt_s a3 (by rw [hp]; exact hq)⟩)
              · unfold wp_X9_score_170
                rintro _ rfl
                rw [nI_1]
                exact jh 0 (Or.inr ⟨rfl, fun o => hq (by have := o.2 k (by omega); rw [hp] at this; exact this)⟩)
            · exact bt1 hI.1 (last st (Or.inr hI))
        unfold wp_X9_score_49
        rw [n_cl (show g < _ by omega), e8, n_cl (show 8 * g + i < _ by omega), n_cl (show v < _ by omega), v1, v2, n_sub (by omega), h.g 15 (8 * g + i)]
        refine ⟨n_in (by omega) (by decide), bf1 (by rw [i_le (M 16 g) i (hx := h.g 16 g)]; omega) ⟨n_in (by omega) (by decide), n_in (by omega) (by decide), n_in (by omega) (by decide), bn (i_eq (M 15 (8 * g + i)) (weA (M 20 x) (tbx M x) v - wpA (M 20 x) (tbx M x) v)) (fun hq => inner 1 (Or.inl ⟨rfl, by rw [hp, he]; exact hq⟩)) (fun hq => inner 0 (Or.inr ⟨rfl, fun o => hq (by have := o.1; rw [hp, he] at this; exact this)⟩))⟩⟩
    have sv := hsn v hv
    have sw := hsn w hw
    unfold wp_X9_score_6
    rw [n_cl (show v < _ by omega), n_cl (show w < _ by omega), v3, w3]
    refine bf1 (by rw [i_le _ v (hx := F0)]; omega) ⟨n_in (by omega) (by decide), n_in (by omega) (by decide), bn (i_eq _ _) (fun hs => bq (i_lt v w) (fun h1 => go hs (Or.inl h1)) (fun h1 => bq (i_le (w + m) v) (fun h2 => go hs (Or.inr h2)) (fun h2 => done _ (skip (fun o => ?_))))) (fun hs => done _ (skip (fun o => hs o.1)))⟩
    rcases o.2.1 with o | o
    · exact h1 o
    · exact h2 o
end SC
