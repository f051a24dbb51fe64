/-! pure: forms at a word, in the reference -/
section RW
variable {M : mN} {D : Nat → Int64} {mn : Int32} {S : mS} {G : mG}
theorem rt_tog {Q : Int32 → mS → mG → Prop} (h : RI M D mn S G) {x w : Nat} (hx : x < 8) (hF : FD M x S) (hw : w < fnd (M 20 x) (tbx M x)) (yes : tog (M 20 x) (tbx M x) w → Q 1 S G) (no : ¬ tog (M 20 x) (tbx M x) w → Q 0 S G) : wp_X9_isTogether_0 Q S G (nI x) (nI w) := by
  obtain ⟨b600, b256⟩ := h.2.2.2.2.2.2.2.2 x hx
  obtain ⟨F0, F1⟩ := hF
  have hfl := fnd_le (n := M 20 x) (b := tbx M x)
  obtain ⟨w1, w2, w3⟩ := F1 w hw
  have hwl := weA_le (n := M 20 x) (b := tbx M x) w
  unfold wp_X9_isTogether_0 wp_X9_isTogether_61
  rw [nI_1, n_cl (show w < _ by omega), n_cl (show w + 1 < _ by omega), w2]
  refine bq (i_le _ (w + 1) (hx := F0)) (fun h1 => no (fun o => by have := o.1; omega)) (fun h1 => ⟨n_in (by omega) (by decide), n_in (by omega) (by decide), ?_⟩)
  obtain ⟨v1, v2, v3⟩ := F1 (w + 1) (by omega)
  have hv := fnd_lt.mp (show w + 1 < fnd (M 20 x) (tbx M x) by omega)
  rw [v1, nI_1]
  refine bn (i_eq _ _) (fun he => ⟨n_in (by omega) (by decide), ?_⟩) (fun he => no (fun o => he o.2.1))
  have hlt : weA (M 20 x) (tbx M x) w < M 20 x := by omega
  have hb := b256 _ hlt
  refine rt_at h.1 hx (by omega) ?_
  refine bq (i_eq (M 19 (600 * x + weA (M 20 x) (tbx M x) w)) 32) (fun e1 => yes ⟨by omega, he, Or.inl e1⟩) (fun e1 => ⟨n_in (by omega) (by decide), ?_⟩)
  rw [w2]
  refine rt_at h.1 hx (by omega) ?_
  refine bn (i_eq (M 19 (600 * x + weA (M 20 x) (tbx M x) w)) 10) (fun e2 => yes ⟨by omega, he, Or.inr e2⟩) (fun e2 => no (fun o => ?_))
  rcases o.2.2 with o | o
  · exact e1 o
  · exact e2 o
abbrev sOf (M : mN) (t : Nat) : Nat → Nat := fun u => M 9 (3 * t + u)
abbrev wdOf (M : mN) (t : Nat) : Nat → Nat → Nat := fun u k => M 8 (36 * t + 12 * u + k)
set_option maxHeartbeats 1000000 in
theorem rt_stands {Q : Int32 → mS → mG → Prop} (h : RI M D mn S G) {x w t : Nat} (hx : x < 8) (hF : FD M x S) (hw : w < fnd (M 20 x) (tbx M x)) (ht : t < M 4 0) {a4 : Int32} {mE : Nat} {en : Nat → Nat} (hE : (a4 = -1 ∧ mE = 0) ∨ ∃ e, e < M 3 0 ∧ a4 = nI e ∧ mE = M 7 e ∧ ∀ k, en k = M 6 (4 * e + k)) (yes : CHc (M 20 x) (tbx M x) (sOf M t) (wdOf M t) mE en (M 10 t) 0 w → Q 1 S G) (no : ¬ CHc (M 20 x) (tbx M x) (sOf M t) (wdOf M t) mE en (M 10 t) 0 w → Q 0 S G) : wp_X9_stands_0 Q S G (nI x) (nI w) (nI t) a4 := by
  obtain ⟨b600, b256⟩ := h.2.2.2.2.2.2.2.2 x hx
  have h60 := h.2.2.2.2.2.1.1
  have h6 := h.2.2.2.2.1.1
  obtain ⟨q1, q2, q3, q4, _⟩ := h.2.2.2.2.2.1.2 t ht
  have hfl := fnd_le (n := M 20 x) (b := tbx M x)
  obtain ⟨F0, F1⟩ := id hF
  have ct : (nI t).toNatClampNeg = t := n_cl (by omega)
  have t60 : vp_in (nI t) 60 := n_in (by omega) (by decide)
  have hmE : mE ≤ 4 := by
    rcases hE with ⟨_, e⟩ | ⟨e, he, _, e2, _⟩
    · omega
    · rw [e2]; exact (h.2.2.2.2.1.2 e he).2.1
  generalize hn : M 20 x = n at *
  generalize hb : tbx M x = b at *
  have hbk : ∀ k, M 19 (600 * x + k) = b k := fun k => by rw [← hb]
  unfold wp_X9_stands_0
  refine pk_loop (σ := Unit) (fun n9 u _ => wp_X9_stands_3 Q n9 S G (nI x) (nI w) (nI t) a4 (nI u)) (fun u _ => (CHc n b (sOf M t) (wdOf M t) mE en (M 10 t) 0 w ↔ (if u = 0 then CHc n b (sOf M t) (wdOf M t) mE en (M 10 t) 0 w else if u < M 10 t then tog n b (w + (u - 1)) ∧ CHc n b (sOf M t) (wdOf M t) mE en (M 10 t - u) u (w + u) else True)) ∧ (0 < u → w + (u - 1) < fnd n b)) (M 10 t) 0 () (Nat.zero_le _) ⟨by rw [if_pos rfl], fun h9 => absurd h9 (Nat.lt_irrefl 0)⟩ ?_ ?_
  · intro n9 _ hI
    unfold wp_X9_stands_3
    rw [ct]
    refine ⟨t60, bt1 ((i_le _ _ (hx := h.g 10 t)).mpr (Nat.le_refl _)) (yes (hI.1.mpr ?_))⟩
    rw [if_neg (by omega), if_neg (by omega)]; trivial
  · intro n9 u _ hu hI ih
    obtain ⟨z1, z2, z3⟩ := q3 u hu
    -- one word, at text's word w + u
    have word : w + u < fnd n b → (CHc n b (sOf M t) (wdOf M t) mE en (M 10 t) 0 w ↔ CHc n b (sOf M t) (wdOf M t) mE en (M 10 t - u) u (w + u)) → wp_X9_stands_35 Q (wp_X9_stands_3 Q n9) S G (nI x) (nI w) (nI t) a4 (nI u) := by
      intro hwu hiff
      obtain ⟨v1, v2, v3⟩ := F1 (w + u) hwu
      have hlt := fnd_lt.mp hwu
      have hgt := weA_gt hlt
      have hel := weA_le (n := n) (b := b) (w + u)
      obtain ⟨r, hr⟩ : ∃ r, M 10 t - u = r + 1 := ⟨M 10 t - u - 1, by omega⟩
      rw [hr] at hiff
      have hun : CHc n b (sOf M t) (wdOf M t) mE en (r + 1) u (w + u) = ((weA n b (w + u) - wpA n b (w + u) = M 9 (3 * t + u) + (if r = 0 then mE else 0) ∧ ∀ k, k < M 9 (3 * t + u) + (if r = 0 then mE else 0) → lto (b (wpA n b (w + u) + k)) = if k < M 9 (3 * t + u) then M 8 (36 * t + 12 * u + k) else en (k - M 9 (3 * t + u))) ∧ (r = 0 ∨ tog n b (w + u) ∧ CHc n b (sOf M t) (wdOf M t) mE en r (u + 1) (w + u + 1))) := rfl
      rw [hun] at hiff
      obtain ⟨all, hall⟩ : ∃ all, all = M 9 (3 * t + u) + (if r = 0 then mE else 0) := ⟨_, rfl⟩
      rw [← hall] at hiff
      have hall2 : all ≤ M 9 (3 * t + u) + mE := by rw [hall]; split <;> omega
      have hall3 : M 9 (3 * t + u) ≤ all := by rw [hall]; omega
      have e3 : (3 : Int32) * nI t + nI u = nI (3 * t + u) := (congrArg (· + nI u) (pk_mul 3 t)).trans (nI_add _ _)
      have ewu : nI w + nI u = nI (w + u) := nI_add w u
      have go94 : wp_X9_stands_94 Q (wp_X9_stands_3 Q n9) S G (nI x) (nI w) (nI t) a4 (nI u) (nI (M 9 (3 * t + u))) (nI all) := by
        unfold wp_X9_stands_94
        rw [ewu, n_cl (show w + u < _ by omega), v1, v2, n_sub (by omega)]
        refine ⟨n_in (by omega) (by decide), n_in (by omega) (by decide), bq (i_eq _ all) (fun he => ?_) (fun he => no (fun o => he (hiff.mp o).1.1))⟩
        refine pk_loop (σ := Unit) (fun n8 k _ => wp_X9_stands_125 Q (wp_X9_stands_3 Q n9) n8 S G (nI x) (nI w) (nI t) a4 (nI u) (nI (M 9 (3 * t + u))) (nI all) (nI k)) (fun k _ => ∀ j, j < k → lto (b (wpA n b (w + u) + j)) = if j < M 9 (3 * t + u) then M 8 (36 * t + 12 * u + j) else en (j - M 9 (3 * t + u))) all 0 () (Nat.zero_le _) (fun j hj => absurd hj (Nat.not_lt_zero j)) ?_ ?_
        · intro n8 _ hK
          unfold wp_X9_stands_125
          refine bt1 ((i_le all all).mpr (Nat.le_refl _)) ?_
          unfold wp_X9_stands_210
          rintro _ rfl
          rw [nI_1]
          refine ih () ⟨hiff.trans ?_, fun _ => hwu⟩
          rw [if_neg (by omega)]
          by_cases hlast : u + 1 < M 10 t
          · rw [if_pos hlast, Nat.add_sub_cancel, show M 10 t - (u + 1) = r by omega]
            constructor
            · rintro ⟨_, hr0 | hr0⟩
              · omega
              · exact hr0
            · intro hr0; exact ⟨⟨he, hK⟩, Or.inr hr0⟩
          · rw [if_neg hlast]
            exact ⟨fun _ => trivial, fun _ => ⟨⟨he, hK⟩, Or.inl (by omega)⟩⟩
        · intro n8 k _ hk hK kh
          have cmp : ∀ due : Nat, due ≤ 26 → due = (if k < M 9 (3 * t + u) then M 8 (36 * t + 12 * u + k) else en (k - M 9 (3 * t + u))) → wp_X9_stands_175 Q (wp_X9_stands_3 Q n9) (wp_X9_stands_125 Q (wp_X9_stands_3 Q n9) n8) S G (nI x) (nI w) (nI t) a4 (nI u) (nI (M 9 (3 * t + u))) (nI all) (nI k) (nI due) := by
            intro due hd26 hdue
            unfold wp_X9_stands_175
            rw [ewu, n_cl (show w + u < _ by omega), v1, nI_add]
            refine ⟨n_in (by omega) (by decide), rt_at h.1 hx (by omega) ?_⟩
            rw [hbk]
            have hb2 : b (wpA n b (w + u) + k) < 256 := by rw [← hbk]; exact b256 _ (by omega)
            have hl26 := lto_le (b (wpA n b (w + u) + k))
            refine x9_lto (by omega) (bq (i_eq _ due) (fun he2 => ?_) (fun he2 => no (fun o => he2 ?_)))
            · rintro _ rfl
              rw [nI_1]
              exact kh () (lt_s hK (by rw [← hdue]; exact he2))
            · rw [hdue]; exact (hiff.mp o).1.2 k hk
          unfold wp_X9_stands_125
          refine bf1 (by rw [i_le all k]; omega) (bq (i_le (M 9 (3 * t + u)) k) (fun hs => ?_) (fun hs => ?_))
          · have hr0 : r = 0 := by
              apply Classical.byContradiction
              intro h9
              rw [if_neg h9] at hall
              omega
            rcases hE with ⟨_, e0⟩ | ⟨e, he1, he2, he3, he4⟩
            · rw [if_pos hr0, e0] at hall; omega
            · have hk2 : k - M 9 (3 * t + u) < M 7 e := by rw [if_pos hr0] at hall; omega
              have hlet := (h.2.2.2.2.1.2 e he1).2.2 _ hk2
              have hm7 := (h.2.2.2.2.1.2 e he1).2.1
              rw [he2, show (4 : Int32) * nI e = nI (4 * e) from pk_mul 4 e, nI_add, n_sub (by omega), n_cl (show 4 * e + k - M 9 (3 * t + u) < _ by omega), h.g 6 (4 * e + k - M 9 (3 * t + u)), show 4 * e + k - M 9 (3 * t + u) = 4 * e + (k - M 9 (3 * t + u)) by omega]
              refine ⟨n_in (by omega) (by decide), ?_⟩
              rw [← he2]
              exact cmp _ hlet.2 (by rw [if_neg (by omega), he4])
          · have hlet := z3 k (by omega)
            rw [show (36 : Int32) * nI t = nI (36 * t) from pk_mul 36 t, show (12 : Int32) * nI u = nI (12 * u) from pk_mul 12 u, nI_add, nI_add, n_cl (show 36 * t + 12 * u + k < _ by omega), h.g 8 (36 * t + 12 * u + k)]
            exact ⟨n_in (by omega) (by decide), cmp _ hlet.2 (by rw [if_pos (by omega)])⟩
      unfold wp_X9_stands_35
      rw [e3, n_cl (show 3 * t + u < _ by omega), ct, h.g 9 (3 * t + u), h.g 10 t]
      refine ⟨n_in (by omega) (by decide), ?_⟩
      rintro _ rfl
      rw [n_sub1 (by omega)]
      refine ⟨t60, bn (i_eq u (M 10 t - 1)) (fun hl => ?_) (fun hl => ?_)⟩
      · rcases hE with ⟨e1, e2⟩ | ⟨e, he1, he2, he3, he4⟩
        · refine bt1 e1 ?_
          unfold wp_X9_stands_71 wp_X9_stands_72
          have : all = M 9 (3 * t + u) := by rw [hall, e2]; split <;> rfl
          rw [this] at go94
          exact bt1 rfl go94
        · refine bf1 (by rw [he2]; exact n_m1 (by omega)) ?_
          unfold wp_X9_stands_72
          have : all = M 9 (3 * t + u) + M 7 e := by rw [hall, if_pos (by omega), he3]
          rw [this, ← nI_add, ← h.g 7 e] at go94
          rw [he2] at go94 ⊢
          refine bf1 (by decide) ⟨n_in (by omega) (by decide), ?_⟩
          rw [n_cl (show e < _ by omega)]
          exact go94
      · unfold wp_X9_stands_71 wp_X9_stands_72
        have : all = M 9 (3 * t + u) := by rw [hall, if_neg (by omega)]; rfl
        rw [this] at go94
        exact bt1 rfl go94
    unfold wp_X9_stands_3
    rw [ct]
    refine ⟨t60, bf1 (by rw [i_le (M 10 t) u (hx := h.g 10 t)]; omega) (bq (i_le u 0) (fun h0 => ?_) (fun h0 => ?_))⟩
    · have e : u = 0 := by omega
      subst e
      exact word hw Iff.rfl
    · have hI1 := hI.1
      rw [if_neg (by omega), if_pos hu] at hI1
      have hpre := hI.2 (by omega)
      rw [nI_add, n_sub1 (by omega), show w + u - 1 = w + (u - 1) by omega]
      have htog := rt_tog (Q := fun r_27 S_27 G_27 => (¬ r_27 = 0 → wp_X9_stands_35 Q (wp_X9_stands_3 Q n9) S_27 G_27 (nI x) (nI w) (nI t) a4 (nI u)) ∧ (r_27 = 0 → Q 0 S_27 G_27)) (w := w + (u - 1)) h hx hF (by rw [hn, hb]; exact hpre)
      rw [hn, hb] at htog
      refine htog (fun tg => bf2 (by decide) ?_) (fun tg => bt2 rfl (no (fun o => tg (hI1.mp o).1)))
      refine word ?_ (hI1.trans ⟨fun o => o.2, fun o => ⟨tg, o⟩⟩)
      have := tg.1
      rw [show w + (u - 1) + 1 = w + u by omega] at this
      exact this
end RW
