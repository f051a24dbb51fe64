/-! pure: the reference's term, its walk -/
section RT
variable {M : mN} {D : Nat → Int64} {mn : Int32} {S : mS} {G : mG}
abbrev okTm (M : mN) : Prop := 1 ≤ wwn 12 (M 2) (M 1 0) ∧ wwn 12 (M 2) (M 1 0) ≤ 3 ∧ M 4 0 < 60
theorem rt_term {Q : Int32 → mS → mG → Prop} (h : RI M D mn S G) (a b c : Int32) (yes : ∀ th k cl, th < 40 → k < 4 → cl < 64 → a = nI th → b = nI k → c = nI cl → okTm M → ∀ (M' : mN) (S' : mS), TA M M' th k cl → RI M' D mn S' G → S' 0 0 = 0 → Q (nI (M 4 0)) S' G) (nope : okN a 40 → okN b 4 → okN c 64 → ¬ okTm M → ∀ S' : mS, RI (ad2 M 1 0 0) D mn S' G → S' 0 0 = 0 → Q (-1) S' G) (no : ¬ (okN a 40 ∧ okN b 4 ∧ okN c 64) → ∀ S' : mS, RI M D mn S' G → S' 0 0 = 1 → Q 0 S' G) : wp_X9_term_0 Q S G a b c := by
  unfold wp_X9_term_0
  rintro _ rfl
  have h1 := h.thr 0
  have z1 : mst S 0 0 0 0 0 = 0 := ms_same _ _ _ _
  generalize mst S 0 0 0 = S1 at h1 z1 ⊢
  have bad : ¬ (okN a 40 ∧ okN b 4 ∧ okN c 64) → wp_X9_term_36 Q S1 G a b c := by
    intro hn
    unfold wp_X9_term_36 wp_X9_term_37
    exact rt_right0 z1 (by decide) (bt2 rfl (no hn _ (h1.thr 1) (ms_same _ _ _ _)))
  have e4 : (nI 4).toInt = 4 := rfl
  have e3 : (3 : Int32).toInt = 3 := rfl
  have e64 : (nI 64).toInt = 64 := rfl
  have e63 : (63 : Int32).toInt = 63 := rfl
  refine x9_thing (fun ok => bf1 (by decide) ⟨fun b1 => bad (fun o => o.2.1.1 b1), fun b1 => ⟨fun b2 => bad (fun o => ?_), fun b2 => ⟨fun c1 => bad (fun o => o.2.2.1 c1), fun c1 => ⟨fun c2 => bad (fun o => ?_), fun c2 => ?_⟩⟩⟩⟩) (fun ok => bt1 rfl (bad (fun o => ok o.1)))
  · have := o.2.1.2; rw [fa_lt] at b2 this; omega
  · have := o.2.2.2; rw [fa_lt] at c2 this; omega
  · have okb : okN b 4 := ⟨b1, by rw [fa_lt]; rw [fa_lt] at b2; omega⟩
    have okc : okN c 64 := ⟨c1, by rw [fa_lt]; rw [fa_lt] at c2; omega⟩
    have nop2 := nope ok okb okc
    obtain ⟨th, hth, rfl⟩ := okN_of ok (by decide)
    obtain ⟨k, hk, rfl⟩ := okN_of okb (by decide)
    obtain ⟨cl, hcl, rfl⟩ := okN_of okc (by decide)
    have yes := yes th k cl hth hk hcl rfl rfl rfl
    have hw := h1.2.2.2.1
    have hT := h1.2.2.2.2.2.1.1
    have hwl := wwn_le (most := 12) (w := M 2) (n := M 1 0)
    have h40 := hw.1
    have out0 : ∀ r, ¬ okTm M → wp_X9_term_79 Q S1 G (nI th) (nI k) (nI cl) r := by
      intro r hn
      unfold wp_X9_term_79 wp_X9_term_80
      refine bt1 rfl ?_
      unfold wp_X9_term_258
      rintro _ rfl
      exact bt1 rfl (nop2 hn _ (h1.put 1 0 0 (by decide) h1.2.2.2.w0) (by rw [ms_out _ _ _ _ _ (by decide)]; exact z1))
    unfold wp_X9_term_37
    refine rt_right1 z1 (bf2 (by decide) (rt_ww h1 12 (by decide) ?_))
    refine bq (i_lt (wwn 12 (M 2) (M 1 0)) 1) (fun q1 => out0 _ (by omega)) (fun q1 => bq (i_lt 3 (wwn 12 (M 2) (M 1 0))) (fun q2 => out0 _ (by omega)) (fun q2 => bq (i_le 60 (M 4 0) (hy := h1.g 4 0)) (fun q3 => out0 _ (by omega)) (fun q3 => ?_)))
    have okt : okTm M := ⟨by omega, by omega, by omega⟩
    have yes := yes okt
    -- the scan's end
    obtain ⟨wE, iE, hE⟩ : ∃ w i, wsc 12 (M 2) (M 1 0) = some (w, i) := by
      match h9 : wsc 12 (M 2) (M 1 0) with
      | .none => exfalso; unfold wwn at q1; rw [h9] at q1; simp at q1
      | some (w, i) => exact ⟨w, i, rfl⟩
    have hiE : 1 ≤ iE := by
      unfold wwn at q1
      rw [hE] at q1
      by_cases h2 : iE = 0
      · simp [h2] at q1
      · omega
    have hww : wwn 12 (M 2) (M 1 0) = wE + 1 := by
      unfold wwn
      rw [hE]
      simp [show ¬ iE = 0 by omega]
    have hwE : wE ≤ 2 := by omega
    unfold wp_X9_term_80
    refine bf1 (by decide) ?_
    have m3 : (3 : Int32) * nI (M 4 0) = nI (3 * M 4 0) := pk_mul 3 _
    have m36 : (36 : Int32) * nI (M 4 0) = nI (36 * M 4 0) := pk_mul 36 _
    refine pk_loop (σ := mN × mS) (fun n9 i s => wp_X9_term_96 Q n9 s.2 G (nI th) (nI k) (nI cl) (nI (wwn 12 (M 2) (M 1 0))) 1 0 0 (nI i)) (fun i s => rS s.1 s.2 ∧ s.2 5 0 = mn ∧ s.2 0 0 = 0 ∧ (∀ a, a ≠ 9 → s.1 a = M a) ∧ (∀ j, j < 3 * M 4 0 → s.1 9 j = M 9 j) ∧ ∀ j, j < i → s.1 9 (3 * M 4 0 + j) = 0) 3 0 (M, S1) (Nat.zero_le _) ⟨h1.1, h1.2.2.1, z1, fun _ _ => rfl, fun _ _ => rfl, fun j hj => absurd hj (Nat.not_lt_zero j)⟩ ?_ ?_
    rotate_left
    · rintro n9 i ⟨M1, S2⟩ hi ⟨s1, s2, s3, s4, s5, s6⟩ ih
      have s1 : rS M1 S2 := s1
      have s4 : ∀ a, a ≠ 9 → M1 a = M a := s4
      have f4 : S2 4 0 = nI (M 4 0) := by rw [s1 4 rfl, s4 4 (by decide)]
      unfold wp_X9_term_96
      dsimp only
      rw [f4, m3, nI_add, n_cl (show 3 * M 4 0 + i < _ by omega)]
      refine bf1 (by rw [i_le 3 i]; omega) ⟨n_in (by omega) (by decide), ?_⟩
      rintro _ rfl
      rintro _ rfl
      rw [nI_1]
      refine ih (ad2 M1 9 (3 * M 4 0 + i) 0, mst S2 9 (3 * M 4 0 + i) 0) ⟨s1.put 9 (3 * M 4 0 + i) 0, by dsimp only; rw [ms_out _ _ _ _ _ (by decide)]; exact s2, by dsimp only; rw [ms_out _ _ _ _ _ (by decide)]; exact s3, fun a ha => by dsimp only; rw [ad2_f ha]; exact s4 a ha, fun j hj => by dsimp only; rw [ad2_i (by omega)]; exact s5 j hj, fun j hj => ?_⟩
      dsimp only
      by_cases e : j = i
      · subst e; rw [ad2_s]
      · rw [ad2_i (by omega)]; exact s6 j (by omega)
    · rintro n9 ⟨M1, S2⟩ ⟨s1, s2, s3, s4, s5, s6⟩
      have s1 : rS M1 S2 := s1
      have s2 : S2 5 0 = mn := s2
      have s3 : S2 0 0 = 0 := s3
      have s4 : ∀ a, a ≠ 9 → M1 a = M a := s4
      have s5 : ∀ j, j < 3 * M 4 0 → M1 9 j = M 9 j := s5
      have s6 : ∀ j, j < 3 → M1 9 (3 * M 4 0 + j) = 0 := s6
      have j0 : TJ M M1 (M 4 0) 0 0 0 := by
        have a0 := s6 0 (by decide)
        have a1 := s6 1 (by decide)
        have a2 := s6 2 (by decide)
        rw [Nat.add_zero] at a0
        exact ⟨fun a _ h9 => s4 a h9, fun j _ => by rw [s4 8 (by decide)], s5, Or.inl ⟨rfl, a0, a1, a2, rfl⟩, ⟨by omega, by omega, by omega⟩, fun j hj => by omega, fun j hj => by omega, fun j hj => by omega⟩
      unfold wp_X9_term_96
      refine bt1 (by decide) ?_
      unfold wp_X9_term_123
      refine pk_loop (σ := mN × mS × Nat × Nat) (fun n9 i s => wp_X9_term_126 Q n9 s.2.1 G (nI th) (nI k) (nI cl) (nI (wwn 12 (M 2) (M 1 0))) 1 (nI s.2.2.1) (nI s.2.2.2) (nI i)) (fun i s => rS s.1 s.2.1 ∧ s.2.1 5 0 = mn ∧ s.2.1 0 0 = 0 ∧ TJ M s.1 (M 4 0) i s.2.2.1 s.2.2.2 ∧ wsc 12 (M 2) i = some s.2.2) (M 1 0) 0 (M1, S2, 0, 0) (Nat.zero_le _) ⟨s1, s2, s3, j0, rfl⟩ ?_ ?_
      · rintro n8 ⟨Mk, S3, w, i⟩ ⟨r1, r2, r3, r4, r5⟩
        have r5a : wsc 12 (M 2) (M 1 0) = some (w, i) := r5
        rw [hE] at r5a
        have r6 : wE = w ∧ iE = i := by cases r5a; exact ⟨rfl, rfl⟩
        have r4 : TJ M Mk (M 4 0) (M 1 0) wE iE := by rw [r6.1, r6.2]; exact r4
        have r1 : rS Mk S3 := r1
        have r2 : S3 5 0 = mn := r2
        have r3 : S3 0 0 = 0 := r3
        have f1 : S3 1 0 = nI (M 1 0) := by rw [r1 1 rfl, r4.1 1 (by decide) (by decide)]
        have f4 : S3 4 0 = nI (M 4 0) := by rw [r1 4 rfl, r4.1 4 (by decide) (by decide)]
        have hin : vp_in (nI (M 4 0)) 60 := n_in (by omega) (by decide)
        have c4 : (nI (M 4 0)).toNatClampNeg = M 4 0 := n_cl (by omega)
        unfold wp_X9_term_126
        refine bt1 ((i_le _ _ (hx := f1)).mpr (Nat.le_refl _)) ?_
        unfold wp_X9_term_207
        dsimp only
        rw [f4, c4]
        refine ⟨hin, ?_⟩
        rintro _ rfl
        rw [ms_out _ _ _ _ _ (show (4 : Nat) ≠ 10 by decide), f4, c4]
        refine ⟨hin, ?_⟩
        rintro _ rfl
        rw [ms_out _ _ _ _ _ (show (4 : Nat) ≠ 11 by decide), ms_out _ _ _ _ _ (show (4 : Nat) ≠ 10 by decide), f4, c4]
        refine ⟨hin, ?_⟩
        rintro _ rfl
        rw [ms_out _ _ _ _ _ (show (4 : Nat) ≠ 12 by decide), ms_out _ _ _ _ _ (show (4 : Nat) ≠ 11 by decide), ms_out _ _ _ _ _ (show (4 : Nat) ≠ 10 by decide), f4, c4]
        refine ⟨hin, ?_⟩
        rintro _ rfl
        rintro _ rfl
        rw [ms_out _ _ _ _ _ (show (4 : Nat) ≠ 13 by decide), ms_out _ _ _ _ _ (show (4 : Nat) ≠ 12 by decide), ms_out _ _ _ _ _ (show (4 : Nat) ≠ 11 by decide), ms_out _ _ _ _ _ (show (4 : Nat) ≠ 10 by decide), f4, nI_1]
        unfold wp_X9_term_258
        rintro _ rfl
        refine bf1 (by decide) ?_
        rw [ms_out _ _ _ _ _ (show (4 : Nat) ≠ 1 by decide), ms_same, n_sub1 (by omega), Nat.add_sub_cancel]
        have hrs := ((((((r1.put 10 (M 4 0) (wwn 12 (M 2) (M 1 0))).put 11 (M 4 0) th).put 12 (M 4 0) k).put 13 (M 4 0) cl).put 4 0 (M 4 0 + 1)).put 1 0 0)
        have hx : ∀ (u v : Nat) (X : mN), u ≠ 1 → u ≠ 4 → X u v = ad2 (ad2 X 4 0 (M 4 0 + 1)) 1 0 0 u v := fun u v X h1 h4 => by rw [ad2_f h1, ad2_f h4]
        have key := TJ_end (M' := ad2 (ad2 (ad2 (ad2 (ad2 (ad2 Mk 10 (M 4 0) (wwn 12 (M 2) (M 1 0))) 11 (M 4 0) th) 12 (M 4 0) k) 13 (M 4 0) cl) 4 0 (M 4 0 + 1)) 1 0 0) (th := th) (k := k) (cl := cl) h1.2.2.2 r4 hiE hww (by omega) hth (by omega) (by omega) ad2_s (by rw [ad2_f (by decide), ad2_s]) (by rw [ad2_f (by decide), ad2_f (by decide), ad2_f (by decide), ad2_f (by decide), ad2_f (by decide), ad2_f (by decide)]) (by rw [ad2_f (by decide), ad2_f (by decide), ad2_f (by decide), ad2_f (by decide), ad2_f (by decide), ad2_f (by decide)]) ?_ ?_ ?_ ?_ ?_
        · exact yes _ _ key.1 ⟨hrs, h1.2.1, by rw [ms_out _ _ _ _ _ (by decide), ms_out _ _ _ _ _ (by decide), ms_out _ _ _ _ _ (by decide), ms_out _ _ _ _ _ (by decide), ms_out _ _ _ _ _ (by decide), ms_out _ _ _ _ _ (by decide)]; exact r2, key.2⟩ (by rw [ms_out _ _ _ _ _ (by decide), ms_out _ _ _ _ _ (by decide), ms_out _ _ _ _ _ (by decide), ms_out _ _ _ _ _ (by decide), ms_out _ _ _ _ _ (by decide), ms_out _ _ _ _ _ (by decide)]; exact r3)
        · intro t
          rw [ad2_f (by decide), ad2_f (by decide), ad2_f (by decide), ad2_f (by decide), ad2_f (by decide)]
          by_cases e : t = M 4 0
          · rw [if_pos e, e, ad2_s, hww]
          · rw [if_neg e, ad2_i e, r4.1 10 (by decide) (by decide)]
        · intro t
          rw [ad2_f (by decide), ad2_f (by decide), ad2_f (by decide), ad2_f (by decide)]
          by_cases e : t = M 4 0
          · rw [if_pos e, e, ad2_s]
          · rw [if_neg e, ad2_i e, ad2_f (by decide), r4.1 11 (by decide) (by decide)]
        · intro t
          rw [ad2_f (by decide), ad2_f (by decide), ad2_f (by decide)]
          by_cases e : t = M 4 0
          · rw [if_pos e, e, ad2_s]
          · rw [if_neg e, ad2_i e, ad2_f (by decide), ad2_f (by decide), r4.1 12 (by decide) (by decide)]
        · intro t
          rw [ad2_f (by decide), ad2_f (by decide)]
          by_cases e : t = M 4 0
          · rw [if_pos e, e, ad2_s]
          · rw [if_neg e, ad2_i e, ad2_f (by decide), ad2_f (by decide), ad2_f (by decide), r4.1 13 (by decide) (by decide)]
        · intro a n1 n4 n8 n9 n10 n11 n12 n13
          rw [ad2_f n1, ad2_f n4, ad2_f n13, ad2_f n12, ad2_f n11, ad2_f n10, r4.1 a n8 n9]
      · rintro n8 x ⟨Mk, S3, w, i⟩ hx ⟨r1, r2, r3, r4, r5⟩ ih
        have r1 : rS Mk S3 := r1
        have r2 : S3 5 0 = mn := r2
        have r3 : S3 0 0 = 0 := r3
        have r4 : TJ M Mk (M 4 0) x w i := r4
        have r5 : wsc 12 (M 2) x = some (w, i) := r5
        have hle := wsc_le r5
        have h26 := hw.2 x
        have hw2 : w ≤ wE := wsc_mono r5 (j := M 1 0 - x) (by rw [show x + (M 1 0 - x) = M 1 0 by omega]; exact hE)
        have f1 : S3 1 0 = nI (M 1 0) := by rw [r1 1 rfl, r4.1 1 (by decide) (by decide)]
        have f4 : S3 4 0 = nI (M 4 0) := by rw [r1 4 rfl, r4.1 4 (by decide) (by decide)]
        have f2 : S3 2 x = nI (M 2 x) := by rw [r1 2 rfl, r4.1 2 (by decide) (by decide)]
        have hnx : wsc 12 (M 2) (x + 1) ≠ none := by
          intro h9
          have := wsc_none h9 (n := M 1 0) (by omega)
          omega
        have hnext : wsc 12 (M 2) (x + 1) = if 0 < M 2 x then (if 12 < i + 1 then none else some (w, i + 1)) else if i = 0 then none else some (w + 1, 0) := by
          rw [wsc, r5]
        have e36 : (36 : Int32) * nI (M 4 0) + (12 : Int32) * nI w + nI i = nI (36 * M 4 0 + 12 * w + i) := by
          rw [m36, show (12 : Int32) * nI w = nI (12 * w) from pk_mul 12 _, nI_add, nI_add]
        unfold wp_X9_term_126
        dsimp only
        rw [n_cl (show x < _ by omega), f2, f4, e36, n_cl (show 36 * M 4 0 + 12 * w + i < _ by omega), nI_1]
        refine bf1 (by rw [i_le (M 1 0) x (hx := f1)]; omega) ⟨n_in (by omega) (by decide), bn (i_eq (M 2 x) 0) (fun h0 => ?_) (fun h0 => ⟨n_in (by omega) (by decide), n_in ?_ (by decide), ?_⟩)⟩
        · rw [if_neg (by omega)] at hnext
          have hi0 : i ≠ 0 := fun e => by rw [if_pos e] at hnext; exact hnx hnext
          rw [if_neg hi0] at hnext
          have hw3 : w + 1 ≤ wE := wsc_mono hnext (j := M 1 0 - (x + 1)) (by rw [show x + 1 + (M 1 0 - (x + 1)) = M 1 0 by omega]; exact hE)
          rintro _ rfl
          unfold wp_X9_term_201
          rintro _ rfl
          rw [nI_1, nI_1]
          exact ih (Mk, S3, w + 1, 0) ⟨r1, r2, r3, TJ_blank r4 h0 (by omega) (by omega), hnext⟩
        · rw [if_pos (by omega)] at hnext
          have h12 : ¬ 12 < i + 1 := fun e => by rw [if_pos e] at hnext; exact hnx hnext
          omega
        · rw [if_pos (by omega)] at hnext
          have h12 : ¬ 12 < i + 1 := fun e => by rw [if_pos e] at hnext; exact hnx hnext
          rw [if_neg h12] at hnext
          rintro _ rfl
          rintro _ rfl
          rw [ms_out _ _ _ _ _ (show (4 : Nat) ≠ 8 by decide), f4, m3, nI_add, n_cl (show 3 * M 4 0 + w < _ by omega)]
          refine ⟨n_in (by omega) (by decide), ?_⟩
          rintro _ rfl
          unfold wp_X9_term_201
          rintro _ rfl
          rw [nI_1]
          exact ih (ad2 (ad2 Mk 8 (36 * M 4 0 + 12 * w + i) (M 2 x)) 9 (3 * M 4 0 + w) (i + 1), _, w, i + 1) ⟨(r1.put 8 (36 * M 4 0 + 12 * w + i) (M 2 x)).put 9 (3 * M 4 0 + w) (i + 1), by dsimp only; rw [ms_out _ _ _ _ _ (by decide), ms_out _ _ _ _ _ (by decide)]; exact r2, by dsimp only; rw [ms_out _ _ _ _ _ (by decide), ms_out _ _ _ _ _ (by decide)]; exact r3, TJ_letter r4 (by omega) (by omega), hnext⟩
end RT
