/-! pure: mend in the reference -/
/-- where word w of a term's row begins -/
def off (M : mN) (g : Nat) : Nat → Nat
  | 0 => 0
  | w + 1 => off M g w + M 9 (3 * g + w) + 1
section OFF
variable {M : mN} {g : Nat}
theorem rowB_w (hT : tOK M g) {w k : Nat} (hw : w < M 10 g) (hk : k < M 9 (3 * g + w)) : rowB M g (off M g w + k) = 96 + M 8 (36 * g + 12 * w + k) := by
  obtain ⟨q1, q2, q3, q4, _⟩ := hT
  have hw3 : w = 0 ∨ w = 1 ∨ w = 2 := by omega
  rcases hw3 with e | e | e
  · subst e
    have o : off M g 0 = 0 := rfl
    rw [o, Nat.zero_add]
    unfold rowB
    rw [if_pos (by simpa using hk)]
    rfl
  · subst e
    have o : off M g 1 = M 9 (3 * g) + 1 := by show 0 + M 9 (3 * g) + 1 = _; omega
    rw [o]
    unfold rowB
    rw [if_neg (by omega), if_neg (by omega), if_pos (by omega)]
    congr 2; omega
  · subst e
    have o : off M g 2 = M 9 (3 * g) + 1 + M 9 (3 * g + 1) + 1 := by show 0 + M 9 (3 * g) + 1 + M 9 (3 * g + 1) + 1 = _; omega
    rw [o]
    unfold rowB
    rw [if_neg (by omega), if_neg (by omega), if_neg (by omega), if_neg (by omega)]
    congr 2; omega
theorem rowB_b (hT : tOK M g) {w : Nat} (hw : w + 1 < M 10 g) : rowB M g (off M g w + M 9 (3 * g + w)) = 32 := by
  obtain ⟨q1, q2, q3, q4, _⟩ := hT
  have hw3 : w = 0 ∨ w = 1 := by omega
  rcases hw3 with e | e
  · subst e
    have o : off M g 0 = 0 := rfl
    rw [o, Nat.zero_add]
    unfold rowB
    rw [if_neg (by rw [Nat.add_zero]; omega), if_pos (by rw [Nat.add_zero])]
  · subst e
    have o : off M g 1 = M 9 (3 * g) + 1 := by show 0 + M 9 (3 * g) + 1 = _; omega
    rw [o]
    unfold rowB
    rw [if_neg (by omega), if_neg (by omega), if_neg (by omega), if_pos (by omega)]
theorem rowN_off (hT : tOK M g) {w : Nat} (hw : w + 1 = M 10 g) : rowN M g = off M g w + M 9 (3 * g + w) := by
  obtain ⟨q1, q2, q3, q4, _⟩ := hT
  have hw3 : w = 0 ∨ w = 1 ∨ w = 2 := by omega
  unfold rowN
  rcases hw3 with e | e | e
  · subst e
    have o : off M g 0 = 0 := rfl
    have z1 := q4 1 (by decide) (by omega)
    have z2 := q4 2 (by decide) (by omega)
    have e9 : M 9 (3 * g + 0) = M 9 (3 * g) := rfl
    rw [o]
    omega
  · subst e
    have o : off M g 1 = M 9 (3 * g) + 1 := by show 0 + M 9 (3 * g) + 1 = _; omega
    have z2 := q4 2 (by decide) (by omega)
    rw [o]
    omega
  · subst e
    have o : off M g 2 = M 9 (3 * g) + 1 + M 9 (3 * g + 1) + 1 := by show 0 + M 9 (3 * g) + 1 + M 9 (3 * g + 1) + 1 = _; omega
    rw [o]
    omega
theorem off_le (hT : tOK M g) {w : Nat} (hw : w < M 10 g) : off M g w + M 9 (3 * g + w) ≤ rowN M g ∧ (w + 1 < M 10 g → off M g (w + 1) ≤ rowN M g) := by
  have hq := hT
  obtain ⟨q1, q2, q3, q4, _⟩ := hT
  have o1 : off M g 1 = off M g 0 + M 9 (3 * g + 0) + 1 := rfl
  have o2 : off M g 2 = off M g 1 + M 9 (3 * g + 1) + 1 := rfl
  have o3 : off M g 3 = off M g 2 + M 9 (3 * g + 2) + 1 := rfl
  have hr := rowN_off hq (w := M 10 g - 1) (by omega)
  have hw3 : w = 0 ∨ w = 1 ∨ w = 2 := by omega
  have h10 : M 10 g = 1 ∨ M 10 g = 2 ∨ M 10 g = 3 := by omega
  rcases h10 with e | e | e <;> rw [e] at hr <;> rcases hw3 with e3 | e3 | e3 <;> subst e3 <;> first | (exfalso; omega) | (simp only [Nat.reduceAdd, Nat.reduceSub, Nat.add_zero] at *; omega)
end OFF
section GBB
theorem gB_l {r c : Nat} {b : Nat → Nat} {k : Nat} (h : b k = 96 + c) (h1 : 1 ≤ c) (h2 : c ≤ 26) : gB r b k = if k < r then 64 + c else 96 + c := by
  unfold gB
  rw [h]
  by_cases e : k < r
  · rw [if_pos ⟨e, by omega, by omega⟩, if_pos e]; omega
  · rw [if_neg (fun o => e o.1), if_neg e]
theorem gB_b {r : Nat} {b : Nat → Nat} {k : Nat} (h : b k = 32) : gB r b k = 32 := by
  unfold gB
  rw [h, if_neg (by omega)]
theorem gB_lt {r : Nat} {b : Nat → Nat} {k : Nat} (h : b k < 256) : gB r b k < 256 := by
  unfold gB
  split <;> omega
end GBB
section RMD
variable {M : mN} {D : Nat → Int64} {mn : Int32} {G : mG}
theorem eL_le (hM : MI M D) {e : Nat} (he : e ≤ M 3 0) : eL M e ≤ 4 := by
  unfold eL
  by_cases h0 : e = 0
  · rw [if_pos h0]; omega
  · rw [if_neg h0]; exact (hM.2.1.2 (e - 1) (by omega)).2.1
theorem fmN_le (hM : MI M D) {g e : Nat} (hg : g < M 4 0) (he : e ≤ M 3 0) : fmN M g e ≤ 42 := by
  have h1 := (rowN_le hM hg).1
  have h2 := eL_le hM he
  unfold fmN
  omega
theorem fmB_lt (hM : MI M D) {g e k : Nat} (hg : g < M 4 0) (he : e ≤ M 3 0) (hk : k < fmN M g e) : fmB M g e k < 256 := by
  unfold fmB
  by_cases h1 : k < rowN M g
  · rw [if_pos h1]; exact rowB_lt hM hg h1
  · rw [if_neg h1]
    unfold fmN eL at hk
    by_cases h0 : e = 0
    · rw [if_pos h0] at hk; omega
    · rw [if_neg h0] at hk
      have := ((hM.2.1.2 (e - 1) (by omega)).2.2 (k - rowN M g) (by omega)).2
      omega
theorem rt_md114 {Q : Int32 → mS → mG → Prop} {S : mS} (h : RI M D mn S G) {x i g p r : Nat} {a5 a8 : Int32} (hx : x < 8) (hF : FD M x S) (hU : UD M D x S) (hi : i < uN M x) (hg : g < M 4 0) (hp : p < M 20 x) (hr : ∀ k, k < fmN M g (uE M x i) → (k < r ↔ (¬ a8 = 0 ∨ (k = 0 ∧ isG (M 19 (600 * x + p)))))) (hQ : ∀ S' : mS, RI M D mn S' G → S' 0 0 = S 0 0 → FD M x S' → UD M D x S' → (∀ k, k < fmN M g (uE M x i) → S' 31 k = nI (gB r (fmB M g (uE M x i)) k)) → wp_X9_mends_330 Q S' G (nI x) (nI p) a5 (nI (fmN M g (uE M x i)))) : wp_X9_mends_114 Q S G (nI x) (nI i) (nI g) (nI p) a5 a8 := by
  have hM := h.2.2.2
  have h60 := hM.2.2.1.1
  have h6 := hM.2.1.1
  have hu := uN_le hM hx
  obtain ⟨b600, b256⟩ := hM.2.2.2.2.2 x hx
  have b256 := b256 p hp
  obtain ⟨_, _, _, _, _, o6, _⟩ := u_ok hM hi
  have u29 : ∀ s : mS, UD M D x s → s 29 i = wyR (uE M x i) := fun s hs => (UD_at hs hi).2.2.2
  have hN := fmN_le hM hg o6
  have eN : fmN M g (uE M x i) = rowN M g + eL M (uE M x i) := rfl
  have eB : ∀ k, fmB M g (uE M x i) k = if k < rowN M g then rowB M g k else 96 + M 6 (4 * (uE M x i - 1) + (k - rowN M g)) := fun _ => rfl
  have hel : eL M (uE M x i) = if uE M x i = 0 then 0 else M 7 (uE M x i - 1) := rfl
  generalize uE M x i = e at o6 u29 hr hQ hN eN eB hel
  generalize fmN M g e = N at hr hQ hN eN
  generalize fmB M g e = B at hQ eB
  have hT := hM.2.2.1.2 g hg
  have cg : (nI g).toNatClampNeg = g := n_cl (by omega)
  have g60 : vp_in (nI g) 60 := n_in (by omega) (by decide)
  have ci : (nI i).toNatClampNeg = i := n_cl (by omega)
  have i301 : vp_in (nI i) 301 := n_in (by omega) (by decide)
  obtain ⟨q1, q2, q3, q4, _⟩ := id hT
  obtain ⟨W, hW⟩ : ∃ W, W = M 10 g := ⟨_, rfl⟩
  have e3 : (3 : Int32) * nI g = nI (3 * g) := pk_mul 3 g
  have e36 : (36 : Int32) * nI g = nI (36 * g) := pk_mul 36 g
  obtain ⟨z0, hz0⟩ : ∃ z0, z0 = S 0 0 := ⟨_, rfl⟩
  rw [← hz0] at hQ
  obtain ⟨PI, hPI⟩ : ∃ PI : mS → Prop, PI = fun s => RI M D mn s G ∧ s 0 0 = z0 ∧ FD M x s ∧ UD M D x s := ⟨_, rfl⟩
  have pi0 : ∀ s, PI s ↔ RI M D mn s G ∧ s 0 0 = z0 ∧ FD M x s ∧ UD M D x s := fun s => by rw [hPI]
  have piO : ∀ (s : mS) (j : Nat) (v : Int32), PI s → PI (mst s 31 j v) := fun s j v hs => by
    rw [pi0] at hs ⊢
    exact ⟨hs.1.out rfl (by decide) _ _, by rw [ms_out _ _ _ _ _ (by decide)]; exact hs.2.1, FD_out hs.2.2.1 (by decide) _ _, UD_out hs.2.2.2 (by decide) _ _⟩
  obtain ⟨pos, hpos⟩ : ∃ pos : Nat → Nat, pos = fun w => if w < W then off M g w else N := ⟨_, rfl⟩
  have pos1 : ∀ w, w < W → pos w = off M g w := fun w hw => by rw [hpos]; exact if_pos hw
  have pos2 : pos W = N := by rw [hpos]; exact if_neg (Nat.lt_irrefl W)
  unfold wp_X9_mends_114
  have key : ∃ n9, wp_X9_mends_122 Q n9 S G (nI x) (nI i) (nI g) (nI p) a5 a8 (nI (pos 0)) (nI 0) := by
    refine pk_loop (σ := mS) (fun n9 w s => wp_X9_mends_122 Q n9 s G (nI x) (nI i) (nI g) (nI p) a5 a8 (nI (pos w)) (nI w)) (fun w s => PI s ∧ ∀ k, k < pos w → s 31 k = nI (gB r B k)) W 0 S (Nat.zero_le _) ⟨(pi0 S).mpr ⟨h, hz0.symm, hF, hU⟩, fun k hk => ?_⟩ ?_ ?_
    · rw [pos1 0 (by omega)] at hk
      exact absurd hk (Nat.not_lt_zero k)
    · rintro n9 s ⟨s1, s2⟩
      obtain ⟨p1, p2, p3, p4⟩ := (pi0 s).mp s1
      rw [pos2] at s2
      unfold wp_X9_mends_122
      rw [cg, pos2]
      exact ⟨g60, bt1 ((i_le (M 10 g) W (hx := p1.g 10 g)).mpr (by omega)) (hQ s p1 p2 p3 p4 s2)⟩
    · rintro n9 w s hw ⟨s1, s2⟩ ih
      obtain ⟨p1, p2, p3, p4⟩ := (pi0 s).mp s1
      rw [pos1 w hw] at s2
      obtain ⟨ol1, ol2⟩ := off_le hT (w := w) (by omega)
      obtain ⟨w1, w2, w3⟩ := q3 w (by omega)
      obtain ⟨own, hown⟩ : ∃ own, own = M 9 (3 * g + w) := ⟨_, rfl⟩
      rw [← hown] at ol1 w1 w2 w3
      have inner : ∀ more, more = (if w + 1 = W then eL M e else 0) → wp_X9_mends_184 Q (wp_X9_mends_122 Q n9) s G (nI x) (nI i) (nI g) (nI p) a5 a8 (nI (off M g w)) (nI w) (nI own) (nI more) := by
        intro more hmore
        have hend : w + 1 = W → rowN M g = off M g w + own := fun hl => by rw [hown]; exact rowN_off hT (by omega)
        have hmN : w + 1 = W → off M g w + own + more = N := fun hl => by
          rw [if_pos hl] at hmore
          have := hend hl
          omega
        have hmo : ¬ w + 1 = W → more = 0 := fun hl => by rw [if_neg hl] at hmore; exact hmore
        have hb42 : off M g w + own + more ≤ N := by
          by_cases hl : w + 1 = W
          · rw [hmN hl]; exact Nat.le_refl _
          · have := hmo hl; omega
        unfold wp_X9_mends_184
        have key2 : ∃ n8, wp_X9_mends_189 Q (wp_X9_mends_122 Q n9) n8 s G (nI x) (nI i) (nI g) (nI p) a5 a8 (nI (off M g w + 0)) (nI w) (nI own) (nI more) (nI 0) := by
          refine pk_loop (σ := mS) (fun n8 k t => wp_X9_mends_189 Q (wp_X9_mends_122 Q n9) n8 t G (nI x) (nI i) (nI g) (nI p) a5 a8 (nI (off M g w + k)) (nI w) (nI own) (nI more) (nI k)) (fun k t => PI t ∧ ∀ j, j < off M g w + k → t 31 j = nI (gB r B j)) (own + more) 0 s (Nat.zero_le _) ⟨s1, s2⟩ ?_ ?_
          · rintro n8 t ⟨t1, t2⟩
            obtain ⟨v1, v2, v3, v4⟩ := (pi0 t).mp t1
            unfold wp_X9_mends_189
            rw [nI_add]
            refine bt1 ((i_le (own + more) (own + more)).mpr (Nat.le_refl _)) ?_
            unfold wp_X9_mends_299
            rw [cg, nI_1, n_cl (show off M g w + (own + more) < _ by omega)]
            refine ⟨g60, bq (i_le (M 10 g) (w + 1) (hx := v1.g 10 g)) (fun hl => ?_) (fun hl => ⟨n_in (by omega) (by decide), fun u hu => ?_⟩)⟩
            · unfold wp_X9_mends_324
              rintro _ rfl
              have hl2 : w + 1 = W := by omega
              rw [nI_1]
              have := ih t ⟨t1, fun k hk => t2 k (by rw [hl2, pos2] at hk; have := hmN hl2; omega)⟩
              rw [hl2, pos2, ← hmN hl2, Nat.add_assoc] at this
              rw [hl2]
              exact this
            · rintro _ rfl
              have hm0 := hmo (by omega)
              have eoff : off M g (w + 1) = off M g w + own + 1 := by rw [hown]; rfl
              unfold wp_X9_mends_324
              rintro _ rfl
              rw [nI_1, nI_1]
              have hq := ih u ⟨by rw [hu]; exact piO t _ _ t1, fun k hk => ?_⟩
              · rw [pos1 (w + 1) (by omega), eoff] at hq
                rw [hm0]
                exact hq
              · rw [pos1 (w + 1) (by omega), eoff] at hk
                rw [hu]
                by_cases ek : k = off M g w + (own + more)
                · have hbk : B k = 32 := by
                    rw [eB k, if_pos (by have := ol2 (by omega); omega), ek, hm0, Nat.add_zero, hown]
                    exact rowB_b hT (by omega)
                  rw [gB_b hbk, ek, ms_same]
                  rfl
                · rw [ms_ne _ _ _ _ _ ek]
                  exact t2 k (by omega)
          · rintro n8 k t hk ⟨t1, t2⟩ jh
            obtain ⟨v1, v2, v3, v4⟩ := (pi0 t).mp t1
            have put : ∀ k1 k0 : Int32, k1 + k0 = nI (gB r B (off M g w + k)) → wp_X9_mends_288 Q (wp_X9_mends_122 Q n9) (wp_X9_mends_189 Q (wp_X9_mends_122 Q n9) n8) t G (nI x) (nI i) (nI g) (nI p) a5 a8 (nI (off M g w + k)) (nI w) (nI own) (nI more) (nI k) k0 k1 (nI (off M g w + k)) := by
              intro k1 k0 ek
              unfold wp_X9_mends_288
              rw [n_cl (show off M g w + k < _ by omega), ek]
              refine ⟨n_in (by omega) (by decide), fun u hu => ?_⟩
              rintro _ rfl
              rintro _ rfl
              rw [nI_1, nI_1]
              refine jh u ⟨by rw [hu]; exact piO t _ _ t1, fun j hj => ?_⟩
              rw [hu]
              by_cases ej : j = off M g w + k
              · rw [ej, ms_same]
              · rw [ms_ne _ _ _ _ _ ej]; exact t2 j (by omega)
            have lay : ∀ c, 1 ≤ c → c ≤ 26 → B (off M g w + k) = 96 + c → wp_X9_mends_246 Q (wp_X9_mends_122 Q n9) (wp_X9_mends_189 Q (wp_X9_mends_122 Q n9) n8) t G (nI x) (nI i) (nI g) (nI p) a5 a8 (nI (off M g w + k)) (nI w) (nI own) (nI more) (nI k) (nI c) := by
              intro c c1 c2 hB
              have hgb := gB_l (r := r) hB c1 c2
              have hrk := hr (off M g w + k) (by omega)
              have big : off M g w + k < r → wp_X9_mends_281 Q (wp_X9_mends_122 Q n9) (wp_X9_mends_189 Q (wp_X9_mends_122 Q n9) n8) t G (nI x) (nI i) (nI g) (nI p) a5 a8 (nI (off M g w + k)) (nI w) (nI own) (nI more) (nI k) (nI c - 1) (nI (off M g w + k)) := by
                intro hk2
                unfold wp_X9_mends_281
                refine put _ _ ?_
                rw [hgb, if_pos hk2, n_sub1 (by omega), show (65 : Int32) = nI 65 from rfl, nI_add]
                congr 1; omega
              have small : ¬ off M g w + k < r → wp_X9_mends_286 Q (wp_X9_mends_122 Q n9) (wp_X9_mends_189 Q (wp_X9_mends_122 Q n9) n8) t G (nI x) (nI i) (nI g) (nI p) a5 a8 (nI (off M g w + k)) (nI w) (nI own) (nI more) (nI k) (nI c - 1) (nI (off M g w + k)) := by
                intro hk2
                unfold wp_X9_mends_286
                refine put _ _ ?_
                rw [hgb, if_neg hk2, n_sub1 (by omega), show (97 : Int32) = nI 97 from rfl, nI_add]
                congr 1; omega
              unfold wp_X9_mends_246
              by_cases ha : a8 = 0
              · refine bt2 ha (bn (i_eq (off M g w + k) 0) (fun hn0 => rt_at v1.1 hx (by omega) (x9_great (by omega) (bq bI_z (fun hg0 => ?_) (fun hg0 => ?_)))) (fun hn0 => small (fun o => ?_)))
                · exact small (fun o => (hrk.mp o).elim (fun o9 => o9 ha) (fun o9 => hg0 o9.2))
                · exact big (hrk.mpr (Or.inr ⟨hn0, Classical.not_not.mp hg0⟩))
                · exact (hrk.mp o).elim (fun o9 => o9 ha) (fun o9 => hn0 o9.1)
              · exact bf2 ha (big (hrk.mpr (Or.inl ha)))
            unfold wp_X9_mends_189
            rw [nI_add]
            refine bf1 (by rw [i_le (own + more) k]; omega) (bq (i_le own k) (fun hko => ⟨i301, ?_⟩) (fun hko => ?_))
            · have hl : w + 1 = W := by
                apply Classical.byContradiction
                intro h9
                have := hmo h9
                omega
              have he0 : e ≠ 0 := by
                intro h9
                rw [if_pos hl, hel, if_pos h9] at hmore
                omega
              rw [if_pos hl, hel, if_neg he0] at hmore
              obtain ⟨d, hd⟩ : ∃ d, e = d + 1 := ⟨e - 1, by omega⟩
              rw [hd, Nat.add_sub_cancel] at hmore
              obtain ⟨x1, x2, x3⟩ := hM.2.1.2 d (by omega)
              obtain ⟨y1, y2⟩ := x3 (k - own) (by omega)
              have e4 : (4 : Int32) * nI d = nI (4 * d) := pk_mul 4 d
              rw [ci, u29 t v4, hd, wyR_s, e4, nI_add, n_sub (by omega), show 4 * d + k - own = 4 * d + (k - own) by omega, n_cl (show 4 * d + (k - own) < _ by omega), v1.g 6]
              refine ⟨n_in (by omega) (by decide), lay _ y1 y2 ?_⟩
              rw [eB, if_neg (by rw [hend hl]; omega), hd, Nat.add_sub_cancel, hend hl]
              congr 2
              omega
            · obtain ⟨y1, y2⟩ := w3 k (by omega)
              have e12 : (12 : Int32) * nI w = nI (12 * w) := pk_mul 12 w
              rw [e36, e12, nI_add, nI_add, n_cl (show 36 * g + 12 * w + k < _ by omega), v1.g 8]
              refine ⟨n_in (by omega) (by decide), lay _ y1 y2 ?_⟩
              rw [eB, if_pos (by omega)]
              exact rowB_w hT (by omega) (by omega)
        exact key2
      unfold wp_X9_mends_122
      rw [cg, ci, e3, nI_add, pos1 w hw]
      refine ⟨g60, bf1 (by rw [i_le (M 10 g) w (hx := p1.g 10 g)]; omega) ⟨n_in (by omega) (by decide), fun v hv => ?_⟩⟩
      rw [n_cl (show 3 * g + w < _ by omega), p1.g 9, ← hown] at hv
      rw [hv, p1.g 10 g, n_sub1 (by omega)]
      refine ⟨g60, bn (i_eq w (M 10 g - 1)) (fun hl => ⟨i301, ?_⟩) (fun hl => ?_)⟩
      · rw [u29 s p4]
        by_cases e0 : e = 0
        · refine bt1 (by rw [e0]; rfl) ?_
          unfold wp_X9_mends_183
          exact inner 0 (by rw [if_pos (by omega), hel, if_pos e0])
        · obtain ⟨d, hd⟩ : ∃ d, e = d + 1 := ⟨e - 1, by omega⟩
          rw [hd, wyR_s, n_cl (show d < _ by omega), p1.g 7]
          exact bf1 (n_m1 (by omega)) ⟨i301, n_in (by omega) (by decide), inner (M 7 d) (by rw [if_pos (by omega), hel, if_neg e0, hd, Nat.add_sub_cancel])⟩
      · unfold wp_X9_mends_183
        exact inner 0 (by rw [if_neg (by omega)])
  rw [pos1 0 (by omega)] at key
  exact key
theorem rt_mends {Q : Int32 → mS → mG → Prop} {S : mS} (h : RI M D mn S G) {x i : Nat} (hx : x < 8) (hF : FD M x S) (hU : UD M D x S) (hi : i < uN M x) (yes : mdOK M x i → ∀ S' : mS, RI (mdA M x i) D (mn + 1) S' G → S' 0 0 = S 0 0 → Q 1 S' G) (no : ¬ mdOK M x i → ∀ S' : mS, RI M D mn S' G → S' 0 0 = S 0 0 → FD M x S' → UD M D x S' → Q 0 S' G) : wp_X9_mends_0 Q S G (nI x) (nI i) := by
  have hM := h.2.2.2
  have h60 := hM.2.2.1.1
  have hu := uN_le hM hx
  obtain ⟨b600, b256⟩ := hM.2.2.2.2.2 x hx
  have hfl := fnd_le (n := M 20 x) (b := tbx M x)
  obtain ⟨u26, u27, _, _⟩ := UD_at hU hi
  obtain ⟨o1, o2, o3, o4, o5, o6, o7⟩ := u_ok hM hi
  have hok : mdOK M x i ↔ (mdG M x i ≠ 0 ∧ uP M x i + fmN M (mdG M x i - 1) (uE M x i) + (M 20 x - uQ M x i) ≤ 600) := Iff.rfl
  have hA : mdA M x i = mdT M x (uP M x i) (uQ M x i) (fmN M (mdG M x i - 1) (uE M x i)) (gB (grt M x (uP M x i) (uQ M x i) (fmN M (mdG M x i - 1) (uE M x i))) (fmB M (mdG M x i - 1) (uE M x i))) := rfl
  have f22 := (hF.2 (uW M x i) (by omega)).1
  have f23 := (hF.2 (uW M x i + uC M x i - 1) (by omega)).2.1
  have hp : wpA (M 20 x) (tbx M x) (uW M x i) = uP M x i := rfl
  have hq : weA (M 20 x) (tbx M x) (uW M x i + uC M x i - 1) = uQ M x i := rfl
  rw [hp] at f22
  rw [hq] at f23
  have ci : (nI i).toNatClampNeg = i := n_cl (by omega)
  have i301 : vp_in (nI i) 301 := n_in (by omega) (by decide)
  unfold wp_X9_mends_0
  refine rt_goodFor h hx hU hi ?_
  by_cases e0 : mdG M x i = 0
  · refine bt2 (by rw [e0]; rfl) (no (fun o => o.1 e0) S h rfl hF hU)
  · obtain ⟨hg, _⟩ := mdG_in e0
    obtain ⟨g, eg⟩ : ∃ g, g = mdG M x i - 1 := ⟨_, rfl⟩
    have eR : wyR (mdG M x i) = nI g := by rw [eg]; unfold wyR; rw [if_neg e0]
    rw [← eg] at hok hA hg
    rw [eR, ci, u26, n_cl (show uW M x i < _ by omega), u27, n_sub1 (by omega), n_cl (show uW M x i + uC M x i - 1 < _ by omega), f22, f23]
    refine bf2 (n_m1 (by omega)) ⟨i301, n_in (by omega) (by decide), fun v hv => ⟨i301, n_in (by omega) (by decide), fun v2 hv2 => ?_⟩⟩
    rw [hv, hv2]
    have hN := fmN_le hM hg o6
    have hB : ∀ k, k < fmN M g (uE M x i) → fmB M g (uE M x i) k < 256 := fun k hk => fmB_lt hM hg o6 hk
    have lay : ∀ a8 : Int32, (¬ a8 = 0 ↔ alG M x (uP M x i) (uQ M x i)) → wp_X9_mends_114 Q S G (nI x) (nI i) (nI g) (nI (uP M x i)) (nI (uQ M x i)) a8 := by
      intro a8 ha
      refine rt_md114 (r := grt M x (uP M x i) (uQ M x i) (fmN M g (uE M x i))) h hx hF hU hi hg (by omega) (fun k hk => ?_) (fun S' r1 r2 r3 r4 r5 => ?_)
      · unfold grt
        by_cases hal : alG M x (uP M x i) (uQ M x i)
        · rw [if_pos hal]
          exact ⟨fun _ => Or.inl (ha.mpr hal), fun _ => hk⟩
        · rw [if_neg hal]
          by_cases hgr : isG (M 19 (600 * x + uP M x i))
          · rw [if_pos hgr]
            exact ⟨fun o => Or.inr ⟨by omega, hgr⟩, fun o => o.elim (fun o9 => absurd (ha.mp o9) hal) (fun o9 => by omega)⟩
          · rw [if_neg hgr]
            exact ⟨fun o => absurd o (Nat.not_lt_zero k), fun o => o.elim (fun o9 => absurd (ha.mp o9) hal) (fun o9 => absurd o9.2 hgr)⟩
      · refine rt_md330 r1 hx (by omega) o5 (by omega) r5 (fun k hk => gB_lt (hB k hk)) (fun hle S2 w1 w2 => ?_) (fun hle => no (fun o => hle (hok.mp o).2) S' r1 r2 r3 r4)
        refine yes (hok.mpr ⟨e0, hle⟩) S2 ?_ (w2.trans r2)
        rw [hA]
        exact w1
    have f113 : ¬ alG M x (uP M x i) (uQ M x i) → wp_X9_mends_113 Q S G (nI x) (nI i) (nI g) (nI (uP M x i)) (nI (uQ M x i)) := by
      intro hal
      unfold wp_X9_mends_113
      exact lay 0 ⟨fun o => absurd rfl o, fun o => absurd o hal⟩
    have eal : alG M x (uP M x i) (uQ M x i) ↔ (2 ≤ lcN M x (uP M x i) (uQ M x i - uP M x i) ∧ gcN M x (uP M x i) (uQ M x i - uP M x i) = lcN M x (uP M x i) (uQ M x i - uP M x i)) := Iff.rfl
    have lay1 := lay 1
    clear lay
    generalize alG M x (uP M x i) (uQ M x i) = al at eal f113 lay1
    clear hok hA f22 f23 hp hq yes no u26 u27
    generalize uP M x i = p at o4 f113 lay1 eal ⊢
    generalize uQ M x i = q at o4 o5 f113 lay1 eal ⊢
    have lcl : ∀ j, lcN M x p j ≤ j := fun j => fb_ct_le _ j
    have gcl : ∀ j, gcN M x p j ≤ j := fun j => fb_ct_le _ j
    have lcs : ∀ j, lcN M x p (j + 1) = lcN M x p j + (if decide (isL (M 19 (600 * x + (p + j)))) = true then 1 else 0) := fun j => rfl
    have gcs : ∀ j, gcN M x p (j + 1) = gcN M x p j + (if decide (isG (M 19 (600 * x + (p + j)))) = true then 1 else 0) := fun j => rfl
    have l0 : lcN M x p 0 = 0 := rfl
    have g0 : gcN M x p 0 = 0 := rfl
    generalize lcN M x p = lc at lcl lcs l0 eal
    generalize gcN M x p = gc at gcl gcs g0 eal
    have key : ∃ n9, wp_X9_mends_51 Q n9 S G (nI x) (nI i) (nI g) (nI p) (nI q) (nI (lc 0)) (nI (gc 0)) (nI (p + 0)) := by
      refine pk_loop (σ := Unit) (fun n9 j _ => wp_X9_mends_51 Q n9 S G (nI x) (nI i) (nI g) (nI p) (nI q) (nI (lc j)) (nI (gc j)) (nI (p + j))) (fun _ _ => True) (q - p) 0 () (Nat.zero_le _) trivial ?_ ?_
      · intro n9 _ _
        have c1 := lcl (q - p)
        have c2 := gcl (q - p)
        unfold wp_X9_mends_51
        refine bt1 ((i_le q (p + (q - p))).mpr (by omega)) ?_
        unfold wp_X9_mends_96
        refine bn (i_eq (gc (q - p)) (lc (q - p))) (fun k1 => bq (i_le (lc (q - p)) 1) (fun k2 => f113 (fun o => ?_)) (fun k2 => lay1 ⟨fun _ => eal.mpr ⟨by omega, k1⟩, fun _ => by decide⟩)) (fun k1 => f113 (fun o => k1 (eal.mp o).2))
        have := (eal.mp o).1
        omega
      · intro n9 j _ hj _ ih
        have c1 := lcl j
        have c2 := gcl j
        have cs := lcs j
        have gs := gcs j
        have bb := b256 (p + j) (by omega)
        have at2 : ∀ {Q2 : Int32 → mS → mG → Prop}, Q2 (nI (M 19 (600 * x + (p + j)))) S G → wp_X9_at_0 Q2 S G (nI x) (nI (p + j)) := fun {Q2} hq2 => rt_at h.1 hx (by omega) hq2
        generalize M 19 (600 * x + (p + j)) = c at cs gs bb at2
        have next : ∀ d : Nat, d = lc (j + 1) → wp_X9_mends_74 Q (wp_X9_mends_51 Q n9) S G (nI x) (nI i) (nI g) (nI p) (nI q) (nI d) (nI (gc j)) (nI (p + j)) := by
          intro d hd
          have n90 : ∀ d2 : Nat, d2 = gc (j + 1) → wp_X9_mends_90 Q (wp_X9_mends_51 Q n9) S G (nI x) (nI i) (nI g) (nI p) (nI q) (nI d) (nI d2) (nI (p + j)) := by
            intro d2 hd2
            unfold wp_X9_mends_90
            rintro _ rfl
            rw [nI_1, hd, hd2]
            exact ih () trivial
          unfold wp_X9_mends_74
          refine at2 (x9_great (by omega) (bq bI_z (fun k1 => n90 _ ?_) (fun k1 => ?_)))
          · rw [gs, if_neg (by rw [decide_eq_true_iff]; exact k1)]
            rfl
          · rintro _ rfl
            rw [nI_1]
            refine n90 _ ?_
            rw [gs, if_pos (decide_eq_true (Classical.not_not.mp k1))]
        have hlt := lto_le c
        unfold wp_X9_mends_51
        refine bf1 (by rw [i_le q (p + j)]; omega) (at2 (x9_lto (by omega) (bq (i_le (lto c) 0) (fun k1 => next _ ?_) (fun k1 => ?_))))
        · rw [cs, if_neg (by rw [decide_eq_true_iff]; exact lto_0.mp (by omega))]
          rfl
        · rintro _ rfl
          rw [nI_1]
          refine next _ ?_
          have hl : isL c := Classical.byContradiction (fun h9 => k1 (by rw [lto_0.mpr h9]; exact Nat.le_refl _))
          rw [cs, if_pos (decide_eq_true hl)]
    rw [l0, g0] at key
    exact key
end RMD
