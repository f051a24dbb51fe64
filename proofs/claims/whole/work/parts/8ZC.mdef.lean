/-! pure: mending, what it does; the term that comes instead, in the reference -/
def uW (M : mN) (x i : Nat) : Nat := (us M x (fnd (M 20 x) (tbx M x))).2.2.1 i
def uC (M : mN) (x i : Nat) : Nat := (us M x (fnd (M 20 x) (tbx M x))).2.2.2 i
/-- the ending of use i (one more; 0: none), where it begins and ends -/
def uE (M : mN) (x i : Nat) : Nat := enU M x (uW M x i) (uC M x i)
def uP (M : mN) (x i : Nat) : Nat := wpA (M 20 x) (tbx M x) (uW M x i)
def uQ (M : mN) (x i : Nat) : Nat := weA (M 20 x) (tbx M x) (uW M x i + uC M x i - 1)
/-- the least good term of a thing -/
def gdF (M : mN) (h : Nat) : Nat := fa_first (fun g => decide (M 12 g = 0 ∧ M 11 g = h)) (M 4 0)
/-- the good term that comes instead (one more; 0: none) -/
def mdG (M : mN) (x i : Nat) : Nat := if tmU M x i ≠ 0 ∧ (M 12 (tmU M x i - 1) = 1 ∨ M 12 (tmU M x i - 1) = 3) ∧ gdF M (M 11 (tmU M x i - 1)) < M 4 0 ∧ (uE M x i = 0 ∨ (M 13 (gdF M (M 11 (tmU M x i - 1)))).testBit (uE M x i - 1) = true) then gdF M (M 11 (tmU M x i - 1)) + 1 else 0
/-- the form that comes instead: how many bytes, and which -/
def eL (M : mN) (e : Nat) : Nat := if e = 0 then 0 else M 7 (e - 1)
def fmN (M : mN) (g e : Nat) : Nat := rowN M g + eL M e
def fmB (M : mN) (g e k : Nat) : Nat := if k < rowN M g then rowB M g k else 96 + M 6 (4 * (e - 1) + (k - rowN M g))
/-- the letters from p to q, and the great ones -/
def lcN (M : mN) (x p n : Nat) : Nat := fb_ct (fun j => decide (isL (M 19 (600 * x + (p + j))))) n
def gcN (M : mN) (x p n : Nat) : Nat := fb_ct (fun j => decide (isG (M 19 (600 * x + (p + j))))) n
abbrev alG (M : mN) (x p q : Nat) : Prop := 2 ≤ lcN M x p (q - p) ∧ gcN M x p (q - p) = lcN M x p (q - p)
def grt (M : mN) (x p q n : Nat) : Nat := if alG M x p q then n else if isG (M 19 (600 * x + p)) then 1 else 0
def gB (r : Nat) (b : Nat → Nat) (k : Nat) : Nat := if k < r ∧ 97 ≤ b k ∧ b k ≤ 122 then b k - 32 else b k
/-- the text with n bytes b instead of those from p to q -/
def mdT (M : mN) (x p q n : Nat) (b : Nat → Nat) : mN := ad2 (mf M 19 (fb_put (fb_put (M 19) b (600 * x + p) n) (fun k => M 19 (600 * x + (q + k))) (600 * x + p + n) (M 20 x - q))) 20 x (p + n + (M 20 x - q))
def mdN (M : mN) (x i : Nat) : Nat := fmN M (mdG M x i - 1) (uE M x i)
def mdB (M : mN) (x i : Nat) : Nat → Nat := gB (grt M x (uP M x i) (uQ M x i) (mdN M x i)) (fmB M (mdG M x i - 1) (uE M x i))
def mdA (M : mN) (x i : Nat) : mN := mdT M x (uP M x i) (uQ M x i) (mdN M x i) (mdB M x i)
abbrev mdOK (M : mN) (x i : Nat) : Prop := mdG M x i ≠ 0 ∧ uP M x i + mdN M x i + (M 20 x - uQ M x i) ≤ 600
section MDF
variable {M : mN} {D : Nat → Int64} {mn : Int32} {S : mS} {G : mG}
theorem enU_le {x w m : Nat} : enU M x w m ≤ M 3 0 := by
  unfold enU
  split
  · exact Nat.zero_le _
  · have := wyA_le (M := M) (x := x) (p := wpA (M 20 x) (tbx M x) w) (t := chT M x w m - 1)
    omega
theorem u_ok (hM : MI M D) {x i : Nat} (hi : i < uN M x) : uC M x i ≠ 0 ∧ uC M x i ≤ 3 ∧ uW M x i + uC M x i ≤ fnd (M 20 x) (tbx M x) ∧ uP M x i < uQ M x i ∧ uQ M x i ≤ M 20 x ∧ uE M x i ≤ M 3 0 ∧ tmU M x i ≤ M 4 0 := by
  obtain ⟨o1, o2, o3, o4, o5⟩ := us_ok hM (x := x) (w := fnd (M 20 x) (tbx M x)) (Nat.le_refl _)
  have hun : uN M x = (us M x (fnd (M 20 x) (tbx M x))).2.1 := rfl
  have hw : uW M x i = (us M x (fnd (M 20 x) (tbx M x))).2.2.1 i := rfl
  have hc : uC M x i = (us M x (fnd (M 20 x) (tbx M x))).2.2.2 i := rfl
  have hp : uP M x i = wpA (M 20 x) (tbx M x) (uW M x i) := rfl
  have hq : uQ M x i = weA (M 20 x) (tbx M x) (uW M x i + uC M x i - 1) := rfl
  have he : uE M x i ≤ M 3 0 := enU_le
  have ht : tmU M x i ≤ M 4 0 := chT_le
  generalize us M x (fnd (M 20 x) (tbx M x)) = d at o1 o2 o3 o4 o5 hun hw hc
  obtain ⟨a1, a2, a3, a4⟩ := o4 i (by omega)
  rw [← hw] at a1 a2 a4
  rw [← hc] at a2 a3 a4
  generalize uW M x i = w at a1 a2 a4 hp hq ⊢
  generalize uC M x i = m at a2 a3 a4 hq ⊢
  generalize uP M x i = p at hp ⊢
  generalize uQ M x i = q at hq ⊢
  have hm3 := (mw_ok hM a1).1
  have hl : wpA (M 20 x) (tbx M x) (w + m - 1) < M 20 x := fnd_lt.mp (by omega)
  have h1 := weA_gt hl
  have h2 := wpA_mono (n := M 20 x) (b := tbx M x) (j := w) (k := w + m - 1) (by omega)
  have h3 := weA_le (n := M 20 x) (b := tbx M x) (w + m - 1)
  exact ⟨a3, by omega, by omega, by omega, by omega, he, ht⟩
/-- what the reference holds of use i -/
theorem UD_at {x i : Nat} (hU : UD M D x S) (hi : i < uN M x) : S 26 i = nI (uW M x i) ∧ S 27 i = nI (uW M x i + uC M x i) ∧ S 28 i = wyR (tmU M x i) ∧ S 29 i = wyR (uE M x i) := hU.1.2 i hi
theorem UD_out {x : Nat} (h : UD M D x S) {k : Nat} (hk : 31 ≤ k) (j : Nat) (v : Int32) : UD M D x (mst S k j v) := by
  refine ⟨⟨by rw [ms_out _ _ _ _ _ (show 25 ≠ k by omega)]; exact h.1.1, fun i hi => ?_⟩, fun i hi => by rw [ms_out _ _ _ _ _ (show 30 ≠ k by omega)]; exact h.2 i hi⟩
  rw [ms_out _ _ _ _ _ (show 26 ≠ k by omega), ms_out _ _ _ _ _ (show 27 ≠ k by omega), ms_out _ _ _ _ _ (show 28 ≠ k by omega), ms_out _ _ _ _ _ (show 29 ≠ k by omega)]
  exact h.1.2 i hi
theorem mdG_in {x i : Nat} (h : mdG M x i ≠ 0) : mdG M x i - 1 < M 4 0 ∧ M 12 (mdG M x i - 1) = 0 := by
  unfold mdG at h ⊢
  split at h
  · rename_i c
    rw [if_pos c, Nat.add_sub_cancel]
    refine ⟨c.2.2.1, ?_⟩
    have := fa_first_yes (fun g => decide (M 12 g = 0 ∧ M 11 g = M 11 (tmU M x i - 1))) (M 4 0) c.2.2.1
    exact (of_decide_eq_true this).1
  · exact absurd rfl h
theorem rt_goodFor {Q : Int32 → mS → mG → Prop} (h : RI M D mn S G) {x i : Nat} (hx : x < 8) (hU : UD M D x S) (hi : i < uN M x) (hQ : Q (wyR (mdG M x i)) S G) : wp_X9_goodFor_0 Q S G (nI i) := by
  have hM := h.2.2.2
  have h60 := hM.2.2.1.1
  have h6 := hM.2.1.1
  have hu := uN_le hM hx
  obtain ⟨_, _, u28, u29⟩ := UD_at hU hi
  obtain ⟨_, _, _, _, _, o6, o7⟩ := u_ok hM hi
  have hG : mdG M x i = if tmU M x i ≠ 0 ∧ (M 12 (tmU M x i - 1) = 1 ∨ M 12 (tmU M x i - 1) = 3) ∧ gdF M (M 11 (tmU M x i - 1)) < M 4 0 ∧ (uE M x i = 0 ∨ (M 13 (gdF M (M 11 (tmU M x i - 1)))).testBit (uE M x i - 1) = true) then gdF M (M 11 (tmU M x i - 1)) + 1 else 0 := rfl
  rw [hG] at hQ
  clear hG
  generalize tmU M x i = tc at u28 o7 hQ
  generalize uE M x i = e at u29 o6 hQ
  have ci : (nI i).toNatClampNeg = i := n_cl (by omega)
  have i301 : vp_in (nI i) 301 := n_in (by omega) (by decide)
  unfold wp_X9_goodFor_0
  rw [ci]
  refine ⟨i301, fun v hv => ?_⟩
  rw [hv, u28]
  by_cases e0 : tc = 0
  · rw [if_neg (fun o => o.1 e0)] at hQ
    exact bt1 (by rw [e0]; rfl) hQ
  · obtain ⟨t, et⟩ : ∃ t, tc = t + 1 := ⟨tc - 1, by omega⟩
    rw [et, Nat.add_sub_cancel] at hQ
    rw [et, wyR_s]
    have ct : (nI t).toNatClampNeg = t := n_cl (by omega)
    have t60 : vp_in (nI t) 60 := n_in (by omega) (by decide)
    have q := hM.2.2.1.2 t (by omega)
    have q11 := q.2.2.2.2.1
    have q12 := q.2.2.2.2.2.1
    rw [ct]
    have loop : (M 12 t = 1 ∨ M 12 t = 3) → wp_X9_goodFor_34 Q S G (nI i) (nI t) := by
      intro hk
      have hgd : gdF M (M 11 t) = fa_first (fun g => decide (M 12 g = 0 ∧ M 11 g = M 11 t)) (M 4 0) := rfl
      have hy := fa_first_yes (fun g => decide (M 12 g = 0 ∧ M 11 g = M 11 t)) (M 4 0)
      have hn := fa_first_no (fun g => decide (M 12 g = 0 ∧ M 11 g = M 11 t)) (M 4 0)
      have hl := fa_first_le (fun g => decide (M 12 g = 0 ∧ M 11 g = M 11 t)) (M 4 0)
      rw [← hgd] at hy hn hl
      generalize gdF M (M 11 t) = T at hy hn hl hQ
      have end74 : wp_X9_goodFor_74 Q S G (nI i) (nI T) := by
        unfold wp_X9_goodFor_74
        rw [ci, u29]
        refine bq (i_le (M 4 0) T (hx := h.g 4 0)) (fun hT => ?_) (fun hT => ⟨i301, ?_⟩)
        · rw [if_neg (fun o => by have := o.2.2.1; omega)] at hQ
          exact hQ
        · by_cases ee : e = 0
          · rw [if_pos ⟨Nat.succ_ne_zero t, hk, by omega, Or.inl ee⟩, wyR_s] at hQ
            rw [ee]
            exact rt_isForm_m (bf1 (by decide) hQ)
          · obtain ⟨d, hd⟩ : ∃ d, e = d + 1 := ⟨e - 1, by omega⟩
            rw [hd, Nat.add_sub_cancel] at hQ
            rw [hd, wyR_s]
            refine rt_isForm h (by omega) (by omega) (fun _ hb => bf1 (by decide) ?_) (fun hb => bt1 rfl ?_)
            · rw [if_pos ⟨Nat.succ_ne_zero t, hk, by omega, Or.inr hb⟩, wyR_s] at hQ
              exact hQ
            · rw [if_neg (fun o => ?_)] at hQ
              · exact hQ
              · rcases o.2.2.2 with o9 | o9
                · exact absurd o9 (Nat.succ_ne_zero d)
                · exact hb ⟨by omega, o9⟩
      unfold wp_X9_goodFor_34
      refine pk_loop (σ := Unit) (fun n9 g _ => wp_X9_goodFor_36 Q n9 S G (nI i) (nI t) (nI g)) (fun _ _ => True) T 0 () (Nat.zero_le _) trivial ?_ ?_
      · intro n9 _ _
        unfold wp_X9_goodFor_36
        refine bq (i_le (M 4 0) T (hx := h.g 4 0)) (fun hT => end74) (fun hT => ?_)
        obtain ⟨y1, y2⟩ := of_decide_eq_true (hy (by omega))
        have T60 : vp_in (nI T) 60 := n_in (by omega) (by decide)
        rw [n_cl (show T < _ by omega), ct]
        exact ⟨T60, bt2 ((i_eq (M 12 T) 0 (hx := h.g 12 T)).mpr y1) ⟨T60, t60, bt1 (by rw [h.g 11 T, h.g 11 t, y2]) end74⟩⟩
      · intro n9 g _ hg _ ih
        have hno := of_decide_eq_false (hn g hg)
        have q2 := hM.2.2.1.2 g (by omega)
        have q11b := q2.2.2.2.2.1
        have q12b := q2.2.2.2.2.2.1
        have next : wp_X9_goodFor_68 Q (wp_X9_goodFor_36 Q n9) S G (nI i) (nI t) (nI g) := by
          unfold wp_X9_goodFor_68
          rintro _ rfl
          rw [nI_1]
          exact ih () trivial
        have g60 : vp_in (nI g) 60 := n_in (by omega) (by decide)
        unfold wp_X9_goodFor_36
        rw [n_cl (show g < _ by omega), ct]
        exact bf1 (by rw [i_le (M 4 0) g (hx := h.g 4 0)]; omega) ⟨g60, bn (i_eq (M 12 g) 0 (hx := h.g 12 g)) (fun k1 => ⟨g60, t60, bq (i_eq (M 11 g) (M 11 t) (hx := h.g 11 g) (hy := h.g 11 t)) (fun k2 => absurd ⟨k1, k2⟩ hno) (fun _ => next)⟩) (fun _ => next)⟩
    refine bf1 (n_m1 (by omega)) ⟨t60, bq (i_eq (M 12 t) 1 (hx := h.g 12 t)) (fun k1 => loop (Or.inl k1)) (fun k1 => ⟨t60, bq (i_eq (M 12 t) 3 (hx := h.g 12 t)) (fun k3 => loop (Or.inr k3)) (fun k3 => ?_)⟩)⟩
    rw [if_neg (fun o => o.2.1.elim k1 k3)] at hQ
    exact hQ
end MDF
