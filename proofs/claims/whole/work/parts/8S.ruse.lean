/-! pure: uses and use, in the reference -/
abbrev usF (M : mN) (x : Nat) := us M x (fnd (M 20 x) (tbx M x))
def uN (M : mN) (x : Nat) : Nat := (usF M x).2.1
/-- what use i of the text answers -/
def aUse (M : mN) (D : Nat → Int64) (x i k : Nat) : Int32 := if k = 0 then nI (wpA (M 20 x) (tbx M x) ((usF M x).2.2.1 i)) else if k = 1 then nI (weA (M 20 x) (tbx M x) ((usF M x).2.2.1 i + (usF M x).2.2.2 i - 1)) else if k = 2 then wyR (tmU M x i) else if k = 3 then wyR (enU M x ((usF M x).2.2.1 i) ((usF M x).2.2.2 i)) else nI (fdA M D (tmU M x) i)
section RUS
variable {M : mN} {D : Nat → Int64} {mn : Int32} {S : mS} {G : mG}
theorem rt_uses {Q : Int32 → mS → mG → Prop} (h : RI M D mn S G) (a : Int32) (yes : ∀ x, x < 8 → a = nI x → ∀ S' : mS, RI M D mn S' G → S' 0 0 = 0 → Q (nI (uN M x)) S' G) (no : ¬ okN a 8 → ∀ S' : mS, RI M D mn S' G → S' 0 0 = 1 → Q 0 S' G) : wp_X9_uses_0 Q S G a := by
  unfold wp_X9_uses_0
  refine rt_isText h a (fun ok S1 h1 z1 => bf2 (by decide) ?_) (fun ok S1 h1 z1 => bt2 rfl (no ok S1 h1 z1))
  obtain ⟨x, hx, rfl⟩ := okN_of ok (by decide)
  refine rt_reads h1 hx (fun S2 h2 z2 _ u2 => ?_)
  rw [u2.1.1]
  exact yes x hx rfl S2 h2 (z2.trans z1)
theorem rt_use {Q : Int32 → mS → mG → Prop} (h : RI M D mn S G) (a b c : Int32) (yes : ∀ x i k, x < 8 → i < uN M x → k < 5 → a = nI x → b = nI i → c = nI k → ∀ S' : mS, RI M D mn S' G → S' 0 0 = 0 → Q (aUse M D x i k) S' G) (none : ∀ x, x < 8 → a = nI x → ¬ (okN b (uN M x) ∧ okN c 5) → ∀ S' : mS, RI M D mn S' G → S' 0 0 = 2 → Q 0 S' G) (no : ¬ okN a 8 → ∀ S' : mS, RI M D mn S' G → S' 0 0 = 1 → Q 0 S' G) : wp_X9_use_0 Q S G a b c := by
  unfold wp_X9_use_0
  refine rt_isText h a (fun ok S1 h1 z1 => bf2 (by decide) ?_) (fun ok S1 h1 z1 => bt2 rfl (no ok S1 h1 z1))
  obtain ⟨x, hx, rfl⟩ := okN_of ok (by decide)
  refine rt_reads h1 hx (fun S2 h2 z2 f2 u2 => ?_)
  have z2 := z2.trans z1
  have hM := h.2.2.2
  obtain ⟨b600, _⟩ := hM.2.2.2.2.2 x hx
  have hfl := fnd_le (n := M 20 x) (b := tbx M x)
  obtain ⟨o1, o2, o3, o4, o5⟩ := us_ok hM (x := x) (w := fnd (M 20 x) (tbx M x)) (Nat.le_refl _)
  obtain ⟨⟨u1, u3⟩, u4⟩ := u2
  have hun : uN M x = (us M x (fnd (M 20 x) (tbx M x))).2.1 := rfl
  have hae : ∀ i k, aUse M D x i k = if k = 0 then nI (wpA (M 20 x) (tbx M x) ((us M x (fnd (M 20 x) (tbx M x))).2.2.1 i)) else if k = 1 then nI (weA (M 20 x) (tbx M x) ((us M x (fnd (M 20 x) (tbx M x))).2.2.1 i + (us M x (fnd (M 20 x) (tbx M x))).2.2.2 i - 1)) else if k = 2 then wyR (tmU M x i) else if k = 3 then wyR (enU M x ((us M x (fnd (M 20 x) (tbx M x))).2.2.1 i) ((us M x (fnd (M 20 x) (tbx M x))).2.2.2 i)) else nI (fdA M D (tmU M x) i) := fun _ _ => rfl
  have htu : ∀ i, tmU M x i = chT M x ((us M x (fnd (M 20 x) (tbx M x))).2.2.1 i) ((us M x (fnd (M 20 x) (tbx M x))).2.2.2 i) := fun _ => rfl
  generalize us M x (fnd (M 20 x) (tbx M x)) = d at o1 o2 o3 o4 o5 u1 u3 u4 hun hae htu
  have bad : ¬ (okN b (uN M x) ∧ okN c 5) → wp_X9_use_41 Q S2 G b c := by
    intro hn
    unfold wp_X9_use_41 wp_X9_use_42
    exact rt_right0 z2 (by decide) (bt2 rfl (none x hx rfl hn _ (h2.thr 2) (ms_same _ _ _ _)))
  by_cases okb : okN b (uN M x) ∧ okN c 5
  · obtain ⟨i, hi, rfl⟩ := okN_of okb.1 (by omega)
    obtain ⟨k, hk, rfl⟩ := okN_of okb.2 (by decide)
    rw [hun] at hi
    have hq := yes x i k hx (by omega) hk rfl rfl rfl S2 h2 z2
    rw [hae] at hq
    obtain ⟨v1, v2, v3, v4⟩ := u3 i hi
    obtain ⟨w1, w2, w3, w4⟩ := o4 i hi
    have i301 : vp_in (nI i) 301 := n_in (by omega) (by decide)
    refine bf1 (n_lt0 (by omega)) (bf1 (by rw [i_le d.2.1 i (hx := u1)]; omega) (bf1 (n_lt0 (by omega)) (bf1 (by rw [i_lt 4 k]; omega) ?_)))
    unfold wp_X9_use_42
    refine rt_right1 z2 (bf2 (by decide) ?_)
    rw [n_cl (show i < _ by omega), v1, v2, v3, v4, u4 i hi, n_cl (show d.2.2.1 i < _ by omega), n_sub1 (by omega), n_cl (show d.2.2.1 i + d.2.2.2 i - 1 < _ by omega), (f2.2 (d.2.2.1 i) (by omega)).1, (f2.2 (d.2.2.1 i + d.2.2.2 i - 1) (by omega)).2.1]
    refine ⟨fun e => ?_, fun e => ?_, fun e => ?_, fun e => ?_, fun e0 e1 e2 e3 => ?_⟩
    · rw [if_pos ((i_eq k 0).mp e)] at hq
      exact ⟨i301, n_in (by omega) (by decide), hq⟩
    · have e := (i_eq k 1).mp e
      rw [if_neg (by omega), if_pos e] at hq
      exact ⟨i301, n_in (by omega) (by decide), hq⟩
    · have e := (i_eq k 2).mp e
      rw [if_neg (by omega), if_neg (by omega), if_pos e, htu] at hq
      exact ⟨i301, hq⟩
    · have e := (i_eq k 3).mp e
      rw [if_neg (by omega), if_neg (by omega), if_neg (by omega), if_pos e] at hq
      exact ⟨i301, hq⟩
    · have e0 := fun o => e0 ((i_eq k 0).mpr o)
      have e1 := fun o => e1 ((i_eq k 1).mpr o)
      have e2 := fun o => e2 ((i_eq k 2).mpr o)
      have e3 := fun o => e3 ((i_eq k 3).mpr o)
      rw [if_neg e0, if_neg e1, if_neg e2, if_neg e3] at hq
      exact ⟨i301, hq⟩
  · refine ⟨fun _ => bad okb, fun n1 => ⟨fun _ => bad okb, fun n2 => ⟨fun _ => bad okb, fun n3 => ⟨fun _ => bad okb, fun n4 => absurd ?_ okb⟩⟩⟩⟩
    rw [u1] at n2
    refine ⟨⟨n1, ?_⟩, ⟨n3, ?_⟩⟩
    · rw [hun]; rw [fa_le] at n2; rw [fa_lt]; omega
    · have e4 : (4 : Int32).toInt = 4 := rfl
      have e5 : (nI 5).toInt = 5 := rfl
      rw [fa_lt, e4] at n4; rw [fa_lt, e5]; omega
end RUS
