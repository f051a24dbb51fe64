/-! pure: lists -/
def ad2 (ad : Nat → Nat → Nat) (c i q : Nat) : Nat → Nat → Nat := fun c' i' => if c' = c ∧ i' = i then q else ad c' i'
theorem ad2_s {ad : Nat → Nat → Nat} {c i q : Nat} : ad2 ad c i q c i = q := if_pos ⟨rfl, rfl⟩
theorem ad2_n {ad : Nat → Nat → Nat} {c i q c' i' : Nat} (h : ¬ (c' = c ∧ i' = i)) : ad2 ad c i q c' i' = ad c' i' := if_neg h
theorem ad2_c {ad : Nat → Nat → Nat} {c i q c' i' : Nat} (h : c' ≠ c) : ad2 ad c i q c' i' = ad c' i' := if_neg (fun e => h e.1)
theorem ad2_i {ad : Nat → Nat → Nat} {c i q i' : Nat} (h : i' ≠ i) : ad2 ad c i q c i' = ad c i' := if_neg (fun e => h e.2)
/-- the elements of a list are there -/
theorem lv_el {cp : Nat → Nat → Nat} {i k : Nat} (hi : i < 3) (hk : k < cp 20 i) : lv cp (elS i) (elF i + k) := by
  match i, hi with
  | 0, _ => exact Or.inl (by show 10 + k < 10 + cp 20 0; omega)
  | 1, _ => show 0 + k < cp 20 1; omega
  | 2, _ => show 0 + k < cp 20 2; omega
section LS
variable {dA : Nat → ClassId} {zz : Nat → Nat} {ad : Nat → Nat → Nat} {cp : Nat → Nat → Nat} {V : cV} {Z : cZ} {L : List Nat} {f : pF}
theorem CH.isE (h : CH dA zz ad cp V Z L f) {i k : Nat} (hi : i < 3) (hk : k < cp 20 i) : isE L f (ad (elS i) (elF i + k)) := by
  have hl := lv_el (cp := cp) hi hk
  match i, hi with
  | 0, _ => exact ⟨5, by decide, cO (c := 14) h hl rfl⟩
  | 1, _ => exact ⟨6, by decide, cO (c := 16) h hl rfl⟩
  | 2, _ => exact ⟨4, by decide, cO (c := 17) h hl rfl⟩
/-- what a cell holds doesn't hang on what isn't there -/
theorem cC_cong {ad' : Nat → Nat → Nat} {cp' : Nat → Nat → Nat} (h : CH dA zz ad cp V Z L f) (hlv : ∀ c i, lv cp c i → ad' c i = ad c i) (h3 : ∀ i, i < 3 → cp' 3 i = cp 3 i) (h4 : ∀ i, i < 3 → cp' 4 i = cp 4 i) (h15 : ∀ i, lv cp 15 i → cp' 15 i = cp 15 i) {c i : Nat} (hl : lv cp c i) (v : Nat → Int32) (z : Nat → Int64) : cC dA zz ad' cp' c i v z = cC dA zz ad cp c i v z := by
  have r14 : ∀ j, j < 10 → ad' 14 j = ad 14 j := fun j hj => hlv 14 j (Or.inl (by omega))
  match c with
  | 0 => unfold cC; simp only []; rw [r14 0 (by decide), hlv 1 0 rfl, hlv 2 0 rfl, hlv 5 0 rfl, hlv 8 0 rfl, hlv 13 0 rfl]
  | 1 =>
    unfold cC; simp only []
    have e : (fun k => if k < 8 then some (ad' 14 (k + 1)) else none) = (fun k => if k < 8 then some (ad 14 (k + 1)) else none) := by
      funext k
      by_cases hk : k < 8
      · rw [if_pos hk, if_pos hk, r14 (k + 1) (by omega)]
      · rw [if_neg hk, if_neg hk]
    rw [e]
  | 2 => unfold cC; simp only []; rw [hlv 3 0 (by show 0 < 3; decide), hlv 3 1 (by show 1 < 3; decide), hlv 3 2 (by show 2 < 3; decide)]
  | 3 =>
    have hl : i < 3 := hl
    unfold cC; simp only []
    rw [h3 i hl, h4 i hl]
    by_cases h9 : cp 4 i = 0
    · rw [if_pos h9, if_pos h9]
    · rw [if_neg h9, if_neg h9, hlv 4 i ⟨hl, h9⟩]
  | 4 =>
    have hl : i < 3 ∧ cp 4 i ≠ 0 := hl
    unfold cC; simp only []
    rw [h4 i hl.1]
    have e : (fun k => if k < cp' 3 i then some (ad' (elS i) (elF i + k)) else none) = (fun k => if k < cp 3 i then some (ad (elS i) (elF i + k)) else none) := by
      funext k
      rw [h3 i hl.1]
      by_cases hk : k < cp 3 i
      · rw [if_pos hk, if_pos hk, hlv _ _ (lv_el hl.1 (Nat.lt_of_lt_of_le hk (h.2.2 i hl.1).1))]
      · rw [if_neg hk, if_neg hk]
    rw [e]
  | 5 => unfold cC; simp only []; rw [hlv 6 0 rfl, hlv 7 0 (by show 0 < 4; decide), hlv 7 1 (by show 1 < 4; decide), hlv 7 2 (by show 2 < 4; decide), hlv 7 3 (by show 3 < 4; decide)]
  | 6 => rfl
  | 7 => rfl
  | 8 => unfold cC; simp only []; rw [hlv 2 0 rfl, hlv 5 0 rfl, hlv 10 0 rfl, hlv 9 0 (by show 0 < 6; decide), hlv 9 1 (by show 1 < 6; decide), hlv 9 2 (by show 2 < 6; decide), hlv 9 3 (by show 3 < 6; decide), hlv 9 4 (by show 4 < 6; decide), hlv 9 5 (by show 5 < 6; decide)]
  | 9 => rfl
  | 10 => unfold cC; simp only []; rw [hlv 2 0 rfl, hlv 11 0 (by show 0 < 4; decide), hlv 11 1 (by show 1 < 4; decide), hlv 11 2 (by show 2 < 4; decide), hlv 11 3 (by show 3 < 4; decide), hlv 12 0 rfl]
  | 11 => rfl
  | 12 => rfl
  | 13 => unfold cC; simp only []; rw [hlv 2 0 rfl, r14 9 (by decide)]
  | 14 => unfold cC; simp only []; rw [hlv 15 i hl]
  | 15 => unfold cC; simp only []; rw [h15 i hl]
  | 16 => unfold cC; simp only []; rw [hlv 14 (16 + i) (Or.inr (Or.inl ⟨by omega, by have : i < cp 20 1 := hl; omega⟩))]
  | 17 => unfold cC; simp only []; rw [hlv 14 (76 + i) (Or.inr (Or.inr ⟨by omega, by have : i < cp 20 2 := hl; omega⟩))]
  | 18 => rfl
  | n + 19 => exact hl.elim
/-- a list has one more, perhaps in a new row -/
theorem CH.list {i e' cap' : Nat} {m' : Int32} {L' : List Nat} {f' : pF} (h : CH dA zz ad cp V Z L f) (hi : i < 3) (hlv : cp 3 i + 1 ≤ cp 20 i) (hL : ∀ x ∈ L, x ∈ L') (he : e' ∈ L') (hz : e' ≠ zz 0) (hc : cp 3 i + 1 ≤ cap') (hc2 : cap' ≤ 600) (hfr : ∀ c j, lv cp c j → ad c j = e' → c = 4 ∧ j = i) (f3 : f' (ad 3 i) = .inr (0, [.int m', .ref e', .int (nI (cp 3 i + 1))])) (f4 : f' e' = .inl (dA 4, cap', .inr (.inr (.inr (.inr (fun k => if k < cp 3 i + 1 then some (ad (elS i) (elF i + k)) else none)))))) (ho : ∀ c j, lv cp c j → ¬ (c = 3 ∧ j = i) → ¬ (c = 4 ∧ j = i) → f' (ad c j) = f (ad c j)) : CH dA zz (ad2 ad 4 i e') (ad2 (ad2 cp 3 i (cp 3 i + 1)) 4 i cap') (vst V 3 i 0 m') Z L' f' := by
  have e4 : ad2 (ad2 cp 3 i (cp 3 i + 1)) 4 i cap' 4 i = cap' := ad2_s
  have e3 : ad2 (ad2 cp 3 i (cp 3 i + 1)) 4 i cap' 3 i = cp 3 i + 1 := by rw [ad2_c (by decide), ad2_s]
  have e20 : ∀ j, ad2 (ad2 cp 3 i (cp 3 i + 1)) 4 i cap' 20 j = cp 20 j := fun j => by rw [ad2_c (by decide), ad2_c (by decide)]
  have e15 : ∀ j, ad2 (ad2 cp 3 i (cp 3 i + 1)) 4 i cap' 15 j = cp 15 j := fun j => by rw [ad2_c (by decide), ad2_c (by decide)]
  have e3o : ∀ j, j ≠ i → ad2 (ad2 cp 3 i (cp 3 i + 1)) 4 i cap' 3 j = cp 3 j := fun j hj => by rw [ad2_c (by decide), ad2_i hj]
  have e4o : ∀ j, j ≠ i → ad2 (ad2 cp 3 i (cp 3 i + 1)) 4 i cap' 4 j = cp 4 j := fun j hj => by rw [ad2_i hj, ad2_c (by decide)]
  generalize hcp : ad2 (ad2 cp 3 i (cp 3 i + 1)) 4 i cap' = cp' at e4 e3 e20 e15 e3o e4o ⊢
  have hold : ∀ c j, lv cp' c j → ¬ (c = 4 ∧ j = i) → lv cp c j := by
    intro c j hl hn
    match c with
    | 0 | 1 | 2 | 3 | 5 | 6 | 7 | 8 | 9 | 10 | 11 | 12 | 13 | 18 => exact hl
    | 4 => exact ⟨hl.1, fun e => hl.2 (by rw [e4o j (fun e => hn ⟨rfl, e⟩)]; exact e)⟩
    | 14 => have hl : j < 10 + cp' 20 0 ∨ 16 ≤ j ∧ j < 16 + cp' 20 1 ∨ 76 ≤ j ∧ j < 76 + cp' 20 2 := hl; rw [e20, e20, e20] at hl; exact hl
    | 15 => have hl : j < 10 + cp' 20 0 ∨ 16 ≤ j ∧ j < 16 + cp' 20 1 ∨ 76 ≤ j ∧ j < 76 + cp' 20 2 := hl; rw [e20, e20, e20] at hl; exact hl
    | 16 => have hl : j < cp' 20 1 := hl; rw [e20] at hl; exact hl
    | 17 => have hl : j < cp' 20 2 := hl; rw [e20] at hl; exact hl
    | n + 19 => exact hl.elim
  refine ⟨?_, ?_, ?_⟩
  · intro c j hl
    by_cases h4 : c = 4 ∧ j = i
    · obtain ⟨rfl, rfl⟩ := h4
      rw [ad2_s]
      refine ⟨he, f4.trans ?_⟩
      unfold cC; simp only []
      rw [e4, e3]
      have e : (fun k => if k < cp 3 j + 1 then some (ad (elS j) (elF j + k)) else none) = (fun k => if k < cp 3 j + 1 then some (ad2 ad 4 j e' (elS j) (elF j + k)) else none) := by
        funext k
        rw [ad2_c (by match j, hi with | 0, _ => decide | 1, _ => decide | 2, _ => decide)]
      rw [e]
    · have hl0 := hold c j hl h4
      rw [ad2_n h4]
      refine ⟨hL _ (h.1 c j hl0).1, ?_⟩
      by_cases h3 : c = 3 ∧ j = i
      · obtain ⟨rfl, rfl⟩ := h3
        rw [f3, vst_s]
        unfold cC; simp only []
        rw [e4, e3, if_neg (by omega), ad2_s]
        rfl
      · rw [ho c j hl0 h3 h4, (h.1 c j hl0).2, vst_n h3]
        match c with
        | 3 =>
          have hj : j < 3 := hl0
          have hji : j ≠ i := fun e => h3 ⟨rfl, e⟩
          unfold cC; simp only []
          rw [e4o j hji, e3o j hji, ad2_i hji]
        | 4 =>
          have hj : j < 3 := hl0.1
          have hji : j ≠ i := fun e => h4 ⟨rfl, e⟩
          unfold cC; simp only []
          rw [e4o j hji, e3o j hji]
          have e : (fun k => if k < cp 3 j then some (ad (elS j) (elF j + k)) else none) = (fun k => if k < cp 3 j then some (ad2 ad 4 i e' (elS j) (elF j + k)) else none) := by
            funext k
            rw [ad2_c (by match j, hj with | 0, _ => decide | 1, _ => decide | 2, _ => decide)]
          rw [e]
        | 15 => unfold cC; simp only []; rw [e15]
        | 0 | 1 | 2 | 5 | 6 | 7 | 8 | 9 | 10 | 11 | 12 | 13 | 14 | 16 | 17 | 18 => rfl
        | n + 19 => exact hl0.elim
  · intro c j c' j' hl hl' e
    by_cases h4 : c = 4 ∧ j = i
    · by_cases h4' : c' = 4 ∧ j' = i
      · exact ⟨h4.1.trans h4'.1.symm, h4.2.trans h4'.2.symm⟩
      · rw [ad2_n h4', h4.1, h4.2, ad2_s] at e
        exact absurd (hfr c' j' (hold c' j' hl' h4') e.symm) h4'
    · by_cases h4' : c' = 4 ∧ j' = i
      · rw [ad2_n h4, h4'.1, h4'.2, ad2_s] at e
        exact absurd (hfr c j (hold c j hl h4) e) h4
      · rw [ad2_n h4, ad2_n h4'] at e
        exact h.2.1 c j c' j' (hold c j hl h4) (hold c' j' hl' h4') e
  · intro j hj
    have hh := h.2.2 j hj
    by_cases e : j = i
    · subst e
      rw [e3, e4, e20, ad2_s]
      exact ⟨hlv, hc, hc2, fun _ => hz⟩
    · rw [e3o j e, e4o j e, e20, ad2_i e]
      exact hh
theorem l_size {Q : Int32 → List Nat → pF → Prop} {i : Nat} (h : CH dA zz ad cp V Z L f) (hi : i < 3) (hQ : Q (nI (cp 3 i)) L f) : wp_Jx4a65c_size_8abf5_0 dA zz Q L f (ad 3 i) := cgI (c := 3) h hi rfl rfl hQ
theorem l_O {i : Nat} (h : CH dA zz ad cp V Z L f) (hi : i < 3) : isO L f 0 (ad 3 i) := cO (c := 3) h hi rfl
theorem l_get {Q : Nat → List Nat → pF → Prop} {i : Nat} (h : CH dA zz ad cp V Z L f) (hi : i < 3) (k : Nat) (hk : k < cp 3 i) (hQ : Q (ad (elS i) (elF i + k)) L f) : wp_Jx4a65c_get_915e3_0 dA zz Q L f (ad 3 i) (nI k) := by
  obtain ⟨b1, b2, b3, b4⟩ := h.2.2 i hi
  unfold wp_Jx4a65c_get_915e3_0
  refine cgI (c := 3) h hi rfl rfl ?_
  unfold wp_J15_checkIndex_7cf53_0 wp_J3_checkIndex_8e157_0
  refine bf1 (n_lt0 (by omega)) (bt1 ((i_lt k (cp 3 i)).mpr hk) ⟨l_O h hi, ?_⟩)
  unfold wp_Jx4a65c_elementData_915e3_0
  refine cgR (c := 3) h hi rfl rfl ?_
  rw [if_neg (by omega)]
  have h4 : lv cp 4 i := ⟨hi, by omega⟩
  refine ⟨cp 4 i, _, ad (elS i) (elF i + k), ⟨(h.1 4 i h4).1, (h.1 4 i h4).2, n_in (by omega) (by omega), ?_⟩, hQ⟩
  rw [n_cl (by omega)]
  exact if_pos hk
theorem l_add11 {Q : List Nat → pF → Prop} {i e n v : Nat} {f0 : pF} {g : Nat → Option Nat} {cap : Nat} {m : Int32} (he : e ∈ L) (h3 : ad 3 i ∈ L) (hE : isE L f0 v) (e3 : f0 (ad 3 i) = .inr (0, [.int m, .ref e, .int (nI n)])) (e4 : f0 e = .inl (dA 4, cap, .inr (.inr (.inr (.inr g))))) (hn : n < cap) (hc : cap ≤ 600) (hQ : Q L (va_up (va_up f0 e (.inl (dA 4, cap, .inr (.inr (.inr (.inr (va_up g n (some v)))))))) (ad 3 i) (.inr (0, [.int m, .ref e, .int (nI (n + 1))])))) : wp_Jx4a65c_add_72be8_11 dA zz Q L f0 (ad 3 i) v e (nI n) := by
  have hne : ad 3 i ≠ e := fun x => by rw [x, e4] at e3; exact absurd e3 (by simp)
  unfold wp_Jx4a65c_add_72be8_11
  refine ⟨hE, ⟨cap, g, ⟨he, e4, n_in hn (by omega)⟩, ?_⟩⟩
  rintro _ rfl
  rw [n_cl (by omega)]
  refine ⟨_, ⟨h3, by rw [va_up_n hne]; exact e3, by show 2 < 3; decide⟩, ?_⟩
  rintro _ rfl
  rw [nI_1]
  exact hQ
set_option maxHeartbeats 1000000 in
theorem l_add {Q : Int32 → List Nat → pF → Prop} {i : Nat} (h : CH dA zz ad cp V Z L f) (hi : i < 3) (hlv : cp 3 i + 1 ≤ cp 20 i) (hsz : cp 3 i ≤ 330) (hQ : ∀ (q cap : Nat) (V' : cV) (L' : List Nat) (f' : pF), (∀ c j, c ≠ 3 → V' c j = V c j) → CH dA zz (ad2 ad 4 i q) (ad2 (ad2 cp 3 i (cp 3 i + 1)) 4 i cap) V' Z L' f' → Q 1 L' f') : wp_Jx4a65c_add_9ea2d_0 dA zz Q L f (ad 3 i) (ad (elS i) (elF i + cp 3 i)) := by
  unfold wp_Jx4a65c_add_9ea2d_0
  refine cgI (c := 3) h hi rfl rfl (cgPi (c := 3) h hi rfl 0 (by show 0 < 3; decide) rfl ?_)
  intro f7 h7
  generalize hm1 : V 3 i 0 + 1 = m1 at h7
  have hV1 : ∀ c j, c ≠ 3 → vst (vst V 3 i 0 m1) 3 i 0 m1 c j = V c j := fun c j hc => by rw [vst_n (fun e => hc e.1), vst_n (fun e => hc e.1)]
  obtain ⟨b1, b2, b3, b4⟩ := h7.2.2 i hi
  have m3 : ad 3 i ∈ L := (h7.1 3 i hi).1
  have F3 : f7 (ad 3 i) = .inr (0, [.int m1, .ref (if cp 4 i = 0 then zz 0 else ad 4 i), .int (nI (cp 3 i))]) := by
    rw [(h7.1 3 i hi).2, vst_s]; rfl
  have hE := h7.isE hi (Nat.lt_of_lt_of_le (Nat.lt_succ_self _) hlv)
  have hid : ∀ c j, lv cp c j → ¬ (c = 3 ∧ j = i) → ad c j ≠ ad 3 i := fun c j hl hn e => hn (h7.2.1 c j 3 i hl hi e)
  have newrow : ∀ (q cap : Nat) (g : Nat → Option Nat), q ∉ L → q ≠ zz 0 → cp 3 i < cap → cap ≤ 600 → (∀ k, g k = if k < cp 3 i then some (ad (elS i) (elF i + k)) else none) → ∀ f1 : pF, f1 q = .inl (dA 4, cap, .inr (.inr (.inr (.inr g)))) → (∀ x ∈ L, x ≠ ad 3 i → f1 x = f7 x) → f1 (ad 3 i) = .inr (0, [.int m1, .ref q, .int (nI (cp 3 i))]) → wp_Jx4a65c_add_72be8_11 dA zz (fun L_20 f_20 => Q 1 L_20 f_20) (L ++ [q]) f1 (ad 3 i) (ad (elS i) (elF i + cp 3 i)) q (nI (cp 3 i)) := by
    intro q cap g hq hz hcap hc6 hg f1 e1 e2 e3
    have m3' : ad 3 i ∈ L ++ [q] := List.mem_append_left _ m3
    have hqn : ∀ c j, lv cp c j → ad c j ≠ q := fun c j hl e => hq (e ▸ (h7.1 c j hl).1)
    have hel := lv_el (cp := cp) hi (Nat.lt_of_lt_of_le (Nat.lt_succ_self _) hlv)
    have hE1 : isE (L ++ [q]) f1 (ad (elS i) (elF i + cp 3 i)) := by
      obtain ⟨ci, hci, hL, fs, hf⟩ := hE
      refine ⟨ci, hci, List.mem_append_left _ hL, fs, (e2 _ hL (hid _ _ hel (fun e => ?_))).trans hf⟩
      match i, hi, e with
      | 0, _, e => exact absurd e.1 (by decide)
      | 1, _, e => exact absurd e.1 (by decide)
      | 2, _, e => exact absurd e.1 (by decide)
    refine l_add11 (List.mem_append_right _ (List.mem_singleton.mpr rfl)) m3' hE1 e3 e1 hcap hc6 ?_
    refine hQ q cap _ _ _ hV1 (CH.list (m' := m1) h7 hi hlv (fun x hx => List.mem_append_left _ hx) (List.mem_append_right _ (List.mem_singleton.mpr rfl)) hz hcap hc6 (fun c j hl e => absurd e (hqn c j hl)) va_up_s ?_ ?_)
    · rw [va_up_n (Ne.symm (hqn 3 i hi)), va_up_s]
      have e : va_up g (cp 3 i) (some (ad (elS i) (elF i + cp 3 i))) = (fun k => if k < cp 3 i + 1 then some (ad (elS i) (elF i + k)) else none) := by
        funext k
        by_cases hk : k = cp 3 i
        · subst hk; rw [va_up_s, if_pos (Nat.lt_succ_self _)]
        · rw [va_up_n hk, hg]
          by_cases h2 : k < cp 3 i
          · rw [if_pos h2, if_pos (by omega)]
          · rw [if_neg h2, if_neg (by omega)]
      rw [e]
    · intro c j hl h3 h4
      rw [va_up_n (hid c j hl h3), va_up_n (hqn c j hl)]
      exact e2 _ (h7.1 c j hl).1 (hid c j hl h3)
  refine cgR (c := 3) h7 hi rfl rfl (cgI (c := 3) h7 hi rfl rfl ⟨l_O h7 hi, ?_⟩)
  unfold wp_Jx4a65c_add_72be8_0
  by_cases hz : cp 4 i = 0
  · have hn0 : cp 3 i = 0 := by omega
    rw [if_pos hz] at F3 ⊢
    refine ⟨fun _ => ?_, fun hne => absurd rfl hne⟩
    refine bt2 (by rw [hn0]; rfl) ⟨l_O h7 hi, ?_⟩
    unfold wp_Jx4a65c_grow_d5877_0
    refine cgI (c := 3) h7 hi rfl rfl ⟨l_O h7 hi, ?_⟩
    unfold wp_Jx4a65c_grow_92f84_0
    refine cgR (c := 3) h7 hi rfl rfl ?_
    rw [if_pos hz]
    refine ⟨fun _ => ?_, fun hne => absurd rfl hne⟩
    refine bf1 (by decide) (cgR (c := 3) h7 hi rfl rfl ?_)
    rw [if_pos hz]
    refine ⟨fun _ => ?_, fun hne => absurd rfl hne⟩
    rintro _ rfl
    have e10 : (if (10 : Int32) < nI (cp 3 i) + 1 then nI (cp 3 i) + 1 else 10) = nI 10 := by rw [hn0]; decide
    rw [e10]
    refine ⟨⟨n_lt0 (by decide), by rw [n_cl (by decide)]; decide⟩, ?_⟩
    rintro q hq hqz _ _ rfl rfl
    rw [n_cl (by decide)]
    have hqn : ad 3 i ≠ q := fun e => hq (e ▸ m3)
    refine ⟨_, ⟨List.mem_append_left _ m3, by rw [va_up_n hqn]; exact F3, by show 1 < 3; decide⟩, ?_⟩
    rintro _ rfl
    refine newrow q 10 _ hq hqz (by omega) (by decide) (fun k => ?_) _ (by rw [va_up_n (Ne.symm hqn), va_up_s]) (fun x hx hx3 => by rw [va_up_n hx3, va_up_n (nmem hx hq)]) va_up_s
    rw [if_neg (by omega)]
  · have h4 : lv cp 4 i := ⟨hi, hz⟩
    have hz4 := b4 hz
    have M4 := (h7.1 4 i h4).1
    have F4 : f7 (ad 4 i) = .inl (dA 4, cp 4 i, .inr (.inr (.inr (.inr (fun k => if k < cp 3 i then some (ad (elS i) (elF i + k)) else none))))) := (h7.1 4 i h4).2
    rw [if_neg hz] at F3 ⊢
    refine ⟨fun e => absurd e hz4, fun _ => ⟨_, ⟨M4, F4⟩, ?_⟩⟩
    refine bn (i_eq (cp 3 i) (cp 4 i)) (fun he => ⟨l_O h7 hi, ?_⟩) (fun he => ?_)
    · -- a new row
      unfold wp_Jx4a65c_grow_d5877_0
      refine cgI (c := 3) h7 hi rfl rfl ⟨l_O h7 hi, ?_⟩
      unfold wp_Jx4a65c_grow_92f84_0
      refine cgR (c := 3) h7 hi rfl rfl ?_
      rw [if_neg hz]
      refine ⟨fun e => absurd e hz4, fun _ => ⟨_, ⟨M4, F4⟩, ?_⟩⟩
      refine bt1 ((i_lt 0 (cp 4 i)).mpr (by omega)) ?_
      unfold wp_Jx4a65c_grow_92f84_20 wp_J8_newLength_cabcc_0
      have e1 : nI (cp 3 i) + 1 - Int32.ofNat (cp 4 i) = nI 1 := by
        rw [nI_1]; exact (n_sub (by omega)).trans (by rw [he]; congr 1; omega)
      have e2 : Int32.ofNat (cp 4 i) >>> ((1 : Int32) &&& 31) = nI (cp 4 i / 2) := pk_shrN (n := cp 4 i) (by omega) _ 1 (by decide)
      rw [e1, e2]
      rintro _ rfl
      have e3 : (if nI 1 < nI (cp 4 i / 2) then nI (cp 4 i / 2) else nI 1) = nI (if 1 < cp 4 i / 2 then cp 4 i / 2 else 1) := by
        by_cases h9 : 1 < cp 4 i / 2
        · rw [if_pos h9, if_pos (nI_lt h9 (by omega))]
        · rw [if_neg h9, if_neg (nI_nlt (by omega) (by omega))]
      rw [e3]
      rintro _ rfl
      have e5 : Int32.ofNat (cp 4 i) + nI (if 1 < cp 4 i / 2 then cp 4 i / 2 else 1) = nI (cp 4 i + (if 1 < cp 4 i / 2 then cp 4 i / 2 else 1)) := nI_add _ _
      rw [e5]
      generalize hcc : cp 4 i + (if 1 < cp 4 i / 2 then cp 4 i / 2 else 1) = cc
      have hcc1 : cp 4 i < cc ∧ cc ≤ 600 := by
        rw [← hcc]
        by_cases h9 : 1 < cp 4 i / 2
        · rw [if_pos h9]; omega
        · rw [if_neg h9]; omega
      refine bf1 (by rw [i_le cc 0]; omega) (bf1 (by rw [i_lt 2147483639 cc]; omega) (cgR (c := 3) h7 hi rfl rfl ?_))
      rw [if_neg hz]
      unfold wp_J7_copyOf_1904c_0
      refine ⟨⟨_, M4, F4⟩, ?_⟩
      unfold wp_J7_copyOf_6403c_0
      refine ⟨fun e => absurd rfl e, fun _ => ⟨⟨n_lt0 (by omega), by rw [n_cl (by omega)]; omega⟩, ?_⟩⟩
      rintro q hq hqz _ _ rfl rfl
      rw [n_cl (by omega)]
      have hqn : ∀ x ∈ L, x ≠ q := fun x hx e => hq (e ▸ hx)
      unfold wp_J7_copyOf_6403c_24
      refine ⟨fun e => absurd e hz4, fun _ => ⟨_, ⟨List.mem_append_left _ M4, by rw [va_up_n (hqn _ M4)]; exact F4⟩, ?_⟩⟩
      rintro _ rfl
      have e6 : (if nI cc < Int32.ofNat (cp 4 i) then nI cc else Int32.ofNat (cp 4 i)) = nI (cp 4 i) := if_neg (nI_nlt (a := cc) (by omega) (by omega))
      rw [show (if nI cc < Int32.ofNat (cp 4 i, (Sum.inr (Sum.inr (Sum.inr (Sum.inr (fun k => if k < cp 3 i then some (ad (elS i) (elF i + k)) else none)))) : _)).1 then nI cc else Int32.ofNat (cp 4 i, (Sum.inr (Sum.inr (Sum.inr (Sum.inr (fun k => if k < cp 3 i then some (ad (elS i) (elF i + k)) else none)))) : _)).1) = nI (cp 4 i) from e6]
      refine ⟨cp 4 i, cc, (fun k => if k < cp 3 i then some (ad (elS i) (elF i + k)) else none), (fun _ => none), ⟨List.mem_append_left _ M4, by rw [va_up_n (hqn _ M4)]; exact F4, List.mem_append_right _ (List.mem_singleton.mpr rfl), va_up_s, by decide, by decide, n_lt0 (by omega), ?_, ?_, ?_⟩, ?_⟩
      · rw [n_cl (by omega)]; show 0 + cp 4 i ≤ cp 4 i; omega
      · rw [n_cl (by omega)]; show 0 + cp 4 i ≤ cc; omega
      · intro k hk y hy
        rw [show (Int32.toNatClampNeg 0 + k) = k from Nat.zero_add k] at hy
        have hy : (if k < cp 3 i then some (ad (elS i) (elF i + k)) else none) = some y := hy
        by_cases h9 : k < cp 3 i
        · rw [if_pos h9] at hy
          obtain ⟨ci, hci, hL9, fs, hf9⟩ := h7.isE hi (k := k) (by omega)
          cases hy
          exact ⟨ci, hci, List.mem_append_left _ hL9, fs, by rw [va_up_n (hqn _ hL9)]; exact hf9⟩
        · rw [if_neg h9] at hy; exact absurd hy (by simp)
      · rintro _ rfl
        rw [n_cl (by omega)]
        refine ⟨_, ⟨List.mem_append_left _ m3, by rw [va_up_n (hqn _ m3), va_up_n (hqn _ m3)]; exact F3, by show 1 < 3; decide⟩, ?_⟩
        rintro _ rfl
        refine newrow q cc _ hq hqz (by omega) (by omega) (fun k => ?_) _ (by rw [va_up_n (Ne.symm (hqn _ m3)), va_up_s]) (fun x hx hx3 => by rw [va_up_n hx3, va_up_n (hqn _ hx), va_up_n (hqn _ hx)]) va_up_s
        by_cases hk : k < cp 4 i
        · rw [pk_cpy_in (by show 0 ≤ k; omega) (by show k < 0 + cp 4 i; omega)]
          show (if 0 + (k - 0) < cp 3 i then some (ad (elS i) (elF i + (0 + (k - 0)))) else none) = _
          rw [show 0 + (k - 0) = k by omega]
        · rw [pk_cpy_out (Or.inr (by show 0 + cp 4 i ≤ k; omega)), if_neg (by omega)]
    · -- in its place
      have hne : ad 3 i ≠ ad 4 i := fun e => absurd (h7.2.1 3 i 4 i hi h4 e).1 (by decide)
      refine l_add11 M4 m3 hE F3 F4 (by omega) b3 ?_
      refine hQ (ad 4 i) (cp 4 i) _ _ _ hV1 (CH.list (m' := m1) h7 hi hlv (fun x hx => hx) M4 hz4 (by omega) b3 (fun c j hl e => h7.2.1 c j 4 i hl h4 e) va_up_s ?_ ?_)
      · rw [va_up_n (Ne.symm hne), va_up_s]
        have e : va_up (fun k => if k < cp 3 i then some (ad (elS i) (elF i + k)) else none) (cp 3 i) (some (ad (elS i) (elF i + cp 3 i))) = (fun k => if k < cp 3 i + 1 then some (ad (elS i) (elF i + k)) else none) := by
          funext k
          by_cases hk : k = cp 3 i
          · subst hk; rw [va_up_s, if_pos (Nat.lt_succ_self _)]
          · rw [va_up_n hk]
            by_cases h2 : k < cp 3 i
            · rw [if_pos h2, if_pos (by omega)]
            · rw [if_neg h2, if_neg (by omega)]
        rw [e]
      · intro c j hl h3 h4'
        rw [va_up_n (hid c j hl h3), va_up_n (fun e => h4' (h7.2.1 c j 4 i hl h4 e))]
end LS
