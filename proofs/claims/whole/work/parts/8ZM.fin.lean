/-! pure: the start of the law -/
/-- where the reference's arrays come to lie -/
def posR (s : Nat) : Nat := if s = 2 then 47 else if s ≤ 20 then s + 42 else if s ≤ 24 then s + 41 else s + 40
def idxA : List Nat := [46, 47, 48, 49, 50, 51, 52, 53, 54, 55, 56, 57, 58, 59, 60, 61, 62, 63, 64, 65, 66, 67, 68, 69, 70, 71, 72, 73, 74, 75, 76, 77, 0, 1, 2, 3, 4, 5, 6, 7, 8, 9, 10, 11, 12, 13, 14, 15, 16, 17, 18, 19, 20, 21, 22, 23, 24, 25, 26, 27, 28, 29, 30, 31, 32, 33, 34, 35, 36, 37, 38, 39, 40, 41, 42, 43, 44, 45, 78]
def idxC : List Nat := [0, 1, 2, 3, 4, 5, 6, 7, 8, 9, 10, 11, 12, 13, 14, 15, 16, 17, 18, 19, 20, 21, 22, 23, 24, 25, 26, 27, 28, 29, 30, 31, 32, 33, 34, 35, 36, 37, 38, 39, 40, 41, 42, 43, 44, 45, 78]
theorem nd_map {as : Nat → Nat} : ∀ {l : List Nat}, (∀ a b, a ∈ l → b ∈ l → as a = as b → a = b) → l.Nodup → (l.map as).Nodup
  | [], _, _ => List.Pairwise.nil
  | x :: l, h, hl => by
    rw [List.nodup_cons] at hl
    rw [List.map_cons, List.nodup_cons]
    refine ⟨fun hm => ?_, nd_map (fun a b ha hb => h a b (List.mem_cons_of_mem x ha) (List.mem_cons_of_mem x hb)) hl.2⟩
    obtain ⟨y, hy, e9⟩ := List.mem_map.mp hm
    have := h y x (List.mem_cons_of_mem x hy) (List.mem_cons_self ..) e9
    rw [this] at hy
    exact hl.1 hy
theorem idxA_nd : idxA.Nodup := by decide +kernel
theorem idxA_lt : ∀ a ∈ idxA, a < 79 := by decide +kernel
theorem key_ok : ∀ y ∈ keys, pos y.1 y.2 < 46 ∧ keyAt (pos y.1 y.2) = y ∧ pos y.1 y.2 ∈ idxC := by decide +kernel
theorem lv0 {c i : Nat} (h : lv cp0 c i) : (c, i) ∈ keys ∨ (c = 18 ∧ i = 0) := by
  have z : ∀ j, cp0 20 j = 0 := fun _ => rfl
  match c, h with
  | 0, h =>
    have e9 : i = 0 := h
    rw [e9]; exact Or.inl (by decide)
  | 1, h =>
    have e9 : i = 0 := h
    rw [e9]; exact Or.inl (by decide)
  | 2, h =>
    have e9 : i = 0 := h
    rw [e9]; exact Or.inl (by decide)
  | 3, h =>
    have e8 : i < 3 := h
    have e9 : i = 0 ∨ i = 1 ∨ i = 2 := by omega
    rcases e9 with rfl | rfl | rfl <;> exact Or.inl (by decide)
  | 4, h => exact absurd rfl h.2
  | 5, h =>
    have e9 : i = 0 := h
    rw [e9]; exact Or.inl (by decide)
  | 6, h =>
    have e9 : i = 0 := h
    rw [e9]; exact Or.inl (by decide)
  | 7, h =>
    have e8 : i < 4 := h
    have e9 : i = 0 ∨ i = 1 ∨ i = 2 ∨ i = 3 := by omega
    rcases e9 with rfl | rfl | rfl | rfl <;> exact Or.inl (by decide)
  | 8, h =>
    have e9 : i = 0 := h
    rw [e9]; exact Or.inl (by decide)
  | 9, h =>
    have e8 : i < 6 := h
    have e9 : i = 0 ∨ i = 1 ∨ i = 2 ∨ i = 3 ∨ i = 4 ∨ i = 5 := by omega
    rcases e9 with rfl | rfl | rfl | rfl | rfl | rfl <;> exact Or.inl (by decide)
  | 10, h =>
    have e9 : i = 0 := h
    rw [e9]; exact Or.inl (by decide)
  | 11, h =>
    have e8 : i < 4 := h
    have e9 : i = 0 ∨ i = 1 ∨ i = 2 ∨ i = 3 := by omega
    rcases e9 with rfl | rfl | rfl | rfl <;> exact Or.inl (by decide)
  | 12, h =>
    have e9 : i = 0 := h
    rw [e9]; exact Or.inl (by decide)
  | 13, h =>
    have e9 : i = 0 := h
    rw [e9]; exact Or.inl (by decide)
  | 14, h =>
    have e8 : i < 10 + cp0 20 0 ∨ 16 ≤ i ∧ i < 16 + cp0 20 1 ∨ 76 ≤ i ∧ i < 76 + cp0 20 2 := h
    rw [z, z, z] at e8
    have e9 : i = 0 ∨ i = 1 ∨ i = 2 ∨ i = 3 ∨ i = 4 ∨ i = 5 ∨ i = 6 ∨ i = 7 ∨ i = 8 ∨ i = 9 := by omega
    rcases e9 with rfl | rfl | rfl | rfl | rfl | rfl | rfl | rfl | rfl | rfl <;> exact Or.inl (by decide)
  | 15, h =>
    have e8 : i < 10 + cp0 20 0 ∨ 16 ≤ i ∧ i < 16 + cp0 20 1 ∨ 76 ≤ i ∧ i < 76 + cp0 20 2 := h
    rw [z, z, z] at e8
    have e9 : i = 0 ∨ i = 1 ∨ i = 2 ∨ i = 3 ∨ i = 4 ∨ i = 5 ∨ i = 6 ∨ i = 7 ∨ i = 8 ∨ i = 9 := by omega
    rcases e9 with rfl | rfl | rfl | rfl | rfl | rfl | rfl | rfl | rfl | rfl <;> exact Or.inl (by decide)
  | 16, h =>
    have e8 : i < cp0 20 1 := h
    rw [z] at e8
    exact absurd e8 (Nat.not_lt_zero i)
  | 17, h =>
    have e8 : i < cp0 20 2 := h
    rw [z] at e8
    exact absurd e8 (Nat.not_lt_zero i)
  | 18, h => exact Or.inr ⟨rfl, h⟩
  | n + 19, h => exact False.elim h
/-- nothing told yet -/
def M0 : mN := fun _ _ => 0
def D0 : Nat → Int64 := fun _ => 0
theorem MI_0 : MI M0 D0 :=
  ⟨⟨Nat.zero_le _, fun _ => Nat.zero_le _⟩, ⟨Nat.zero_le _, fun e he => absurd he (Nat.not_lt_zero e)⟩, ⟨Nat.zero_le _, fun t ht => absurd ht (Nat.not_lt_zero t)⟩, fun g _ => ⟨Nat.zero_le _, fun i hi => absurd hi (Nat.not_lt_zero i), fun i _ hi => absurd hi (Nat.not_lt_zero i)⟩, fun g _ => ⟨fun k _ => tb_0 k, Nat.zero_le _⟩, fun x _ => ⟨Nat.zero_le _, fun k hk => absurd hk (Nat.not_lt_zero k)⟩⟩
theorem CD_0 : CD M0 D0 0 cp0 (fun _ _ _ => 0) (fun _ _ => 0) (fun _ => 0) := by
  refine ⟨⟨rfl, fun x hx => ?_, rfl, rfl, rfl, fun i hi => rfl, (fb_sm_const 0 40).symm⟩, ⟨rfl, fun k hk => absurd hk (Nat.not_lt_zero k)⟩, fun x hx => ⟨rfl, fun k hk => absurd hk (Nat.not_lt_zero k)⟩, ⟨0, by decide, rfl⟩, fun e he => absurd he (Nat.not_lt_zero e), fun t ht => absurd ht (Nat.not_lt_zero t), fun j hj => absurd hj (Nat.not_lt_zero j), fun g hg => rfl, rfl, fun g hg => ?_, rfl⟩
  · unfold cp0
    rw [if_pos rfl, if_neg (by omega), if_neg (by omega)]
  · show tb 0 g = decide (g < 40 ∧ (0 : Nat) = 1)
    rw [tb_0]
    exact (decide_eq_false (fun o => absurd o.2 (by decide))).symm
theorem pf_gPx {L : List Nat} {f : pF} {n : Nat} {as : Nat → Nat} {e : Nat → va_E} {ci a j : Nat} {fs fs' : List Value} {v : Value} {K : pF → Prop} (h : PF L f n as e) (k : Nat) (hk : k < n) (ha : as k = a) (he : e k = .inr (ci, fs)) (hj : j < fs.length) (hs : fs.set j v = fs') (hK : ∀ f' : pF, PF L f' n as (va_up e k (.inr (ci, fs'))) → K f') : gP L f ci a j v K := by
  subst hs
  exact h.gP k hk ha he hj hK
section FIN
variable {dA : Nat → ClassId} {zz : Nat → Nat} {Ln : Nat} {xs : Nat → Int32} {L : List Nat} {f : pF} {as : Nat → Nat} {e : Nat → va_E}
theorem CI_0 (h : PF L f 79 as e) (he : ∀ k, k < 46 → e k = eC dA zz as k) (ho : e 78 = .inl (dA 2, 1, .inr (.inl (fun _ => 0)))) : CI dA zz (as 0) (as 78) M0 D0 0 (idxC.map as) f := by
  have ok : ∀ c i, lv cp0 c i → pos c i < 79 ∧ keyAt (pos c i) = (c, i) ∧ pos c i ∈ idxC ∧ e (pos c i) = cC dA zz (fun c i => as (pos c i)) cp0 c i (fun _ => 0) (fun _ => 0) := by
    intro c i hl
    rcases lv0 hl with hk | ⟨rfl, rfl⟩
    · obtain ⟨k1, k2, k3⟩ := key_ok (c, i) hk
      refine ⟨by have : pos c i < 46 := k1
                 omega, k2, k3, ?_⟩
      rw [he (pos c i) k1]
      unfold eC
      have k2 : keyAt (pos c i) = (c, i) := k2
      rw [k2]
    · exact ⟨by decide, by decide, by decide, ho⟩
  refine ⟨fun c i => as (pos c i), cp0, fun _ _ _ => 0, fun _ _ => 0, fun _ => 0, ⟨fun c i hl => ?_, fun c i c' i' hl hl' e9 => ?_, fun i hi => ⟨Nat.le_refl _, Nat.le_refl _, Nat.zero_le _, fun h9 => absurd rfl h9⟩⟩, rfl, rfl, CD_0⟩
  · obtain ⟨k1, k2, k3, k4⟩ := ok c i hl
    exact ⟨List.mem_map.mpr ⟨pos c i, k3, rfl⟩, (h.1 (pos c i) k1).2.trans k4⟩
  · obtain ⟨k1, k2, _⟩ := ok c i hl
    obtain ⟨l1, l2, _⟩ := ok c' i' hl'
    have e8 := h.2 _ _ k1 l1 e9
    rw [e8, l2] at k2
    have := Prod.mk.inj k2
    exact ⟨this.1.symm, this.2.symm⟩
theorem fin_start (hL : Ln ≤ 3584) (h : PF L f 79 as e) (he : ∀ k, k < 46 → e k = eC dA zz as k) (hm : ∀ j, j < 32 → e (46 + j) = ((mW (dA 1) (dA 2) (dA 5) (as 46) (fun s => as (posR s)) (fun _ _ => 0) (fun _ _ => 0)).getD j (0, .inr (0, []))).2) (ho : e 78 = .inl (dA 2, 1, .inr (.inl (fun _ => 0)))) : lStart dA zz Ln xs L f (as 0) (as 46) (as 78) := by
  have hc := CI_0 h he ho
  refine ⟨fun s => as (posR s), fun _ _ => 0, fun _ _ => 0, idxC.map as, f, ?_, ?_, 513, ?_⟩
  · intro y hy
    rcases List.mem_append.mp hy with hy | hy
    · unfold mW at hy
      simp only [List.mem_cons, List.not_mem_nil, or_false] at hy
      rcases hy with rfl | rfl | rfl | rfl | rfl | rfl | rfl | rfl | rfl | rfl | rfl | rfl | rfl | rfl | rfl | rfl | rfl | rfl | rfl | rfl | rfl | rfl | rfl | rfl | rfl | rfl | rfl | rfl | rfl | rfl | rfl | rfl
      · exact ⟨(h.1 46 (by decide)).1, (h.1 46 (by decide)).2.trans (hm 0 (by decide))⟩
      · exact ⟨(h.1 47 (by decide)).1, (h.1 47 (by decide)).2.trans (hm 1 (by decide))⟩
      · exact ⟨(h.1 48 (by decide)).1, (h.1 48 (by decide)).2.trans (hm 2 (by decide))⟩
      · exact ⟨(h.1 49 (by decide)).1, (h.1 49 (by decide)).2.trans (hm 3 (by decide))⟩
      · exact ⟨(h.1 50 (by decide)).1, (h.1 50 (by decide)).2.trans (hm 4 (by decide))⟩
      · exact ⟨(h.1 51 (by decide)).1, (h.1 51 (by decide)).2.trans (hm 5 (by decide))⟩
      · exact ⟨(h.1 52 (by decide)).1, (h.1 52 (by decide)).2.trans (hm 6 (by decide))⟩
      · exact ⟨(h.1 53 (by decide)).1, (h.1 53 (by decide)).2.trans (hm 7 (by decide))⟩
      · exact ⟨(h.1 54 (by decide)).1, (h.1 54 (by decide)).2.trans (hm 8 (by decide))⟩
      · exact ⟨(h.1 55 (by decide)).1, (h.1 55 (by decide)).2.trans (hm 9 (by decide))⟩
      · exact ⟨(h.1 56 (by decide)).1, (h.1 56 (by decide)).2.trans (hm 10 (by decide))⟩
      · exact ⟨(h.1 57 (by decide)).1, (h.1 57 (by decide)).2.trans (hm 11 (by decide))⟩
      · exact ⟨(h.1 58 (by decide)).1, (h.1 58 (by decide)).2.trans (hm 12 (by decide))⟩
      · exact ⟨(h.1 59 (by decide)).1, (h.1 59 (by decide)).2.trans (hm 13 (by decide))⟩
      · exact ⟨(h.1 60 (by decide)).1, (h.1 60 (by decide)).2.trans (hm 14 (by decide))⟩
      · exact ⟨(h.1 61 (by decide)).1, (h.1 61 (by decide)).2.trans (hm 15 (by decide))⟩
      · exact ⟨(h.1 62 (by decide)).1, (h.1 62 (by decide)).2.trans (hm 16 (by decide))⟩
      · exact ⟨(h.1 63 (by decide)).1, (h.1 63 (by decide)).2.trans (hm 17 (by decide))⟩
      · exact ⟨(h.1 64 (by decide)).1, (h.1 64 (by decide)).2.trans (hm 18 (by decide))⟩
      · exact ⟨(h.1 65 (by decide)).1, (h.1 65 (by decide)).2.trans (hm 19 (by decide))⟩
      · exact ⟨(h.1 66 (by decide)).1, (h.1 66 (by decide)).2.trans (hm 20 (by decide))⟩
      · exact ⟨(h.1 67 (by decide)).1, (h.1 67 (by decide)).2.trans (hm 21 (by decide))⟩
      · exact ⟨(h.1 68 (by decide)).1, (h.1 68 (by decide)).2.trans (hm 22 (by decide))⟩
      · exact ⟨(h.1 69 (by decide)).1, (h.1 69 (by decide)).2.trans (hm 23 (by decide))⟩
      · exact ⟨(h.1 70 (by decide)).1, (h.1 70 (by decide)).2.trans (hm 24 (by decide))⟩
      · exact ⟨(h.1 71 (by decide)).1, (h.1 71 (by decide)).2.trans (hm 25 (by decide))⟩
      · exact ⟨(h.1 72 (by decide)).1, (h.1 72 (by decide)).2.trans (hm 26 (by decide))⟩
      · exact ⟨(h.1 73 (by decide)).1, (h.1 73 (by decide)).2.trans (hm 27 (by decide))⟩
      · exact ⟨(h.1 74 (by decide)).1, (h.1 74 (by decide)).2.trans (hm 28 (by decide))⟩
      · exact ⟨(h.1 75 (by decide)).1, (h.1 75 (by decide)).2.trans (hm 29 (by decide))⟩
      · exact ⟨(h.1 76 (by decide)).1, (h.1 76 (by decide)).2.trans (hm 30 (by decide))⟩
      · exact ⟨(h.1 77 (by decide)).1, (h.1 77 (by decide)).2.trans (hm 31 (by decide))⟩
    · unfold va_pl at hy
      obtain ⟨a, ha, rfl⟩ := List.mem_map.mp hy
      obtain ⟨k, hk, rfl⟩ := List.mem_map.mp ha
      have hk9 : k < 79 := idxA_lt k (by
        have : ∀ a ∈ idxC, a ∈ idxA := by decide +kernel
        exact this k hk)
      exact ⟨(h.1 k hk9).1, rfl⟩
  · have e1 : (mW (dA 1) (dA 2) (dA 5) (as 46) (fun s => as (posR s)) (fun _ _ => 0) (fun _ _ => 0)).map (fun q => q.1) = ([46, 47, 48, 49, 50, 51, 52, 53, 54, 55, 56, 57, 58, 59, 60, 61, 62, 63, 64, 65, 66, 67, 68, 69, 70, 71, 72, 73, 74, 75, 76, 77] : List Nat).map as := rfl
    have e2 : ∀ l : List Nat, (va_pl l f).map (fun q => q.1) = l := by
      intro l
      unfold va_pl
      rw [List.map_map]
      exact List.map_id l
    rw [List.map_append, e1, e2, ← List.map_append]
    exact nd_map (l := idxA) (fun a b ha hb => h.2 a b (idxA_lt a ha) (idxA_lt b hb)) idxA_nd
  · have := law_loop (dA := dA) (zz := zz) (x0 := as 0) (ou := as 78) (xs := xs) hL 512 0 (fun _ _ => 0) (fun _ _ => 0) (idxC.map as) f M0 D0 0 rfl hc ⟨fun _ _ _ => rfl, fun _ => rfl, rfl, MI_0⟩
    exact this
end FIN
