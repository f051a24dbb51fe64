theorem iw_L_law_RX8 : ∀ w ∈ u_ws RX8 TX8 6, w ∈ wsL_law := by decide +kernel
theorem iw_L_law_RX9 : ∀ w ∈ u_ws RX9 TX9 38, w ∈ wsL_law := by decide +kernel
theorem la_L_law_long : Cond.arrayClass .long ∈ wsL_law := by decide +kernel
theorem lk_L_law_73 : Cond.classLink RL 73 RX9 ∈ wsL_law := by decide +kernel
theorem lk_L_law_8 : Cond.classLink RL 8 RX8 ∈ wsL_law := by decide +kernel
theorem li_L_law_RX8 : Cond.instantiable RX8 6 ∈ wsL_law := by decide +kernel
theorem li_L_law_RX9 : Cond.instantiable RX9 38 ∈ wsL_law := by decide +kernel
theorem lim_L_law_X8_init : Cond.instanceMethod yX8_init ∈ wsL_law := by decide +kernel
theorem lim_L_law_X9_init : Cond.instanceMethod yX9_init ∈ wsL_law := by decide +kernel
theorem lm_L_law_72 : Cond.methodLink RL 72 yX8_init ∈ wsL_law := by decide +kernel
theorem lm_L_law_75 : Cond.methodLink RL 75 yX9_init ∈ wsL_law := by decide +kernel
theorem lz_L_law_RX8 : Cond.initialized RX8 ∈ wsL_law := by decide +kernel
theorem lz_L_law_RX9 : Cond.initialized RX9 ∈ wsL_law := by decide +kernel
def wp_law_0 (dA : Nat → ClassId) (zz : Nat → Nat) (K : List Nat → pF → Nat → Nat → Nat → Prop) (L : List Nat) (f : pF) : Prop :=
    (nO zz L f (.inr (9, [.null, .null, .null, .null, .null, .null])) (fun q_0 L_0 f_0 =>
      (wp_X8_init_0 dA zz (fun L_4 f_4 =>
        (nO zz L_4 f_4 (.inr (10, [.int 0, .int 0, .null, .int 0, .int 0, .int 0, .null, .null, .null, .null, .null, .null, .null, .null, .null, .null, .null, .null, .null, .null, .null, .int 0, .null, .null, .null, .int 0, .null, .null, .null, .null, .null, .null, .null, .null, .null, .null, .null, .null])) (fun q_8 L_8 f_8 =>
          (wp_X9_init_0 dA zz (fun L_12 f_12 =>
            (nO zz L_12 f_12 (.inl (dA 2, Int32.toNatClampNeg (1 : Int32), .inr (.inl (fun _ => 0)))) (fun q_17 L_17 f_17 =>
              (K L_17 f_17 q_0 q_8 q_17)))) L_8 f_8 q_8 )))) L_0 f_0 q_0 )))
set_option maxHeartbeats 4000000 in
set_option maxRecDepth 100000 in
theorem tb_law_0 {p : Program} {l : Launch} {e : Env} {s : State} {m : MethodId} {below : List Frame} {meth : Method} {c : Code} {dC : Nat → ClassId} {dI : Nat → Nat → Nat} {dA : Nat → ClassId} {zz : Nat → Nat} {b Ln : Nat} {xs : Nat → Int32} {K : List Nat → pF → Nat → Nat → Nat → Prop} (C : lCx p l s m meth c dC dI dA zz b Ln xs)
    (hKK : ∀ (L : List Nat) (f : pF) (x0 o ou : Nat), K L f x0 o ou → ∀ (H : Heap) (locs : List Loc), va_P (dC, dI) vwCl (va_pl L f) H → va_D (lA s) (va_pl L f) → va_S (lA s) s.heap H locs → ∀ ls : Array Slot, lv_has ls 8 [(0, .ref b), (1, .ref x0), (2, .ref o), (3, .ref ou), (4, .int 0)] → W p l e room_1 s m #[Value.ref b] below meth c H locs 79 24050 (lw_Z below #[Value.ref b] s) (F0 m 23 ls [])) :
    ∀ (L : List Nat) (f : pF), wp_law_0 dA zz K L f → ∀ (H : Heap) (locs : List Loc), va_P (dC, dI) vwCl (va_pl L f) H → va_D (lA s) (va_pl L f) → va_S (lA s) s.heap H locs → ∀ ls : Array Slot, lv_has ls 8 [(0, .ref b)] → W p l e room_1 s m #[Value.ref b] below meth c H locs 0 0 (lw_Z below #[Value.ref b] s) (F0 m 0 ls []) := by
  obtain ⟨hx, hb, hml, hown, hts, hr, hlocks, hA, hK, hB, hz, hN, hT, hlt, hX, hbl, hbA⟩ := lCx_use C
  intro L f hw H locs hP hD hS ls hl
  rw [wp_law_0] at hw
  refine va_new (ci := 9) (fs := [.null, .null, .null, .null, .null, .null]) (C := RX8) (T := TX8) (N := 6) hx hb hts iw_L_law_RX8 tyX8 tyX8_ok hown (hts _ lk_L_law_8) (hts _ li_L_law_RX8) (hts _ lz_L_law_RX8) hK hP hD hS hA rfl (fun j hj => by rcases (show j = 0 ∨ j = 1 ∨ j = 2 ∨ j = 3 ∨ j = 4 ∨ j = 5 by omega) with rfl | rfl | rfl | rfl | rfl | rfl <;> rfl) (by decide) (by decide) dL_law_0 (fun q_0 H hP2 hD2 hS => ?_)
  have hq9 := p_fresh hD2
  have hz9 := p_nz hB hT hD2
  rw [va_pl_push hq9] at hP2 hD2
  obtain ⟨L_0, eL_0⟩ : ∃ y : List Nat, y = L ++ [q_0] := ⟨_, rfl⟩
  obtain ⟨f_0, ef_0⟩ : ∃ y : pF, y = va_up f q_0 (.inr (9, [.null, .null, .null, .null, .null, .null])) := ⟨_, rfl⟩
  have hw := hw q_0 hq9 hz9 L_0 f_0 eL_0 ef_0
  have hP : va_P (dC, dI) vwCl (va_pl L_0 f_0) H := by rw [eL_0, ef_0]; exact hP2
  have hD : va_D (lA s) (va_pl L_0 f_0) := by rw [eL_0, ef_0]; exact hD2
  refine lv_dup hx hb dL_law_3 rfl ?_
  have hFc := p_free hD hS hA
  refine va_callv (va_runI (As := []) (rest := [.ref q_0]) ⟨hx, hb, hml, hown, hts⟩ (c_X8_init l dC dI dA zz s.heap.size L_0 f_0 H.size q_0  _ hw) (cwI 0 hts gL_law_X8_init rfl rfl rfl (hts _ lz_L_law_RX8) (hts _ lm_L_law_72) (hts _ lim_L_law_X8_init) rfl (by decide +kernel) ⟨by decide, by decide⟩) (pPreS [.ref q_0] hK hP hD hS hB hz hN hT) rfl rfl hl.1 rfl (lv_room (Nat.le_of_ble_eq_true rfl)) dL_law_4 ⟨by decide, by decide⟩) hS (fun q _ h => hFc q h) hFc (fun u t H1 locs ht hvm hw hB1 hz1 hk1 hS => ?_)
  obtain ⟨L_4, f_4⟩ := u
  obtain ⟨hP, -, hD1⟩ := hB1
  rw [ht] at hP
  have hw := id hw
  have hP : va_P (dC, dI) vwCl (va_pl L_4 f_4) H1 := hP
  have hD : va_D (lA s) (va_pl L_4 f_4) := p_gain hD1 hFc
  generalize H1 = H at hP hS ⊢
  refine W.widen (k := 46) (n := 9026) (by decide) (by decide) ?_
  refine lv_astore_n (lv' := [(1, .ref q_0), (0, .ref b)]) hx hb dL_law_7 rfl hl (by decide) rfl (fun ls hl => ?_)
  refine va_new (ci := 10) (fs := [.int 0, .int 0, .null, .int 0, .int 0, .int 0, .null, .null, .null, .null, .null, .null, .null, .null, .null, .null, .null, .null, .null, .null, .null, .int 0, .null, .null, .null, .int 0, .null, .null, .null, .null, .null, .null, .null, .null, .null, .null, .null, .null]) (C := RX9) (T := TX9) (N := 38) hx hb hts iw_L_law_RX9 tyX9 tyX9_ok hown (hts _ lk_L_law_73) (hts _ li_L_law_RX9) (hts _ lz_L_law_RX9) hK hP hD hS hA rfl (fun j hj => by rcases (show j = 0 ∨ j = 1 ∨ j = 2 ∨ j = 3 ∨ j = 4 ∨ j = 5 ∨ j = 6 ∨ j = 7 ∨ j = 8 ∨ j = 9 ∨ j = 10 ∨ j = 11 ∨ j = 12 ∨ j = 13 ∨ j = 14 ∨ j = 15 ∨ j = 16 ∨ j = 17 ∨ j = 18 ∨ j = 19 ∨ j = 20 ∨ j = 21 ∨ j = 22 ∨ j = 23 ∨ j = 24 ∨ j = 25 ∨ j = 26 ∨ j = 27 ∨ j = 28 ∨ j = 29 ∨ j = 30 ∨ j = 31 ∨ j = 32 ∨ j = 33 ∨ j = 34 ∨ j = 35 ∨ j = 36 ∨ j = 37 by omega) with rfl | rfl | rfl | rfl | rfl | rfl | rfl | rfl | rfl | rfl | rfl | rfl | rfl | rfl | rfl | rfl | rfl | rfl | rfl | rfl | rfl | rfl | rfl | rfl | rfl | rfl | rfl | rfl | rfl | rfl | rfl | rfl | rfl | rfl | rfl | rfl | rfl | rfl <;> rfl) (by decide) (by decide) dL_law_8 (fun q_8 H hP2 hD2 hS => ?_)
  have hq9 := p_fresh hD2
  have hz9 := p_nz hB hT hD2
  rw [va_pl_push hq9] at hP2 hD2
  obtain ⟨L_8, eL_8⟩ : ∃ y : List Nat, y = L_4 ++ [q_8] := ⟨_, rfl⟩
  obtain ⟨f_8, ef_8⟩ : ∃ y : pF, y = va_up f_4 q_8 (.inr (10, [.int 0, .int 0, .null, .int 0, .int 0, .int 0, .null, .null, .null, .null, .null, .null, .null, .null, .null, .null, .null, .null, .null, .null, .null, .int 0, .null, .null, .null, .int 0, .null, .null, .null, .null, .null, .null, .null, .null, .null, .null, .null, .null])) := ⟨_, rfl⟩
  have hw := hw q_8 hq9 hz9 L_8 f_8 eL_8 ef_8
  have hP : va_P (dC, dI) vwCl (va_pl L_8 f_8) H := by rw [eL_8, ef_8]; exact hP2
  have hD : va_D (lA s) (va_pl L_8 f_8) := by rw [eL_8, ef_8]; exact hD2
  refine lv_dup hx hb dL_law_11 rfl ?_
  have hFc := p_free hD hS hA
  refine va_callv (va_runI (As := []) (rest := [.ref q_8]) ⟨hx, hb, hml, hown, hts⟩ (c_X9_init l dC dI dA zz s.heap.size L_8 f_8 H.size q_8  _ hw) (cwI 0 hts gL_law_X9_init rfl rfl rfl (hts _ lz_L_law_RX9) (hts _ lm_L_law_75) (hts _ lim_L_law_X9_init) rfl (by decide +kernel) ⟨by decide, by decide⟩) (pPreS [.ref q_8] hK hP hD hS hB hz hN hT) rfl rfl hl.1 rfl (lv_room (Nat.le_of_ble_eq_true rfl)) dL_law_12 ⟨by decide, by decide⟩) hS (fun q _ h => hFc q h) hFc (fun u t H1 locs ht hvm hw hB1 hz1 hk1 hS => ?_)
  obtain ⟨L_12, f_12⟩ := u
  obtain ⟨hP, -, hD1⟩ := hB1
  rw [ht] at hP
  have hw := id hw
  have hP : va_P (dC, dI) vwCl (va_pl L_12 f_12) H1 := hP
  have hD : va_D (lA s) (va_pl L_12 f_12) := p_gain hD1 hFc
  generalize H1 = H at hP hS ⊢
  refine W.widen (k := 78) (n := 24049) (by decide) (by decide) ?_
  refine lv_astore_n (lv' := [(2, .ref q_8), (1, .ref q_0), (0, .ref b)]) hx hb dL_law_15 rfl hl (by decide) rfl (fun ls hl => ?_)
  refine lv_iconst (v := 1) hx hb dL_law_16 (by decide) ?_
  refine va_newa (atype := .long) (ty := .long) hx hb (hts _ la_L_law_long) rfl hK hP hD hS hA (a0 := (Int32.toNatClampNeg (1 : Int32), .inr (.inl (fun _ => 0)))) (fun _ => rfl) (by decide) rfl (by decide) (by decide) (by decide) dL_law_17 (fun q_17 cA9 H hK9 hP2 hD2 hS => ?_)
  have hcA : cA9 = dA 2 := p_cA hK9 (t := 2) rfl
  subst hcA
  have hq9 := p_fresh hD2
  have hz9 := p_nz hB hT hD2
  rw [va_pl_push hq9] at hP2 hD2
  obtain ⟨L_17, eL_17⟩ : ∃ y : List Nat, y = L_12 ++ [q_17] := ⟨_, rfl⟩
  obtain ⟨f_17, ef_17⟩ : ∃ y : pF, y = va_up f_12 q_17 (.inl (dA 2, Int32.toNatClampNeg (1 : Int32), .inr (.inl (fun _ => 0)))) := ⟨_, rfl⟩
  have hw := hw q_17 hq9 hz9 L_17 f_17 eL_17 ef_17
  have hP : va_P (dC, dI) vwCl (va_pl L_17 f_17) H := by rw [eL_17, ef_17]; exact hP2
  have hD : va_D (lA s) (va_pl L_17 f_17) := by rw [eL_17, ef_17]; exact hD2
  refine W.widen (k := 79) (n := 24050) (by decide) (by decide) ?_
  refine lv_astore_n (lv' := [(3, .ref q_17), (2, .ref q_8), (1, .ref q_0), (0, .ref b)]) hx hb dL_law_19 rfl hl (by decide) rfl (fun ls hl => ?_)
  refine lv_iconst (v := 0) hx hb dL_law_20 (by decide) ?_
  refine lv_istore (lv' := [(4, .int (0 : Int32)), (3, .ref q_17), (2, .ref q_8), (1, .ref q_0), (0, .ref b)]) hx hb dL_law_21 hl (by decide) rfl (fun ls hl => ?_)
  exact hKK L_17 f_17 q_0 q_8 q_17 hw H locs hP hD hS ls (lv_sub hl [4, 3, 2, 1, 0] rfl)
