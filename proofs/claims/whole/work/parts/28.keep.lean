theorem iw_X8_letter_RX8 : ∀ w ∈ u_ws RX8 TX8 6, w ∈ wsX8_letter := by decide +kernel
theorem lk_X8_letter_14 : Cond.fieldLink RX8 14 "TermKeeper" "waiting" "LTermKeeper$Row;" ∈ wsX8_letter := by decide +kernel
abbrev rm_X8_letter : Room := { frames := 1, cells := 0, slots := 0, locals := 21 }
def wp_X8_letter_31 (dA : Nat → ClassId) (zz : Nat → Nat) (Q : Int32 → List Nat → pF → Prop) (L : List Nat) (f : pF) (a0 : Nat) (k0 : Int32) (k1 : Nat) : Prop :=
    (isO L f 5 k1 ∧
      (wp_X4_push_0 dA zz (fun r_31 L_31 f_31 =>
        ((r_31 = 0 →
          (Q (-1 : Int32) L_31 f_31))
         ∧ (¬ r_31 = 0 →
          (gR L_31 f_31 9 a0 0 (fun g_38 =>
            (isO L_31 f_31 5 g_38 ∧
              (wp_X4_size_0 dA zz (fun r_41 L_41 f_41 =>
                (Q r_41 L_41 f_41)) L_31 f_31 g_38 ))))))) L f k1 k0))
def wp_X8_letter_0 (dA : Nat → ClassId) (zz : Nat → Nat) (Q : Int32 → List Nat → pF → Prop) (L : List Nat) (f : pF) (a0 : Nat) (a1 : Int32) : Prop :=
    ((a1 < 0 →
      (Q (-1 : Int32) L f))
     ∧ (¬ a1 < 0 →
      ((a1 ≤ (26 : Int32) →
        (gR L f 9 a0 0 (fun g_13 =>
          ((¬ a1 = (26 : Int32) →
            (wp_X8_letter_31 dA zz Q  L f a0 ((97 : Int32) + a1) g_13))
           ∧ (a1 = (26 : Int32) →
            (wp_X8_letter_31 dA zz Q  L f a0 (32 : Int32) g_13))))))
       ∧ (¬ a1 ≤ (26 : Int32) →
        (Q (-1 : Int32) L f)))))
set_option maxHeartbeats 4000000 in
set_option maxRecDepth 100000 in
theorem tb_X8_letter_31 {p : Program} {l : Launch} {e : Env} {s : State} {m : MethodId} {below : List Frame} {meth : Method} {c : Code} {args : Array Value} {dC : Nat → ClassId} {dI : Nat → Nat → Nat} {dA : Nat → ClassId} {zz : Nat → Nat} {base : Nat} {A : Nat → Prop} {Q : Int32 → List Nat → pF → Prop} (C : pCx p s m args meth c cX8_letter 2 (some .int) RX8 wsX8_letter A dC dI dA zz base) : ∀ (L : List Nat) (f : pF) (a0 : Nat) (k0 : Int32) (k1 : Nat), wp_X8_letter_31 dA zz Q  L f a0 k0 k1 → pAt p l e rm_X8_letter s m args below meth c dC dI A (MQ below (va_Qi (fun r (u : List Nat × pF) => Q r u.1 u.2) (pB dC dI dA A) A) args s 0 0 A) 0 0 31 2 [(0, .ref a0)] [.int k0, .ref k1] L f := by
  obtain ⟨hx, hb, hml, hown, hts, hr, hlocks, hA, hK, hB, hz, hN, hT⟩ := id C
  intro L f a0 k0 k1 hw H locs hP hD hS ls hl
  rw [wp_X8_letter_31] at hw
  obtain ⟨hO9, hw⟩ := hw
  have hFc := p_free hD hS hA
  refine va_calli (va_runV (As := [.int k0]) (rest := []) ⟨hx, hb, hml, hown, hts⟩ (c_X4_push l dC dI dA zz base L f H.size k1 k0 _ hw) (cwV 1 hts gX8_letter_X4_push rfl rfl rfl (by decide +kernel) ⟨by decide, by decide⟩) (pPreV [.int k0] (ci := 5) rfl hO9 hK hP hD hS hB hz hN hT) rfl rfl hl.1 rfl (lv_room (Nat.le_of_ble_eq_true rfl)) dX8_letter_31 ⟨by decide, by decide⟩) hS (fun q _ h => hFc q h) hFc (fun r_31 u t H1 locs ht hvm hw hB1 hz1 hk1 hS => ?_)
  obtain ⟨L_31, f_31⟩ := u
  obtain ⟨hP, -, hD1⟩ := hB1
  rw [ht] at hP
  have hw := id hw
  have hP : va_P (dC, dI) vwCl (va_pl L_31 f_31) H1 := hP
  have hD : va_D A (va_pl L_31 f_31) := p_gain hD1 hFc
  generalize H1 = H at hP hS ⊢
  refine lv_if_eq (tgt := 47) hx hb dX8_letter_34 (by decide) (fun c_34 => ?_) (fun c_34 => ?_)
  · have hw := hw.1 c_34
    refine lv_iconst (v := -1) hx hb dX8_letter_47 (by decide) ?_
    exact W.iret (v := (-1 : Int32)) hx hb hr (fun t ht hW => ⟨⟨(-1 : Int32), (L_31, f_31), rfl, hw, by rw [ht]; exact hP, va_K.moved hW.alike hK, hD⟩, hS.F ht⟩) hS.2.2 dX8_letter_48
  · have hw := hw.2 c_34
    refine lv_aload_n hx hb dX8_letter_37 rfl (lv_at hl 0 rfl) ?_
    obtain ⟨fs_38, g_38, ⟨hL9, hf9, hn9⟩, hw⟩ := hw
    refine va_get (D := (dC, dI)) (ci := 9) (v := .ref g_38) (C := RX8) (T := TX8) (N := 6) hx hb hts iw_X8_letter_RX8 hown hK (p_one hP hL9 hf9) 0 rfl rfl 0 (by decide) (hts _ lk_X8_letter_14) (fun _ h9 => h9) hn9 dX8_letter_38 ?_
    obtain ⟨hO9, hw⟩ := hw
    have hFc := p_free hD hS hA
    refine va_calli (va_runV (As := []) (rest := []) ⟨hx, hb, hml, hown, hts⟩ (c_X4_size l dC dI dA zz base L_31 f_31 H.size g_38  _ hw) (cwV 0 hts gX8_letter_X4_size rfl rfl rfl (by decide +kernel) ⟨by decide, by decide⟩) (pPreV [] (ci := 5) rfl hO9 hK hP hD hS hB hz hN hT) rfl rfl hl.1 rfl (lv_room (Nat.le_of_ble_eq_true rfl)) dX8_letter_41 ⟨by decide, by decide⟩) hS (fun q _ h => hFc q h) hFc (fun r_41 u t H1 locs ht hvm hw hB1 hz1 hk1 hS => ?_)
    obtain ⟨L_41, f_41⟩ := u
    obtain ⟨hP, -, hD1⟩ := hB1
    rw [ht] at hP
    have hw := id hw
    have hP : va_P (dC, dI) vwCl (va_pl L_41 f_41) H1 := hP
    have hD : va_D A (va_pl L_41 f_41) := p_gain hD1 hFc
    generalize H1 = H at hP hS ⊢
    refine lv_goto (tgt := 48) hx hb dX8_letter_44 (by decide) ?_
    exact W.iret (v := r_41) hx hb hr (fun t ht hW => ⟨⟨r_41, (L_41, f_41), rfl, hw, by rw [ht]; exact hP, va_K.moved hW.alike hK, hD⟩, hS.F ht⟩) hS.2.2 dX8_letter_48
set_option maxHeartbeats 4000000 in
set_option maxRecDepth 100000 in
theorem tb_X8_letter_0 {p : Program} {l : Launch} {e : Env} {s : State} {m : MethodId} {below : List Frame} {meth : Method} {c : Code} {args : Array Value} {dC : Nat → ClassId} {dI : Nat → Nat → Nat} {dA : Nat → ClassId} {zz : Nat → Nat} {base : Nat} {A : Nat → Prop} {Q : Int32 → List Nat → pF → Prop} (C : pCx p s m args meth c cX8_letter 2 (some .int) RX8 wsX8_letter A dC dI dA zz base) : ∀ (L : List Nat) (f : pF) (a0 : Nat) (a1 : Int32), wp_X8_letter_0 dA zz Q  L f a0 a1 → pAt p l e rm_X8_letter s m args below meth c dC dI A (MQ below (va_Qi (fun r (u : List Nat × pF) => Q r u.1 u.2) (pB dC dI dA A) A) args s 0 0 A) 0 0 0 2 [(0, .ref a0), (1, .int a1)] [] L f := by
  obtain ⟨hx, hb, hml, hown, hts, hr, hlocks, hA, hK, hB, hz, hN, hT⟩ := id C
  intro L f a0 a1 hw H locs hP hD hS ls hl
  rw [wp_X8_letter_0] at hw
  refine lv_iload_n hx hb dX8_letter_0 rfl (lv_at hl 1 rfl) ?_
  refine lv_if_lt (tgt := 10) hx hb dX8_letter_1 (by decide) (fun c_1 => ?_) (fun c_1 => ?_)
  · have hw := hw.1 c_1
    refine lv_iconst (v := -1) hx hb dX8_letter_10 (by decide) ?_
    exact W.iret (v := (-1 : Int32)) hx hb hr (fun t ht hW => ⟨⟨(-1 : Int32), (L, f), rfl, hw, by rw [ht]; exact hP, va_K.moved hW.alike hK, hD⟩, hS.F ht⟩) hS.2.2 dX8_letter_11
  · have hw := hw.2 c_1
    refine lv_iload_n hx hb dX8_letter_4 rfl (lv_at hl 1 rfl) ?_
    refine lv_bipush (v := 26) hx hb dX8_letter_5 (by decide) ?_
    refine lv_icmp_le (tgt := 12) hx hb dX8_letter_7 (by decide) (fun c_7 => ?_) (fun c_7 => ?_)
    · have hw := hw.1 c_7
      refine lv_aload_n hx hb dX8_letter_12 rfl (lv_at hl 0 rfl) ?_
      obtain ⟨fs_13, g_13, ⟨hL9, hf9, hn9⟩, hw⟩ := hw
      refine va_get (D := (dC, dI)) (ci := 9) (v := .ref g_13) (C := RX8) (T := TX8) (N := 6) hx hb hts iw_X8_letter_RX8 hown hK (p_one hP hL9 hf9) 0 rfl rfl 0 (by decide) (hts _ lk_X8_letter_14) (fun _ h9 => h9) hn9 dX8_letter_13 ?_
      refine lv_iload_n hx hb dX8_letter_16 rfl (lv_at hl 1 rfl) ?_
      refine lv_bipush (v := 26) hx hb dX8_letter_17 (by decide) ?_
      refine lv_icmp_ne (tgt := 27) hx hb dX8_letter_19 (by decide) (fun c_19 => ?_) (fun c_19 => ?_)
      · have hw := hw.1 c_19
        refine lv_bipush (v := 97) hx hb dX8_letter_27 (by decide) ?_
        refine lv_iload_n hx hb dX8_letter_29 rfl (lv_at hl 1 rfl) ?_
        refine lv_iadd hx hb dX8_letter_30 ?_
        exact tb_X8_letter_31 C  L f a0 ((97 : Int32) + a1) g_13 hw H locs hP hD hS ls (lv_sub hl [0] rfl)
      · have hw := hw.2 c_19
        refine lv_bipush (v := 32) hx hb dX8_letter_22 (by decide) ?_
        refine lv_goto (tgt := 31) hx hb dX8_letter_24 (by decide) ?_
        exact tb_X8_letter_31 C  L f a0 (32 : Int32) g_13 hw H locs hP hD hS ls (lv_sub hl [0] rfl)
    · have hw := hw.2 c_7
      refine lv_iconst (v := -1) hx hb dX8_letter_10 (by decide) ?_
      exact W.iret (v := (-1 : Int32)) hx hb hr (fun t ht hW => ⟨⟨(-1 : Int32), (L, f), rfl, hw, by rw [ht]; exact hP, va_K.moved hW.alike hK, hD⟩, hS.F ht⟩) hS.2.2 dX8_letter_11
set_option maxHeartbeats 4000000 in
set_option maxRecDepth 100000 in
theorem c_X8_letter (l : Launch) (dC : Nat → ClassId) (dI : Nat → Nat → Nat) (dA : Nat → ClassId) (zz : Nat → Nat) (base : Nat) (L : List Nat) (f : pF) (sz : Nat) (a0 : Nat) (a1 : Int32) (Q : Int32 → List Nat → pF → Prop) (hw : wp_X8_letter_0 dA zz Q L f a0 a1) : Met l yX8_letter wsX8_letter rm_X8_letter (va_Pc [.ref a0, .int a1] (pPre dC dI dA zz base L f sz)) (va_Qi (fun r (u : List Nat × pF) => Q r u.1 u.2) (pB dC dI dA (va_A (va_pl L f) sz)) (va_A (va_pl L f) sz)) 0 0 (va_A (va_pl L f) sz) := by
  refine Met.ofW (cc := cX8_letter) (maxL := 2) (ret := (some .int)) (by decide) rfl ?_
  intro p e s m args below meth c s₁ B hml hv
  obtain ⟨rfl, hsz, hP, hK, hD0, hz, hN, hT⟩ := hv
  subst hsz
  have hl := lv_entry ([.ref a0, .int a1]) (n := 2) (Nat.le_of_ble_eq_true rfl)
  rw [lg_entry_eq]
  generalize (lg_sl ([.ref a0, .int a1]) ++ List.replicate (2 - (lg_sl ([.ref a0, .int a1])).length) Slot.unset).toArray = ls at hl ⊢
  exact tb_X8_letter_0 (Q := Q) (p := p) ⟨B.exec, B.bytes, hml, findClass_of_methodNamed B.named, atoms_spec (ws := wsX8_letter) B.pre, B.returns, B.notSynchronized, fun q h => Or.inr h, hK, pAB hD0 hz, hz, hN, hT⟩ L f a0 a1 hw s.heap [] hP (hD0.self (sz := s.heap.size)) va_S.rf ls (lv_sub hl [0, 1] rfl)
theorem iw_X8_ending_RX8 : ∀ w ∈ u_ws RX8 TX8 6, w ∈ wsX8_ending := by decide +kernel
theorem lk_X8_ending_14 : Cond.fieldLink RX8 14 "TermKeeper" "waiting" "LTermKeeper$Row;" ∈ wsX8_ending := by decide +kernel
theorem lk_X8_ending_25 : Cond.fieldLink RX8 25 "TermKeeper" "glossary" "LTermKeeper$Glossary;" ∈ wsX8_ending := by decide +kernel
abbrev rm_X8_ending : Room := { frames := 8, cells := 3, slots := 1602, locals := 213 }
def wp_X8_ending_0 (dA : Nat → ClassId) (zz : Nat → Nat) (Q : Int32 → List Nat → pF → Prop) (L : List Nat) (f : pF) (a0 : Nat) : Prop :=
    (gR L f 9 a0 2 (fun g_1 =>
      (gR L f 9 a0 0 (fun g_5 =>
        (isO L f 2 g_1 ∧
          (wp_X1_addEnding_0 dA zz (fun r_8 L_8 f_8 =>
            (gR L_8 f_8 9 a0 0 (fun g_13 =>
              (isO L_8 f_8 5 g_13 ∧
                (wp_X4_shorten_0 dA zz (fun L_17 f_17 =>
                  (Q r_8 L_17 f_17)) L_8 f_8 g_13 (0 : Int32)))))) L f g_1 g_5))))))
set_option maxHeartbeats 4000000 in
set_option maxRecDepth 100000 in
theorem tb_X8_ending_0 {p : Program} {l : Launch} {e : Env} {s : State} {m : MethodId} {below : List Frame} {meth : Method} {c : Code} {args : Array Value} {dC : Nat → ClassId} {dI : Nat → Nat → Nat} {dA : Nat → ClassId} {zz : Nat → Nat} {base : Nat} {A : Nat → Prop} {Q : Int32 → List Nat → pF → Prop} (C : pCx p s m args meth c cX8_ending 2 (some .int) RX8 wsX8_ending A dC dI dA zz base) : ∀ (L : List Nat) (f : pF) (a0 : Nat), wp_X8_ending_0 dA zz Q  L f a0 → pAt p l e rm_X8_ending s m args below meth c dC dI A (MQ below (va_Qi (fun r (u : List Nat × pF) => Q r u.1 u.2) (pB dC dI dA A) A) args s 3 1602 A) 0 0 0 2 [(0, .ref a0)] [] L f := by
  obtain ⟨hx, hb, hml, hown, hts, hr, hlocks, hA, hK, hB, hz, hN, hT⟩ := id C
  intro L f a0 hw H locs hP hD hS ls hl
  rw [wp_X8_ending_0] at hw
  refine lv_aload_n hx hb dX8_ending_0 rfl (lv_at hl 0 rfl) ?_
  obtain ⟨fs_1, g_1, ⟨hL9, hf9, hn9⟩, hw⟩ := hw
  refine va_get (D := (dC, dI)) (ci := 9) (v := .ref g_1) (C := RX8) (T := TX8) (N := 6) hx hb hts iw_X8_ending_RX8 hown hK (p_one hP hL9 hf9) 0 rfl rfl 2 (by decide) (hts _ lk_X8_ending_25) (fun _ h9 => h9) hn9 dX8_ending_1 ?_
  refine lv_aload_n hx hb dX8_ending_4 rfl (lv_at hl 0 rfl) ?_
  obtain ⟨fs_5, g_5, ⟨hL9, hf9, hn9⟩, hw⟩ := hw
  refine va_get (D := (dC, dI)) (ci := 9) (v := .ref g_5) (C := RX8) (T := TX8) (N := 6) hx hb hts iw_X8_ending_RX8 hown hK (p_one hP hL9 hf9) 0 rfl rfl 0 (by decide) (hts _ lk_X8_ending_14) (fun _ h9 => h9) hn9 dX8_ending_5 ?_
  obtain ⟨hO9, hw⟩ := hw
  have hFc := p_free hD hS hA
  refine va_calli (va_runV (As := [.ref g_5]) (rest := []) ⟨hx, hb, hml, hown, hts⟩ (c_X1_addEnding l dC dI dA zz base L f H.size g_1 g_5 _ hw) (cwV 1 hts gX8_ending_X1_addEnding rfl rfl rfl (by decide +kernel) ⟨by decide, by decide⟩) (pPreV [.ref g_5] (ci := 2) rfl hO9 hK hP hD hS hB hz hN hT) rfl rfl hl.1 rfl (lv_room (Nat.le_of_ble_eq_true rfl)) dX8_ending_8 ⟨by decide, by decide⟩) hS (fun q _ h => hFc q h) hFc (fun r_8 u t H1 locs ht hvm hw hB1 hz1 hk1 hS => ?_)
  obtain ⟨L_8, f_8⟩ := u
  obtain ⟨hP, -, hD1⟩ := hB1
  rw [ht] at hP
  have hw := id hw
  have hP : va_P (dC, dI) vwCl (va_pl L_8 f_8) H1 := hP
  have hD : va_D A (va_pl L_8 f_8) := p_gain hD1 hFc
  generalize H1 = H at hP hS ⊢
  refine W.widen (k := 3) (n := 1602) (by decide) (by decide) ?_
  refine lv_istore_n (lv' := [(1, .int r_8), (0, .ref a0)]) hx hb dX8_ending_11 rfl hl (by decide) rfl (fun ls hl => ?_)
  refine lv_aload_n hx hb dX8_ending_12 rfl (lv_at hl 1 rfl) ?_
  obtain ⟨fs_13, g_13, ⟨hL9, hf9, hn9⟩, hw⟩ := hw
  refine va_get (D := (dC, dI)) (ci := 9) (v := .ref g_13) (C := RX8) (T := TX8) (N := 6) hx hb hts iw_X8_ending_RX8 hown hK (p_one hP hL9 hf9) 0 rfl rfl 0 (by decide) (hts _ lk_X8_ending_14) (fun _ h9 => h9) hn9 dX8_ending_13 ?_
  refine lv_iconst (v := 0) hx hb dX8_ending_16 (by decide) ?_
  obtain ⟨hO9, hw⟩ := hw
  have hFc := p_free hD hS hA
  refine va_callv (va_runV (As := [.int (0 : Int32)]) (rest := []) ⟨hx, hb, hml, hown, hts⟩ (c_X4_shorten l dC dI dA zz base L_8 f_8 H.size g_13 (0 : Int32) _ hw) (cwV 1 hts gX8_ending_X4_shorten rfl rfl rfl (by decide +kernel) ⟨by decide, by decide⟩) (pPreV [.int (0 : Int32)] (ci := 5) rfl hO9 hK hP hD hS hB hz hN hT) rfl rfl hl.1 rfl (lv_room (Nat.le_of_ble_eq_true rfl)) dX8_ending_17 ⟨by decide, by decide⟩) hS (fun q _ h => hFc q h) hFc (fun u t H1 locs ht hvm hw hB1 hz1 hk1 hS => ?_)
  obtain ⟨L_17, f_17⟩ := u
  obtain ⟨hP, -, hD1⟩ := hB1
  rw [ht] at hP
  have hw := id hw
  have hP : va_P (dC, dI) vwCl (va_pl L_17 f_17) H1 := hP
  have hD : va_D A (va_pl L_17 f_17) := p_gain hD1 hFc
  generalize H1 = H at hP hS ⊢
  refine lv_iload_n hx hb dX8_ending_20 rfl (lv_at hl 0 rfl) ?_
  exact W.iret (v := r_8) hx hb hr (fun t ht hW => ⟨⟨r_8, (L_17, f_17), rfl, hw, by rw [ht]; exact hP, va_K.moved hW.alike hK, hD⟩, hS.F ht⟩) hS.2.2 dX8_ending_21
set_option maxHeartbeats 4000000 in
set_option maxRecDepth 100000 in
theorem c_X8_ending (l : Launch) (dC : Nat → ClassId) (dI : Nat → Nat → Nat) (dA : Nat → ClassId) (zz : Nat → Nat) (base : Nat) (L : List Nat) (f : pF) (sz : Nat) (a0 : Nat) (Q : Int32 → List Nat → pF → Prop) (hw : wp_X8_ending_0 dA zz Q L f a0) : Met l yX8_ending wsX8_ending rm_X8_ending (va_Pc [.ref a0] (pPre dC dI dA zz base L f sz)) (va_Qi (fun r (u : List Nat × pF) => Q r u.1 u.2) (pB dC dI dA (va_A (va_pl L f) sz)) (va_A (va_pl L f) sz)) 3 1602 (va_A (va_pl L f) sz) := by
  refine Met.ofW (cc := cX8_ending) (maxL := 2) (ret := (some .int)) (by decide) rfl ?_
  intro p e s m args below meth c s₁ B hml hv
  obtain ⟨rfl, hsz, hP, hK, hD0, hz, hN, hT⟩ := hv
  subst hsz
  have hl := lv_entry ([.ref a0]) (n := 2) (Nat.le_of_ble_eq_true rfl)
  rw [lg_entry_eq]
  generalize (lg_sl ([.ref a0]) ++ List.replicate (2 - (lg_sl ([.ref a0])).length) Slot.unset).toArray = ls at hl ⊢
  exact tb_X8_ending_0 (Q := Q) (p := p) ⟨B.exec, B.bytes, hml, findClass_of_methodNamed B.named, atoms_spec (ws := wsX8_ending) B.pre, B.returns, B.notSynchronized, fun q h => Or.inr h, hK, pAB hD0 hz, hz, hN, hT⟩ L f a0 hw s.heap [] hP (hD0.self (sz := s.heap.size)) va_S.rf ls (lv_sub hl [0] rfl)
theorem lk_X8_needKind_75 : Cond.classLink RX8 75 "java/lang/IllegalArgumentException" ∈ wsX8_needKind := by decide +kernel
theorem lx_X8_needKind_IAE : ∀ w ∈ (vx_atS RX8 79 "java/lang/IllegalArgumentException" ["java/lang/RuntimeException", "java/lang/Exception"]).filter goodWord, w ∈ wsX8_needKind := by decide +kernel
theorem lg_X8_needKind_IAE : ∀ w ∈ Cond.classLink RX8 75 "java/lang/IllegalArgumentException" :: Cond.initialized "java/lang/IllegalArgumentException" :: vx_atS RX8 79 "java/lang/IllegalArgumentException" ["java/lang/RuntimeException", "java/lang/Exception"], vx_ot w = true := by decide +kernel
theorem lz_X8_needKind_IAE : Cond.initialized "java/lang/IllegalArgumentException" ∈ wsX8_needKind := by decide +kernel
abbrev rm_X8_needKind : Room := { frames := 6, cells := 1, slots := 6, locals := 90 }
def wp_X8_needKind_9 (dA : Nat → ClassId) (zz : Nat → Nat) (Q : List Nat → pF → Prop) (X : String → List Nat → pF → Prop) (L : List Nat) (f : pF) : Prop :=
    (X "java/lang/IllegalArgumentException" L f)
def wp_X8_needKind_0 (dA : Nat → ClassId) (zz : Nat → Nat) (Q : List Nat → pF → Prop) (X : String → List Nat → pF → Prop) (L : List Nat) (f : pF) (a0 : Int32) : Prop :=
    ((a0 < 0 →
      (wp_X8_needKind_9 dA zz Q X  L f ))
     ∧ (¬ a0 < 0 →
      ((a0 ≤ (3 : Int32) →
        (Q L f))
       ∧ (¬ a0 ≤ (3 : Int32) →
        (wp_X8_needKind_9 dA zz Q X  L f )))))
set_option maxHeartbeats 4000000 in
set_option maxRecDepth 100000 in
theorem tb_X8_needKind_9 {p : Program} {l : Launch} {e : Env} {s : State} {m : MethodId} {below : List Frame} {meth : Method} {c : Code} {args : Array Value} {dC : Nat → ClassId} {dI : Nat → Nat → Nat} {dA : Nat → ClassId} {zz : Nat → Nat} {base : Nat} {A : Nat → Prop} {Q : List Nat → pF → Prop} {X : String → List Nat → pF → Prop} (C : pCx p s m args meth c cX8_needKind 1 none RX8 wsX8_needKind A dC dI dA zz base ∧ l.stackTraces = false ∧ (∀ x ∈ c.exceptionTable.toList, False)) : ∀ (L : List Nat) (f : pF) , wp_X8_needKind_9 dA zz Q X  L f  → pAt p l e rm_X8_needKind s m args below meth c dC dI A (vx_MQ below (va_Qv (fun (u : List Nat × pF) => Q u.1 u.2) (pB dC dI dA A) A) (vx_X (fun (u : String × List Nat × pF) => X u.1 u.2.1 u.2.2) (fun E u t => E = u.1 ∧ pB dC dI dA A u.2 t) A) args s 1 6 A) 0 0 9 1 [] [] L f := by
  obtain ⟨⟨hx, hb, hml, hown, hts, hr, hlocks, hA, hK, hB, hz, hN, hT⟩, hlt, hnt⟩ := id C
  have hout9 : ∀ {pc9 : Nat}, ∀ x ∈ c.exceptionTable.toList, covers x pc9 = false := fun x h => (hnt x h).elim
  intro L f  hw H locs hP hD hS ls hl
  rw [wp_X8_needKind_9] at hw
  obtain ⟨sa9, hs9⟩ := hN.2.2.2.2.2.2.2.1 (224, "no such kind") (by decide +kernel)
  exact vx_throwS hx hb hlt hown (by decide +kernel) (by decide +kernel) (hts _ lk_X8_needKind_75) (hts _ lz_X8_needKind_IAE) hs9 (vx_hat (fun w h => hts w (lx_X8_needKind_IAE w h)) pBad_IAE (pBad_of hN.2.2.2.2.2.2.2.2.2.2.2.2.1 hN.2.2.2.2.2.2.2.2.2.2.2.2.2.1)) lg_X8_needKind_IAE (hT.1.narrow hB) (hT.2.1.narrow hB) hS (by rw [hml]; exact hl.1) dX8_needKind_9 dX8_needKind_12 dX8_needKind_13 dX8_needKind_15 dX8_needKind_18 hout9 (Nat.le_of_ble_eq_true rfl) (Nat.le_of_ble_eq_true rfl) (Nat.le_of_ble_eq_true rfl) (Nat.le_of_ble_eq_true rfl) hlocks (fun t hvm hsz hk => ⟨("java/lang/IllegalArgumentException", L, f), hw, ⟨rfl, p_keep hP hk, va_K.moved hvm hK, hD⟩, p_F hS hsz hk⟩) hS.2.2 (by decide) (by decide)
set_option maxHeartbeats 4000000 in
set_option maxRecDepth 100000 in
theorem tb_X8_needKind_0 {p : Program} {l : Launch} {e : Env} {s : State} {m : MethodId} {below : List Frame} {meth : Method} {c : Code} {args : Array Value} {dC : Nat → ClassId} {dI : Nat → Nat → Nat} {dA : Nat → ClassId} {zz : Nat → Nat} {base : Nat} {A : Nat → Prop} {Q : List Nat → pF → Prop} {X : String → List Nat → pF → Prop} (C : pCx p s m args meth c cX8_needKind 1 none RX8 wsX8_needKind A dC dI dA zz base ∧ l.stackTraces = false ∧ (∀ x ∈ c.exceptionTable.toList, False)) : ∀ (L : List Nat) (f : pF) (a0 : Int32), wp_X8_needKind_0 dA zz Q X  L f a0 → pAt p l e rm_X8_needKind s m args below meth c dC dI A (vx_MQ below (va_Qv (fun (u : List Nat × pF) => Q u.1 u.2) (pB dC dI dA A) A) (vx_X (fun (u : String × List Nat × pF) => X u.1 u.2.1 u.2.2) (fun E u t => E = u.1 ∧ pB dC dI dA A u.2 t) A) args s 1 6 A) 0 0 0 1 [(0, .int a0)] [] L f := by
  obtain ⟨⟨hx, hb, hml, hown, hts, hr, hlocks, hA, hK, hB, hz, hN, hT⟩, hlt, hnt⟩ := id C
  have hout9 : ∀ {pc9 : Nat}, ∀ x ∈ c.exceptionTable.toList, covers x pc9 = false := fun x h => (hnt x h).elim
  intro L f a0 hw H locs hP hD hS ls hl
  rw [wp_X8_needKind_0] at hw
  refine lv_iload_n hx hb dX8_needKind_0 rfl (lv_at hl 0 rfl) ?_
  refine lv_if_lt (tgt := 9) hx hb dX8_needKind_1 (by decide) (fun c_1 => ?_) (fun c_1 => ?_)
  · have hw := hw.1 c_1
    exact tb_X8_needKind_9 C  L f  hw H locs hP hD hS ls (lv_sub hl [] rfl)
  · have hw := hw.2 c_1
    refine lv_iload_n hx hb dX8_needKind_4 rfl (lv_at hl 0 rfl) ?_
    refine lv_iconst (v := 3) hx hb dX8_needKind_5 (by decide) ?_
    refine lv_icmp_le (tgt := 19) hx hb dX8_needKind_6 (by decide) (fun c_6 => ?_) (fun c_6 => ?_)
    · have hw := hw.1 c_6
      refine W.widen (k := 1) (n := 6) (by decide) (by decide) ?_
      refine vx_ret ?_
      exact W.vret hx hb hr (fun t ht hW => ⟨⟨(L, f), rfl, hw, by rw [ht]; exact hP, va_K.moved hW.alike hK, hD⟩, hS.F ht⟩) hS.2.2 dX8_needKind_19
    · have hw := hw.2 c_6
      exact tb_X8_needKind_9 C  L f  hw H locs hP hD hS ls (lv_sub hl [] rfl)
set_option maxHeartbeats 4000000 in
set_option maxRecDepth 100000 in
theorem c_X8_needKind (l : Launch) (hlt : l.stackTraces = false) (dC : Nat → ClassId) (dI : Nat → Nat → Nat) (dA : Nat → ClassId) (zz : Nat → Nat) (base : Nat) (L : List Nat) (f : pF) (sz : Nat) (a0 : Int32) (Q : List Nat → pF → Prop) (X : String → List Nat → pF → Prop) (hw : wp_X8_needKind_0 dA zz Q X L f a0) : vx_Met l yX8_needKind wsX8_needKind rm_X8_needKind (va_Pc [.int a0] (pPre dC dI dA zz base L f sz)) (va_Qv (fun (u : List Nat × pF) => Q u.1 u.2) (pB dC dI dA (va_A (va_pl L f) sz)) (va_A (va_pl L f) sz)) (vx_X (fun (u : String × List Nat × pF) => X u.1 u.2.1 u.2.2) (fun E u t => E = u.1 ∧ pB dC dI dA (va_A (va_pl L f) sz) u.2 t) (va_A (va_pl L f) sz)) 1 6 (va_A (va_pl L f) sz) := by
  refine vx_ofW (cc := cX8_needKind) (maxL := 1) (ret := none) (by decide) rfl ?_
  intro p e s m args below meth c s₁ B hml hnt hv
  obtain ⟨rfl, hsz, hP, hK, hD0, hz, hN, hT⟩ := hv
  subst hsz
  have hl := lv_entry ([.int a0]) (n := 1) (Nat.le_of_ble_eq_true rfl)
  rw [lg_entry_eq]
  generalize (lg_sl ([.int a0]) ++ List.replicate (1 - (lg_sl ([.int a0])).length) Slot.unset).toArray = ls at hl ⊢
  exact tb_X8_needKind_0 (Q := Q) (p := p) ⟨⟨B.exec, B.bytes, hml, findClass_of_methodNamed B.named, atoms_spec (ws := wsX8_needKind) B.pre, B.returns, B.notSynchronized, fun q h => Or.inr h, hK, pAB hD0 hz, hz, hN, hT⟩, hlt, hnt⟩ L f a0 hw s.heap [] hP (hD0.self (sz := s.heap.size)) va_S.rf ls (lv_sub hl [0] rfl)
theorem lk_X8_needThing_75 : Cond.classLink RX8 75 "java/lang/IllegalArgumentException" ∈ wsX8_needThing := by decide +kernel
theorem lx_X8_needThing_IAE : ∀ w ∈ (vx_atS RX8 79 "java/lang/IllegalArgumentException" ["java/lang/RuntimeException", "java/lang/Exception"]).filter goodWord, w ∈ wsX8_needThing := by decide +kernel
theorem lg_X8_needThing_IAE : ∀ w ∈ Cond.classLink RX8 75 "java/lang/IllegalArgumentException" :: Cond.initialized "java/lang/IllegalArgumentException" :: vx_atS RX8 79 "java/lang/IllegalArgumentException" ["java/lang/RuntimeException", "java/lang/Exception"], vx_ot w = true := by decide +kernel
theorem lz_X8_needThing_IAE : Cond.initialized "java/lang/IllegalArgumentException" ∈ wsX8_needThing := by decide +kernel
abbrev rm_X8_needThing : Room := { frames := 6, cells := 1, slots := 6, locals := 90 }
def wp_X8_needThing_10 (dA : Nat → ClassId) (zz : Nat → Nat) (Q : List Nat → pF → Prop) (X : String → List Nat → pF → Prop) (L : List Nat) (f : pF) : Prop :=
    (X "java/lang/IllegalArgumentException" L f)
def wp_X8_needThing_0 (dA : Nat → ClassId) (zz : Nat → Nat) (Q : List Nat → pF → Prop) (X : String → List Nat → pF → Prop) (L : List Nat) (f : pF) (a0 : Int32) : Prop :=
    ((a0 < 0 →
      (wp_X8_needThing_10 dA zz Q X  L f ))
     ∧ (¬ a0 < 0 →
      ((a0 < (40 : Int32) →
        (Q L f))
       ∧ (¬ a0 < (40 : Int32) →
        (wp_X8_needThing_10 dA zz Q X  L f )))))
set_option maxHeartbeats 4000000 in
set_option maxRecDepth 100000 in
theorem tb_X8_needThing_10 {p : Program} {l : Launch} {e : Env} {s : State} {m : MethodId} {below : List Frame} {meth : Method} {c : Code} {args : Array Value} {dC : Nat → ClassId} {dI : Nat → Nat → Nat} {dA : Nat → ClassId} {zz : Nat → Nat} {base : Nat} {A : Nat → Prop} {Q : List Nat → pF → Prop} {X : String → List Nat → pF → Prop} (C : pCx p s m args meth c cX8_needThing 1 none RX8 wsX8_needThing A dC dI dA zz base ∧ l.stackTraces = false ∧ (∀ x ∈ c.exceptionTable.toList, False)) : ∀ (L : List Nat) (f : pF) , wp_X8_needThing_10 dA zz Q X  L f  → pAt p l e rm_X8_needThing s m args below meth c dC dI A (vx_MQ below (va_Qv (fun (u : List Nat × pF) => Q u.1 u.2) (pB dC dI dA A) A) (vx_X (fun (u : String × List Nat × pF) => X u.1 u.2.1 u.2.2) (fun E u t => E = u.1 ∧ pB dC dI dA A u.2 t) A) args s 1 6 A) 0 0 10 1 [] [] L f := by
  obtain ⟨⟨hx, hb, hml, hown, hts, hr, hlocks, hA, hK, hB, hz, hN, hT⟩, hlt, hnt⟩ := id C
  have hout9 : ∀ {pc9 : Nat}, ∀ x ∈ c.exceptionTable.toList, covers x pc9 = false := fun x h => (hnt x h).elim
  intro L f  hw H locs hP hD hS ls hl
  rw [wp_X8_needThing_10] at hw
  obtain ⟨sa9, hs9⟩ := hN.2.2.2.2.2.2.2.1 (222, "no such thing") (by decide +kernel)
  exact vx_throwS hx hb hlt hown (by decide +kernel) (by decide +kernel) (hts _ lk_X8_needThing_75) (hts _ lz_X8_needThing_IAE) hs9 (vx_hat (fun w h => hts w (lx_X8_needThing_IAE w h)) pBad_IAE (pBad_of hN.2.2.2.2.2.2.2.2.2.2.2.2.1 hN.2.2.2.2.2.2.2.2.2.2.2.2.2.1)) lg_X8_needThing_IAE (hT.1.narrow hB) (hT.2.1.narrow hB) hS (by rw [hml]; exact hl.1) dX8_needThing_10 dX8_needThing_13 dX8_needThing_14 dX8_needThing_16 dX8_needThing_19 hout9 (Nat.le_of_ble_eq_true rfl) (Nat.le_of_ble_eq_true rfl) (Nat.le_of_ble_eq_true rfl) (Nat.le_of_ble_eq_true rfl) hlocks (fun t hvm hsz hk => ⟨("java/lang/IllegalArgumentException", L, f), hw, ⟨rfl, p_keep hP hk, va_K.moved hvm hK, hD⟩, p_F hS hsz hk⟩) hS.2.2 (by decide) (by decide)
set_option maxHeartbeats 4000000 in
set_option maxRecDepth 100000 in
theorem tb_X8_needThing_0 {p : Program} {l : Launch} {e : Env} {s : State} {m : MethodId} {below : List Frame} {meth : Method} {c : Code} {args : Array Value} {dC : Nat → ClassId} {dI : Nat → Nat → Nat} {dA : Nat → ClassId} {zz : Nat → Nat} {base : Nat} {A : Nat → Prop} {Q : List Nat → pF → Prop} {X : String → List Nat → pF → Prop} (C : pCx p s m args meth c cX8_needThing 1 none RX8 wsX8_needThing A dC dI dA zz base ∧ l.stackTraces = false ∧ (∀ x ∈ c.exceptionTable.toList, False)) : ∀ (L : List Nat) (f : pF) (a0 : Int32), wp_X8_needThing_0 dA zz Q X  L f a0 → pAt p l e rm_X8_needThing s m args below meth c dC dI A (vx_MQ below (va_Qv (fun (u : List Nat × pF) => Q u.1 u.2) (pB dC dI dA A) A) (vx_X (fun (u : String × List Nat × pF) => X u.1 u.2.1 u.2.2) (fun E u t => E = u.1 ∧ pB dC dI dA A u.2 t) A) args s 1 6 A) 0 0 0 1 [(0, .int a0)] [] L f := by
  obtain ⟨⟨hx, hb, hml, hown, hts, hr, hlocks, hA, hK, hB, hz, hN, hT⟩, hlt, hnt⟩ := id C
  have hout9 : ∀ {pc9 : Nat}, ∀ x ∈ c.exceptionTable.toList, covers x pc9 = false := fun x h => (hnt x h).elim
  intro L f a0 hw H locs hP hD hS ls hl
  rw [wp_X8_needThing_0] at hw
  refine lv_iload_n hx hb dX8_needThing_0 rfl (lv_at hl 0 rfl) ?_
  refine lv_if_lt (tgt := 10) hx hb dX8_needThing_1 (by decide) (fun c_1 => ?_) (fun c_1 => ?_)
  · have hw := hw.1 c_1
    exact tb_X8_needThing_10 C  L f  hw H locs hP hD hS ls (lv_sub hl [] rfl)
  · have hw := hw.2 c_1
    refine lv_iload_n hx hb dX8_needThing_4 rfl (lv_at hl 0 rfl) ?_
    refine lv_bipush (v := 40) hx hb dX8_needThing_5 (by decide) ?_
    refine lv_icmp_lt (tgt := 20) hx hb dX8_needThing_7 (by decide) (fun c_7 => ?_) (fun c_7 => ?_)
    · have hw := hw.1 c_7
      refine W.widen (k := 1) (n := 6) (by decide) (by decide) ?_
      refine vx_ret ?_
      exact W.vret hx hb hr (fun t ht hW => ⟨⟨(L, f), rfl, hw, by rw [ht]; exact hP, va_K.moved hW.alike hK, hD⟩, hS.F ht⟩) hS.2.2 dX8_needThing_20
    · have hw := hw.2 c_7
      exact tb_X8_needThing_10 C  L f  hw H locs hP hD hS ls (lv_sub hl [] rfl)
set_option maxHeartbeats 4000000 in
set_option maxRecDepth 100000 in
theorem c_X8_needThing (l : Launch) (hlt : l.stackTraces = false) (dC : Nat → ClassId) (dI : Nat → Nat → Nat) (dA : Nat → ClassId) (zz : Nat → Nat) (base : Nat) (L : List Nat) (f : pF) (sz : Nat) (a0 : Int32) (Q : List Nat → pF → Prop) (X : String → List Nat → pF → Prop) (hw : wp_X8_needThing_0 dA zz Q X L f a0) : vx_Met l yX8_needThing wsX8_needThing rm_X8_needThing (va_Pc [.int a0] (pPre dC dI dA zz base L f sz)) (va_Qv (fun (u : List Nat × pF) => Q u.1 u.2) (pB dC dI dA (va_A (va_pl L f) sz)) (va_A (va_pl L f) sz)) (vx_X (fun (u : String × List Nat × pF) => X u.1 u.2.1 u.2.2) (fun E u t => E = u.1 ∧ pB dC dI dA (va_A (va_pl L f) sz) u.2 t) (va_A (va_pl L f) sz)) 1 6 (va_A (va_pl L f) sz) := by
  refine vx_ofW (cc := cX8_needThing) (maxL := 1) (ret := none) (by decide) rfl ?_
  intro p e s m args below meth c s₁ B hml hnt hv
  obtain ⟨rfl, hsz, hP, hK, hD0, hz, hN, hT⟩ := hv
  subst hsz
  have hl := lv_entry ([.int a0]) (n := 1) (Nat.le_of_ble_eq_true rfl)
  rw [lg_entry_eq]
  generalize (lg_sl ([.int a0]) ++ List.replicate (1 - (lg_sl ([.int a0])).length) Slot.unset).toArray = ls at hl ⊢
  exact tb_X8_needThing_0 (Q := Q) (p := p) ⟨⟨B.exec, B.bytes, hml, findClass_of_methodNamed B.named, atoms_spec (ws := wsX8_needThing) B.pre, B.returns, B.notSynchronized, fun q h => Or.inr h, hK, pAB hD0 hz, hz, hN, hT⟩, hlt, hnt⟩ L f a0 hw s.heap [] hP (hD0.self (sz := s.heap.size)) va_S.rf ls (lv_sub hl [0] rfl)
theorem iw_X8_term_RX8 : ∀ w ∈ u_ws RX8 TX8 6, w ∈ wsX8_term := by decide +kernel
theorem lk_X8_term_75 : Cond.classLink RX8 75 "java/lang/IllegalArgumentException" ∈ wsX8_term := by decide +kernel
theorem lk_X8_term_14 : Cond.fieldLink RX8 14 "TermKeeper" "waiting" "LTermKeeper$Row;" ∈ wsX8_term := by decide +kernel
theorem lk_X8_term_25 : Cond.fieldLink RX8 25 "TermKeeper" "glossary" "LTermKeeper$Glossary;" ∈ wsX8_term := by decide +kernel
theorem lx_X8_term_IAE : ∀ w ∈ (vx_atS RX8 79 "java/lang/IllegalArgumentException" ["java/lang/RuntimeException", "java/lang/Exception"]).filter goodWord, w ∈ wsX8_term := by decide +kernel
theorem lg_X8_term_IAE : ∀ w ∈ Cond.classLink RX8 75 "java/lang/IllegalArgumentException" :: Cond.initialized "java/lang/IllegalArgumentException" :: vx_atS RX8 79 "java/lang/IllegalArgumentException" ["java/lang/RuntimeException", "java/lang/Exception"], vx_ot w = true := by decide +kernel
theorem lz_X8_term_IAE : Cond.initialized "java/lang/IllegalArgumentException" ∈ wsX8_term := by decide +kernel
abbrev rm_X8_term : Room := { frames := 8, cells := 6, slots := 1619, locals := 216 }
def wp_X8_term_18 (dA : Nat → ClassId) (zz : Nat → Nat) (Q : Int32 → List Nat → pF → Prop) (X : String → List Nat → pF → Prop) (L : List Nat) (f : pF) : Prop :=
    (X "java/lang/IllegalArgumentException" L f)
def wp_X8_term_0 (dA : Nat → ClassId) (zz : Nat → Nat) (Q : Int32 → List Nat → pF → Prop) (X : String → List Nat → pF → Prop) (L : List Nat) (f : pF) (a0 : Nat) (a1 : Int32) (a2 : Int32) (a3 : Int32) : Prop :=
    (wp_X8_needThing_0 dA zz (fun L_1 f_1 =>
      (wp_X8_needKind_0 dA zz (fun L_5 f_5 =>
        ((a3 < 0 →
          (wp_X8_term_18 dA zz Q X  L_5 f_5 ))
         ∧ (¬ a3 < 0 →
          ((a3 ≤ (63 : Int32) →
            (gR L_5 f_5 9 a0 2 (fun g_29 =>
              (gR L_5 f_5 9 a0 0 (fun g_33 =>
                (isO L_5 f_5 2 g_29 ∧
                  (wp_X1_addTerm_0 dA zz (fun r_39 L_39 f_39 =>
                    (gR L_39 f_39 9 a0 0 (fun g_45 =>
                      (isO L_39 f_39 5 g_45 ∧
                        (wp_X4_shorten_0 dA zz (fun L_49 f_49 =>
                          (Q r_39 L_49 f_49)) L_39 f_39 g_45 (0 : Int32)))))) L_5 f_5 g_29 g_33 a1 a2 a3)))))))
           ∧ (¬ a3 ≤ (63 : Int32) →
            (wp_X8_term_18 dA zz Q X  L_5 f_5 )))))) X L_1 f_1 a2)) X L f a1)
set_option maxHeartbeats 4000000 in
set_option maxRecDepth 100000 in
theorem tb_X8_term_18 {p : Program} {l : Launch} {e : Env} {s : State} {m : MethodId} {below : List Frame} {meth : Method} {c : Code} {args : Array Value} {dC : Nat → ClassId} {dI : Nat → Nat → Nat} {dA : Nat → ClassId} {zz : Nat → Nat} {base : Nat} {A : Nat → Prop} {Q : Int32 → List Nat → pF → Prop} {X : String → List Nat → pF → Prop} (C : pCx p s m args meth c cX8_term 5 (some .int) RX8 wsX8_term A dC dI dA zz base ∧ l.stackTraces = false ∧ (∀ x ∈ c.exceptionTable.toList, False)) : ∀ (L : List Nat) (f : pF) , wp_X8_term_18 dA zz Q X  L f  → pAt p l e rm_X8_term s m args below meth c dC dI A (vx_MQ below (va_Qi (fun r (u : List Nat × pF) => Q r u.1 u.2) (pB dC dI dA A) A) (vx_X (fun (u : String × List Nat × pF) => X u.1 u.2.1 u.2.2) (fun E u t => E = u.1 ∧ pB dC dI dA A u.2 t) A) args s 6 1619 A) 2 12 18 5 [] [] L f := by
  obtain ⟨⟨hx, hb, hml, hown, hts, hr, hlocks, hA, hK, hB, hz, hN, hT⟩, hlt, hnt⟩ := id C
  have hout9 : ∀ {pc9 : Nat}, ∀ x ∈ c.exceptionTable.toList, covers x pc9 = false := fun x h => (hnt x h).elim
  intro L f  hw H locs hP hD hS ls hl
  rw [wp_X8_term_18] at hw
  obtain ⟨sa9, hs9⟩ := hN.2.2.2.2.2.2.2.1 (77, "no such classes") (by decide +kernel)
  exact vx_throwS hx hb hlt hown (by decide +kernel) (by decide +kernel) (hts _ lk_X8_term_75) (hts _ lz_X8_term_IAE) hs9 (vx_hat (fun w h => hts w (lx_X8_term_IAE w h)) pBad_IAE (pBad_of hN.2.2.2.2.2.2.2.2.2.2.2.2.1 hN.2.2.2.2.2.2.2.2.2.2.2.2.2.1)) lg_X8_term_IAE (hT.1.narrow hB) (hT.2.1.narrow hB) hS (by rw [hml]; exact hl.1) dX8_term_18 dX8_term_21 dX8_term_22 dX8_term_24 dX8_term_27 hout9 (Nat.le_of_ble_eq_true rfl) (Nat.le_of_ble_eq_true rfl) (Nat.le_of_ble_eq_true rfl) (Nat.le_of_ble_eq_true rfl) hlocks (fun t hvm hsz hk => ⟨("java/lang/IllegalArgumentException", L, f), hw, ⟨rfl, p_keep hP hk, va_K.moved hvm hK, hD⟩, p_F hS hsz hk⟩) hS.2.2 (by decide) (by decide)
set_option maxHeartbeats 4000000 in
set_option maxRecDepth 100000 in
theorem tb_X8_term_0 {p : Program} {l : Launch} {e : Env} {s : State} {m : MethodId} {below : List Frame} {meth : Method} {c : Code} {args : Array Value} {dC : Nat → ClassId} {dI : Nat → Nat → Nat} {dA : Nat → ClassId} {zz : Nat → Nat} {base : Nat} {A : Nat → Prop} {Q : Int32 → List Nat → pF → Prop} {X : String → List Nat → pF → Prop} (C : pCx p s m args meth c cX8_term 5 (some .int) RX8 wsX8_term A dC dI dA zz base ∧ l.stackTraces = false ∧ (∀ x ∈ c.exceptionTable.toList, False)) : ∀ (L : List Nat) (f : pF) (a0 : Nat) (a1 : Int32) (a2 : Int32) (a3 : Int32), wp_X8_term_0 dA zz Q X  L f a0 a1 a2 a3 → pAt p l e rm_X8_term s m args below meth c dC dI A (vx_MQ below (va_Qi (fun r (u : List Nat × pF) => Q r u.1 u.2) (pB dC dI dA A) A) (vx_X (fun (u : String × List Nat × pF) => X u.1 u.2.1 u.2.2) (fun E u t => E = u.1 ∧ pB dC dI dA A u.2 t) A) args s 6 1619 A) 0 0 0 5 [(0, .ref a0), (1, .int a1), (2, .int a2), (3, .int a3)] [] L f := by
  obtain ⟨⟨hx, hb, hml, hown, hts, hr, hlocks, hA, hK, hB, hz, hN, hT⟩, hlt, hnt⟩ := id C
  have hout9 : ∀ {pc9 : Nat}, ∀ x ∈ c.exceptionTable.toList, covers x pc9 = false := fun x h => (hnt x h).elim
  intro L f a0 a1 a2 a3 hw H locs hP hD hS ls hl
  rw [wp_X8_term_0] at hw
  refine lv_iload_n hx hb dX8_term_0 rfl (lv_at hl 1 rfl) ?_
  have hFc := p_free hD hS hA
  refine vx_callv (vx_runS (As := [.int a1]) (rest := []) ⟨hx, hb, hml, hown, hts⟩ (c_X8_needThing l hlt dC dI dA zz base L f H.size a1 _ X hw) (va_cwS 1 hts gX8_term_X8_needThing rfl rfl rfl (by decide +kernel) ⟨by decide, by decide⟩) (pPreS [.int a1] hK hP hD hS hB hz hN hT) rfl rfl hl.1 rfl (lv_room (Nat.le_of_ble_eq_true rfl)) dX8_term_1 ⟨by decide, by decide⟩) hS (fun q _ h => hFc q h) hFc (fun q _ h => hFc q h) (fun E ce q9 u t H1 locs ht hvm hw hB1 hz1 hk1 hS hce hcv hcl => by
      obtain ⟨E9, L9, f9⟩ := u
      obtain ⟨hE, hP, -, hD1⟩ := hB1
      rw [ht] at hP
      exact vx_out (fun x h => (hnt x h).elim) hlocks hce hcv hcl (fun t9 ht9 hvm9 => ⟨(E9, L9, f9), hw, ⟨hE, by rw [ht9]; exact hP, va_K.moved hvm9 hK, p_gain hD1 hFc⟩, hS.F ht9⟩) hS.2.2 (by decide) (by decide)) (fun u t H1 locs ht hvm hw hB1 hz1 hk1 hS => ?_)
  obtain ⟨L_1, f_1⟩ := u
  obtain ⟨hP, -, hD1⟩ := hB1
  rw [ht] at hP
  have hw := id hw
  have hP : va_P (dC, dI) vwCl (va_pl L_1 f_1) H1 := hP
  have hD : va_D A (va_pl L_1 f_1) := p_gain hD1 hFc
  generalize H1 = H at hP hS ⊢
  refine W.widen (k := 1) (n := 6) (by decide) (by decide) ?_
  refine lv_iload_n hx hb dX8_term_4 rfl (lv_at hl 2 rfl) ?_
  have hFc := p_free hD hS hA
  refine vx_callv (vx_runS (As := [.int a2]) (rest := []) ⟨hx, hb, hml, hown, hts⟩ (c_X8_needKind l hlt dC dI dA zz base L_1 f_1 H.size a2 _ X hw) (va_cwS 1 hts gX8_term_X8_needKind rfl rfl rfl (by decide +kernel) ⟨by decide, by decide⟩) (pPreS [.int a2] hK hP hD hS hB hz hN hT) rfl rfl hl.1 rfl (lv_room (Nat.le_of_ble_eq_true rfl)) dX8_term_5 ⟨by decide, by decide⟩) hS (fun q _ h => hFc q h) hFc (fun q _ h => hFc q h) (fun E ce q9 u t H1 locs ht hvm hw hB1 hz1 hk1 hS hce hcv hcl => by
      obtain ⟨E9, L9, f9⟩ := u
      obtain ⟨hE, hP, -, hD1⟩ := hB1
      rw [ht] at hP
      exact vx_out (fun x h => (hnt x h).elim) hlocks hce hcv hcl (fun t9 ht9 hvm9 => ⟨(E9, L9, f9), hw, ⟨hE, by rw [ht9]; exact hP, va_K.moved hvm9 hK, p_gain hD1 hFc⟩, hS.F ht9⟩) hS.2.2 (by decide) (by decide)) (fun u t H1 locs ht hvm hw hB1 hz1 hk1 hS => ?_)
  obtain ⟨L_5, f_5⟩ := u
  obtain ⟨hP, -, hD1⟩ := hB1
  rw [ht] at hP
  have hw := id hw
  have hP : va_P (dC, dI) vwCl (va_pl L_5 f_5) H1 := hP
  have hD : va_D A (va_pl L_5 f_5) := p_gain hD1 hFc
  generalize H1 = H at hP hS ⊢
  refine W.widen (k := 2) (n := 12) (by decide) (by decide) ?_
  refine lv_iload_n hx hb dX8_term_8 rfl (lv_at hl 3 rfl) ?_
  refine lv_if_lt (tgt := 18) hx hb dX8_term_9 (by decide) (fun c_9 => ?_) (fun c_9 => ?_)
  · have hw := hw.1 c_9
    exact tb_X8_term_18 C  L_5 f_5  hw H locs hP hD hS ls (lv_sub hl [] rfl)
  · have hw := hw.2 c_9
    refine lv_iload_n hx hb dX8_term_12 rfl (lv_at hl 3 rfl) ?_
    refine lv_bipush (v := 63) hx hb dX8_term_13 (by decide) ?_
    refine lv_icmp_le (tgt := 28) hx hb dX8_term_15 (by decide) (fun c_15 => ?_) (fun c_15 => ?_)
    · have hw := hw.1 c_15
      refine lv_aload_n hx hb dX8_term_28 rfl (lv_at hl 0 rfl) ?_
      obtain ⟨fs_29, g_29, ⟨hL9, hf9, hn9⟩, hw⟩ := hw
      refine va_get (D := (dC, dI)) (ci := 9) (v := .ref g_29) (C := RX8) (T := TX8) (N := 6) hx hb hts iw_X8_term_RX8 hown hK (p_one hP hL9 hf9) 0 rfl rfl 2 (by decide) (hts _ lk_X8_term_25) (fun _ h9 => h9) hn9 dX8_term_29 ?_
      refine lv_aload_n hx hb dX8_term_32 rfl (lv_at hl 0 rfl) ?_
      obtain ⟨fs_33, g_33, ⟨hL9, hf9, hn9⟩, hw⟩ := hw
      refine va_get (D := (dC, dI)) (ci := 9) (v := .ref g_33) (C := RX8) (T := TX8) (N := 6) hx hb hts iw_X8_term_RX8 hown hK (p_one hP hL9 hf9) 0 rfl rfl 0 (by decide) (hts _ lk_X8_term_14) (fun _ h9 => h9) hn9 dX8_term_33 ?_
      refine lv_iload_n hx hb dX8_term_36 rfl (lv_at hl 1 rfl) ?_
      refine lv_iload_n hx hb dX8_term_37 rfl (lv_at hl 2 rfl) ?_
      refine lv_iload_n hx hb dX8_term_38 rfl (lv_at hl 3 rfl) ?_
      obtain ⟨hO9, hw⟩ := hw
      have hFc := p_free hD hS hA
      refine va_calli (va_runV (As := [.ref g_33, .int a1, .int a2, .int a3]) (rest := []) ⟨hx, hb, hml, hown, hts⟩ (c_X1_addTerm l dC dI dA zz base L_5 f_5 H.size g_29 g_33 a1 a2 a3 _ hw) (cwV 4 hts gX8_term_X1_addTerm rfl rfl rfl (by decide +kernel) ⟨by decide, by decide⟩) (pPreV [.ref g_33, .int a1, .int a2, .int a3] (ci := 2) rfl hO9 hK hP hD hS hB hz hN hT) rfl rfl hl.1 rfl (lv_room (Nat.le_of_ble_eq_true rfl)) dX8_term_39 ⟨by decide, by decide⟩) hS (fun q _ h => hFc q h) hFc (fun r_39 u t H1 locs ht hvm hw hB1 hz1 hk1 hS => ?_)
      obtain ⟨L_39, f_39⟩ := u
      obtain ⟨hP, -, hD1⟩ := hB1
      rw [ht] at hP
      have hw := id hw
      have hP : va_P (dC, dI) vwCl (va_pl L_39 f_39) H1 := hP
      have hD : va_D A (va_pl L_39 f_39) := p_gain hD1 hFc
      generalize H1 = H at hP hS ⊢
      refine W.widen (k := 6) (n := 1619) (by decide) (by decide) ?_
      refine lv_istore (lv' := [(4, .int r_39), (0, .ref a0), (1, .int a1), (2, .int a2), (3, .int a3)]) hx hb dX8_term_42 hl (by decide) rfl (fun ls hl => ?_)
      refine lv_aload_n hx hb dX8_term_44 rfl (lv_at hl 1 rfl) ?_
      obtain ⟨fs_45, g_45, ⟨hL9, hf9, hn9⟩, hw⟩ := hw
      refine va_get (D := (dC, dI)) (ci := 9) (v := .ref g_45) (C := RX8) (T := TX8) (N := 6) hx hb hts iw_X8_term_RX8 hown hK (p_one hP hL9 hf9) 0 rfl rfl 0 (by decide) (hts _ lk_X8_term_14) (fun _ h9 => h9) hn9 dX8_term_45 ?_
      refine lv_iconst (v := 0) hx hb dX8_term_48 (by decide) ?_
      obtain ⟨hO9, hw⟩ := hw
      have hFc := p_free hD hS hA
      refine va_callv (va_runV (As := [.int (0 : Int32)]) (rest := []) ⟨hx, hb, hml, hown, hts⟩ (c_X4_shorten l dC dI dA zz base L_39 f_39 H.size g_45 (0 : Int32) _ hw) (cwV 1 hts gX8_term_X4_shorten rfl rfl rfl (by decide +kernel) ⟨by decide, by decide⟩) (pPreV [.int (0 : Int32)] (ci := 5) rfl hO9 hK hP hD hS hB hz hN hT) rfl rfl hl.1 rfl (lv_room (Nat.le_of_ble_eq_true rfl)) dX8_term_49 ⟨by decide, by decide⟩) hS (fun q _ h => hFc q h) hFc (fun u t H1 locs ht hvm hw hB1 hz1 hk1 hS => ?_)
      obtain ⟨L_49, f_49⟩ := u
      obtain ⟨hP, -, hD1⟩ := hB1
      rw [ht] at hP
      have hw := id hw
      have hP : va_P (dC, dI) vwCl (va_pl L_49 f_49) H1 := hP
      have hD : va_D A (va_pl L_49 f_49) := p_gain hD1 hFc
      generalize H1 = H at hP hS ⊢
      refine lv_iload hx hb dX8_term_52 (lv_at hl 0 rfl) ?_
      refine vx_ret ?_
      exact W.iret (v := r_39) hx hb hr (fun t ht hW => ⟨⟨r_39, (L_49, f_49), rfl, hw, by rw [ht]; exact hP, va_K.moved hW.alike hK, hD⟩, hS.F ht⟩) hS.2.2 dX8_term_54
    · have hw := hw.2 c_15
      exact tb_X8_term_18 C  L_5 f_5  hw H locs hP hD hS ls (lv_sub hl [] rfl)
set_option maxHeartbeats 4000000 in
set_option maxRecDepth 100000 in
theorem c_X8_term (l : Launch) (hlt : l.stackTraces = false) (dC : Nat → ClassId) (dI : Nat → Nat → Nat) (dA : Nat → ClassId) (zz : Nat → Nat) (base : Nat) (L : List Nat) (f : pF) (sz : Nat) (a0 : Nat) (a1 : Int32) (a2 : Int32) (a3 : Int32) (Q : Int32 → List Nat → pF → Prop) (X : String → List Nat → pF → Prop) (hw : wp_X8_term_0 dA zz Q X L f a0 a1 a2 a3) : vx_Met l yX8_term wsX8_term rm_X8_term (va_Pc [.ref a0, .int a1, .int a2, .int a3] (pPre dC dI dA zz base L f sz)) (va_Qi (fun r (u : List Nat × pF) => Q r u.1 u.2) (pB dC dI dA (va_A (va_pl L f) sz)) (va_A (va_pl L f) sz)) (vx_X (fun (u : String × List Nat × pF) => X u.1 u.2.1 u.2.2) (fun E u t => E = u.1 ∧ pB dC dI dA (va_A (va_pl L f) sz) u.2 t) (va_A (va_pl L f) sz)) 6 1619 (va_A (va_pl L f) sz) := by
  refine vx_ofW (cc := cX8_term) (maxL := 5) (ret := (some .int)) (by decide) rfl ?_
  intro p e s m args below meth c s₁ B hml hnt hv
  obtain ⟨rfl, hsz, hP, hK, hD0, hz, hN, hT⟩ := hv
  subst hsz
  have hl := lv_entry ([.ref a0, .int a1, .int a2, .int a3]) (n := 5) (Nat.le_of_ble_eq_true rfl)
  rw [lg_entry_eq]
  generalize (lg_sl ([.ref a0, .int a1, .int a2, .int a3]) ++ List.replicate (5 - (lg_sl ([.ref a0, .int a1, .int a2, .int a3])).length) Slot.unset).toArray = ls at hl ⊢
  exact tb_X8_term_0 (Q := Q) (p := p) ⟨⟨B.exec, B.bytes, hml, findClass_of_methodNamed B.named, atoms_spec (ws := wsX8_term) B.pre, B.returns, B.notSynchronized, fun q h => Or.inr h, hK, pAB hD0 hz, hz, hN, hT⟩, hlt, hnt⟩ L f a0 a1 a2 a3 hw s.heap [] hP (hD0.self (sz := s.heap.size)) va_S.rf ls (lv_sub hl [0, 1, 2, 3] rfl)
theorem iw_X8_neighbour_RX8 : ∀ w ∈ u_ws RX8 TX8 6, w ∈ wsX8_neighbour := by decide +kernel
theorem lk_X8_neighbour_14 : Cond.fieldLink RX8 14 "TermKeeper" "waiting" "LTermKeeper$Row;" ∈ wsX8_neighbour := by decide +kernel
theorem lk_X8_neighbour_25 : Cond.fieldLink RX8 25 "TermKeeper" "glossary" "LTermKeeper$Glossary;" ∈ wsX8_neighbour := by decide +kernel
abbrev rm_X8_neighbour : Room := { frames := 8, cells := 5, slots := 1610, locals := 216 }
def wp_X8_neighbour_0 (dA : Nat → ClassId) (zz : Nat → Nat) (Q : Int32 → List Nat → pF → Prop) (X : String → List Nat → pF → Prop) (L : List Nat) (f : pF) (a0 : Nat) (a1 : Int32) : Prop :=
    (wp_X8_needThing_0 dA zz (fun L_1 f_1 =>
      (gR L_1 f_1 9 a0 2 (fun g_5 =>
        (gR L_1 f_1 9 a0 0 (fun g_9 =>
          (isO L_1 f_1 2 g_5 ∧
            (wp_X1_addNeighbour_0 dA zz (fun r_13 L_13 f_13 =>
              (gR L_13 f_13 9 a0 0 (fun g_18 =>
                (isO L_13 f_13 5 g_18 ∧
                  (wp_X4_shorten_0 dA zz (fun L_22 f_22 =>
                    (Q r_13 L_22 f_22)) L_13 f_13 g_18 (0 : Int32)))))) L_1 f_1 g_5 g_9 a1))))))) X L f a1)
set_option maxHeartbeats 4000000 in
set_option maxRecDepth 100000 in
theorem tb_X8_neighbour_0 {p : Program} {l : Launch} {e : Env} {s : State} {m : MethodId} {below : List Frame} {meth : Method} {c : Code} {args : Array Value} {dC : Nat → ClassId} {dI : Nat → Nat → Nat} {dA : Nat → ClassId} {zz : Nat → Nat} {base : Nat} {A : Nat → Prop} {Q : Int32 → List Nat → pF → Prop} {X : String → List Nat → pF → Prop} (C : pCx p s m args meth c cX8_neighbour 3 (some .int) RX8 wsX8_neighbour A dC dI dA zz base ∧ l.stackTraces = false ∧ (∀ x ∈ c.exceptionTable.toList, False)) : ∀ (L : List Nat) (f : pF) (a0 : Nat) (a1 : Int32), wp_X8_neighbour_0 dA zz Q X  L f a0 a1 → pAt p l e rm_X8_neighbour s m args below meth c dC dI A (vx_MQ below (va_Qi (fun r (u : List Nat × pF) => Q r u.1 u.2) (pB dC dI dA A) A) (vx_X (fun (u : String × List Nat × pF) => X u.1 u.2.1 u.2.2) (fun E u t => E = u.1 ∧ pB dC dI dA A u.2 t) A) args s 5 1610 A) 0 0 0 3 [(0, .ref a0), (1, .int a1)] [] L f := by
  obtain ⟨⟨hx, hb, hml, hown, hts, hr, hlocks, hA, hK, hB, hz, hN, hT⟩, hlt, hnt⟩ := id C
  have hout9 : ∀ {pc9 : Nat}, ∀ x ∈ c.exceptionTable.toList, covers x pc9 = false := fun x h => (hnt x h).elim
  intro L f a0 a1 hw H locs hP hD hS ls hl
  rw [wp_X8_neighbour_0] at hw
  refine lv_iload_n hx hb dX8_neighbour_0 rfl (lv_at hl 1 rfl) ?_
  have hFc := p_free hD hS hA
  refine vx_callv (vx_runS (As := [.int a1]) (rest := []) ⟨hx, hb, hml, hown, hts⟩ (c_X8_needThing l hlt dC dI dA zz base L f H.size a1 _ X hw) (va_cwS 1 hts gX8_neighbour_X8_needThing rfl rfl rfl (by decide +kernel) ⟨by decide, by decide⟩) (pPreS [.int a1] hK hP hD hS hB hz hN hT) rfl rfl hl.1 rfl (lv_room (Nat.le_of_ble_eq_true rfl)) dX8_neighbour_1 ⟨by decide, by decide⟩) hS (fun q _ h => hFc q h) hFc (fun q _ h => hFc q h) (fun E ce q9 u t H1 locs ht hvm hw hB1 hz1 hk1 hS hce hcv hcl => by
      obtain ⟨E9, L9, f9⟩ := u
      obtain ⟨hE, hP, -, hD1⟩ := hB1
      rw [ht] at hP
      exact vx_out (fun x h => (hnt x h).elim) hlocks hce hcv hcl (fun t9 ht9 hvm9 => ⟨(E9, L9, f9), hw, ⟨hE, by rw [ht9]; exact hP, va_K.moved hvm9 hK, p_gain hD1 hFc⟩, hS.F ht9⟩) hS.2.2 (by decide) (by decide)) (fun u t H1 locs ht hvm hw hB1 hz1 hk1 hS => ?_)
  obtain ⟨L_1, f_1⟩ := u
  obtain ⟨hP, -, hD1⟩ := hB1
  rw [ht] at hP
  have hw := id hw
  have hP : va_P (dC, dI) vwCl (va_pl L_1 f_1) H1 := hP
  have hD : va_D A (va_pl L_1 f_1) := p_gain hD1 hFc
  generalize H1 = H at hP hS ⊢
  refine W.widen (k := 1) (n := 6) (by decide) (by decide) ?_
  refine lv_aload_n hx hb dX8_neighbour_4 rfl (lv_at hl 0 rfl) ?_
  obtain ⟨fs_5, g_5, ⟨hL9, hf9, hn9⟩, hw⟩ := hw
  refine va_get (D := (dC, dI)) (ci := 9) (v := .ref g_5) (C := RX8) (T := TX8) (N := 6) hx hb hts iw_X8_neighbour_RX8 hown hK (p_one hP hL9 hf9) 0 rfl rfl 2 (by decide) (hts _ lk_X8_neighbour_25) (fun _ h9 => h9) hn9 dX8_neighbour_5 ?_
  refine lv_aload_n hx hb dX8_neighbour_8 rfl (lv_at hl 0 rfl) ?_
  obtain ⟨fs_9, g_9, ⟨hL9, hf9, hn9⟩, hw⟩ := hw
  refine va_get (D := (dC, dI)) (ci := 9) (v := .ref g_9) (C := RX8) (T := TX8) (N := 6) hx hb hts iw_X8_neighbour_RX8 hown hK (p_one hP hL9 hf9) 0 rfl rfl 0 (by decide) (hts _ lk_X8_neighbour_14) (fun _ h9 => h9) hn9 dX8_neighbour_9 ?_
  refine lv_iload_n hx hb dX8_neighbour_12 rfl (lv_at hl 1 rfl) ?_
  obtain ⟨hO9, hw⟩ := hw
  have hFc := p_free hD hS hA
  refine va_calli (va_runV (As := [.ref g_9, .int a1]) (rest := []) ⟨hx, hb, hml, hown, hts⟩ (c_X1_addNeighbour l dC dI dA zz base L_1 f_1 H.size g_5 g_9 a1 _ hw) (cwV 2 hts gX8_neighbour_X1_addNeighbour rfl rfl rfl (by decide +kernel) ⟨by decide, by decide⟩) (pPreV [.ref g_9, .int a1] (ci := 2) rfl hO9 hK hP hD hS hB hz hN hT) rfl rfl hl.1 rfl (lv_room (Nat.le_of_ble_eq_true rfl)) dX8_neighbour_13 ⟨by decide, by decide⟩) hS (fun q _ h => hFc q h) hFc (fun r_13 u t H1 locs ht hvm hw hB1 hz1 hk1 hS => ?_)
  obtain ⟨L_13, f_13⟩ := u
  obtain ⟨hP, -, hD1⟩ := hB1
  rw [ht] at hP
  have hw := id hw
  have hP : va_P (dC, dI) vwCl (va_pl L_13 f_13) H1 := hP
  have hD : va_D A (va_pl L_13 f_13) := p_gain hD1 hFc
  generalize H1 = H at hP hS ⊢
  refine W.widen (k := 5) (n := 1610) (by decide) (by decide) ?_
  refine lv_istore_n (lv' := [(2, .int r_13), (0, .ref a0), (1, .int a1)]) hx hb dX8_neighbour_16 rfl hl (by decide) rfl (fun ls hl => ?_)
  refine lv_aload_n hx hb dX8_neighbour_17 rfl (lv_at hl 1 rfl) ?_
  obtain ⟨fs_18, g_18, ⟨hL9, hf9, hn9⟩, hw⟩ := hw
  refine va_get (D := (dC, dI)) (ci := 9) (v := .ref g_18) (C := RX8) (T := TX8) (N := 6) hx hb hts iw_X8_neighbour_RX8 hown hK (p_one hP hL9 hf9) 0 rfl rfl 0 (by decide) (hts _ lk_X8_neighbour_14) (fun _ h9 => h9) hn9 dX8_neighbour_18 ?_
  refine lv_iconst (v := 0) hx hb dX8_neighbour_21 (by decide) ?_
  obtain ⟨hO9, hw⟩ := hw
  have hFc := p_free hD hS hA
  refine va_callv (va_runV (As := [.int (0 : Int32)]) (rest := []) ⟨hx, hb, hml, hown, hts⟩ (c_X4_shorten l dC dI dA zz base L_13 f_13 H.size g_18 (0 : Int32) _ hw) (cwV 1 hts gX8_neighbour_X4_shorten rfl rfl rfl (by decide +kernel) ⟨by decide, by decide⟩) (pPreV [.int (0 : Int32)] (ci := 5) rfl hO9 hK hP hD hS hB hz hN hT) rfl rfl hl.1 rfl (lv_room (Nat.le_of_ble_eq_true rfl)) dX8_neighbour_22 ⟨by decide, by decide⟩) hS (fun q _ h => hFc q h) hFc (fun u t H1 locs ht hvm hw hB1 hz1 hk1 hS => ?_)
  obtain ⟨L_22, f_22⟩ := u
  obtain ⟨hP, -, hD1⟩ := hB1
  rw [ht] at hP
  have hw := id hw
  have hP : va_P (dC, dI) vwCl (va_pl L_22 f_22) H1 := hP
  have hD : va_D A (va_pl L_22 f_22) := p_gain hD1 hFc
  generalize H1 = H at hP hS ⊢
  refine lv_iload_n hx hb dX8_neighbour_25 rfl (lv_at hl 0 rfl) ?_
  refine vx_ret ?_
  exact W.iret (v := r_13) hx hb hr (fun t ht hW => ⟨⟨r_13, (L_22, f_22), rfl, hw, by rw [ht]; exact hP, va_K.moved hW.alike hK, hD⟩, hS.F ht⟩) hS.2.2 dX8_neighbour_26
set_option maxHeartbeats 4000000 in
set_option maxRecDepth 100000 in
theorem c_X8_neighbour (l : Launch) (hlt : l.stackTraces = false) (dC : Nat → ClassId) (dI : Nat → Nat → Nat) (dA : Nat → ClassId) (zz : Nat → Nat) (base : Nat) (L : List Nat) (f : pF) (sz : Nat) (a0 : Nat) (a1 : Int32) (Q : Int32 → List Nat → pF → Prop) (X : String → List Nat → pF → Prop) (hw : wp_X8_neighbour_0 dA zz Q X L f a0 a1) : vx_Met l yX8_neighbour wsX8_neighbour rm_X8_neighbour (va_Pc [.ref a0, .int a1] (pPre dC dI dA zz base L f sz)) (va_Qi (fun r (u : List Nat × pF) => Q r u.1 u.2) (pB dC dI dA (va_A (va_pl L f) sz)) (va_A (va_pl L f) sz)) (vx_X (fun (u : String × List Nat × pF) => X u.1 u.2.1 u.2.2) (fun E u t => E = u.1 ∧ pB dC dI dA (va_A (va_pl L f) sz) u.2 t) (va_A (va_pl L f) sz)) 5 1610 (va_A (va_pl L f) sz) := by
  refine vx_ofW (cc := cX8_neighbour) (maxL := 3) (ret := (some .int)) (by decide) rfl ?_
  intro p e s m args below meth c s₁ B hml hnt hv
  obtain ⟨rfl, hsz, hP, hK, hD0, hz, hN, hT⟩ := hv
  subst hsz
  have hl := lv_entry ([.ref a0, .int a1]) (n := 3) (Nat.le_of_ble_eq_true rfl)
  rw [lg_entry_eq]
  generalize (lg_sl ([.ref a0, .int a1]) ++ List.replicate (3 - (lg_sl ([.ref a0, .int a1])).length) Slot.unset).toArray = ls at hl ⊢
  exact tb_X8_neighbour_0 (Q := Q) (p := p) ⟨⟨B.exec, B.bytes, hml, findClass_of_methodNamed B.named, atoms_spec (ws := wsX8_neighbour) B.pre, B.returns, B.notSynchronized, fun q h => Or.inr h, hK, pAB hD0 hz, hz, hN, hT⟩, hlt, hnt⟩ L f a0 a1 hw s.heap [] hP (hD0.self (sz := s.heap.size)) va_S.rf ls (lv_sub hl [0, 1] rfl)
theorem iw_X8_define_RX8 : ∀ w ∈ u_ws RX8 TX8 6, w ∈ wsX8_define := by decide +kernel
theorem lk_X8_define_75 : Cond.classLink RX8 75 "java/lang/IllegalArgumentException" ∈ wsX8_define := by decide +kernel
theorem lk_X8_define_32 : Cond.fieldLink RX8 32 "TermKeeper" "definitions" "LTermKeeper$Definitions;" ∈ wsX8_define := by decide +kernel
theorem lk_X8_define_90 : Cond.constantLong RX8 90 (1099511627776) ∈ wsX8_define := by decide +kernel
theorem lx_X8_define_IAE : ∀ w ∈ (vx_atS RX8 79 "java/lang/IllegalArgumentException" ["java/lang/RuntimeException", "java/lang/Exception"]).filter goodWord, w ∈ wsX8_define := by decide +kernel
theorem lg_X8_define_IAE : ∀ w ∈ Cond.classLink RX8 75 "java/lang/IllegalArgumentException" :: Cond.initialized "java/lang/IllegalArgumentException" :: vx_atS RX8 79 "java/lang/IllegalArgumentException" ["java/lang/RuntimeException", "java/lang/Exception"], vx_ot w = true := by decide +kernel
theorem lz_X8_define_IAE : Cond.initialized "java/lang/IllegalArgumentException" ∈ wsX8_define := by decide +kernel
abbrev rm_X8_define : Room := { frames := 7, cells := 2, slots := 12, locals := 110 }
def wp_X8_define_18 (dA : Nat → ClassId) (zz : Nat → Nat) (Q : Int64 → List Nat → pF → Prop) (X : String → List Nat → pF → Prop) (L : List Nat) (f : pF) : Prop :=
    (X "java/lang/IllegalArgumentException" L f)
def wp_X8_define_0 (dA : Nat → ClassId) (zz : Nat → Nat) (Q : Int64 → List Nat → pF → Prop) (X : String → List Nat → pF → Prop) (L : List Nat) (f : pF) (a0 : Nat) (a1 : Int32) (a2 : Int64) : Prop :=
    (wp_X8_needThing_0 dA zz (fun L_1 f_1 =>
      (((lg_cmp a2 (0 : Int64)) < 0 →
        (wp_X8_define_18 dA zz Q X  L_1 f_1 ))
       ∧ (¬ (lg_cmp a2 (0 : Int64)) < 0 →
        (((lg_cmp a2 (1099511627776 : Int64)) < 0 →
          (gR L_1 f_1 9 a0 3 (fun g_29 =>
            (isO L_1 f_1 1 g_29 ∧
              (wp_X0_replaced_0 dA zz (fun r_34 L_34 f_34 =>
                (Q r_34 L_34 f_34)) L_1 f_1 g_29 a1 a2)))))
         ∧ (¬ (lg_cmp a2 (1099511627776 : Int64)) < 0 →
          (wp_X8_define_18 dA zz Q X  L_1 f_1 )))))) X L f a1)
set_option maxHeartbeats 4000000 in
set_option maxRecDepth 100000 in
theorem tb_X8_define_18 {p : Program} {l : Launch} {e : Env} {s : State} {m : MethodId} {below : List Frame} {meth : Method} {c : Code} {args : Array Value} {dC : Nat → ClassId} {dI : Nat → Nat → Nat} {dA : Nat → ClassId} {zz : Nat → Nat} {base : Nat} {A : Nat → Prop} {Q : Int64 → List Nat → pF → Prop} {X : String → List Nat → pF → Prop} (C : pCx p s m args meth c cX8_define 4 (some .long) RX8 wsX8_define A dC dI dA zz base ∧ l.stackTraces = false ∧ (∀ x ∈ c.exceptionTable.toList, False)) : ∀ (L : List Nat) (f : pF) , wp_X8_define_18 dA zz Q X  L f  → pAt p l e rm_X8_define s m args below meth c dC dI A (vx_MQ below (va_Ql (fun r (u : List Nat × pF) => Q r u.1 u.2) (pB dC dI dA A) A) (vx_X (fun (u : String × List Nat × pF) => X u.1 u.2.1 u.2.2) (fun E u t => E = u.1 ∧ pB dC dI dA A u.2 t) A) args s 2 12 A) 1 6 18 4 [] [] L f := by
  obtain ⟨⟨hx, hb, hml, hown, hts, hr, hlocks, hA, hK, hB, hz, hN, hT⟩, hlt, hnt⟩ := id C
  have hout9 : ∀ {pc9 : Nat}, ∀ x ∈ c.exceptionTable.toList, covers x pc9 = false := fun x h => (hnt x h).elim
  intro L f  hw H locs hP hD hS ls hl
  rw [wp_X8_define_18] at hw
  obtain ⟨sa9, hs9⟩ := hN.2.2.2.2.2.2.2.1 (92, "bits of no thing") (by decide +kernel)
  exact vx_throwS hx hb hlt hown (by decide +kernel) (by decide +kernel) (hts _ lk_X8_define_75) (hts _ lz_X8_define_IAE) hs9 (vx_hat (fun w h => hts w (lx_X8_define_IAE w h)) pBad_IAE (pBad_of hN.2.2.2.2.2.2.2.2.2.2.2.2.1 hN.2.2.2.2.2.2.2.2.2.2.2.2.2.1)) lg_X8_define_IAE (hT.1.narrow hB) (hT.2.1.narrow hB) hS (by rw [hml]; exact hl.1) dX8_define_18 dX8_define_21 dX8_define_22 dX8_define_24 dX8_define_27 hout9 (Nat.le_of_ble_eq_true rfl) (Nat.le_of_ble_eq_true rfl) (Nat.le_of_ble_eq_true rfl) (Nat.le_of_ble_eq_true rfl) hlocks (fun t hvm hsz hk => ⟨("java/lang/IllegalArgumentException", L, f), hw, ⟨rfl, p_keep hP hk, va_K.moved hvm hK, hD⟩, p_F hS hsz hk⟩) hS.2.2 (by decide) (by decide)
set_option maxHeartbeats 4000000 in
set_option maxRecDepth 100000 in
theorem tb_X8_define_0 {p : Program} {l : Launch} {e : Env} {s : State} {m : MethodId} {below : List Frame} {meth : Method} {c : Code} {args : Array Value} {dC : Nat → ClassId} {dI : Nat → Nat → Nat} {dA : Nat → ClassId} {zz : Nat → Nat} {base : Nat} {A : Nat → Prop} {Q : Int64 → List Nat → pF → Prop} {X : String → List Nat → pF → Prop} (C : pCx p s m args meth c cX8_define 4 (some .long) RX8 wsX8_define A dC dI dA zz base ∧ l.stackTraces = false ∧ (∀ x ∈ c.exceptionTable.toList, False)) : ∀ (L : List Nat) (f : pF) (a0 : Nat) (a1 : Int32) (a2 : Int64), wp_X8_define_0 dA zz Q X  L f a0 a1 a2 → pAt p l e rm_X8_define s m args below meth c dC dI A (vx_MQ below (va_Ql (fun r (u : List Nat × pF) => Q r u.1 u.2) (pB dC dI dA A) A) (vx_X (fun (u : String × List Nat × pF) => X u.1 u.2.1 u.2.2) (fun E u t => E = u.1 ∧ pB dC dI dA A u.2 t) A) args s 2 12 A) 0 0 0 4 [(0, .ref a0), (1, .int a1), (2, .long a2)] [] L f := by
  obtain ⟨⟨hx, hb, hml, hown, hts, hr, hlocks, hA, hK, hB, hz, hN, hT⟩, hlt, hnt⟩ := id C
  have hout9 : ∀ {pc9 : Nat}, ∀ x ∈ c.exceptionTable.toList, covers x pc9 = false := fun x h => (hnt x h).elim
  intro L f a0 a1 a2 hw H locs hP hD hS ls hl
  rw [wp_X8_define_0] at hw
  refine lv_iload_n hx hb dX8_define_0 rfl (lv_at hl 1 rfl) ?_
  have hFc := p_free hD hS hA
  refine vx_callv (vx_runS (As := [.int a1]) (rest := []) ⟨hx, hb, hml, hown, hts⟩ (c_X8_needThing l hlt dC dI dA zz base L f H.size a1 _ X hw) (va_cwS 1 hts gX8_define_X8_needThing rfl rfl rfl (by decide +kernel) ⟨by decide, by decide⟩) (pPreS [.int a1] hK hP hD hS hB hz hN hT) rfl rfl hl.1 rfl (lv_room (Nat.le_of_ble_eq_true rfl)) dX8_define_1 ⟨by decide, by decide⟩) hS (fun q _ h => hFc q h) hFc (fun q _ h => hFc q h) (fun E ce q9 u t H1 locs ht hvm hw hB1 hz1 hk1 hS hce hcv hcl => by
      obtain ⟨E9, L9, f9⟩ := u
      obtain ⟨hE, hP, -, hD1⟩ := hB1
      rw [ht] at hP
      exact vx_out (fun x h => (hnt x h).elim) hlocks hce hcv hcl (fun t9 ht9 hvm9 => ⟨(E9, L9, f9), hw, ⟨hE, by rw [ht9]; exact hP, va_K.moved hvm9 hK, p_gain hD1 hFc⟩, hS.F ht9⟩) hS.2.2 (by decide) (by decide)) (fun u t H1 locs ht hvm hw hB1 hz1 hk1 hS => ?_)
  obtain ⟨L_1, f_1⟩ := u
  obtain ⟨hP, -, hD1⟩ := hB1
  rw [ht] at hP
  have hw := id hw
  have hP : va_P (dC, dI) vwCl (va_pl L_1 f_1) H1 := hP
  have hD : va_D A (va_pl L_1 f_1) := p_gain hD1 hFc
  generalize H1 = H at hP hS ⊢
  refine W.widen (k := 1) (n := 6) (by decide) (by decide) ?_
  refine lv_lload_n hx hb dX8_define_4 rfl (lv_at hl 2 rfl) ?_
  refine lv_lconst (v := 0) hx hb dX8_define_5 (by decide) ?_
  refine W.lcmp hx hb dX8_define_6 ?_
  refine lv_if_lt (tgt := 18) hx hb dX8_define_7 (by decide) (fun c_7 => ?_) (fun c_7 => ?_)
  · have hw := hw.1 c_7
    exact tb_X8_define_18 C  L_1 f_1  hw H locs hP hD hS ls (lv_sub hl [] rfl)
  · have hw := hw.2 c_7
    refine lv_lload_n hx hb dX8_define_10 rfl (lv_at hl 2 rfl) ?_
    refine lv_ldc2 (v := 1099511627776) hx hb hown (hts _ lk_X8_define_90) dX8_define_11 ?_
    refine W.lcmp hx hb dX8_define_14 ?_
    refine lv_if_lt (tgt := 28) hx hb dX8_define_15 (by decide) (fun c_15 => ?_) (fun c_15 => ?_)
    · have hw := hw.1 c_15
      refine lv_aload_n hx hb dX8_define_28 rfl (lv_at hl 0 rfl) ?_
      obtain ⟨fs_29, g_29, ⟨hL9, hf9, hn9⟩, hw⟩ := hw
      refine va_get (D := (dC, dI)) (ci := 9) (v := .ref g_29) (C := RX8) (T := TX8) (N := 6) hx hb hts iw_X8_define_RX8 hown hK (p_one hP hL9 hf9) 0 rfl rfl 3 (by decide) (hts _ lk_X8_define_32) (fun _ h9 => h9) hn9 dX8_define_29 ?_
      refine lv_iload_n hx hb dX8_define_32 rfl (lv_at hl 1 rfl) ?_
      refine lv_lload_n hx hb dX8_define_33 rfl (lv_at hl 2 rfl) ?_
      obtain ⟨hO9, hw⟩ := hw
      have hFc := p_free hD hS hA
      refine va_calll (va_runV (As := [.int a1, .long a2]) (rest := []) ⟨hx, hb, hml, hown, hts⟩ (c_X0_replaced l dC dI dA zz base L_1 f_1 H.size g_29 a1 a2 _ hw) (cwV 2 hts gX8_define_X0_replaced rfl rfl rfl (by decide +kernel) ⟨by decide, by decide⟩) (pPreV [.int a1, .long a2] (ci := 1) rfl hO9 hK hP hD hS hB hz hN hT) rfl rfl hl.1 rfl (lv_room (Nat.le_of_ble_eq_true rfl)) dX8_define_34 ⟨by decide, by decide⟩) hS (fun q _ h => hFc q h) hFc (fun r_34 u t H1 locs ht hvm hw hB1 hz1 hk1 hS => ?_)
      obtain ⟨L_34, f_34⟩ := u
      obtain ⟨hP, -, hD1⟩ := hB1
      rw [ht] at hP
      have hw := id hw
      have hP : va_P (dC, dI) vwCl (va_pl L_34 f_34) H1 := hP
      have hD : va_D A (va_pl L_34 f_34) := p_gain hD1 hFc
      generalize H1 = H at hP hS ⊢
      refine W.widen (k := 2) (n := 12) (by decide) (by decide) ?_
      refine vx_ret ?_
      exact W.lret (v := r_34) hx hb hr (fun t ht hW => ⟨⟨r_34, (L_34, f_34), rfl, hw, by rw [ht]; exact hP, va_K.moved hW.alike hK, hD⟩, hS.F ht⟩) hS.2.2 dX8_define_37
    · have hw := hw.2 c_15
      exact tb_X8_define_18 C  L_1 f_1  hw H locs hP hD hS ls (lv_sub hl [] rfl)
set_option maxHeartbeats 4000000 in
set_option maxRecDepth 100000 in
theorem c_X8_define (l : Launch) (hlt : l.stackTraces = false) (dC : Nat → ClassId) (dI : Nat → Nat → Nat) (dA : Nat → ClassId) (zz : Nat → Nat) (base : Nat) (L : List Nat) (f : pF) (sz : Nat) (a0 : Nat) (a1 : Int32) (a2 : Int64) (Q : Int64 → List Nat → pF → Prop) (X : String → List Nat → pF → Prop) (hw : wp_X8_define_0 dA zz Q X L f a0 a1 a2) : vx_Met l yX8_define wsX8_define rm_X8_define (va_Pc [.ref a0, .int a1, .long a2] (pPre dC dI dA zz base L f sz)) (va_Ql (fun r (u : List Nat × pF) => Q r u.1 u.2) (pB dC dI dA (va_A (va_pl L f) sz)) (va_A (va_pl L f) sz)) (vx_X (fun (u : String × List Nat × pF) => X u.1 u.2.1 u.2.2) (fun E u t => E = u.1 ∧ pB dC dI dA (va_A (va_pl L f) sz) u.2 t) (va_A (va_pl L f) sz)) 2 12 (va_A (va_pl L f) sz) := by
  refine vx_ofW (cc := cX8_define) (maxL := 4) (ret := (some .long)) (by decide) rfl ?_
  intro p e s m args below meth c s₁ B hml hnt hv
  obtain ⟨rfl, hsz, hP, hK, hD0, hz, hN, hT⟩ := hv
  subst hsz
  have hl := lv_entry ([.ref a0, .int a1, .long a2]) (n := 4) (Nat.le_of_ble_eq_true rfl)
  rw [lg_entry_eq]
  generalize (lg_sl ([.ref a0, .int a1, .long a2]) ++ List.replicate (4 - (lg_sl ([.ref a0, .int a1, .long a2])).length) Slot.unset).toArray = ls at hl ⊢
  exact tb_X8_define_0 (Q := Q) (p := p) ⟨⟨B.exec, B.bytes, hml, findClass_of_methodNamed B.named, atoms_spec (ws := wsX8_define) B.pre, B.returns, B.notSynchronized, fun q h => Or.inr h, hK, pAB hD0 hz, hz, hN, hT⟩, hlt, hnt⟩ L f a0 a1 a2 hw s.heap [] hP (hD0.self (sz := s.heap.size)) va_S.rf ls (lv_sub hl [0, 1, 2] rfl)
theorem iw_X8_know_RX8 : ∀ w ∈ u_ws RX8 TX8 6, w ∈ wsX8_know := by decide +kernel
theorem lk_X8_know_32 : Cond.fieldLink RX8 32 "TermKeeper" "definitions" "LTermKeeper$Definitions;" ∈ wsX8_know := by decide +kernel
abbrev rm_X8_know : Room := { frames := 7, cells := 1, slots := 6, locals := 110 }
def wp_X8_know_0 (dA : Nat → ClassId) (zz : Nat → Nat) (Q : Int32 → List Nat → pF → Prop) (X : String → List Nat → pF → Prop) (L : List Nat) (f : pF) (a0 : Nat) (a1 : Int32) (a2 : Int32) : Prop :=
    (wp_X8_needThing_0 dA zz (fun L_1 f_1 =>
      (gR L_1 f_1 9 a0 3 (fun g_5 =>
        (isO L_1 f_1 1 g_5 ∧
          (wp_X0_madeKnown_0 dA zz (fun r_10 L_10 f_10 =>
            (narrow .boolean (.int r_10) = .int r_10 ∧ (Q r_10 L_10 f_10))) L_1 f_1 g_5 a1 a2))))) X L f a1)
set_option maxHeartbeats 4000000 in
set_option maxRecDepth 100000 in
theorem tb_X8_know_0 {p : Program} {l : Launch} {e : Env} {s : State} {m : MethodId} {below : List Frame} {meth : Method} {c : Code} {args : Array Value} {dC : Nat → ClassId} {dI : Nat → Nat → Nat} {dA : Nat → ClassId} {zz : Nat → Nat} {base : Nat} {A : Nat → Prop} {Q : Int32 → List Nat → pF → Prop} {X : String → List Nat → pF → Prop} (C : pCx p s m args meth c cX8_know 3 (some .boolean) RX8 wsX8_know A dC dI dA zz base ∧ l.stackTraces = false ∧ (∀ x ∈ c.exceptionTable.toList, False)) : ∀ (L : List Nat) (f : pF) (a0 : Nat) (a1 : Int32) (a2 : Int32), wp_X8_know_0 dA zz Q X  L f a0 a1 a2 → pAt p l e rm_X8_know s m args below meth c dC dI A (vx_MQ below (va_Qi (fun r (u : List Nat × pF) => Q r u.1 u.2) (pB dC dI dA A) A) (vx_X (fun (u : String × List Nat × pF) => X u.1 u.2.1 u.2.2) (fun E u t => E = u.1 ∧ pB dC dI dA A u.2 t) A) args s 1 6 A) 0 0 0 3 [(0, .ref a0), (1, .int a1), (2, .int a2)] [] L f := by
  obtain ⟨⟨hx, hb, hml, hown, hts, hr, hlocks, hA, hK, hB, hz, hN, hT⟩, hlt, hnt⟩ := id C
  have hout9 : ∀ {pc9 : Nat}, ∀ x ∈ c.exceptionTable.toList, covers x pc9 = false := fun x h => (hnt x h).elim
  intro L f a0 a1 a2 hw H locs hP hD hS ls hl
  rw [wp_X8_know_0] at hw
  refine lv_iload_n hx hb dX8_know_0 rfl (lv_at hl 1 rfl) ?_
  have hFc := p_free hD hS hA
  refine vx_callv (vx_runS (As := [.int a1]) (rest := []) ⟨hx, hb, hml, hown, hts⟩ (c_X8_needThing l hlt dC dI dA zz base L f H.size a1 _ X hw) (va_cwS 1 hts gX8_know_X8_needThing rfl rfl rfl (by decide +kernel) ⟨by decide, by decide⟩) (pPreS [.int a1] hK hP hD hS hB hz hN hT) rfl rfl hl.1 rfl (lv_room (Nat.le_of_ble_eq_true rfl)) dX8_know_1 ⟨by decide, by decide⟩) hS (fun q _ h => hFc q h) hFc (fun q _ h => hFc q h) (fun E ce q9 u t H1 locs ht hvm hw hB1 hz1 hk1 hS hce hcv hcl => by
      obtain ⟨E9, L9, f9⟩ := u
      obtain ⟨hE, hP, -, hD1⟩ := hB1
      rw [ht] at hP
      exact vx_out (fun x h => (hnt x h).elim) hlocks hce hcv hcl (fun t9 ht9 hvm9 => ⟨(E9, L9, f9), hw, ⟨hE, by rw [ht9]; exact hP, va_K.moved hvm9 hK, p_gain hD1 hFc⟩, hS.F ht9⟩) hS.2.2 (by decide) (by decide)) (fun u t H1 locs ht hvm hw hB1 hz1 hk1 hS => ?_)
  obtain ⟨L_1, f_1⟩ := u
  obtain ⟨hP, -, hD1⟩ := hB1
  rw [ht] at hP
  have hw := id hw
  have hP : va_P (dC, dI) vwCl (va_pl L_1 f_1) H1 := hP
  have hD : va_D A (va_pl L_1 f_1) := p_gain hD1 hFc
  generalize H1 = H at hP hS ⊢
  refine W.widen (k := 1) (n := 6) (by decide) (by decide) ?_
  refine lv_aload_n hx hb dX8_know_4 rfl (lv_at hl 0 rfl) ?_
  obtain ⟨fs_5, g_5, ⟨hL9, hf9, hn9⟩, hw⟩ := hw
  refine va_get (D := (dC, dI)) (ci := 9) (v := .ref g_5) (C := RX8) (T := TX8) (N := 6) hx hb hts iw_X8_know_RX8 hown hK (p_one hP hL9 hf9) 0 rfl rfl 3 (by decide) (hts _ lk_X8_know_32) (fun _ h9 => h9) hn9 dX8_know_5 ?_
  refine lv_iload_n hx hb dX8_know_8 rfl (lv_at hl 1 rfl) ?_
  refine lv_iload_n hx hb dX8_know_9 rfl (lv_at hl 2 rfl) ?_
  obtain ⟨hO9, hw⟩ := hw
  have hFc := p_free hD hS hA
  refine va_calli (va_runV (As := [.int a1, .int a2]) (rest := []) ⟨hx, hb, hml, hown, hts⟩ (c_X0_madeKnown l dC dI dA zz base L_1 f_1 H.size g_5 a1 a2 _ hw) (cwV 2 hts gX8_know_X0_madeKnown rfl rfl rfl (by decide +kernel) ⟨by decide, by decide⟩) (pPreV [.int a1, .int a2] (ci := 1) rfl hO9 hK hP hD hS hB hz hN hT) rfl rfl hl.1 rfl (lv_room (Nat.le_of_ble_eq_true rfl)) dX8_know_10 ⟨by decide, by decide⟩) hS (fun q _ h => hFc q h) hFc (fun r_10 u t H1 locs ht hvm hw hB1 hz1 hk1 hS => ?_)
  obtain ⟨L_10, f_10⟩ := u
  obtain ⟨hP, -, hD1⟩ := hB1
  rw [ht] at hP
  have hw := id hw
  have hP : va_P (dC, dI) vwCl (va_pl L_10 f_10) H1 := hP
  have hD : va_D A (va_pl L_10 f_10) := p_gain hD1 hFc
  generalize H1 = H at hP hS ⊢
  refine vx_ret ?_
  exact W.zret (v := r_10) hx hb hr hw.1 (fun t ht hW => ⟨⟨r_10, (L_10, f_10), rfl, hw.2, by rw [ht]; exact hP, va_K.moved hW.alike hK, hD⟩, hS.F ht⟩) hS.2.2 dX8_know_13
set_option maxHeartbeats 4000000 in
set_option maxRecDepth 100000 in
theorem c_X8_know (l : Launch) (hlt : l.stackTraces = false) (dC : Nat → ClassId) (dI : Nat → Nat → Nat) (dA : Nat → ClassId) (zz : Nat → Nat) (base : Nat) (L : List Nat) (f : pF) (sz : Nat) (a0 : Nat) (a1 : Int32) (a2 : Int32) (Q : Int32 → List Nat → pF → Prop) (X : String → List Nat → pF → Prop) (hw : wp_X8_know_0 dA zz Q X L f a0 a1 a2) : vx_Met l yX8_know wsX8_know rm_X8_know (va_Pc [.ref a0, .int a1, .int a2] (pPre dC dI dA zz base L f sz)) (va_Qi (fun r (u : List Nat × pF) => Q r u.1 u.2) (pB dC dI dA (va_A (va_pl L f) sz)) (va_A (va_pl L f) sz)) (vx_X (fun (u : String × List Nat × pF) => X u.1 u.2.1 u.2.2) (fun E u t => E = u.1 ∧ pB dC dI dA (va_A (va_pl L f) sz) u.2 t) (va_A (va_pl L f) sz)) 1 6 (va_A (va_pl L f) sz) := by
  refine vx_ofW (cc := cX8_know) (maxL := 3) (ret := (some .boolean)) (by decide) rfl ?_
  intro p e s m args below meth c s₁ B hml hnt hv
  obtain ⟨rfl, hsz, hP, hK, hD0, hz, hN, hT⟩ := hv
  subst hsz
  have hl := lv_entry ([.ref a0, .int a1, .int a2]) (n := 3) (Nat.le_of_ble_eq_true rfl)
  rw [lg_entry_eq]
  generalize (lg_sl ([.ref a0, .int a1, .int a2]) ++ List.replicate (3 - (lg_sl ([.ref a0, .int a1, .int a2])).length) Slot.unset).toArray = ls at hl ⊢
  exact tb_X8_know_0 (Q := Q) (p := p) ⟨⟨B.exec, B.bytes, hml, findClass_of_methodNamed B.named, atoms_spec (ws := wsX8_know) B.pre, B.returns, B.notSynchronized, fun q h => Or.inr h, hK, pAB hD0 hz, hz, hN, hT⟩, hlt, hnt⟩ L f a0 a1 a2 hw s.heap [] hP (hD0.self (sz := s.heap.size)) va_S.rf ls (lv_sub hl [0, 1, 2] rfl)
theorem iw_X8_needTerm_RX8 : ∀ w ∈ u_ws RX8 TX8 6, w ∈ wsX8_needTerm := by decide +kernel
theorem lk_X8_needTerm_124 : Cond.classLink RX8 124 "java/util/NoSuchElementException" ∈ wsX8_needTerm := by decide +kernel
theorem lk_X8_needTerm_25 : Cond.fieldLink RX8 25 "TermKeeper" "glossary" "LTermKeeper$Glossary;" ∈ wsX8_needTerm := by decide +kernel
theorem lx_X8_needTerm_NSE : ∀ w ∈ (nsAt).filter goodWord, w ∈ wsX8_needTerm := by decide +kernel
theorem lg_X8_needTerm_NSE : ∀ w ∈ Cond.classLink RX8 124 "java/util/NoSuchElementException" :: Cond.initialized "java/util/NoSuchElementException" :: nsAt, vx_ot w = true := by decide +kernel
theorem lz_X8_needTerm_NSE : Cond.initialized "java/util/NoSuchElementException" ∈ wsX8_needTerm := by decide +kernel
abbrev rm_X8_needTerm : Room := { frames := 6, cells := 1, slots := 6, locals := 90 }
def wp_X8_needTerm_0 (dA : Nat → ClassId) (zz : Nat → Nat) (Q : Nat → List Nat → pF → Prop) (X : String → List Nat → pF → Prop) (L : List Nat) (f : pF) (a0 : Nat) (a1 : Int32) : Prop :=
    (gR L f 9 a0 2 (fun g_1 =>
      (isO L f 2 g_1 ∧
        (wp_X1_holdsTerm_0 dA zz (fun r_5 L_5 f_5 =>
          ((¬ r_5 = 0 →
            (gR L_5 f_5 9 a0 2 (fun g_22 =>
              (isO L_5 f_5 2 g_22 ∧
                (wp_X1_termAt_0 dA zz (fun r_26 L_26 f_26 =>
                  (Q r_26 L_26 f_26)) L_5 f_5 g_22 a1)))))
           ∧ (r_5 = 0 →
            (X "java/util/NoSuchElementException" L_5 f_5)))) L f g_1 a1))))
set_option maxHeartbeats 4000000 in
set_option maxRecDepth 100000 in
theorem tb_X8_needTerm_0 {p : Program} {l : Launch} {e : Env} {s : State} {m : MethodId} {below : List Frame} {meth : Method} {c : Code} {args : Array Value} {dC : Nat → ClassId} {dI : Nat → Nat → Nat} {dA : Nat → ClassId} {zz : Nat → Nat} {base : Nat} {A : Nat → Prop} {Q : Nat → List Nat → pF → Prop} {X : String → List Nat → pF → Prop} (C : pCx p s m args meth c cX8_needTerm 2 (some (.object "TermKeeper$Term")) RX8 wsX8_needTerm A dC dI dA zz base ∧ l.stackTraces = false ∧ (∀ x ∈ c.exceptionTable.toList, False)) : ∀ (L : List Nat) (f : pF) (a0 : Nat) (a1 : Int32), wp_X8_needTerm_0 dA zz Q X  L f a0 a1 → pAt p l e rm_X8_needTerm s m args below meth c dC dI A (vx_MQ below (va_Qr (fun (u : Nat × List Nat × pF) => Q u.1 u.2.1 u.2.2) (fun u a t => a = u.1 ∧ pB dC dI dA A u.2 t) A) (vx_X (fun (u : String × List Nat × pF) => X u.1 u.2.1 u.2.2) (fun E u t => E = u.1 ∧ pB dC dI dA A u.2 t) A) args s 1 6 A) 0 0 0 2 [(0, .ref a0), (1, .int a1)] [] L f := by
  obtain ⟨⟨hx, hb, hml, hown, hts, hr, hlocks, hA, hK, hB, hz, hN, hT⟩, hlt, hnt⟩ := id C
  have hout9 : ∀ {pc9 : Nat}, ∀ x ∈ c.exceptionTable.toList, covers x pc9 = false := fun x h => (hnt x h).elim
  intro L f a0 a1 hw H locs hP hD hS ls hl
  rw [wp_X8_needTerm_0] at hw
  refine lv_aload_n hx hb dX8_needTerm_0 rfl (lv_at hl 0 rfl) ?_
  obtain ⟨fs_1, g_1, ⟨hL9, hf9, hn9⟩, hw⟩ := hw
  refine va_get (D := (dC, dI)) (ci := 9) (v := .ref g_1) (C := RX8) (T := TX8) (N := 6) hx hb hts iw_X8_needTerm_RX8 hown hK (p_one hP hL9 hf9) 0 rfl rfl 2 (by decide) (hts _ lk_X8_needTerm_25) (fun _ h9 => h9) hn9 dX8_needTerm_1 ?_
  refine lv_iload_n hx hb dX8_needTerm_4 rfl (lv_at hl 1 rfl) ?_
  obtain ⟨hO9, hw⟩ := hw
  have hFc := p_free hD hS hA
  refine va_calli (va_runV (As := [.int a1]) (rest := []) ⟨hx, hb, hml, hown, hts⟩ (c_X1_holdsTerm l dC dI dA zz base L f H.size g_1 a1 _ hw) (cwV 1 hts gX8_needTerm_X1_holdsTerm rfl rfl rfl (by decide +kernel) ⟨by decide, by decide⟩) (pPreV [.int a1] (ci := 2) rfl hO9 hK hP hD hS hB hz hN hT) rfl rfl hl.1 rfl (lv_room (Nat.le_of_ble_eq_true rfl)) dX8_needTerm_5 ⟨by decide, by decide⟩) hS (fun q _ h => hFc q h) hFc (fun r_5 u t H1 locs ht hvm hw hB1 hz1 hk1 hS => ?_)
  obtain ⟨L_5, f_5⟩ := u
  obtain ⟨hP, -, hD1⟩ := hB1
  rw [ht] at hP
  have hw := id hw
  have hP : va_P (dC, dI) vwCl (va_pl L_5 f_5) H1 := hP
  have hD : va_D A (va_pl L_5 f_5) := p_gain hD1 hFc
  generalize H1 = H at hP hS ⊢
  refine lv_if_ne (tgt := 21) hx hb dX8_needTerm_8 (by decide) (fun c_8 => ?_) (fun c_8 => ?_)
  · have hw := hw.1 c_8
    refine lv_aload_n hx hb dX8_needTerm_21 rfl (lv_at hl 0 rfl) ?_
    obtain ⟨fs_22, g_22, ⟨hL9, hf9, hn9⟩, hw⟩ := hw
    refine va_get (D := (dC, dI)) (ci := 9) (v := .ref g_22) (C := RX8) (T := TX8) (N := 6) hx hb hts iw_X8_needTerm_RX8 hown hK (p_one hP hL9 hf9) 0 rfl rfl 2 (by decide) (hts _ lk_X8_needTerm_25) (fun _ h9 => h9) hn9 dX8_needTerm_22 ?_
    refine lv_iload_n hx hb dX8_needTerm_25 rfl (lv_at hl 1 rfl) ?_
    obtain ⟨hO9, hw⟩ := hw
    have hFc := p_free hD hS hA
    refine va_callr (va_runV (As := [.int a1]) (rest := []) ⟨hx, hb, hml, hown, hts⟩ (c_X1_termAt l dC dI dA zz base L_5 f_5 H.size g_22 a1 _ hw) (cwV 1 hts gX8_needTerm_X1_termAt rfl rfl rfl (by decide +kernel) ⟨by decide, by decide⟩) (pPreV [.int a1] (ci := 2) rfl hO9 hK hP hD hS hB hz hN hT) rfl rfl hl.1 rfl (lv_room (Nat.le_of_ble_eq_true rfl)) dX8_needTerm_26 ⟨by decide, by decide⟩) hS (fun q _ h => hFc q h) hFc (fun u ra t H1 locs ht hvm hw hB1 hz1 hk1 hS => ?_)
    obtain ⟨r_26, L_26, f_26⟩ := u
    obtain ⟨hra, hP, -, hD1⟩ := hB1
    rw [show ra = r_26 from hra]
    rw [ht] at hP
    have hw := id hw
    have hP : va_P (dC, dI) vwCl (va_pl L_26 f_26) H1 := hP
    have hD : va_D A (va_pl L_26 f_26) := p_gain hD1 hFc
    generalize H1 = H at hP hS ⊢
    refine W.eq (g2 := F0 m 29 ls (.ref r_26 :: [])) rfl ?_
    refine W.widen (k := 1) (n := 6) (by decide) (by decide) ?_
    refine vx_ret ?_
    exact W.aret (v := .ref r_26) hx hb hr (Or.inl ⟨_, rfl⟩) (Or.inr ⟨_, rfl⟩) (fun t ht hW => ⟨⟨(r_26, L_26, f_26), r_26, rfl, hw, rfl, by rw [ht]; exact hP, va_K.moved hW.alike hK, hD⟩, hS.F ht⟩) hS.2.2 dX8_needTerm_29
  · have hw := hw.2 c_8
    obtain ⟨sa9, hs9⟩ := hN.2.2.2.2.2.2.2.1 (229, "no such term") (by decide +kernel)
    exact vx_throwN (sup := "java/lang/RuntimeException") (names := ["java/lang/Exception"]) (idx := 13) (bytes := nsB) hx hb hlt (by decide +kernel) (by decide +kernel) (by decide +kernel) (by decide +kernel) hown (by decide +kernel) (by decide +kernel) (by decide +kernel) (hts _ lk_X8_needTerm_124) (hts _ lz_X8_needTerm_NSE) hs9 (vx_hat (fun w h => hts w (lx_X8_needTerm_NSE w h)) pBad_NSE (pBad_of hN.2.2.2.2.2.2.2.2.2.2.2.2.1 hN.2.2.2.2.2.2.2.2.2.2.2.2.2.2.1)) lg_X8_needTerm_NSE (hT.1.narrow hB) (hT.2.1.narrow hB) hS (by rw [hml]; exact hl.1) dX8_needTerm_11 dX8_needTerm_14 dX8_needTerm_15 dX8_needTerm_17 dX8_needTerm_20 hout9 (Nat.le_of_ble_eq_true rfl) (Nat.le_of_ble_eq_true rfl) (Nat.le_of_ble_eq_true rfl) (Nat.le_of_ble_eq_true rfl) hlocks (fun t hvm hsz hk => ⟨("java/util/NoSuchElementException", L_5, f_5), hw, ⟨rfl, p_keep hP hk, va_K.moved hvm hK, hD⟩, p_F hS hsz hk⟩) hS.2.2 (by decide) (by decide)
set_option maxHeartbeats 4000000 in
set_option maxRecDepth 100000 in
theorem c_X8_needTerm (l : Launch) (hlt : l.stackTraces = false) (dC : Nat → ClassId) (dI : Nat → Nat → Nat) (dA : Nat → ClassId) (zz : Nat → Nat) (base : Nat) (L : List Nat) (f : pF) (sz : Nat) (a0 : Nat) (a1 : Int32) (Q : Nat → List Nat → pF → Prop) (X : String → List Nat → pF → Prop) (hw : wp_X8_needTerm_0 dA zz Q X L f a0 a1) : vx_Met l yX8_needTerm wsX8_needTerm rm_X8_needTerm (va_Pc [.ref a0, .int a1] (pPre dC dI dA zz base L f sz)) (va_Qr (fun (u : Nat × List Nat × pF) => Q u.1 u.2.1 u.2.2) (fun u a t => a = u.1 ∧ pB dC dI dA (va_A (va_pl L f) sz) u.2 t) (va_A (va_pl L f) sz)) (vx_X (fun (u : String × List Nat × pF) => X u.1 u.2.1 u.2.2) (fun E u t => E = u.1 ∧ pB dC dI dA (va_A (va_pl L f) sz) u.2 t) (va_A (va_pl L f) sz)) 1 6 (va_A (va_pl L f) sz) := by
  refine vx_ofW (cc := cX8_needTerm) (maxL := 2) (ret := (some (.object "TermKeeper$Term"))) (by decide) rfl ?_
  intro p e s m args below meth c s₁ B hml hnt hv
  obtain ⟨rfl, hsz, hP, hK, hD0, hz, hN, hT⟩ := hv
  subst hsz
  have hl := lv_entry ([.ref a0, .int a1]) (n := 2) (Nat.le_of_ble_eq_true rfl)
  rw [lg_entry_eq]
  generalize (lg_sl ([.ref a0, .int a1]) ++ List.replicate (2 - (lg_sl ([.ref a0, .int a1])).length) Slot.unset).toArray = ls at hl ⊢
  exact tb_X8_needTerm_0 (Q := Q) (p := p) ⟨⟨B.exec, B.bytes, hml, findClass_of_methodNamed B.named, atoms_spec (ws := wsX8_needTerm) B.pre, B.returns, B.notSynchronized, fun q h => Or.inr h, hK, pAB hD0 hz, hz, hN, hT⟩, hlt, hnt⟩ L f a0 a1 hw s.heap [] hP (hD0.self (sz := s.heap.size)) va_S.rf ls (lv_sub hl [0, 1] rfl)
theorem iw_X8_kind_RX5 : ∀ w ∈ u_ws RX5 TX5 5, w ∈ wsX8_kind := by decide +kernel
theorem lk_X8_kind_106 : Cond.fieldLink RX8 106 "TermKeeper$Term" "kind" "I" ∈ wsX8_kind := by decide +kernel
abbrev rm_X8_kind : Room := { frames := 7, cells := 2, slots := 12, locals := 111 }
def wp_X8_kind_0 (dA : Nat → ClassId) (zz : Nat → Nat) (Q : Int32 → List Nat → pF → Prop) (X : String → List Nat → pF → Prop) (L : List Nat) (f : pF) (a0 : Nat) (a1 : Int32) (a2 : Int32) : Prop :=
    (isO L f 9 a0 ∧
      (wp_X8_needTerm_0 dA zz (fun r_2 L_2 f_2 =>
        (wp_X8_needKind_0 dA zz (fun L_7 f_7 =>
          (gI L_7 f_7 6 r_2 4 (fun g_11 =>
            (gP L_7 f_7 6 r_2 4 (.int a2) (fun f_18 =>
              (Q g_11 L_7 f_18)))))) X L_2 f_2 a2)) X L f a0 a1))
set_option maxHeartbeats 4000000 in
set_option maxRecDepth 100000 in
theorem tb_X8_kind_0 {p : Program} {l : Launch} {e : Env} {s : State} {m : MethodId} {below : List Frame} {meth : Method} {c : Code} {args : Array Value} {dC : Nat → ClassId} {dI : Nat → Nat → Nat} {dA : Nat → ClassId} {zz : Nat → Nat} {base : Nat} {A : Nat → Prop} {Q : Int32 → List Nat → pF → Prop} {X : String → List Nat → pF → Prop} (C : pCx p s m args meth c cX8_kind 5 (some .int) RX8 wsX8_kind A dC dI dA zz base ∧ l.stackTraces = false ∧ (∀ x ∈ c.exceptionTable.toList, False)) : ∀ (L : List Nat) (f : pF) (a0 : Nat) (a1 : Int32) (a2 : Int32), wp_X8_kind_0 dA zz Q X  L f a0 a1 a2 → pAt p l e rm_X8_kind s m args below meth c dC dI A (vx_MQ below (va_Qi (fun r (u : List Nat × pF) => Q r u.1 u.2) (pB dC dI dA A) A) (vx_X (fun (u : String × List Nat × pF) => X u.1 u.2.1 u.2.2) (fun E u t => E = u.1 ∧ pB dC dI dA A u.2 t) A) args s 2 12 A) 0 0 0 5 [(0, .ref a0), (1, .int a1), (2, .int a2)] [] L f := by
  obtain ⟨⟨hx, hb, hml, hown, hts, hr, hlocks, hA, hK, hB, hz, hN, hT⟩, hlt, hnt⟩ := id C
  have hout9 : ∀ {pc9 : Nat}, ∀ x ∈ c.exceptionTable.toList, covers x pc9 = false := fun x h => (hnt x h).elim
  intro L f a0 a1 a2 hw H locs hP hD hS ls hl
  rw [wp_X8_kind_0] at hw
  refine lv_aload_n hx hb dX8_kind_0 rfl (lv_at hl 0 rfl) ?_
  refine lv_iload_n hx hb dX8_kind_1 rfl (lv_at hl 1 rfl) ?_
  obtain ⟨hO9, hw⟩ := hw
  have hFc := p_free hD hS hA
  refine vx_callr (vx_runV (As := [.int a1]) (rest := []) ⟨hx, hb, hml, hown, hts⟩ (c_X8_needTerm l hlt dC dI dA zz base L f H.size a0 a1 _ X hw) (cwV 1 hts gX8_kind_X8_needTerm rfl rfl rfl (by decide +kernel) ⟨by decide, by decide⟩) (pPreV [.int a1] (ci := 9) rfl hO9 hK hP hD hS hB hz hN hT) rfl rfl hl.1 rfl (lv_room (Nat.le_of_ble_eq_true rfl)) dX8_kind_2 ⟨by decide, by decide⟩) hS (fun q _ h => hFc q h) hFc (fun q _ h => hFc q h) (fun E ce q9 u t H1 locs ht hvm hw hB1 hz1 hk1 hS hce hcv hcl => by
      obtain ⟨E9, L9, f9⟩ := u
      obtain ⟨hE, hP, -, hD1⟩ := hB1
      rw [ht] at hP
      exact vx_out (fun x h => (hnt x h).elim) hlocks hce hcv hcl (fun t9 ht9 hvm9 => ⟨(E9, L9, f9), hw, ⟨hE, by rw [ht9]; exact hP, va_K.moved hvm9 hK, p_gain hD1 hFc⟩, hS.F ht9⟩) hS.2.2 (by decide) (by decide)) (fun u ra t H1 locs ht hvm hw hB1 hz1 hk1 hS => ?_)
  obtain ⟨r_2, L_2, f_2⟩ := u
  obtain ⟨hra, hP, -, hD1⟩ := hB1
  rw [show ra = r_2 from hra]
  rw [ht] at hP
  have hw := id hw
  have hP : va_P (dC, dI) vwCl (va_pl L_2 f_2) H1 := hP
  have hD : va_D A (va_pl L_2 f_2) := p_gain hD1 hFc
  generalize H1 = H at hP hS ⊢
  refine W.eq (g2 := F0 m 5 ls (.ref r_2 :: [])) rfl ?_
  refine W.widen (k := 1) (n := 6) (by decide) (by decide) ?_
  refine lv_astore_n (lv' := [(3, .ref r_2), (0, .ref a0), (1, .int a1), (2, .int a2)]) hx hb dX8_kind_5 rfl hl (by decide) rfl (fun ls hl => ?_)
  refine lv_iload_n hx hb dX8_kind_6 rfl (lv_at hl 3 rfl) ?_
  have hFc := p_free hD hS hA
  refine vx_callv (vx_runS (As := [.int a2]) (rest := []) ⟨hx, hb, hml, hown, hts⟩ (c_X8_needKind l hlt dC dI dA zz base L_2 f_2 H.size a2 _ X hw) (va_cwS 1 hts gX8_kind_X8_needKind rfl rfl rfl (by decide +kernel) ⟨by decide, by decide⟩) (pPreS [.int a2] hK hP hD hS hB hz hN hT) rfl rfl hl.1 rfl (lv_room (Nat.le_of_ble_eq_true rfl)) dX8_kind_7 ⟨by decide, by decide⟩) hS (fun q _ h => hFc q h) hFc (fun q _ h => hFc q h) (fun E ce q9 u t H1 locs ht hvm hw hB1 hz1 hk1 hS hce hcv hcl => by
      obtain ⟨E9, L9, f9⟩ := u
      obtain ⟨hE, hP, -, hD1⟩ := hB1
      rw [ht] at hP
      exact vx_out (fun x h => (hnt x h).elim) hlocks hce hcv hcl (fun t9 ht9 hvm9 => ⟨(E9, L9, f9), hw, ⟨hE, by rw [ht9]; exact hP, va_K.moved hvm9 hK, p_gain hD1 hFc⟩, hS.F ht9⟩) hS.2.2 (by decide) (by decide)) (fun u t H1 locs ht hvm hw hB1 hz1 hk1 hS => ?_)
  obtain ⟨L_7, f_7⟩ := u
  obtain ⟨hP, -, hD1⟩ := hB1
  rw [ht] at hP
  have hw := id hw
  have hP : va_P (dC, dI) vwCl (va_pl L_7 f_7) H1 := hP
  have hD : va_D A (va_pl L_7 f_7) := p_gain hD1 hFc
  generalize H1 = H at hP hS ⊢
  refine W.widen (k := 2) (n := 12) (by decide) (by decide) ?_
  refine lv_aload_n hx hb dX8_kind_10 rfl (lv_at hl 0 rfl) ?_
  obtain ⟨fs_11, g_11, ⟨hL9, hf9, hn9⟩, hw⟩ := hw
  refine va_get (D := (dC, dI)) (ci := 6) (v := .int g_11) (C := RX5) (T := TX5) (N := 5) hx hb hts iw_X8_kind_RX5 hown hK (p_one hP hL9 hf9) 0 rfl rfl 4 (by decide) (hts _ lk_X8_kind_106) (fun _ h9 => h9) hn9 dX8_kind_11 ?_
  refine lv_istore (lv' := [(4, .int g_11), (3, .ref r_2), (0, .ref a0), (1, .int a1), (2, .int a2)]) hx hb dX8_kind_14 hl (by decide) rfl (fun ls hl => ?_)
  refine lv_aload_n hx hb dX8_kind_16 rfl (lv_at hl 1 rfl) ?_
  refine lv_iload_n hx hb dX8_kind_17 rfl (lv_at hl 4 rfl) ?_
  obtain ⟨fs_18, ⟨hL9, hf9, hn9⟩, hw⟩ := hw
  obtain ⟨kq9, hkq9⟩ := p_at hL9 hf9
  refine va_put (D := (dC, dI)) (ci := 6) (v := .int a2) (C := RX5) (T := TX5) (N := 5) hx hb hts iw_X8_kind_RX5 tyX5 tyX5_ok nmX5 hown hK hP hD hS kq9 hkq9 rfl 4 (by decide) (hts _ lk_X8_kind_106) (fun _ h9 => h9) rfl (tyX5_ok 4 (by decide)) rfl rfl hn9 dX8_kind_18 (fun H locs hP2 hD2 hS => ?_)
  rw [p_set hD hL9 hf9 hkq9] at hP2 hD2
  obtain ⟨f_18, ef_18⟩ : ∃ y : pF, y = va_up f_7 r_2 (.inr (6, fs_18.set 4 (.int a2))) := ⟨_, rfl⟩
  rw [← ef_18] at hP2 hD2
  have hw := hw f_18 ef_18
  have hP := hP2
  have hD := hD2
  refine lv_iload hx hb dX8_kind_21 (lv_at hl 0 rfl) ?_
  refine vx_ret ?_
  exact W.iret (v := g_11) hx hb hr (fun t ht hW => ⟨⟨g_11, (L_7, f_18), rfl, hw, by rw [ht]; exact hP, va_K.moved hW.alike hK, hD⟩, hS.F ht⟩) hS.2.2 dX8_kind_23
set_option maxHeartbeats 4000000 in
set_option maxRecDepth 100000 in
theorem c_X8_kind (l : Launch) (hlt : l.stackTraces = false) (dC : Nat → ClassId) (dI : Nat → Nat → Nat) (dA : Nat → ClassId) (zz : Nat → Nat) (base : Nat) (L : List Nat) (f : pF) (sz : Nat) (a0 : Nat) (a1 : Int32) (a2 : Int32) (Q : Int32 → List Nat → pF → Prop) (X : String → List Nat → pF → Prop) (hw : wp_X8_kind_0 dA zz Q X L f a0 a1 a2) : vx_Met l yX8_kind wsX8_kind rm_X8_kind (va_Pc [.ref a0, .int a1, .int a2] (pPre dC dI dA zz base L f sz)) (va_Qi (fun r (u : List Nat × pF) => Q r u.1 u.2) (pB dC dI dA (va_A (va_pl L f) sz)) (va_A (va_pl L f) sz)) (vx_X (fun (u : String × List Nat × pF) => X u.1 u.2.1 u.2.2) (fun E u t => E = u.1 ∧ pB dC dI dA (va_A (va_pl L f) sz) u.2 t) (va_A (va_pl L f) sz)) 2 12 (va_A (va_pl L f) sz) := by
  refine vx_ofW (cc := cX8_kind) (maxL := 5) (ret := (some .int)) (by decide) rfl ?_
  intro p e s m args below meth c s₁ B hml hnt hv
  obtain ⟨rfl, hsz, hP, hK, hD0, hz, hN, hT⟩ := hv
  subst hsz
  have hl := lv_entry ([.ref a0, .int a1, .int a2]) (n := 5) (Nat.le_of_ble_eq_true rfl)
  rw [lg_entry_eq]
  generalize (lg_sl ([.ref a0, .int a1, .int a2]) ++ List.replicate (5 - (lg_sl ([.ref a0, .int a1, .int a2])).length) Slot.unset).toArray = ls at hl ⊢
  exact tb_X8_kind_0 (Q := Q) (p := p) ⟨⟨B.exec, B.bytes, hml, findClass_of_methodNamed B.named, atoms_spec (ws := wsX8_kind) B.pre, B.returns, B.notSynchronized, fun q h => Or.inr h, hK, pAB hD0 hz, hz, hN, hT⟩, hlt, hnt⟩ L f a0 a1 a2 hw s.heap [] hP (hD0.self (sz := s.heap.size)) va_S.rf ls (lv_sub hl [0, 1, 2] rfl)
theorem iw_X8_about_RX5 : ∀ w ∈ u_ws RX5 TX5 5, w ∈ wsX8_about := by decide +kernel
theorem lk_X8_about_124 : Cond.classLink RX8 124 "java/util/NoSuchElementException" ∈ wsX8_about := by decide +kernel
theorem lk_X8_about_106 : Cond.fieldLink RX8 106 "TermKeeper$Term" "kind" "I" ∈ wsX8_about := by decide +kernel
theorem lk_X8_about_112 : Cond.fieldLink RX8 112 "TermKeeper$Term" "thing" "I" ∈ wsX8_about := by decide +kernel
theorem lk_X8_about_115 : Cond.fieldLink RX8 115 "TermKeeper$Term" "classes" "I" ∈ wsX8_about := by decide +kernel
theorem lk_X8_about_118 : Cond.fieldLink RX8 118 "TermKeeper$Term" "words" "I" ∈ wsX8_about := by decide +kernel
theorem lx_X8_about_NSE : ∀ w ∈ (nsAt).filter goodWord, w ∈ wsX8_about := by decide +kernel
theorem lg_X8_about_NSE : ∀ w ∈ Cond.classLink RX8 124 "java/util/NoSuchElementException" :: Cond.initialized "java/util/NoSuchElementException" :: nsAt, vx_ot w = true := by decide +kernel
theorem lz_X8_about_NSE : Cond.initialized "java/util/NoSuchElementException" ∈ wsX8_about := by decide +kernel
abbrev rm_X8_about : Room := { frames := 7, cells := 2, slots := 12, locals := 111 }
def wp_X8_about_0 (dA : Nat → ClassId) (zz : Nat → Nat) (Q : Int32 → List Nat → pF → Prop) (X : String → List Nat → pF → Prop) (L : List Nat) (f : pF) (a0 : Nat) (a1 : Int32) (a2 : Int32) : Prop :=
    (isO L f 9 a0 ∧
      (wp_X8_needTerm_0 dA zz (fun r_2 L_2 f_2 =>
        (
         (a2 = 0 →
          (gI L_2 f_2 6 r_2 2 (fun g_41 =>
            (Q g_41 L_2 f_2)))) ∧
         (a2 = 1 →
          (gI L_2 f_2 6 r_2 4 (fun g_46 =>
            (Q g_46 L_2 f_2)))) ∧
         (a2 = 2 →
          (gI L_2 f_2 6 r_2 3 (fun g_51 =>
            (Q g_51 L_2 f_2)))) ∧
         (a2 = 3 →
          (gI L_2 f_2 6 r_2 1 (fun g_56 =>
            (Q g_56 L_2 f_2)))) ∧
         (a2 = 4 →
          (isO L_2 f_2 6 r_2 ∧
            (wp_X5_letters_0 dA zz (fun r_61 L_61 f_61 =>
              (Q r_61 L_61 f_61)) L_2 f_2 r_2 ))) ∧
         (¬ a2 = 0 → ¬ a2 = 1 → ¬ a2 = 2 → ¬ a2 = 3 → ¬ a2 = 4 →
          (X "java/util/NoSuchElementException" L_2 f_2)))) X L f a0 a1))
set_option maxHeartbeats 4000000 in
set_option maxRecDepth 100000 in
theorem tb_X8_about_0 {p : Program} {l : Launch} {e : Env} {s : State} {m : MethodId} {below : List Frame} {meth : Method} {c : Code} {args : Array Value} {dC : Nat → ClassId} {dI : Nat → Nat → Nat} {dA : Nat → ClassId} {zz : Nat → Nat} {base : Nat} {A : Nat → Prop} {Q : Int32 → List Nat → pF → Prop} {X : String → List Nat → pF → Prop} (C : pCx p s m args meth c cX8_about 4 (some .int) RX8 wsX8_about A dC dI dA zz base ∧ l.stackTraces = false ∧ (∀ x ∈ c.exceptionTable.toList, False)) : ∀ (L : List Nat) (f : pF) (a0 : Nat) (a1 : Int32) (a2 : Int32), wp_X8_about_0 dA zz Q X  L f a0 a1 a2 → pAt p l e rm_X8_about s m args below meth c dC dI A (vx_MQ below (va_Qi (fun r (u : List Nat × pF) => Q r u.1 u.2) (pB dC dI dA A) A) (vx_X (fun (u : String × List Nat × pF) => X u.1 u.2.1 u.2.2) (fun E u t => E = u.1 ∧ pB dC dI dA A u.2 t) A) args s 2 12 A) 0 0 0 4 [(0, .ref a0), (1, .int a1), (2, .int a2)] [] L f := by
  obtain ⟨⟨hx, hb, hml, hown, hts, hr, hlocks, hA, hK, hB, hz, hN, hT⟩, hlt, hnt⟩ := id C
  have hout9 : ∀ {pc9 : Nat}, ∀ x ∈ c.exceptionTable.toList, covers x pc9 = false := fun x h => (hnt x h).elim
  intro L f a0 a1 a2 hw H locs hP hD hS ls hl
  rw [wp_X8_about_0] at hw
  refine lv_aload_n hx hb dX8_about_0 rfl (lv_at hl 0 rfl) ?_
  refine lv_iload_n hx hb dX8_about_1 rfl (lv_at hl 1 rfl) ?_
  obtain ⟨hO9, hw⟩ := hw
  have hFc := p_free hD hS hA
  refine vx_callr (vx_runV (As := [.int a1]) (rest := []) ⟨hx, hb, hml, hown, hts⟩ (c_X8_needTerm l hlt dC dI dA zz base L f H.size a0 a1 _ X hw) (cwV 1 hts gX8_about_X8_needTerm rfl rfl rfl (by decide +kernel) ⟨by decide, by decide⟩) (pPreV [.int a1] (ci := 9) rfl hO9 hK hP hD hS hB hz hN hT) rfl rfl hl.1 rfl (lv_room (Nat.le_of_ble_eq_true rfl)) dX8_about_2 ⟨by decide, by decide⟩) hS (fun q _ h => hFc q h) hFc (fun q _ h => hFc q h) (fun E ce q9 u t H1 locs ht hvm hw hB1 hz1 hk1 hS hce hcv hcl => by
      obtain ⟨E9, L9, f9⟩ := u
      obtain ⟨hE, hP, -, hD1⟩ := hB1
      rw [ht] at hP
      exact vx_out (fun x h => (hnt x h).elim) hlocks hce hcv hcl (fun t9 ht9 hvm9 => ⟨(E9, L9, f9), hw, ⟨hE, by rw [ht9]; exact hP, va_K.moved hvm9 hK, p_gain hD1 hFc⟩, hS.F ht9⟩) hS.2.2 (by decide) (by decide)) (fun u ra t H1 locs ht hvm hw hB1 hz1 hk1 hS => ?_)
  obtain ⟨r_2, L_2, f_2⟩ := u
  obtain ⟨hra, hP, -, hD1⟩ := hB1
  rw [show ra = r_2 from hra]
  rw [ht] at hP
  have hw := id hw
  have hP : va_P (dC, dI) vwCl (va_pl L_2 f_2) H1 := hP
  have hD : va_D A (va_pl L_2 f_2) := p_gain hD1 hFc
  generalize H1 = H at hP hS ⊢
  refine W.eq (g2 := F0 m 5 ls (.ref r_2 :: [])) rfl ?_
  refine W.widen (k := 1) (n := 6) (by decide) (by decide) ?_
  refine lv_astore_n (lv' := [(3, .ref r_2), (0, .ref a0), (1, .int a1), (2, .int a2)]) hx hb dX8_about_5 rfl hl (by decide) rfl (fun ls hl => ?_)
  refine lv_iload_n hx hb dX8_about_6 rfl (lv_at hl 3 rfl) ?_
  by_cases c_7_0 : a2 = 0
  · have hw := hw.1 c_7_0
    refine lv_tableIn (off := 33) (tgt := 40) hx hb dX8_about_7 (by rw [c_7_0]; decide) (by rw [c_7_0]; decide) (by rw [c_7_0]; decide) (by decide) ?_
    refine lv_aload_n hx hb dX8_about_40 rfl (lv_at hl 0 rfl) ?_
    obtain ⟨fs_41, g_41, ⟨hL9, hf9, hn9⟩, hw⟩ := hw
    refine va_get (D := (dC, dI)) (ci := 6) (v := .int g_41) (C := RX5) (T := TX5) (N := 5) hx hb hts iw_X8_about_RX5 hown hK (p_one hP hL9 hf9) 0 rfl rfl 2 (by decide) (hts _ lk_X8_about_112) (fun _ h9 => h9) hn9 dX8_about_41 ?_
    refine W.widen (k := 2) (n := 12) (by decide) (by decide) ?_
    refine vx_ret ?_
    exact W.iret (v := g_41) hx hb hr (fun t ht hW => ⟨⟨g_41, (L_2, f_2), rfl, hw, by rw [ht]; exact hP, va_K.moved hW.alike hK, hD⟩, hS.F ht⟩) hS.2.2 dX8_about_44
  by_cases c_7_1 : a2 = 1
  · have hw := hw.2.1 c_7_1
    refine lv_tableIn (off := 38) (tgt := 45) hx hb dX8_about_7 (by rw [c_7_1]; decide) (by rw [c_7_1]; decide) (by rw [c_7_1]; decide) (by decide) ?_
    refine lv_aload_n hx hb dX8_about_45 rfl (lv_at hl 0 rfl) ?_
    obtain ⟨fs_46, g_46, ⟨hL9, hf9, hn9⟩, hw⟩ := hw
    refine va_get (D := (dC, dI)) (ci := 6) (v := .int g_46) (C := RX5) (T := TX5) (N := 5) hx hb hts iw_X8_about_RX5 hown hK (p_one hP hL9 hf9) 0 rfl rfl 4 (by decide) (hts _ lk_X8_about_106) (fun _ h9 => h9) hn9 dX8_about_46 ?_
    refine W.widen (k := 2) (n := 12) (by decide) (by decide) ?_
    refine vx_ret ?_
    exact W.iret (v := g_46) hx hb hr (fun t ht hW => ⟨⟨g_46, (L_2, f_2), rfl, hw, by rw [ht]; exact hP, va_K.moved hW.alike hK, hD⟩, hS.F ht⟩) hS.2.2 dX8_about_49
  by_cases c_7_2 : a2 = 2
  · have hw := hw.2.2.1 c_7_2
    refine lv_tableIn (off := 43) (tgt := 50) hx hb dX8_about_7 (by rw [c_7_2]; decide) (by rw [c_7_2]; decide) (by rw [c_7_2]; decide) (by decide) ?_
    refine lv_aload_n hx hb dX8_about_50 rfl (lv_at hl 0 rfl) ?_
    obtain ⟨fs_51, g_51, ⟨hL9, hf9, hn9⟩, hw⟩ := hw
    refine va_get (D := (dC, dI)) (ci := 6) (v := .int g_51) (C := RX5) (T := TX5) (N := 5) hx hb hts iw_X8_about_RX5 hown hK (p_one hP hL9 hf9) 0 rfl rfl 3 (by decide) (hts _ lk_X8_about_115) (fun _ h9 => h9) hn9 dX8_about_51 ?_
    refine W.widen (k := 2) (n := 12) (by decide) (by decide) ?_
    refine vx_ret ?_
    exact W.iret (v := g_51) hx hb hr (fun t ht hW => ⟨⟨g_51, (L_2, f_2), rfl, hw, by rw [ht]; exact hP, va_K.moved hW.alike hK, hD⟩, hS.F ht⟩) hS.2.2 dX8_about_54
  by_cases c_7_3 : a2 = 3
  · have hw := hw.2.2.2.1 c_7_3
    refine lv_tableIn (off := 48) (tgt := 55) hx hb dX8_about_7 (by rw [c_7_3]; decide) (by rw [c_7_3]; decide) (by rw [c_7_3]; decide) (by decide) ?_
    refine lv_aload_n hx hb dX8_about_55 rfl (lv_at hl 0 rfl) ?_
    obtain ⟨fs_56, g_56, ⟨hL9, hf9, hn9⟩, hw⟩ := hw
    refine va_get (D := (dC, dI)) (ci := 6) (v := .int g_56) (C := RX5) (T := TX5) (N := 5) hx hb hts iw_X8_about_RX5 hown hK (p_one hP hL9 hf9) 0 rfl rfl 1 (by decide) (hts _ lk_X8_about_118) (fun _ h9 => h9) hn9 dX8_about_56 ?_
    refine W.widen (k := 2) (n := 12) (by decide) (by decide) ?_
    refine vx_ret ?_
    exact W.iret (v := g_56) hx hb hr (fun t ht hW => ⟨⟨g_56, (L_2, f_2), rfl, hw, by rw [ht]; exact hP, va_K.moved hW.alike hK, hD⟩, hS.F ht⟩) hS.2.2 dX8_about_59
  by_cases c_7_4 : a2 = 4
  · have hw := hw.2.2.2.2.1 c_7_4
    refine lv_tableIn (off := 53) (tgt := 60) hx hb dX8_about_7 (by rw [c_7_4]; decide) (by rw [c_7_4]; decide) (by rw [c_7_4]; decide) (by decide) ?_
    refine lv_aload_n hx hb dX8_about_60 rfl (lv_at hl 0 rfl) ?_
    obtain ⟨hO9, hw⟩ := hw
    have hFc := p_free hD hS hA
    refine va_calli (va_runV (As := []) (rest := []) ⟨hx, hb, hml, hown, hts⟩ (c_X5_letters l dC dI dA zz base L_2 f_2 H.size r_2  _ hw) (cwV 0 hts gX8_about_X5_letters rfl rfl rfl (by decide +kernel) ⟨by decide, by decide⟩) (pPreV [] (ci := 6) rfl hO9 hK hP hD hS hB hz hN hT) rfl rfl hl.1 rfl (lv_room (Nat.le_of_ble_eq_true rfl)) dX8_about_61 ⟨by decide, by decide⟩) hS (fun q _ h => hFc q h) hFc (fun r_61 u t H1 locs ht hvm hw hB1 hz1 hk1 hS => ?_)
    obtain ⟨L_61, f_61⟩ := u
    obtain ⟨hP, -, hD1⟩ := hB1
    rw [ht] at hP
    have hw := id hw
    have hP : va_P (dC, dI) vwCl (va_pl L_61 f_61) H1 := hP
    have hD : va_D A (va_pl L_61 f_61) := p_gain hD1 hFc
    generalize H1 = H at hP hS ⊢
    refine W.widen (k := 2) (n := 12) (by decide) (by decide) ?_
    refine vx_ret ?_
    exact W.iret (v := r_61) hx hb hr (fun t ht hW => ⟨⟨r_61, (L_61, f_61), rfl, hw, by rw [ht]; exact hP, va_K.moved hW.alike hK, hD⟩, hS.F ht⟩) hS.2.2 dX8_about_64
  have hw := hw.2.2.2.2.2 c_7_0 c_7_1 c_7_2 c_7_3 c_7_4
  refine lv_tableOut (tgt := 65) hx hb dX8_about_7 (sw_out5 c_7_0 c_7_1 c_7_2 c_7_3 c_7_4) (by decide) ?_
  obtain ⟨sa9, hs9⟩ := hN.2.2.2.2.2.2.2.1 (126, "nothing such is told of a term") (by decide +kernel)
  exact vx_throwN (sup := "java/lang/RuntimeException") (names := ["java/lang/Exception"]) (idx := 13) (bytes := nsB) hx hb hlt (by decide +kernel) (by decide +kernel) (by decide +kernel) (by decide +kernel) hown (by decide +kernel) (by decide +kernel) (by decide +kernel) (hts _ lk_X8_about_124) (hts _ lz_X8_about_NSE) hs9 (vx_hat (fun w h => hts w (lx_X8_about_NSE w h)) pBad_NSE (pBad_of hN.2.2.2.2.2.2.2.2.2.2.2.2.1 hN.2.2.2.2.2.2.2.2.2.2.2.2.2.2.1)) lg_X8_about_NSE (hT.1.narrow hB) (hT.2.1.narrow hB) hS (by rw [hml]; exact hl.1) dX8_about_65 dX8_about_68 dX8_about_69 dX8_about_71 dX8_about_74 hout9 (Nat.le_of_ble_eq_true rfl) (Nat.le_of_ble_eq_true rfl) (Nat.le_of_ble_eq_true rfl) (Nat.le_of_ble_eq_true rfl) hlocks (fun t hvm hsz hk => ⟨("java/util/NoSuchElementException", L_2, f_2), hw, ⟨rfl, p_keep hP hk, va_K.moved hvm hK, hD⟩, p_F hS hsz hk⟩) hS.2.2 (by decide) (by decide)
set_option maxHeartbeats 4000000 in
set_option maxRecDepth 100000 in
theorem c_X8_about (l : Launch) (hlt : l.stackTraces = false) (dC : Nat → ClassId) (dI : Nat → Nat → Nat) (dA : Nat → ClassId) (zz : Nat → Nat) (base : Nat) (L : List Nat) (f : pF) (sz : Nat) (a0 : Nat) (a1 : Int32) (a2 : Int32) (Q : Int32 → List Nat → pF → Prop) (X : String → List Nat → pF → Prop) (hw : wp_X8_about_0 dA zz Q X L f a0 a1 a2) : vx_Met l yX8_about wsX8_about rm_X8_about (va_Pc [.ref a0, .int a1, .int a2] (pPre dC dI dA zz base L f sz)) (va_Qi (fun r (u : List Nat × pF) => Q r u.1 u.2) (pB dC dI dA (va_A (va_pl L f) sz)) (va_A (va_pl L f) sz)) (vx_X (fun (u : String × List Nat × pF) => X u.1 u.2.1 u.2.2) (fun E u t => E = u.1 ∧ pB dC dI dA (va_A (va_pl L f) sz) u.2 t) (va_A (va_pl L f) sz)) 2 12 (va_A (va_pl L f) sz) := by
  refine vx_ofW (cc := cX8_about) (maxL := 4) (ret := (some .int)) (by decide) rfl ?_
  intro p e s m args below meth c s₁ B hml hnt hv
  obtain ⟨rfl, hsz, hP, hK, hD0, hz, hN, hT⟩ := hv
  subst hsz
  have hl := lv_entry ([.ref a0, .int a1, .int a2]) (n := 4) (Nat.le_of_ble_eq_true rfl)
  rw [lg_entry_eq]
  generalize (lg_sl ([.ref a0, .int a1, .int a2]) ++ List.replicate (4 - (lg_sl ([.ref a0, .int a1, .int a2])).length) Slot.unset).toArray = ls at hl ⊢
  exact tb_X8_about_0 (Q := Q) (p := p) ⟨⟨B.exec, B.bytes, hml, findClass_of_methodNamed B.named, atoms_spec (ws := wsX8_about) B.pre, B.returns, B.notSynchronized, fun q h => Or.inr h, hK, pAB hD0 hz, hz, hN, hT⟩, hlt, hnt⟩ L f a0 a1 a2 hw s.heap [] hP (hD0.self (sz := s.heap.size)) va_S.rf ls (lv_sub hl [0, 1, 2] rfl)
theorem iw_X8_needText_RX8 : ∀ w ∈ u_ws RX8 TX8 6, w ∈ wsX8_needText := by decide +kernel
theorem lk_X8_needText_75 : Cond.classLink RX8 75 "java/lang/IllegalArgumentException" ∈ wsX8_needText := by decide +kernel
theorem lk_X8_needText_18 : Cond.fieldLink RX8 18 "TermKeeper" "texts" "[LTermKeeper$Row;" ∈ wsX8_needText := by decide +kernel
theorem lx_X8_needText_IAE : ∀ w ∈ (vx_atS RX8 79 "java/lang/IllegalArgumentException" ["java/lang/RuntimeException", "java/lang/Exception"]).filter goodWord, w ∈ wsX8_needText := by decide +kernel
theorem lg_X8_needText_IAE : ∀ w ∈ Cond.classLink RX8 75 "java/lang/IllegalArgumentException" :: Cond.initialized "java/lang/IllegalArgumentException" :: vx_atS RX8 79 "java/lang/IllegalArgumentException" ["java/lang/RuntimeException", "java/lang/Exception"], vx_ot w = true := by decide +kernel
theorem lz_X8_needText_IAE : Cond.initialized "java/lang/IllegalArgumentException" ∈ wsX8_needText := by decide +kernel
abbrev rm_X8_needText : Room := { frames := 6, cells := 1, slots := 6, locals := 90 }
def wp_X8_needText_13 (dA : Nat → ClassId) (zz : Nat → Nat) (Q : Nat → List Nat → pF → Prop) (X : String → List Nat → pF → Prop) (L : List Nat) (f : pF) : Prop :=
    (X "java/lang/IllegalArgumentException" L f)
def wp_X8_needText_0 (dA : Nat → ClassId) (zz : Nat → Nat) (Q : Nat → List Nat → pF → Prop) (X : String → List Nat → pF → Prop) (L : List Nat) (f : pF) (a0 : Nat) (a1 : Int32) : Prop :=
    ((a1 < 0 →
      (wp_X8_needText_13 dA zz Q X  L f ))
     ∧ (¬ a1 < 0 →
      (gR L f 9 a0 1 (fun g_6 =>
        (aN L f (dA 3) g_6 (fun g_9 =>
          ((a1 < g_9 →
            (gR L f 9 a0 1 (fun g_24 =>
              (aR L f (dA 3) g_24 a1 (fun g_28 =>
                (Q g_28 L f))))))
           ∧ (¬ a1 < g_9 →
            (wp_X8_needText_13 dA zz Q X  L f )))))))))
set_option maxHeartbeats 4000000 in
set_option maxRecDepth 100000 in
theorem tb_X8_needText_13 {p : Program} {l : Launch} {e : Env} {s : State} {m : MethodId} {below : List Frame} {meth : Method} {c : Code} {args : Array Value} {dC : Nat → ClassId} {dI : Nat → Nat → Nat} {dA : Nat → ClassId} {zz : Nat → Nat} {base : Nat} {A : Nat → Prop} {Q : Nat → List Nat → pF → Prop} {X : String → List Nat → pF → Prop} (C : pCx p s m args meth c cX8_needText 2 (some (.object "TermKeeper$Row")) RX8 wsX8_needText A dC dI dA zz base ∧ l.stackTraces = false ∧ (∀ x ∈ c.exceptionTable.toList, False)) : ∀ (L : List Nat) (f : pF) , wp_X8_needText_13 dA zz Q X  L f  → pAt p l e rm_X8_needText s m args below meth c dC dI A (vx_MQ below (va_Qr (fun (u : Nat × List Nat × pF) => Q u.1 u.2.1 u.2.2) (fun u a t => a = u.1 ∧ pB dC dI dA A u.2 t) A) (vx_X (fun (u : String × List Nat × pF) => X u.1 u.2.1 u.2.2) (fun E u t => E = u.1 ∧ pB dC dI dA A u.2 t) A) args s 1 6 A) 0 0 13 2 [] [] L f := by
  obtain ⟨⟨hx, hb, hml, hown, hts, hr, hlocks, hA, hK, hB, hz, hN, hT⟩, hlt, hnt⟩ := id C
  have hout9 : ∀ {pc9 : Nat}, ∀ x ∈ c.exceptionTable.toList, covers x pc9 = false := fun x h => (hnt x h).elim
  intro L f  hw H locs hP hD hS ls hl
  rw [wp_X8_needText_13] at hw
  obtain ⟨sa9, hs9⟩ := hN.2.2.2.2.2.2.2.1 (234, "no such text") (by decide +kernel)
  exact vx_throwS hx hb hlt hown (by decide +kernel) (by decide +kernel) (hts _ lk_X8_needText_75) (hts _ lz_X8_needText_IAE) hs9 (vx_hat (fun w h => hts w (lx_X8_needText_IAE w h)) pBad_IAE (pBad_of hN.2.2.2.2.2.2.2.2.2.2.2.2.1 hN.2.2.2.2.2.2.2.2.2.2.2.2.2.1)) lg_X8_needText_IAE (hT.1.narrow hB) (hT.2.1.narrow hB) hS (by rw [hml]; exact hl.1) dX8_needText_13 dX8_needText_16 dX8_needText_17 dX8_needText_19 dX8_needText_22 hout9 (Nat.le_of_ble_eq_true rfl) (Nat.le_of_ble_eq_true rfl) (Nat.le_of_ble_eq_true rfl) (Nat.le_of_ble_eq_true rfl) hlocks (fun t hvm hsz hk => ⟨("java/lang/IllegalArgumentException", L, f), hw, ⟨rfl, p_keep hP hk, va_K.moved hvm hK, hD⟩, p_F hS hsz hk⟩) hS.2.2 (by decide) (by decide)
set_option maxHeartbeats 4000000 in
set_option maxRecDepth 100000 in
theorem tb_X8_needText_0 {p : Program} {l : Launch} {e : Env} {s : State} {m : MethodId} {below : List Frame} {meth : Method} {c : Code} {args : Array Value} {dC : Nat → ClassId} {dI : Nat → Nat → Nat} {dA : Nat → ClassId} {zz : Nat → Nat} {base : Nat} {A : Nat → Prop} {Q : Nat → List Nat → pF → Prop} {X : String → List Nat → pF → Prop} (C : pCx p s m args meth c cX8_needText 2 (some (.object "TermKeeper$Row")) RX8 wsX8_needText A dC dI dA zz base ∧ l.stackTraces = false ∧ (∀ x ∈ c.exceptionTable.toList, False)) : ∀ (L : List Nat) (f : pF) (a0 : Nat) (a1 : Int32), wp_X8_needText_0 dA zz Q X  L f a0 a1 → pAt p l e rm_X8_needText s m args below meth c dC dI A (vx_MQ below (va_Qr (fun (u : Nat × List Nat × pF) => Q u.1 u.2.1 u.2.2) (fun u a t => a = u.1 ∧ pB dC dI dA A u.2 t) A) (vx_X (fun (u : String × List Nat × pF) => X u.1 u.2.1 u.2.2) (fun E u t => E = u.1 ∧ pB dC dI dA A u.2 t) A) args s 1 6 A) 0 0 0 2 [(0, .ref a0), (1, .int a1)] [] L f := by
  obtain ⟨⟨hx, hb, hml, hown, hts, hr, hlocks, hA, hK, hB, hz, hN, hT⟩, hlt, hnt⟩ := id C
  have hout9 : ∀ {pc9 : Nat}, ∀ x ∈ c.exceptionTable.toList, covers x pc9 = false := fun x h => (hnt x h).elim
  intro L f a0 a1 hw H locs hP hD hS ls hl
  rw [wp_X8_needText_0] at hw
  refine lv_iload_n hx hb dX8_needText_0 rfl (lv_at hl 1 rfl) ?_
  refine lv_if_lt (tgt := 13) hx hb dX8_needText_1 (by decide) (fun c_1 => ?_) (fun c_1 => ?_)
  · have hw := hw.1 c_1
    exact tb_X8_needText_13 C  L f  hw H locs hP hD hS ls (lv_sub hl [] rfl)
  · have hw := hw.2 c_1
    refine lv_iload_n hx hb dX8_needText_4 rfl (lv_at hl 1 rfl) ?_
    refine lv_aload_n hx hb dX8_needText_5 rfl (lv_at hl 0 rfl) ?_
    obtain ⟨fs_6, g_6, ⟨hL9, hf9, hn9⟩, hw⟩ := hw
    refine va_get (D := (dC, dI)) (ci := 9) (v := .ref g_6) (C := RX8) (T := TX8) (N := 6) hx hb hts iw_X8_needText_RX8 hown hK (p_one hP hL9 hf9) 0 rfl rfl 1 (by decide) (hts _ lk_X8_needText_18) (fun _ h9 => h9) hn9 dX8_needText_6 ?_
    obtain ⟨x9, ⟨hL9, hf9⟩, hw⟩ := hw
    obtain ⟨g_9, eg_9⟩ : ∃ y : Int32, y = Int32.ofNat x9.1 := ⟨_, rfl⟩
    rw [← eg_9] at hw
    refine va_alen (v := g_9) hx hb hK (p_one hP hL9 hf9) 0 3 rfl rfl eg_9.symm dX8_needText_9 ?_
    refine lv_icmp_lt (tgt := 23) hx hb dX8_needText_10 (by decide) (fun c_10 => ?_) (fun c_10 => ?_)
    · have hw := hw.1 c_10
      refine lv_aload_n hx hb dX8_needText_23 rfl (lv_at hl 0 rfl) ?_
      obtain ⟨fs_24, g_24, ⟨hL9, hf9, hn9⟩, hw⟩ := hw
      refine va_get (D := (dC, dI)) (ci := 9) (v := .ref g_24) (C := RX8) (T := TX8) (N := 6) hx hb hts iw_X8_needText_RX8 hown hK (p_one hP hL9 hf9) 0 rfl rfl 1 (by decide) (hts _ lk_X8_needText_18) (fun _ h9 => h9) hn9 dX8_needText_24 ?_
      refine lv_iload_n hx hb dX8_needText_27 rfl (lv_at hl 1 rfl) ?_
      obtain ⟨n_28, h_28, g_28, ⟨hL9, hf9, hn9, hy9⟩, hw⟩ := hw
      refine va_aldq hx hb hK (p_one hP hL9 hf9) 0 3 rfl rfl hn9 dX8_needText_28 ?_
      rw [hy9]
      refine W.eq (g2 := F0 m 29 ls (.ref g_28 :: [])) rfl ?_
      refine W.widen (k := 1) (n := 6) (by decide) (by decide) ?_
      refine vx_ret ?_
      exact W.aret (v := .ref g_28) hx hb hr (Or.inl ⟨_, rfl⟩) (Or.inr ⟨_, rfl⟩) (fun t ht hW => ⟨⟨(g_28, L, f), g_28, rfl, hw, rfl, by rw [ht]; exact hP, va_K.moved hW.alike hK, hD⟩, hS.F ht⟩) hS.2.2 dX8_needText_29
    · have hw := hw.2 c_10
      exact tb_X8_needText_13 C  L f  hw H locs hP hD hS ls (lv_sub hl [] rfl)
set_option maxHeartbeats 4000000 in
set_option maxRecDepth 100000 in
theorem c_X8_needText (l : Launch) (hlt : l.stackTraces = false) (dC : Nat → ClassId) (dI : Nat → Nat → Nat) (dA : Nat → ClassId) (zz : Nat → Nat) (base : Nat) (L : List Nat) (f : pF) (sz : Nat) (a0 : Nat) (a1 : Int32) (Q : Nat → List Nat → pF → Prop) (X : String → List Nat → pF → Prop) (hw : wp_X8_needText_0 dA zz Q X L f a0 a1) : vx_Met l yX8_needText wsX8_needText rm_X8_needText (va_Pc [.ref a0, .int a1] (pPre dC dI dA zz base L f sz)) (va_Qr (fun (u : Nat × List Nat × pF) => Q u.1 u.2.1 u.2.2) (fun u a t => a = u.1 ∧ pB dC dI dA (va_A (va_pl L f) sz) u.2 t) (va_A (va_pl L f) sz)) (vx_X (fun (u : String × List Nat × pF) => X u.1 u.2.1 u.2.2) (fun E u t => E = u.1 ∧ pB dC dI dA (va_A (va_pl L f) sz) u.2 t) (va_A (va_pl L f) sz)) 1 6 (va_A (va_pl L f) sz) := by
  refine vx_ofW (cc := cX8_needText) (maxL := 2) (ret := (some (.object "TermKeeper$Row"))) (by decide) rfl ?_
  intro p e s m args below meth c s₁ B hml hnt hv
  obtain ⟨rfl, hsz, hP, hK, hD0, hz, hN, hT⟩ := hv
  subst hsz
  have hl := lv_entry ([.ref a0, .int a1]) (n := 2) (Nat.le_of_ble_eq_true rfl)
  rw [lg_entry_eq]
  generalize (lg_sl ([.ref a0, .int a1]) ++ List.replicate (2 - (lg_sl ([.ref a0, .int a1])).length) Slot.unset).toArray = ls at hl ⊢
  exact tb_X8_needText_0 (Q := Q) (p := p) ⟨⟨B.exec, B.bytes, hml, findClass_of_methodNamed B.named, atoms_spec (ws := wsX8_needText) B.pre, B.returns, B.notSynchronized, fun q h => Or.inr h, hK, pAB hD0 hz, hz, hN, hT⟩, hlt, hnt⟩ L f a0 a1 hw s.heap [] hP (hD0.self (sz := s.heap.size)) va_S.rf ls (lv_sub hl [0, 1] rfl)
abbrev rm_X8_pushNumber : Room := { frames := 1, cells := 0, slots := 0, locals := 21 }
def wp_X8_pushNumber_3 (dA : Nat → ClassId) (zz : Nat → Nat) (Q : List Nat → pF → Prop) : Nat → List Nat → pF → Nat → Int32 → Int32 → Prop
  | 0, _, _, _, _, _ => False
  | n + 1, L, f, a0, a1, a2 =>
    ((a2 < 0 →
      (Q L f))
     ∧ (¬ a2 < 0 →
      (isO L f 5 a0 ∧
        (wp_X4_push_0 dA zz (fun r_11 L_11 f_11 =>
          (∀ v2_15 : Int32, v2_15 = a2 + (-8 : Int32) →
            ((wp_X8_pushNumber_3 dA zz Q  n) L_11 f_11 a0 a1 v2_15))) L f a0 ((a1).toUInt32 >>> ((a2).toUInt32 &&& Int32.toUInt32 31)).toInt32))))
def wp_X8_pushNumber_0 (dA : Nat → ClassId) (zz : Nat → Nat) (Q : List Nat → pF → Prop) (L : List Nat) (f : pF) (a0 : Nat) (a1 : Int32) : Prop :=
    (∃ n9 : Nat, wp_X8_pushNumber_3 dA zz Q  n9 L f a0 a1 (24 : Int32))
set_option maxHeartbeats 4000000 in
set_option maxRecDepth 100000 in
theorem tb_X8_pushNumber_3 {p : Program} {l : Launch} {e : Env} {s : State} {m : MethodId} {below : List Frame} {meth : Method} {c : Code} {args : Array Value} {dC : Nat → ClassId} {dI : Nat → Nat → Nat} {dA : Nat → ClassId} {zz : Nat → Nat} {base : Nat} {A : Nat → Prop} {Q : List Nat → pF → Prop} (C : pCx p s m args meth c cX8_pushNumber 3 none RX8 wsX8_pushNumber A dC dI dA zz base) : ∀ (n : Nat) (L : List Nat) (f : pF) (a0 : Nat) (a1 : Int32) (a2 : Int32), wp_X8_pushNumber_3 dA zz Q  n L f a0 a1 a2 → pAt p l e rm_X8_pushNumber s m args below meth c dC dI A (MQ below (va_Qv (fun (u : List Nat × pF) => Q u.1 u.2) (pB dC dI dA A) A) args s 0 0 A) 0 0 3 3 [(0, .ref a0), (1, .int a1), (2, .int a2)] [] L f := by
  obtain ⟨hx, hb, hml, hown, hts, hr, hlocks, hA, hK, hB, hz, hN, hT⟩ := id C
  intro n
  induction n with
  | zero => intro L f a0 a1 a2 hw; exact hw.elim
  | succ n ih =>
    intro L f a0 a1 a2 hw H locs hP hD hS ls hl
    rw [wp_X8_pushNumber_3] at hw
    refine lv_iload_n hx hb dX8_pushNumber_3 rfl (lv_at hl 2 rfl) ?_
    refine lv_if_lt (tgt := 21) hx hb dX8_pushNumber_4 (by decide) (fun c_4 => ?_) (fun c_4 => ?_)
    · have hw := hw.1 c_4
      exact W.vret hx hb hr (fun t ht hW => ⟨⟨(L, f), rfl, hw, by rw [ht]; exact hP, va_K.moved hW.alike hK, hD⟩, hS.F ht⟩) hS.2.2 dX8_pushNumber_21
    · have hw := hw.2 c_4
      refine lv_aload_n hx hb dX8_pushNumber_7 rfl (lv_at hl 0 rfl) ?_
      refine lv_iload_n hx hb dX8_pushNumber_8 rfl (lv_at hl 1 rfl) ?_
      refine lv_iload_n hx hb dX8_pushNumber_9 rfl (lv_at hl 2 rfl) ?_
      refine lv_iushr hx hb dX8_pushNumber_10 rfl ?_
      obtain ⟨hO9, hw⟩ := hw
      have hFc := p_free hD hS hA
      refine va_calli (va_runV (As := [.int ((a1).toUInt32 >>> ((a2).toUInt32 &&& Int32.toUInt32 31)).toInt32]) (rest := []) ⟨hx, hb, hml, hown, hts⟩ (c_X4_push l dC dI dA zz base L f H.size a0 ((a1).toUInt32 >>> ((a2).toUInt32 &&& Int32.toUInt32 31)).toInt32 _ hw) (cwV 1 hts gX8_pushNumber_X4_push rfl rfl rfl (by decide +kernel) ⟨by decide, by decide⟩) (pPreV [.int ((a1).toUInt32 >>> ((a2).toUInt32 &&& Int32.toUInt32 31)).toInt32] (ci := 5) rfl hO9 hK hP hD hS hB hz hN hT) rfl rfl hl.1 rfl (lv_room (Nat.le_of_ble_eq_true rfl)) dX8_pushNumber_11 ⟨by decide, by decide⟩) hS (fun q _ h => hFc q h) hFc (fun r_11 u t H1 locs ht hvm hw hB1 hz1 hk1 hS => ?_)
      obtain ⟨L_11, f_11⟩ := u
      obtain ⟨hP, -, hD1⟩ := hB1
      rw [ht] at hP
      have hw := id hw
      have hP : va_P (dC, dI) vwCl (va_pl L_11 f_11) H1 := hP
      have hD : va_D A (va_pl L_11 f_11) := p_gain hD1 hFc
      generalize H1 = H at hP hS ⊢
      refine lv_pop hx hb dX8_pushNumber_14 rfl ?_
      obtain ⟨v2_15, ev2_15⟩ : ∃ y : Int32, y = a2 + (-8 : Int32) := ⟨_, rfl⟩
      have hw := hw v2_15 ev2_15
      refine lv_iinc (v := v2_15) (lv' := [(2, .int v2_15), (0, .ref a0), (1, .int a1)]) hx hb dX8_pushNumber_15 hl (k := 2) rfl (by rw [ev2_15]; rfl) (by decide) rfl (fun ls hl => ?_)
      refine lv_goto (tgt := 3) hx hb dX8_pushNumber_18 (by decide) ?_
      exact ih L_11 f_11 a0 a1 v2_15 hw H locs hP hD hS ls (lv_sub hl [1, 2, 0] rfl)
set_option maxHeartbeats 4000000 in
set_option maxRecDepth 100000 in
theorem tb_X8_pushNumber_0 {p : Program} {l : Launch} {e : Env} {s : State} {m : MethodId} {below : List Frame} {meth : Method} {c : Code} {args : Array Value} {dC : Nat → ClassId} {dI : Nat → Nat → Nat} {dA : Nat → ClassId} {zz : Nat → Nat} {base : Nat} {A : Nat → Prop} {Q : List Nat → pF → Prop} (C : pCx p s m args meth c cX8_pushNumber 3 none RX8 wsX8_pushNumber A dC dI dA zz base) : ∀ (L : List Nat) (f : pF) (a0 : Nat) (a1 : Int32), wp_X8_pushNumber_0 dA zz Q  L f a0 a1 → pAt p l e rm_X8_pushNumber s m args below meth c dC dI A (MQ below (va_Qv (fun (u : List Nat × pF) => Q u.1 u.2) (pB dC dI dA A) A) args s 0 0 A) 0 0 0 3 [(0, .ref a0), (1, .int a1)] [] L f := by
  obtain ⟨hx, hb, hml, hown, hts, hr, hlocks, hA, hK, hB, hz, hN, hT⟩ := id C
  intro L f a0 a1 hw H locs hP hD hS ls hl
  rw [wp_X8_pushNumber_0] at hw
  refine lv_bipush (v := 24) hx hb dX8_pushNumber_0 (by decide) ?_
  refine lv_istore_n (lv' := [(2, .int (24 : Int32)), (0, .ref a0), (1, .int a1)]) hx hb dX8_pushNumber_2 rfl hl (by decide) rfl (fun ls hl => ?_)
  obtain ⟨n9, hw⟩ := hw
  exact tb_X8_pushNumber_3 C  n9 L f a0 a1 (24 : Int32) hw H locs hP hD hS ls (lv_sub hl [1, 2, 0] rfl)
set_option maxHeartbeats 4000000 in
set_option maxRecDepth 100000 in
theorem c_X8_pushNumber (l : Launch) (dC : Nat → ClassId) (dI : Nat → Nat → Nat) (dA : Nat → ClassId) (zz : Nat → Nat) (base : Nat) (L : List Nat) (f : pF) (sz : Nat) (a0 : Nat) (a1 : Int32) (Q : List Nat → pF → Prop) (hw : wp_X8_pushNumber_0 dA zz Q L f a0 a1) : Met l yX8_pushNumber wsX8_pushNumber rm_X8_pushNumber (va_Pc [.ref a0, .int a1] (pPre dC dI dA zz base L f sz)) (va_Qv (fun (u : List Nat × pF) => Q u.1 u.2) (pB dC dI dA (va_A (va_pl L f) sz)) (va_A (va_pl L f) sz)) 0 0 (va_A (va_pl L f) sz) := by
  refine Met.ofW (cc := cX8_pushNumber) (maxL := 3) (ret := none) (by decide) rfl ?_
  intro p e s m args below meth c s₁ B hml hv
  obtain ⟨rfl, hsz, hP, hK, hD0, hz, hN, hT⟩ := hv
  subst hsz
  have hl := lv_entry ([.ref a0, .int a1]) (n := 3) (Nat.le_of_ble_eq_true rfl)
  rw [lg_entry_eq]
  generalize (lg_sl ([.ref a0, .int a1]) ++ List.replicate (3 - (lg_sl ([.ref a0, .int a1])).length) Slot.unset).toArray = ls at hl ⊢
  exact tb_X8_pushNumber_0 (Q := Q) (p := p) ⟨B.exec, B.bytes, hml, findClass_of_methodNamed B.named, atoms_spec (ws := wsX8_pushNumber) B.pre, B.returns, B.notSynchronized, fun q h => Or.inr h, hK, pAB hD0 hz, hz, hN, hT⟩ L f a0 a1 hw s.heap [] hP (hD0.self (sz := s.heap.size)) va_S.rf ls (lv_sub hl [0, 1] rfl)
abbrev rm_X8_write : Room := { frames := 7, cells := 1, slots := 6, locals := 111 }
def wp_X8_write_0 (dA : Nat → ClassId) (zz : Nat → Nat) (Q : Int32 → List Nat → pF → Prop) (X : String → List Nat → pF → Prop) (L : List Nat) (f : pF) (a0 : Nat) (a1 : Int32) (a2 : Int32) (a3 : Int32) (a4 : Int32) (a5 : Int32) (a6 : Int32) : Prop :=
    (isO L f 9 a0 ∧
      (wp_X8_needText_0 dA zz (fun r_2 L_2 f_2 =>
        (isO L_2 f_2 5 r_2 ∧
          (wp_X4_size_0 dA zz (fun r_9 L_9 f_9 =>
            ((r_9 ≤ (580 : Int32) →
              (wp_X8_pushNumber_0 dA zz (fun L_23 f_23 =>
                (wp_X8_pushNumber_0 dA zz (fun L_29 f_29 =>
                  (wp_X8_pushNumber_0 dA zz (fun L_36 f_36 =>
                    (wp_X8_pushNumber_0 dA zz (fun L_43 f_43 =>
                      (wp_X8_pushNumber_0 dA zz (fun L_50 f_50 =>
                        (isO L_50 f_50 5 r_2 ∧
                          (wp_X4_size_0 dA zz (fun r_55 L_55 f_55 =>
                            (Q r_55 L_55 f_55)) L_50 f_50 r_2 ))) L_43 f_43 r_2 a6)) L_36 f_36 r_2 a5)) L_29 f_29 r_2 a4)) L_23 f_23 r_2 a3)) L_9 f_9 r_2 a2))
             ∧ (¬ r_9 ≤ (580 : Int32) →
              (Q (-1 : Int32) L_9 f_9)))) L_2 f_2 r_2 ))) X L f a0 a1))
set_option maxHeartbeats 4000000 in
set_option maxRecDepth 100000 in
theorem tb_X8_write_0 {p : Program} {l : Launch} {e : Env} {s : State} {m : MethodId} {below : List Frame} {meth : Method} {c : Code} {args : Array Value} {dC : Nat → ClassId} {dI : Nat → Nat → Nat} {dA : Nat → ClassId} {zz : Nat → Nat} {base : Nat} {A : Nat → Prop} {Q : Int32 → List Nat → pF → Prop} {X : String → List Nat → pF → Prop} (C : pCx p s m args meth c cX8_write 8 (some .int) RX8 wsX8_write A dC dI dA zz base ∧ l.stackTraces = false ∧ (∀ x ∈ c.exceptionTable.toList, False)) : ∀ (L : List Nat) (f : pF) (a0 : Nat) (a1 : Int32) (a2 : Int32) (a3 : Int32) (a4 : Int32) (a5 : Int32) (a6 : Int32), wp_X8_write_0 dA zz Q X  L f a0 a1 a2 a3 a4 a5 a6 → pAt p l e rm_X8_write s m args below meth c dC dI A (vx_MQ below (va_Qi (fun r (u : List Nat × pF) => Q r u.1 u.2) (pB dC dI dA A) A) (vx_X (fun (u : String × List Nat × pF) => X u.1 u.2.1 u.2.2) (fun E u t => E = u.1 ∧ pB dC dI dA A u.2 t) A) args s 1 6 A) 0 0 0 8 [(0, .ref a0), (1, .int a1), (2, .int a2), (3, .int a3), (4, .int a4), (5, .int a5), (6, .int a6)] [] L f := by
  obtain ⟨⟨hx, hb, hml, hown, hts, hr, hlocks, hA, hK, hB, hz, hN, hT⟩, hlt, hnt⟩ := id C
  have hout9 : ∀ {pc9 : Nat}, ∀ x ∈ c.exceptionTable.toList, covers x pc9 = false := fun x h => (hnt x h).elim
  intro L f a0 a1 a2 a3 a4 a5 a6 hw H locs hP hD hS ls hl
  rw [wp_X8_write_0] at hw
  refine lv_aload_n hx hb dX8_write_0 rfl (lv_at hl 0 rfl) ?_
  refine lv_iload_n hx hb dX8_write_1 rfl (lv_at hl 1 rfl) ?_
  obtain ⟨hO9, hw⟩ := hw
  have hFc := p_free hD hS hA
  refine vx_callr (vx_runV (As := [.int a1]) (rest := []) ⟨hx, hb, hml, hown, hts⟩ (c_X8_needText l hlt dC dI dA zz base L f H.size a0 a1 _ X hw) (cwV 1 hts gX8_write_X8_needText rfl rfl rfl (by decide +kernel) ⟨by decide, by decide⟩) (pPreV [.int a1] (ci := 9) rfl hO9 hK hP hD hS hB hz hN hT) rfl rfl hl.1 rfl (lv_room (Nat.le_of_ble_eq_true rfl)) dX8_write_2 ⟨by decide, by decide⟩) hS (fun q _ h => hFc q h) hFc (fun q _ h => hFc q h) (fun E ce q9 u t H1 locs ht hvm hw hB1 hz1 hk1 hS hce hcv hcl => by
      obtain ⟨E9, L9, f9⟩ := u
      obtain ⟨hE, hP, -, hD1⟩ := hB1
      rw [ht] at hP
      exact vx_out (fun x h => (hnt x h).elim) hlocks hce hcv hcl (fun t9 ht9 hvm9 => ⟨(E9, L9, f9), hw, ⟨hE, by rw [ht9]; exact hP, va_K.moved hvm9 hK, p_gain hD1 hFc⟩, hS.F ht9⟩) hS.2.2 (by decide) (by decide)) (fun u ra t H1 locs ht hvm hw hB1 hz1 hk1 hS => ?_)
  obtain ⟨r_2, L_2, f_2⟩ := u
  obtain ⟨hra, hP, -, hD1⟩ := hB1
  rw [show ra = r_2 from hra]
  rw [ht] at hP
  have hw := id hw
  have hP : va_P (dC, dI) vwCl (va_pl L_2 f_2) H1 := hP
  have hD : va_D A (va_pl L_2 f_2) := p_gain hD1 hFc
  generalize H1 = H at hP hS ⊢
  refine W.eq (g2 := F0 m 5 ls (.ref r_2 :: [])) rfl ?_
  refine W.widen (k := 1) (n := 6) (by decide) (by decide) ?_
  refine lv_astore (lv' := [(7, .ref r_2), (0, .ref a0), (1, .int a1), (2, .int a2), (3, .int a3), (4, .int a4), (5, .int a5), (6, .int a6)]) hx hb dX8_write_5 hl (by decide) rfl (fun ls hl => ?_)
  refine lv_aload hx hb dX8_write_7 (lv_at hl 0 rfl) ?_
  obtain ⟨hO9, hw⟩ := hw
  have hFc := p_free hD hS hA
  refine va_calli (va_runV (As := []) (rest := []) ⟨hx, hb, hml, hown, hts⟩ (c_X4_size l dC dI dA zz base L_2 f_2 H.size r_2  _ hw) (cwV 0 hts gX8_write_X4_size rfl rfl rfl (by decide +kernel) ⟨by decide, by decide⟩) (pPreV [] (ci := 5) rfl hO9 hK hP hD hS hB hz hN hT) rfl rfl hl.1 rfl (lv_room (Nat.le_of_ble_eq_true rfl)) dX8_write_9 ⟨by decide, by decide⟩) hS (fun q _ h => hFc q h) hFc (fun r_9 u t H1 locs ht hvm hw hB1 hz1 hk1 hS => ?_)
  obtain ⟨L_9, f_9⟩ := u
  obtain ⟨hP, -, hD1⟩ := hB1
  rw [ht] at hP
  have hw := id hw
  have hP : va_P (dC, dI) vwCl (va_pl L_9 f_9) H1 := hP
  have hD : va_D A (va_pl L_9 f_9) := p_gain hD1 hFc
  generalize H1 = H at hP hS ⊢
  refine lv_sipush (v := 580) hx hb dX8_write_12 (by decide) ?_
  refine lv_icmp_le (tgt := 20) hx hb dX8_write_15 (by decide) (fun c_15 => ?_) (fun c_15 => ?_)
  · have hw := hw.1 c_15
    refine lv_aload hx hb dX8_write_20 (lv_at hl 0 rfl) ?_
    refine lv_iload_n hx hb dX8_write_22 rfl (lv_at hl 3 rfl) ?_
    have hFc := p_free hD hS hA
    refine va_callv (va_runS (As := [.ref r_2, .int a2]) (rest := []) ⟨hx, hb, hml, hown, hts⟩ (c_X8_pushNumber l dC dI dA zz base L_9 f_9 H.size r_2 a2 _ hw) (va_cwS 2 hts gX8_write_X8_pushNumber rfl rfl rfl (by decide +kernel) ⟨by decide, by decide⟩) (pPreS [.ref r_2, .int a2] hK hP hD hS hB hz hN hT) rfl rfl hl.1 rfl (lv_room (Nat.le_of_ble_eq_true rfl)) dX8_write_23 ⟨by decide, by decide⟩) hS (fun q _ h => hFc q h) hFc (fun u t H1 locs ht hvm hw hB1 hz1 hk1 hS => ?_)
    obtain ⟨L_23, f_23⟩ := u
    obtain ⟨hP, -, hD1⟩ := hB1
    rw [ht] at hP
    have hw := id hw
    have hP : va_P (dC, dI) vwCl (va_pl L_23 f_23) H1 := hP
    have hD : va_D A (va_pl L_23 f_23) := p_gain hD1 hFc
    generalize H1 = H at hP hS ⊢
    refine lv_aload hx hb dX8_write_26 (lv_at hl 0 rfl) ?_
    refine lv_iload_n hx hb dX8_write_28 rfl (lv_at hl 4 rfl) ?_
    have hFc := p_free hD hS hA
    refine va_callv (va_runS (As := [.ref r_2, .int a3]) (rest := []) ⟨hx, hb, hml, hown, hts⟩ (c_X8_pushNumber l dC dI dA zz base L_23 f_23 H.size r_2 a3 _ hw) (va_cwS 2 hts gX8_write_X8_pushNumber rfl rfl rfl (by decide +kernel) ⟨by decide, by decide⟩) (pPreS [.ref r_2, .int a3] hK hP hD hS hB hz hN hT) rfl rfl hl.1 rfl (lv_room (Nat.le_of_ble_eq_true rfl)) dX8_write_29 ⟨by decide, by decide⟩) hS (fun q _ h => hFc q h) hFc (fun u t H1 locs ht hvm hw hB1 hz1 hk1 hS => ?_)
    obtain ⟨L_29, f_29⟩ := u
    obtain ⟨hP, -, hD1⟩ := hB1
    rw [ht] at hP
    have hw := id hw
    have hP : va_P (dC, dI) vwCl (va_pl L_29 f_29) H1 := hP
    have hD : va_D A (va_pl L_29 f_29) := p_gain hD1 hFc
    generalize H1 = H at hP hS ⊢
    refine lv_aload hx hb dX8_write_32 (lv_at hl 0 rfl) ?_
    refine lv_iload hx hb dX8_write_34 (lv_at hl 5 rfl) ?_
    have hFc := p_free hD hS hA
    refine va_callv (va_runS (As := [.ref r_2, .int a4]) (rest := []) ⟨hx, hb, hml, hown, hts⟩ (c_X8_pushNumber l dC dI dA zz base L_29 f_29 H.size r_2 a4 _ hw) (va_cwS 2 hts gX8_write_X8_pushNumber rfl rfl rfl (by decide +kernel) ⟨by decide, by decide⟩) (pPreS [.ref r_2, .int a4] hK hP hD hS hB hz hN hT) rfl rfl hl.1 rfl (lv_room (Nat.le_of_ble_eq_true rfl)) dX8_write_36 ⟨by decide, by decide⟩) hS (fun q _ h => hFc q h) hFc (fun u t H1 locs ht hvm hw hB1 hz1 hk1 hS => ?_)
    obtain ⟨L_36, f_36⟩ := u
    obtain ⟨hP, -, hD1⟩ := hB1
    rw [ht] at hP
    have hw := id hw
    have hP : va_P (dC, dI) vwCl (va_pl L_36 f_36) H1 := hP
    have hD : va_D A (va_pl L_36 f_36) := p_gain hD1 hFc
    generalize H1 = H at hP hS ⊢
    refine lv_aload hx hb dX8_write_39 (lv_at hl 0 rfl) ?_
    refine lv_iload hx hb dX8_write_41 (lv_at hl 6 rfl) ?_
    have hFc := p_free hD hS hA
    refine va_callv (va_runS (As := [.ref r_2, .int a5]) (rest := []) ⟨hx, hb, hml, hown, hts⟩ (c_X8_pushNumber l dC dI dA zz base L_36 f_36 H.size r_2 a5 _ hw) (va_cwS 2 hts gX8_write_X8_pushNumber rfl rfl rfl (by decide +kernel) ⟨by decide, by decide⟩) (pPreS [.ref r_2, .int a5] hK hP hD hS hB hz hN hT) rfl rfl hl.1 rfl (lv_room (Nat.le_of_ble_eq_true rfl)) dX8_write_43 ⟨by decide, by decide⟩) hS (fun q _ h => hFc q h) hFc (fun u t H1 locs ht hvm hw hB1 hz1 hk1 hS => ?_)
    obtain ⟨L_43, f_43⟩ := u
    obtain ⟨hP, -, hD1⟩ := hB1
    rw [ht] at hP
    have hw := id hw
    have hP : va_P (dC, dI) vwCl (va_pl L_43 f_43) H1 := hP
    have hD : va_D A (va_pl L_43 f_43) := p_gain hD1 hFc
    generalize H1 = H at hP hS ⊢
    refine lv_aload hx hb dX8_write_46 (lv_at hl 0 rfl) ?_
    refine lv_iload hx hb dX8_write_48 (lv_at hl 7 rfl) ?_
    have hFc := p_free hD hS hA
    refine va_callv (va_runS (As := [.ref r_2, .int a6]) (rest := []) ⟨hx, hb, hml, hown, hts⟩ (c_X8_pushNumber l dC dI dA zz base L_43 f_43 H.size r_2 a6 _ hw) (va_cwS 2 hts gX8_write_X8_pushNumber rfl rfl rfl (by decide +kernel) ⟨by decide, by decide⟩) (pPreS [.ref r_2, .int a6] hK hP hD hS hB hz hN hT) rfl rfl hl.1 rfl (lv_room (Nat.le_of_ble_eq_true rfl)) dX8_write_50 ⟨by decide, by decide⟩) hS (fun q _ h => hFc q h) hFc (fun u t H1 locs ht hvm hw hB1 hz1 hk1 hS => ?_)
    obtain ⟨L_50, f_50⟩ := u
    obtain ⟨hP, -, hD1⟩ := hB1
    rw [ht] at hP
    have hw := id hw
    have hP : va_P (dC, dI) vwCl (va_pl L_50 f_50) H1 := hP
    have hD : va_D A (va_pl L_50 f_50) := p_gain hD1 hFc
    generalize H1 = H at hP hS ⊢
    refine lv_aload hx hb dX8_write_53 (lv_at hl 0 rfl) ?_
    obtain ⟨hO9, hw⟩ := hw
    have hFc := p_free hD hS hA
    refine va_calli (va_runV (As := []) (rest := []) ⟨hx, hb, hml, hown, hts⟩ (c_X4_size l dC dI dA zz base L_50 f_50 H.size r_2  _ hw) (cwV 0 hts gX8_write_X4_size rfl rfl rfl (by decide +kernel) ⟨by decide, by decide⟩) (pPreV [] (ci := 5) rfl hO9 hK hP hD hS hB hz hN hT) rfl rfl hl.1 rfl (lv_room (Nat.le_of_ble_eq_true rfl)) dX8_write_55 ⟨by decide, by decide⟩) hS (fun q _ h => hFc q h) hFc (fun r_55 u t H1 locs ht hvm hw hB1 hz1 hk1 hS => ?_)
    obtain ⟨L_55, f_55⟩ := u
    obtain ⟨hP, -, hD1⟩ := hB1
    rw [ht] at hP
    have hw := id hw
    have hP : va_P (dC, dI) vwCl (va_pl L_55 f_55) H1 := hP
    have hD : va_D A (va_pl L_55 f_55) := p_gain hD1 hFc
    generalize H1 = H at hP hS ⊢
    refine vx_ret ?_
    exact W.iret (v := r_55) hx hb hr (fun t ht hW => ⟨⟨r_55, (L_55, f_55), rfl, hw, by rw [ht]; exact hP, va_K.moved hW.alike hK, hD⟩, hS.F ht⟩) hS.2.2 dX8_write_58
  · have hw := hw.2 c_15
    refine lv_iconst (v := -1) hx hb dX8_write_18 (by decide) ?_
    refine vx_ret ?_
    exact W.iret (v := (-1 : Int32)) hx hb hr (fun t ht hW => ⟨⟨(-1 : Int32), (L_9, f_9), rfl, hw, by rw [ht]; exact hP, va_K.moved hW.alike hK, hD⟩, hS.F ht⟩) hS.2.2 dX8_write_19
set_option maxHeartbeats 4000000 in
set_option maxRecDepth 100000 in
theorem c_X8_write (l : Launch) (hlt : l.stackTraces = false) (dC : Nat → ClassId) (dI : Nat → Nat → Nat) (dA : Nat → ClassId) (zz : Nat → Nat) (base : Nat) (L : List Nat) (f : pF) (sz : Nat) (a0 : Nat) (a1 : Int32) (a2 : Int32) (a3 : Int32) (a4 : Int32) (a5 : Int32) (a6 : Int32) (Q : Int32 → List Nat → pF → Prop) (X : String → List Nat → pF → Prop) (hw : wp_X8_write_0 dA zz Q X L f a0 a1 a2 a3 a4 a5 a6) : vx_Met l yX8_write wsX8_write rm_X8_write (va_Pc [.ref a0, .int a1, .int a2, .int a3, .int a4, .int a5, .int a6] (pPre dC dI dA zz base L f sz)) (va_Qi (fun r (u : List Nat × pF) => Q r u.1 u.2) (pB dC dI dA (va_A (va_pl L f) sz)) (va_A (va_pl L f) sz)) (vx_X (fun (u : String × List Nat × pF) => X u.1 u.2.1 u.2.2) (fun E u t => E = u.1 ∧ pB dC dI dA (va_A (va_pl L f) sz) u.2 t) (va_A (va_pl L f) sz)) 1 6 (va_A (va_pl L f) sz) := by
  refine vx_ofW (cc := cX8_write) (maxL := 8) (ret := (some .int)) (by decide) rfl ?_
  intro p e s m args below meth c s₁ B hml hnt hv
  obtain ⟨rfl, hsz, hP, hK, hD0, hz, hN, hT⟩ := hv
  subst hsz
  have hl := lv_entry ([.ref a0, .int a1, .int a2, .int a3, .int a4, .int a5, .int a6]) (n := 8) (Nat.le_of_ble_eq_true rfl)
  rw [lg_entry_eq]
  generalize (lg_sl ([.ref a0, .int a1, .int a2, .int a3, .int a4, .int a5, .int a6]) ++ List.replicate (8 - (lg_sl ([.ref a0, .int a1, .int a2, .int a3, .int a4, .int a5, .int a6])).length) Slot.unset).toArray = ls at hl ⊢
  exact tb_X8_write_0 (Q := Q) (p := p) ⟨⟨B.exec, B.bytes, hml, findClass_of_methodNamed B.named, atoms_spec (ws := wsX8_write) B.pre, B.returns, B.notSynchronized, fun q h => Or.inr h, hK, pAB hD0 hz, hz, hN, hT⟩, hlt, hnt⟩ L f a0 a1 a2 a3 a4 a5 a6 hw s.heap [] hP (hD0.self (sz := s.heap.size)) va_S.rf ls (lv_sub hl [0, 1, 2, 3, 4, 5, 6] rfl)
abbrev rm_X8_cut : Room := { frames := 7, cells := 1, slots := 6, locals := 111 }
def wp_X8_cut_0 (dA : Nat → ClassId) (zz : Nat → Nat) (Q : Int32 → List Nat → pF → Prop) (X : String → List Nat → pF → Prop) (L : List Nat) (f : pF) (a0 : Nat) (a1 : Int32) (a2 : Int32) : Prop :=
    (isO L f 9 a0 ∧
      (wp_X8_needText_0 dA zz (fun r_2 L_2 f_2 =>
        (isO L_2 f_2 5 r_2 ∧
          (wp_X4_size_0 dA zz (fun r_7 L_7 f_7 =>
            ((a2 < 0 →
              (Q (-1 : Int32) L_7 f_7))
             ∧ (¬ a2 < 0 →
              ((a2 ≤ r_7 →
                (isO L_7 f_7 5 r_2 ∧
                  (wp_X4_shorten_0 dA zz (fun L_26 f_26 =>
                    (Q (r_7 - a2) L_26 f_26)) L_7 f_7 r_2 a2)))
               ∧ (¬ a2 ≤ r_7 →
                (Q (-1 : Int32) L_7 f_7)))))) L_2 f_2 r_2 ))) X L f a0 a1))
set_option maxHeartbeats 4000000 in
set_option maxRecDepth 100000 in
theorem tb_X8_cut_0 {p : Program} {l : Launch} {e : Env} {s : State} {m : MethodId} {below : List Frame} {meth : Method} {c : Code} {args : Array Value} {dC : Nat → ClassId} {dI : Nat → Nat → Nat} {dA : Nat → ClassId} {zz : Nat → Nat} {base : Nat} {A : Nat → Prop} {Q : Int32 → List Nat → pF → Prop} {X : String → List Nat → pF → Prop} (C : pCx p s m args meth c cX8_cut 5 (some .int) RX8 wsX8_cut A dC dI dA zz base ∧ l.stackTraces = false ∧ (∀ x ∈ c.exceptionTable.toList, False)) : ∀ (L : List Nat) (f : pF) (a0 : Nat) (a1 : Int32) (a2 : Int32), wp_X8_cut_0 dA zz Q X  L f a0 a1 a2 → pAt p l e rm_X8_cut s m args below meth c dC dI A (vx_MQ below (va_Qi (fun r (u : List Nat × pF) => Q r u.1 u.2) (pB dC dI dA A) A) (vx_X (fun (u : String × List Nat × pF) => X u.1 u.2.1 u.2.2) (fun E u t => E = u.1 ∧ pB dC dI dA A u.2 t) A) args s 1 6 A) 0 0 0 5 [(0, .ref a0), (1, .int a1), (2, .int a2)] [] L f := by
  obtain ⟨⟨hx, hb, hml, hown, hts, hr, hlocks, hA, hK, hB, hz, hN, hT⟩, hlt, hnt⟩ := id C
  have hout9 : ∀ {pc9 : Nat}, ∀ x ∈ c.exceptionTable.toList, covers x pc9 = false := fun x h => (hnt x h).elim
  intro L f a0 a1 a2 hw H locs hP hD hS ls hl
  rw [wp_X8_cut_0] at hw
  refine lv_aload_n hx hb dX8_cut_0 rfl (lv_at hl 0 rfl) ?_
  refine lv_iload_n hx hb dX8_cut_1 rfl (lv_at hl 1 rfl) ?_
  obtain ⟨hO9, hw⟩ := hw
  have hFc := p_free hD hS hA
  refine vx_callr (vx_runV (As := [.int a1]) (rest := []) ⟨hx, hb, hml, hown, hts⟩ (c_X8_needText l hlt dC dI dA zz base L f H.size a0 a1 _ X hw) (cwV 1 hts gX8_cut_X8_needText rfl rfl rfl (by decide +kernel) ⟨by decide, by decide⟩) (pPreV [.int a1] (ci := 9) rfl hO9 hK hP hD hS hB hz hN hT) rfl rfl hl.1 rfl (lv_room (Nat.le_of_ble_eq_true rfl)) dX8_cut_2 ⟨by decide, by decide⟩) hS (fun q _ h => hFc q h) hFc (fun q _ h => hFc q h) (fun E ce q9 u t H1 locs ht hvm hw hB1 hz1 hk1 hS hce hcv hcl => by
      obtain ⟨E9, L9, f9⟩ := u
      obtain ⟨hE, hP, -, hD1⟩ := hB1
      rw [ht] at hP
      exact vx_out (fun x h => (hnt x h).elim) hlocks hce hcv hcl (fun t9 ht9 hvm9 => ⟨(E9, L9, f9), hw, ⟨hE, by rw [ht9]; exact hP, va_K.moved hvm9 hK, p_gain hD1 hFc⟩, hS.F ht9⟩) hS.2.2 (by decide) (by decide)) (fun u ra t H1 locs ht hvm hw hB1 hz1 hk1 hS => ?_)
  obtain ⟨r_2, L_2, f_2⟩ := u
  obtain ⟨hra, hP, -, hD1⟩ := hB1
  rw [show ra = r_2 from hra]
  rw [ht] at hP
  have hw := id hw
  have hP : va_P (dC, dI) vwCl (va_pl L_2 f_2) H1 := hP
  have hD : va_D A (va_pl L_2 f_2) := p_gain hD1 hFc
  generalize H1 = H at hP hS ⊢
  refine W.eq (g2 := F0 m 5 ls (.ref r_2 :: [])) rfl ?_
  refine W.widen (k := 1) (n := 6) (by decide) (by decide) ?_
  refine lv_astore_n (lv' := [(3, .ref r_2), (0, .ref a0), (1, .int a1), (2, .int a2)]) hx hb dX8_cut_5 rfl hl (by decide) rfl (fun ls hl => ?_)
  refine lv_aload_n hx hb dX8_cut_6 rfl (lv_at hl 0 rfl) ?_
  obtain ⟨hO9, hw⟩ := hw
  have hFc := p_free hD hS hA
  refine va_calli (va_runV (As := []) (rest := []) ⟨hx, hb, hml, hown, hts⟩ (c_X4_size l dC dI dA zz base L_2 f_2 H.size r_2  _ hw) (cwV 0 hts gX8_cut_X4_size rfl rfl rfl (by decide +kernel) ⟨by decide, by decide⟩) (pPreV [] (ci := 5) rfl hO9 hK hP hD hS hB hz hN hT) rfl rfl hl.1 rfl (lv_room (Nat.le_of_ble_eq_true rfl)) dX8_cut_7 ⟨by decide, by decide⟩) hS (fun q _ h => hFc q h) hFc (fun r_7 u t H1 locs ht hvm hw hB1 hz1 hk1 hS => ?_)
  obtain ⟨L_7, f_7⟩ := u
  obtain ⟨hP, -, hD1⟩ := hB1
  rw [ht] at hP
  have hw := id hw
  have hP : va_P (dC, dI) vwCl (va_pl L_7 f_7) H1 := hP
  have hD : va_D A (va_pl L_7 f_7) := p_gain hD1 hFc
  generalize H1 = H at hP hS ⊢
  refine lv_istore (lv' := [(4, .int r_7), (3, .ref r_2), (0, .ref a0), (1, .int a1), (2, .int a2)]) hx hb dX8_cut_10 hl (by decide) rfl (fun ls hl => ?_)
  refine lv_iload_n hx hb dX8_cut_12 rfl (lv_at hl 4 rfl) ?_
  refine lv_if_lt (tgt := 22) hx hb dX8_cut_13 (by decide) (fun c_13 => ?_) (fun c_13 => ?_)
  · have hw := hw.1 c_13
    refine lv_iconst (v := -1) hx hb dX8_cut_22 (by decide) ?_
    refine vx_ret ?_
    exact W.iret (v := (-1 : Int32)) hx hb hr (fun t ht hW => ⟨⟨(-1 : Int32), (L_7, f_7), rfl, hw, by rw [ht]; exact hP, va_K.moved hW.alike hK, hD⟩, hS.F ht⟩) hS.2.2 dX8_cut_23
  · have hw := hw.2 c_13
    refine lv_iload_n hx hb dX8_cut_16 rfl (lv_at hl 4 rfl) ?_
    refine lv_iload hx hb dX8_cut_17 (lv_at hl 0 rfl) ?_
    refine lv_icmp_le (tgt := 24) hx hb dX8_cut_19 (by decide) (fun c_19 => ?_) (fun c_19 => ?_)
    · have hw := hw.1 c_19
      refine lv_aload_n hx hb dX8_cut_24 rfl (lv_at hl 1 rfl) ?_
      refine lv_iload_n hx hb dX8_cut_25 rfl (lv_at hl 4 rfl) ?_
      obtain ⟨hO9, hw⟩ := hw
      have hFc := p_free hD hS hA
      refine va_callv (va_runV (As := [.int a2]) (rest := []) ⟨hx, hb, hml, hown, hts⟩ (c_X4_shorten l dC dI dA zz base L_7 f_7 H.size r_2 a2 _ hw) (cwV 1 hts gX8_cut_X4_shorten rfl rfl rfl (by decide +kernel) ⟨by decide, by decide⟩) (pPreV [.int a2] (ci := 5) rfl hO9 hK hP hD hS hB hz hN hT) rfl rfl hl.1 rfl (lv_room (Nat.le_of_ble_eq_true rfl)) dX8_cut_26 ⟨by decide, by decide⟩) hS (fun q _ h => hFc q h) hFc (fun u t H1 locs ht hvm hw hB1 hz1 hk1 hS => ?_)
      obtain ⟨L_26, f_26⟩ := u
      obtain ⟨hP, -, hD1⟩ := hB1
      rw [ht] at hP
      have hw := id hw
      have hP : va_P (dC, dI) vwCl (va_pl L_26 f_26) H1 := hP
      have hD : va_D A (va_pl L_26 f_26) := p_gain hD1 hFc
      generalize H1 = H at hP hS ⊢
      refine lv_iload hx hb dX8_cut_29 (lv_at hl 0 rfl) ?_
      refine lv_iload_n hx hb dX8_cut_31 rfl (lv_at hl 4 rfl) ?_
      refine lv_isub hx hb dX8_cut_32 ?_
      refine vx_ret ?_
      exact W.iret (v := (r_7 - a2)) hx hb hr (fun t ht hW => ⟨⟨(r_7 - a2), (L_26, f_26), rfl, hw, by rw [ht]; exact hP, va_K.moved hW.alike hK, hD⟩, hS.F ht⟩) hS.2.2 dX8_cut_33
    · have hw := hw.2 c_19
      refine lv_iconst (v := -1) hx hb dX8_cut_22 (by decide) ?_
      refine vx_ret ?_
      exact W.iret (v := (-1 : Int32)) hx hb hr (fun t ht hW => ⟨⟨(-1 : Int32), (L_7, f_7), rfl, hw, by rw [ht]; exact hP, va_K.moved hW.alike hK, hD⟩, hS.F ht⟩) hS.2.2 dX8_cut_23
set_option maxHeartbeats 4000000 in
set_option maxRecDepth 100000 in
theorem c_X8_cut (l : Launch) (hlt : l.stackTraces = false) (dC : Nat → ClassId) (dI : Nat → Nat → Nat) (dA : Nat → ClassId) (zz : Nat → Nat) (base : Nat) (L : List Nat) (f : pF) (sz : Nat) (a0 : Nat) (a1 : Int32) (a2 : Int32) (Q : Int32 → List Nat → pF → Prop) (X : String → List Nat → pF → Prop) (hw : wp_X8_cut_0 dA zz Q X L f a0 a1 a2) : vx_Met l yX8_cut wsX8_cut rm_X8_cut (va_Pc [.ref a0, .int a1, .int a2] (pPre dC dI dA zz base L f sz)) (va_Qi (fun r (u : List Nat × pF) => Q r u.1 u.2) (pB dC dI dA (va_A (va_pl L f) sz)) (va_A (va_pl L f) sz)) (vx_X (fun (u : String × List Nat × pF) => X u.1 u.2.1 u.2.2) (fun E u t => E = u.1 ∧ pB dC dI dA (va_A (va_pl L f) sz) u.2 t) (va_A (va_pl L f) sz)) 1 6 (va_A (va_pl L f) sz) := by
  refine vx_ofW (cc := cX8_cut) (maxL := 5) (ret := (some .int)) (by decide) rfl ?_
  intro p e s m args below meth c s₁ B hml hnt hv
  obtain ⟨rfl, hsz, hP, hK, hD0, hz, hN, hT⟩ := hv
  subst hsz
  have hl := lv_entry ([.ref a0, .int a1, .int a2]) (n := 5) (Nat.le_of_ble_eq_true rfl)
  rw [lg_entry_eq]
  generalize (lg_sl ([.ref a0, .int a1, .int a2]) ++ List.replicate (5 - (lg_sl ([.ref a0, .int a1, .int a2])).length) Slot.unset).toArray = ls at hl ⊢
  exact tb_X8_cut_0 (Q := Q) (p := p) ⟨⟨B.exec, B.bytes, hml, findClass_of_methodNamed B.named, atoms_spec (ws := wsX8_cut) B.pre, B.returns, B.notSynchronized, fun q h => Or.inr h, hK, pAB hD0 hz, hz, hN, hT⟩, hlt, hnt⟩ L f a0 a1 a2 hw s.heap [] hP (hD0.self (sz := s.heap.size)) va_S.rf ls (lv_sub hl [0, 1, 2] rfl)
theorem lk_X8_byteAt_124 : Cond.classLink RX8 124 "java/util/NoSuchElementException" ∈ wsX8_byteAt := by decide +kernel
theorem lx_X8_byteAt_NSE : ∀ w ∈ (nsAt).filter goodWord, w ∈ wsX8_byteAt := by decide +kernel
theorem lg_X8_byteAt_NSE : ∀ w ∈ Cond.classLink RX8 124 "java/util/NoSuchElementException" :: Cond.initialized "java/util/NoSuchElementException" :: nsAt, vx_ot w = true := by decide +kernel
theorem lz_X8_byteAt_NSE : Cond.initialized "java/util/NoSuchElementException" ∈ wsX8_byteAt := by decide +kernel
abbrev rm_X8_byteAt : Room := { frames := 7, cells := 2, slots := 12, locals := 111 }
def wp_X8_byteAt_28 (dA : Nat → ClassId) (zz : Nat → Nat) (Q : Int32 → List Nat → pF → Prop) (X : String → List Nat → pF → Prop) (L : List Nat) (f : pF) : Prop :=
    (X "java/util/NoSuchElementException" L f)
def wp_X8_byteAt_0 (dA : Nat → ClassId) (zz : Nat → Nat) (Q : Int32 → List Nat → pF → Prop) (X : String → List Nat → pF → Prop) (L : List Nat) (f : pF) (a0 : Nat) (a1 : Int32) (a2 : Int32) : Prop :=
    (isO L f 9 a0 ∧
      (wp_X8_needText_0 dA zz (fun r_2 L_2 f_2 =>
        ((¬ a2 = (-1 : Int32) →
          ((a2 < 0 →
            (wp_X8_byteAt_28 dA zz Q X  L_2 f_2 ))
           ∧ (¬ a2 < 0 →
            (isO L_2 f_2 5 r_2 ∧
              (wp_X4_size_0 dA zz (fun r_22 L_22 f_22 =>
                ((a2 < r_22 →
                  (isO L_22 f_22 5 r_2 ∧
                    (wp_X4_at_0 dA zz (fun r_40 L_40 f_40 =>
                      (Q r_40 L_40 f_40)) L_22 f_22 r_2 a2)))
                 ∧ (¬ a2 < r_22 →
                  (wp_X8_byteAt_28 dA zz Q X  L_22 f_22 )))) L_2 f_2 r_2 )))))
         ∧ (a2 = (-1 : Int32) →
          (isO L_2 f_2 5 r_2 ∧
            (wp_X4_size_0 dA zz (fun r_12 L_12 f_12 =>
              (Q r_12 L_12 f_12)) L_2 f_2 r_2 ))))) X L f a0 a1))
set_option maxHeartbeats 4000000 in
set_option maxRecDepth 100000 in
theorem tb_X8_byteAt_28 {p : Program} {l : Launch} {e : Env} {s : State} {m : MethodId} {below : List Frame} {meth : Method} {c : Code} {args : Array Value} {dC : Nat → ClassId} {dI : Nat → Nat → Nat} {dA : Nat → ClassId} {zz : Nat → Nat} {base : Nat} {A : Nat → Prop} {Q : Int32 → List Nat → pF → Prop} {X : String → List Nat → pF → Prop} (C : pCx p s m args meth c cX8_byteAt 4 (some .int) RX8 wsX8_byteAt A dC dI dA zz base ∧ l.stackTraces = false ∧ (∀ x ∈ c.exceptionTable.toList, False)) : ∀ (L : List Nat) (f : pF) , wp_X8_byteAt_28 dA zz Q X  L f  → pAt p l e rm_X8_byteAt s m args below meth c dC dI A (vx_MQ below (va_Qi (fun r (u : List Nat × pF) => Q r u.1 u.2) (pB dC dI dA A) A) (vx_X (fun (u : String × List Nat × pF) => X u.1 u.2.1 u.2.2) (fun E u t => E = u.1 ∧ pB dC dI dA A u.2 t) A) args s 2 12 A) 1 6 28 4 [] [] L f := by
  obtain ⟨⟨hx, hb, hml, hown, hts, hr, hlocks, hA, hK, hB, hz, hN, hT⟩, hlt, hnt⟩ := id C
  have hout9 : ∀ {pc9 : Nat}, ∀ x ∈ c.exceptionTable.toList, covers x pc9 = false := fun x h => (hnt x h).elim
  intro L f  hw H locs hP hD hS ls hl
  rw [wp_X8_byteAt_28] at hw
  obtain ⟨sa9, hs9⟩ := hN.2.2.2.2.2.2.2.1 (137, "no such byte") (by decide +kernel)
  exact vx_throwN (sup := "java/lang/RuntimeException") (names := ["java/lang/Exception"]) (idx := 13) (bytes := nsB) hx hb hlt (by decide +kernel) (by decide +kernel) (by decide +kernel) (by decide +kernel) hown (by decide +kernel) (by decide +kernel) (by decide +kernel) (hts _ lk_X8_byteAt_124) (hts _ lz_X8_byteAt_NSE) hs9 (vx_hat (fun w h => hts w (lx_X8_byteAt_NSE w h)) pBad_NSE (pBad_of hN.2.2.2.2.2.2.2.2.2.2.2.2.1 hN.2.2.2.2.2.2.2.2.2.2.2.2.2.2.1)) lg_X8_byteAt_NSE (hT.1.narrow hB) (hT.2.1.narrow hB) hS (by rw [hml]; exact hl.1) dX8_byteAt_28 dX8_byteAt_31 dX8_byteAt_32 dX8_byteAt_34 dX8_byteAt_37 hout9 (Nat.le_of_ble_eq_true rfl) (Nat.le_of_ble_eq_true rfl) (Nat.le_of_ble_eq_true rfl) (Nat.le_of_ble_eq_true rfl) hlocks (fun t hvm hsz hk => ⟨("java/util/NoSuchElementException", L, f), hw, ⟨rfl, p_keep hP hk, va_K.moved hvm hK, hD⟩, p_F hS hsz hk⟩) hS.2.2 (by decide) (by decide)
set_option maxHeartbeats 4000000 in
set_option maxRecDepth 100000 in
theorem tb_X8_byteAt_0 {p : Program} {l : Launch} {e : Env} {s : State} {m : MethodId} {below : List Frame} {meth : Method} {c : Code} {args : Array Value} {dC : Nat → ClassId} {dI : Nat → Nat → Nat} {dA : Nat → ClassId} {zz : Nat → Nat} {base : Nat} {A : Nat → Prop} {Q : Int32 → List Nat → pF → Prop} {X : String → List Nat → pF → Prop} (C : pCx p s m args meth c cX8_byteAt 4 (some .int) RX8 wsX8_byteAt A dC dI dA zz base ∧ l.stackTraces = false ∧ (∀ x ∈ c.exceptionTable.toList, False)) : ∀ (L : List Nat) (f : pF) (a0 : Nat) (a1 : Int32) (a2 : Int32), wp_X8_byteAt_0 dA zz Q X  L f a0 a1 a2 → pAt p l e rm_X8_byteAt s m args below meth c dC dI A (vx_MQ below (va_Qi (fun r (u : List Nat × pF) => Q r u.1 u.2) (pB dC dI dA A) A) (vx_X (fun (u : String × List Nat × pF) => X u.1 u.2.1 u.2.2) (fun E u t => E = u.1 ∧ pB dC dI dA A u.2 t) A) args s 2 12 A) 0 0 0 4 [(0, .ref a0), (1, .int a1), (2, .int a2)] [] L f := by
  obtain ⟨⟨hx, hb, hml, hown, hts, hr, hlocks, hA, hK, hB, hz, hN, hT⟩, hlt, hnt⟩ := id C
  have hout9 : ∀ {pc9 : Nat}, ∀ x ∈ c.exceptionTable.toList, covers x pc9 = false := fun x h => (hnt x h).elim
  intro L f a0 a1 a2 hw H locs hP hD hS ls hl
  rw [wp_X8_byteAt_0] at hw
  refine lv_aload_n hx hb dX8_byteAt_0 rfl (lv_at hl 0 rfl) ?_
  refine lv_iload_n hx hb dX8_byteAt_1 rfl (lv_at hl 1 rfl) ?_
  obtain ⟨hO9, hw⟩ := hw
  have hFc := p_free hD hS hA
  refine vx_callr (vx_runV (As := [.int a1]) (rest := []) ⟨hx, hb, hml, hown, hts⟩ (c_X8_needText l hlt dC dI dA zz base L f H.size a0 a1 _ X hw) (cwV 1 hts gX8_byteAt_X8_needText rfl rfl rfl (by decide +kernel) ⟨by decide, by decide⟩) (pPreV [.int a1] (ci := 9) rfl hO9 hK hP hD hS hB hz hN hT) rfl rfl hl.1 rfl (lv_room (Nat.le_of_ble_eq_true rfl)) dX8_byteAt_2 ⟨by decide, by decide⟩) hS (fun q _ h => hFc q h) hFc (fun q _ h => hFc q h) (fun E ce q9 u t H1 locs ht hvm hw hB1 hz1 hk1 hS hce hcv hcl => by
      obtain ⟨E9, L9, f9⟩ := u
      obtain ⟨hE, hP, -, hD1⟩ := hB1
      rw [ht] at hP
      exact vx_out (fun x h => (hnt x h).elim) hlocks hce hcv hcl (fun t9 ht9 hvm9 => ⟨(E9, L9, f9), hw, ⟨hE, by rw [ht9]; exact hP, va_K.moved hvm9 hK, p_gain hD1 hFc⟩, hS.F ht9⟩) hS.2.2 (by decide) (by decide)) (fun u ra t H1 locs ht hvm hw hB1 hz1 hk1 hS => ?_)
  obtain ⟨r_2, L_2, f_2⟩ := u
  obtain ⟨hra, hP, -, hD1⟩ := hB1
  rw [show ra = r_2 from hra]
  rw [ht] at hP
  have hw := id hw
  have hP : va_P (dC, dI) vwCl (va_pl L_2 f_2) H1 := hP
  have hD : va_D A (va_pl L_2 f_2) := p_gain hD1 hFc
  generalize H1 = H at hP hS ⊢
  refine W.eq (g2 := F0 m 5 ls (.ref r_2 :: [])) rfl ?_
  refine W.widen (k := 1) (n := 6) (by decide) (by decide) ?_
  refine lv_astore_n (lv' := [(3, .ref r_2), (0, .ref a0), (1, .int a1), (2, .int a2)]) hx hb dX8_byteAt_5 rfl hl (by decide) rfl (fun ls hl => ?_)
  refine lv_iload_n hx hb dX8_byteAt_6 rfl (lv_at hl 3 rfl) ?_
  refine lv_iconst (v := -1) hx hb dX8_byteAt_7 (by decide) ?_
  refine lv_icmp_ne (tgt := 16) hx hb dX8_byteAt_8 (by decide) (fun c_8 => ?_) (fun c_8 => ?_)
  · have hw := hw.1 c_8
    refine lv_iload_n hx hb dX8_byteAt_16 rfl (lv_at hl 3 rfl) ?_
    refine lv_if_lt (tgt := 28) hx hb dX8_byteAt_17 (by decide) (fun c_17 => ?_) (fun c_17 => ?_)
    · have hw := hw.1 c_17
      exact tb_X8_byteAt_28 C  L_2 f_2  hw H locs hP hD hS ls (lv_sub hl [] rfl)
    · have hw := hw.2 c_17
      refine lv_iload_n hx hb dX8_byteAt_20 rfl (lv_at hl 3 rfl) ?_
      refine lv_aload_n hx hb dX8_byteAt_21 rfl (lv_at hl 0 rfl) ?_
      obtain ⟨hO9, hw⟩ := hw
      have hFc := p_free hD hS hA
      refine va_calli (va_runV (As := []) (rest := [.int a2]) ⟨hx, hb, hml, hown, hts⟩ (c_X4_size l dC dI dA zz base L_2 f_2 H.size r_2  _ hw) (cwV 0 hts gX8_byteAt_X4_size rfl rfl rfl (by decide +kernel) ⟨by decide, by decide⟩) (pPreV [] (ci := 5) rfl hO9 hK hP hD hS hB hz hN hT) rfl rfl hl.1 rfl (lv_room (Nat.le_of_ble_eq_true rfl)) dX8_byteAt_22 ⟨by decide, by decide⟩) hS (fun q _ h => hFc q h) hFc (fun r_22 u t H1 locs ht hvm hw hB1 hz1 hk1 hS => ?_)
      obtain ⟨L_22, f_22⟩ := u
      obtain ⟨hP, -, hD1⟩ := hB1
      rw [ht] at hP
      have hw := id hw
      have hP : va_P (dC, dI) vwCl (va_pl L_22 f_22) H1 := hP
      have hD : va_D A (va_pl L_22 f_22) := p_gain hD1 hFc
      generalize H1 = H at hP hS ⊢
      refine lv_icmp_lt (tgt := 38) hx hb dX8_byteAt_25 (by decide) (fun c_25 => ?_) (fun c_25 => ?_)
      · have hw := hw.1 c_25
        refine lv_aload_n hx hb dX8_byteAt_38 rfl (lv_at hl 0 rfl) ?_
        refine lv_iload_n hx hb dX8_byteAt_39 rfl (lv_at hl 3 rfl) ?_
        obtain ⟨hO9, hw⟩ := hw
        have hFc := p_free hD hS hA
        refine va_calli (va_runV (As := [.int a2]) (rest := []) ⟨hx, hb, hml, hown, hts⟩ (c_X4_at l dC dI dA zz base L_22 f_22 H.size r_2 a2 _ hw) (cwV 1 hts gX8_byteAt_X4_at rfl rfl rfl (by decide +kernel) ⟨by decide, by decide⟩) (pPreV [.int a2] (ci := 5) rfl hO9 hK hP hD hS hB hz hN hT) rfl rfl hl.1 rfl (lv_room (Nat.le_of_ble_eq_true rfl)) dX8_byteAt_40 ⟨by decide, by decide⟩) hS (fun q _ h => hFc q h) hFc (fun r_40 u t H1 locs ht hvm hw hB1 hz1 hk1 hS => ?_)
        obtain ⟨L_40, f_40⟩ := u
        obtain ⟨hP, -, hD1⟩ := hB1
        rw [ht] at hP
        have hw := id hw
        have hP : va_P (dC, dI) vwCl (va_pl L_40 f_40) H1 := hP
        have hD : va_D A (va_pl L_40 f_40) := p_gain hD1 hFc
        generalize H1 = H at hP hS ⊢
        refine W.widen (k := 2) (n := 12) (by decide) (by decide) ?_
        refine vx_ret ?_
        exact W.iret (v := r_40) hx hb hr (fun t ht hW => ⟨⟨r_40, (L_40, f_40), rfl, hw, by rw [ht]; exact hP, va_K.moved hW.alike hK, hD⟩, hS.F ht⟩) hS.2.2 dX8_byteAt_43
      · have hw := hw.2 c_25
        exact tb_X8_byteAt_28 C  L_22 f_22  hw H locs hP hD hS ls (lv_sub hl [] rfl)
  · have hw := hw.2 c_8
    refine lv_aload_n hx hb dX8_byteAt_11 rfl (lv_at hl 0 rfl) ?_
    obtain ⟨hO9, hw⟩ := hw
    have hFc := p_free hD hS hA
    refine va_calli (va_runV (As := []) (rest := []) ⟨hx, hb, hml, hown, hts⟩ (c_X4_size l dC dI dA zz base L_2 f_2 H.size r_2  _ hw) (cwV 0 hts gX8_byteAt_X4_size rfl rfl rfl (by decide +kernel) ⟨by decide, by decide⟩) (pPreV [] (ci := 5) rfl hO9 hK hP hD hS hB hz hN hT) rfl rfl hl.1 rfl (lv_room (Nat.le_of_ble_eq_true rfl)) dX8_byteAt_12 ⟨by decide, by decide⟩) hS (fun q _ h => hFc q h) hFc (fun r_12 u t H1 locs ht hvm hw hB1 hz1 hk1 hS => ?_)
    obtain ⟨L_12, f_12⟩ := u
    obtain ⟨hP, -, hD1⟩ := hB1
    rw [ht] at hP
    have hw := id hw
    have hP : va_P (dC, dI) vwCl (va_pl L_12 f_12) H1 := hP
    have hD : va_D A (va_pl L_12 f_12) := p_gain hD1 hFc
    generalize H1 = H at hP hS ⊢
    refine W.widen (k := 2) (n := 12) (by decide) (by decide) ?_
    refine vx_ret ?_
    exact W.iret (v := r_12) hx hb hr (fun t ht hW => ⟨⟨r_12, (L_12, f_12), rfl, hw, by rw [ht]; exact hP, va_K.moved hW.alike hK, hD⟩, hS.F ht⟩) hS.2.2 dX8_byteAt_15
set_option maxHeartbeats 4000000 in
set_option maxRecDepth 100000 in
theorem c_X8_byteAt (l : Launch) (hlt : l.stackTraces = false) (dC : Nat → ClassId) (dI : Nat → Nat → Nat) (dA : Nat → ClassId) (zz : Nat → Nat) (base : Nat) (L : List Nat) (f : pF) (sz : Nat) (a0 : Nat) (a1 : Int32) (a2 : Int32) (Q : Int32 → List Nat → pF → Prop) (X : String → List Nat → pF → Prop) (hw : wp_X8_byteAt_0 dA zz Q X L f a0 a1 a2) : vx_Met l yX8_byteAt wsX8_byteAt rm_X8_byteAt (va_Pc [.ref a0, .int a1, .int a2] (pPre dC dI dA zz base L f sz)) (va_Qi (fun r (u : List Nat × pF) => Q r u.1 u.2) (pB dC dI dA (va_A (va_pl L f) sz)) (va_A (va_pl L f) sz)) (vx_X (fun (u : String × List Nat × pF) => X u.1 u.2.1 u.2.2) (fun E u t => E = u.1 ∧ pB dC dI dA (va_A (va_pl L f) sz) u.2 t) (va_A (va_pl L f) sz)) 2 12 (va_A (va_pl L f) sz) := by
  refine vx_ofW (cc := cX8_byteAt) (maxL := 4) (ret := (some .int)) (by decide) rfl ?_
  intro p e s m args below meth c s₁ B hml hnt hv
  obtain ⟨rfl, hsz, hP, hK, hD0, hz, hN, hT⟩ := hv
  subst hsz
  have hl := lv_entry ([.ref a0, .int a1, .int a2]) (n := 4) (Nat.le_of_ble_eq_true rfl)
  rw [lg_entry_eq]
  generalize (lg_sl ([.ref a0, .int a1, .int a2]) ++ List.replicate (4 - (lg_sl ([.ref a0, .int a1, .int a2])).length) Slot.unset).toArray = ls at hl ⊢
  exact tb_X8_byteAt_0 (Q := Q) (p := p) ⟨⟨B.exec, B.bytes, hml, findClass_of_methodNamed B.named, atoms_spec (ws := wsX8_byteAt) B.pre, B.returns, B.notSynchronized, fun q h => Or.inr h, hK, pAB hD0 hz, hz, hN, hT⟩, hlt, hnt⟩ L f a0 a1 a2 hw s.heap [] hP (hD0.self (sz := s.heap.size)) va_S.rf ls (lv_sub hl [0, 1, 2] rfl)
theorem iw_X8_uses_RX8 : ∀ w ∈ u_ws RX8 TX8 6, w ∈ wsX8_uses := by decide +kernel
theorem lk_X8_uses_41 : Cond.fieldLink RX8 41 "TermKeeper" "found" "LTermKeeper$Uses;" ∈ wsX8_uses := by decide +kernel
abbrev rm_X8_uses : Room := { frames := 8, cells := 1, slots := 6, locals := 185 }
def wp_X8_uses_0 (dA : Nat → ClassId) (zz : Nat → Nat) (Q : Int32 → List Nat → pF → Prop) (X : String → List Nat → pF → Prop) (L : List Nat) (f : pF) (a0 : Nat) (a1 : Int32) : Prop :=
    (gR L f 9 a0 4 (fun g_1 =>
      (isO L f 9 a0 ∧
        (wp_X8_needText_0 dA zz (fun r_6 L_6 f_6 =>
          (isO L_6 f_6 7 g_1 ∧
            (wp_X6_read_0 dA zz (fun L_9 f_9 =>
              (gR L_9 f_9 9 a0 4 (fun g_13 =>
                (isO L_9 f_9 7 g_13 ∧
                  (wp_X6_size_0 dA zz (fun r_16 L_16 f_16 =>
                    (Q r_16 L_16 f_16)) L_9 f_9 g_13 ))))) L_6 f_6 g_1 r_6))) X L f a0 a1))))
set_option maxHeartbeats 4000000 in
set_option maxRecDepth 100000 in
theorem tb_X8_uses_0 {p : Program} {l : Launch} {e : Env} {s : State} {m : MethodId} {below : List Frame} {meth : Method} {c : Code} {args : Array Value} {dC : Nat → ClassId} {dI : Nat → Nat → Nat} {dA : Nat → ClassId} {zz : Nat → Nat} {base : Nat} {A : Nat → Prop} {Q : Int32 → List Nat → pF → Prop} {X : String → List Nat → pF → Prop} (C : pCx p s m args meth c cX8_uses 2 (some .int) RX8 wsX8_uses A dC dI dA zz base ∧ l.stackTraces = false ∧ (∀ x ∈ c.exceptionTable.toList, False)) : ∀ (L : List Nat) (f : pF) (a0 : Nat) (a1 : Int32), wp_X8_uses_0 dA zz Q X  L f a0 a1 → pAt p l e rm_X8_uses s m args below meth c dC dI A (vx_MQ below (va_Qi (fun r (u : List Nat × pF) => Q r u.1 u.2) (pB dC dI dA A) A) (vx_X (fun (u : String × List Nat × pF) => X u.1 u.2.1 u.2.2) (fun E u t => E = u.1 ∧ pB dC dI dA A u.2 t) A) args s 1 6 A) 0 0 0 2 [(0, .ref a0), (1, .int a1)] [] L f := by
  obtain ⟨⟨hx, hb, hml, hown, hts, hr, hlocks, hA, hK, hB, hz, hN, hT⟩, hlt, hnt⟩ := id C
  have hout9 : ∀ {pc9 : Nat}, ∀ x ∈ c.exceptionTable.toList, covers x pc9 = false := fun x h => (hnt x h).elim
  intro L f a0 a1 hw H locs hP hD hS ls hl
  rw [wp_X8_uses_0] at hw
  refine lv_aload_n hx hb dX8_uses_0 rfl (lv_at hl 0 rfl) ?_
  obtain ⟨fs_1, g_1, ⟨hL9, hf9, hn9⟩, hw⟩ := hw
  refine va_get (D := (dC, dI)) (ci := 9) (v := .ref g_1) (C := RX8) (T := TX8) (N := 6) hx hb hts iw_X8_uses_RX8 hown hK (p_one hP hL9 hf9) 0 rfl rfl 4 (by decide) (hts _ lk_X8_uses_41) (fun _ h9 => h9) hn9 dX8_uses_1 ?_
  refine lv_aload_n hx hb dX8_uses_4 rfl (lv_at hl 0 rfl) ?_
  refine lv_iload_n hx hb dX8_uses_5 rfl (lv_at hl 1 rfl) ?_
  obtain ⟨hO9, hw⟩ := hw
  have hFc := p_free hD hS hA
  refine vx_callr (vx_runV (As := [.int a1]) (rest := [.ref g_1]) ⟨hx, hb, hml, hown, hts⟩ (c_X8_needText l hlt dC dI dA zz base L f H.size a0 a1 _ X hw) (cwV 1 hts gX8_uses_X8_needText rfl rfl rfl (by decide +kernel) ⟨by decide, by decide⟩) (pPreV [.int a1] (ci := 9) rfl hO9 hK hP hD hS hB hz hN hT) rfl rfl hl.1 rfl (lv_room (Nat.le_of_ble_eq_true rfl)) dX8_uses_6 ⟨by decide, by decide⟩) hS (fun q _ h => hFc q h) hFc (fun q _ h => hFc q h) (fun E ce q9 u t H1 locs ht hvm hw hB1 hz1 hk1 hS hce hcv hcl => by
      obtain ⟨E9, L9, f9⟩ := u
      obtain ⟨hE, hP, -, hD1⟩ := hB1
      rw [ht] at hP
      exact vx_out (fun x h => (hnt x h).elim) hlocks hce hcv hcl (fun t9 ht9 hvm9 => ⟨(E9, L9, f9), hw, ⟨hE, by rw [ht9]; exact hP, va_K.moved hvm9 hK, p_gain hD1 hFc⟩, hS.F ht9⟩) hS.2.2 (by decide) (by decide)) (fun u ra t H1 locs ht hvm hw hB1 hz1 hk1 hS => ?_)
  obtain ⟨r_6, L_6, f_6⟩ := u
  obtain ⟨hra, hP, -, hD1⟩ := hB1
  rw [show ra = r_6 from hra]
  rw [ht] at hP
  have hw := id hw
  have hP : va_P (dC, dI) vwCl (va_pl L_6 f_6) H1 := hP
  have hD : va_D A (va_pl L_6 f_6) := p_gain hD1 hFc
  generalize H1 = H at hP hS ⊢
  refine W.eq (g2 := F0 m 9 ls (.ref r_6 :: [.ref g_1])) rfl ?_
  refine W.widen (k := 1) (n := 6) (by decide) (by decide) ?_
  obtain ⟨hO9, hw⟩ := hw
  have hFc := p_free hD hS hA
  refine va_callv (va_runV (As := [.ref r_6]) (rest := []) ⟨hx, hb, hml, hown, hts⟩ (c_X6_read l dC dI dA zz base L_6 f_6 H.size g_1 r_6 _ hw) (cwV 1 hts gX8_uses_X6_read rfl rfl rfl (by decide +kernel) ⟨by decide, by decide⟩) (pPreV [.ref r_6] (ci := 7) rfl hO9 hK hP hD hS hB hz hN hT) rfl rfl hl.1 rfl (lv_room (Nat.le_of_ble_eq_true rfl)) dX8_uses_9 ⟨by decide, by decide⟩) hS (fun q _ h => hFc q h) hFc (fun u t H1 locs ht hvm hw hB1 hz1 hk1 hS => ?_)
  obtain ⟨L_9, f_9⟩ := u
  obtain ⟨hP, -, hD1⟩ := hB1
  rw [ht] at hP
  have hw := id hw
  have hP : va_P (dC, dI) vwCl (va_pl L_9 f_9) H1 := hP
  have hD : va_D A (va_pl L_9 f_9) := p_gain hD1 hFc
  generalize H1 = H at hP hS ⊢
  refine lv_aload_n hx hb dX8_uses_12 rfl (lv_at hl 0 rfl) ?_
  obtain ⟨fs_13, g_13, ⟨hL9, hf9, hn9⟩, hw⟩ := hw
  refine va_get (D := (dC, dI)) (ci := 9) (v := .ref g_13) (C := RX8) (T := TX8) (N := 6) hx hb hts iw_X8_uses_RX8 hown hK (p_one hP hL9 hf9) 0 rfl rfl 4 (by decide) (hts _ lk_X8_uses_41) (fun _ h9 => h9) hn9 dX8_uses_13 ?_
  obtain ⟨hO9, hw⟩ := hw
  have hFc := p_free hD hS hA
  refine va_calli (va_runV (As := []) (rest := []) ⟨hx, hb, hml, hown, hts⟩ (c_X6_size l dC dI dA zz base L_9 f_9 H.size g_13  _ hw) (cwV 0 hts gX8_uses_X6_size rfl rfl rfl (by decide +kernel) ⟨by decide, by decide⟩) (pPreV [] (ci := 7) rfl hO9 hK hP hD hS hB hz hN hT) rfl rfl hl.1 rfl (lv_room (Nat.le_of_ble_eq_true rfl)) dX8_uses_16 ⟨by decide, by decide⟩) hS (fun q _ h => hFc q h) hFc (fun r_16 u t H1 locs ht hvm hw hB1 hz1 hk1 hS => ?_)
  obtain ⟨L_16, f_16⟩ := u
  obtain ⟨hP, -, hD1⟩ := hB1
  rw [ht] at hP
  have hw := id hw
  have hP : va_P (dC, dI) vwCl (va_pl L_16 f_16) H1 := hP
  have hD : va_D A (va_pl L_16 f_16) := p_gain hD1 hFc
  generalize H1 = H at hP hS ⊢
  refine vx_ret ?_
  exact W.iret (v := r_16) hx hb hr (fun t ht hW => ⟨⟨r_16, (L_16, f_16), rfl, hw, by rw [ht]; exact hP, va_K.moved hW.alike hK, hD⟩, hS.F ht⟩) hS.2.2 dX8_uses_19
set_option maxHeartbeats 4000000 in
set_option maxRecDepth 100000 in
theorem c_X8_uses (l : Launch) (hlt : l.stackTraces = false) (dC : Nat → ClassId) (dI : Nat → Nat → Nat) (dA : Nat → ClassId) (zz : Nat → Nat) (base : Nat) (L : List Nat) (f : pF) (sz : Nat) (a0 : Nat) (a1 : Int32) (Q : Int32 → List Nat → pF → Prop) (X : String → List Nat → pF → Prop) (hw : wp_X8_uses_0 dA zz Q X L f a0 a1) : vx_Met l yX8_uses wsX8_uses rm_X8_uses (va_Pc [.ref a0, .int a1] (pPre dC dI dA zz base L f sz)) (va_Qi (fun r (u : List Nat × pF) => Q r u.1 u.2) (pB dC dI dA (va_A (va_pl L f) sz)) (va_A (va_pl L f) sz)) (vx_X (fun (u : String × List Nat × pF) => X u.1 u.2.1 u.2.2) (fun E u t => E = u.1 ∧ pB dC dI dA (va_A (va_pl L f) sz) u.2 t) (va_A (va_pl L f) sz)) 1 6 (va_A (va_pl L f) sz) := by
  refine vx_ofW (cc := cX8_uses) (maxL := 2) (ret := (some .int)) (by decide) rfl ?_
  intro p e s m args below meth c s₁ B hml hnt hv
  obtain ⟨rfl, hsz, hP, hK, hD0, hz, hN, hT⟩ := hv
  subst hsz
  have hl := lv_entry ([.ref a0, .int a1]) (n := 2) (Nat.le_of_ble_eq_true rfl)
  rw [lg_entry_eq]
  generalize (lg_sl ([.ref a0, .int a1]) ++ List.replicate (2 - (lg_sl ([.ref a0, .int a1])).length) Slot.unset).toArray = ls at hl ⊢
  exact tb_X8_uses_0 (Q := Q) (p := p) ⟨⟨B.exec, B.bytes, hml, findClass_of_methodNamed B.named, atoms_spec (ws := wsX8_uses) B.pre, B.returns, B.notSynchronized, fun q h => Or.inr h, hK, pAB hD0 hz, hz, hN, hT⟩, hlt, hnt⟩ L f a0 a1 hw s.heap [] hP (hD0.self (sz := s.heap.size)) va_S.rf ls (lv_sub hl [0, 1] rfl)
theorem iw_X8_use_RX8 : ∀ w ∈ u_ws RX8 TX8 6, w ∈ wsX8_use := by decide +kernel
theorem lk_X8_use_124 : Cond.classLink RX8 124 "java/util/NoSuchElementException" ∈ wsX8_use := by decide +kernel
theorem lk_X8_use_41 : Cond.fieldLink RX8 41 "TermKeeper" "found" "LTermKeeper$Uses;" ∈ wsX8_use := by decide +kernel
theorem lx_X8_use_NSE : ∀ w ∈ (nsAt).filter goodWord, w ∈ wsX8_use := by decide +kernel
theorem lg_X8_use_NSE : ∀ w ∈ Cond.classLink RX8 124 "java/util/NoSuchElementException" :: Cond.initialized "java/util/NoSuchElementException" :: nsAt, vx_ot w = true := by decide +kernel
theorem lz_X8_use_NSE : Cond.initialized "java/util/NoSuchElementException" ∈ wsX8_use := by decide +kernel
abbrev rm_X8_use : Room := { frames := 8, cells := 2, slots := 12, locals := 185 }
def wp_X8_use_27 (dA : Nat → ClassId) (zz : Nat → Nat) (Q : Int32 → List Nat → pF → Prop) (X : String → List Nat → pF → Prop) (L : List Nat) (f : pF) : Prop :=
    (X "java/util/NoSuchElementException" L f)
def wp_X8_use_0 (dA : Nat → ClassId) (zz : Nat → Nat) (Q : Int32 → List Nat → pF → Prop) (X : String → List Nat → pF → Prop) (L : List Nat) (f : pF) (a0 : Nat) (a1 : Int32) (a2 : Int32) (a3 : Int32) : Prop :=
    (gR L f 9 a0 4 (fun g_1 =>
      (isO L f 9 a0 ∧
        (wp_X8_needText_0 dA zz (fun r_6 L_6 f_6 =>
          (isO L_6 f_6 7 g_1 ∧
            (wp_X6_read_0 dA zz (fun L_9 f_9 =>
              ((a2 < 0 →
                (wp_X8_use_27 dA zz Q X  L_9 f_9 ))
               ∧ (¬ a2 < 0 →
                (gR L_9 f_9 9 a0 4 (fun g_18 =>
                  (isO L_9 f_9 7 g_18 ∧
                    (wp_X6_size_0 dA zz (fun r_21 L_21 f_21 =>
                      ((a2 < r_21 →
                        (
                         (a3 = 0 →
                          (gR L_21 f_21 9 a0 4 (fun g_73 =>
                            (isO L_21 f_21 7 g_73 ∧
                              (wp_X6_beginOf_0 dA zz (fun r_77 L_77 f_77 =>
                                (Q r_77 L_77 f_77)) L_21 f_21 g_73 a2))))) ∧
                         (a3 = 1 →
                          (gR L_21 f_21 9 a0 4 (fun g_82 =>
                            (isO L_21 f_21 7 g_82 ∧
                              (wp_X6_endOf_0 dA zz (fun r_86 L_86 f_86 =>
                                (Q r_86 L_86 f_86)) L_21 f_21 g_82 a2))))) ∧
                         (a3 = 2 →
                          (gR L_21 f_21 9 a0 4 (fun g_91 =>
                            (isO L_21 f_21 7 g_91 ∧
                              (wp_X6_termOf_0 dA zz (fun r_95 L_95 f_95 =>
                                (Q r_95 L_95 f_95)) L_21 f_21 g_91 a2))))) ∧
                         (a3 = 3 →
                          (gR L_21 f_21 9 a0 4 (fun g_100 =>
                            (isO L_21 f_21 7 g_100 ∧
                              (wp_X6_endingOf_0 dA zz (fun r_104 L_104 f_104 =>
                                (Q r_104 L_104 f_104)) L_21 f_21 g_100 a2))))) ∧
                         (a3 = 4 →
                          (gR L_21 f_21 9 a0 4 (fun g_109 =>
                            (isO L_21 f_21 7 g_109 ∧
                              (wp_X6_findingOf_0 dA zz (fun r_113 L_113 f_113 =>
                                (Q r_113 L_113 f_113)) L_21 f_21 g_109 a2))))) ∧
                         (¬ a3 = 0 → ¬ a3 = 1 → ¬ a3 = 2 → ¬ a3 = 3 → ¬ a3 = 4 →
                          (X "java/util/NoSuchElementException" L_21 f_21))))
                       ∧ (¬ a2 < r_21 →
                        (wp_X8_use_27 dA zz Q X  L_21 f_21 )))) L_9 f_9 g_18 ))))))) L_6 f_6 g_1 r_6))) X L f a0 a1))))
set_option maxHeartbeats 4000000 in
set_option maxRecDepth 100000 in
theorem tb_X8_use_27 {p : Program} {l : Launch} {e : Env} {s : State} {m : MethodId} {below : List Frame} {meth : Method} {c : Code} {args : Array Value} {dC : Nat → ClassId} {dI : Nat → Nat → Nat} {dA : Nat → ClassId} {zz : Nat → Nat} {base : Nat} {A : Nat → Prop} {Q : Int32 → List Nat → pF → Prop} {X : String → List Nat → pF → Prop} (C : pCx p s m args meth c cX8_use 4 (some .int) RX8 wsX8_use A dC dI dA zz base ∧ l.stackTraces = false ∧ (∀ x ∈ c.exceptionTable.toList, False)) : ∀ (L : List Nat) (f : pF) , wp_X8_use_27 dA zz Q X  L f  → pAt p l e rm_X8_use s m args below meth c dC dI A (vx_MQ below (va_Qi (fun r (u : List Nat × pF) => Q r u.1 u.2) (pB dC dI dA A) A) (vx_X (fun (u : String × List Nat × pF) => X u.1 u.2.1 u.2.2) (fun E u t => E = u.1 ∧ pB dC dI dA A u.2 t) A) args s 2 12 A) 1 6 27 4 [] [] L f := by
  obtain ⟨⟨hx, hb, hml, hown, hts, hr, hlocks, hA, hK, hB, hz, hN, hT⟩, hlt, hnt⟩ := id C
  have hout9 : ∀ {pc9 : Nat}, ∀ x ∈ c.exceptionTable.toList, covers x pc9 = false := fun x h => (hnt x h).elim
  intro L f  hw H locs hP hD hS ls hl
  rw [wp_X8_use_27] at hw
  obtain ⟨sa9, hs9⟩ := hN.2.2.2.2.2.2.2.1 (148, "no such use") (by decide +kernel)
  exact vx_throwN (sup := "java/lang/RuntimeException") (names := ["java/lang/Exception"]) (idx := 13) (bytes := nsB) hx hb hlt (by decide +kernel) (by decide +kernel) (by decide +kernel) (by decide +kernel) hown (by decide +kernel) (by decide +kernel) (by decide +kernel) (hts _ lk_X8_use_124) (hts _ lz_X8_use_NSE) hs9 (vx_hat (fun w h => hts w (lx_X8_use_NSE w h)) pBad_NSE (pBad_of hN.2.2.2.2.2.2.2.2.2.2.2.2.1 hN.2.2.2.2.2.2.2.2.2.2.2.2.2.2.1)) lg_X8_use_NSE (hT.1.narrow hB) (hT.2.1.narrow hB) hS (by rw [hml]; exact hl.1) dX8_use_27 dX8_use_30 dX8_use_31 dX8_use_33 dX8_use_36 hout9 (Nat.le_of_ble_eq_true rfl) (Nat.le_of_ble_eq_true rfl) (Nat.le_of_ble_eq_true rfl) (Nat.le_of_ble_eq_true rfl) hlocks (fun t hvm hsz hk => ⟨("java/util/NoSuchElementException", L, f), hw, ⟨rfl, p_keep hP hk, va_K.moved hvm hK, hD⟩, p_F hS hsz hk⟩) hS.2.2 (by decide) (by decide)
set_option maxHeartbeats 4000000 in
set_option maxRecDepth 100000 in
theorem tb_X8_use_0 {p : Program} {l : Launch} {e : Env} {s : State} {m : MethodId} {below : List Frame} {meth : Method} {c : Code} {args : Array Value} {dC : Nat → ClassId} {dI : Nat → Nat → Nat} {dA : Nat → ClassId} {zz : Nat → Nat} {base : Nat} {A : Nat → Prop} {Q : Int32 → List Nat → pF → Prop} {X : String → List Nat → pF → Prop} (C : pCx p s m args meth c cX8_use 4 (some .int) RX8 wsX8_use A dC dI dA zz base ∧ l.stackTraces = false ∧ (∀ x ∈ c.exceptionTable.toList, False)) : ∀ (L : List Nat) (f : pF) (a0 : Nat) (a1 : Int32) (a2 : Int32) (a3 : Int32), wp_X8_use_0 dA zz Q X  L f a0 a1 a2 a3 → pAt p l e rm_X8_use s m args below meth c dC dI A (vx_MQ below (va_Qi (fun r (u : List Nat × pF) => Q r u.1 u.2) (pB dC dI dA A) A) (vx_X (fun (u : String × List Nat × pF) => X u.1 u.2.1 u.2.2) (fun E u t => E = u.1 ∧ pB dC dI dA A u.2 t) A) args s 2 12 A) 0 0 0 4 [(0, .ref a0), (1, .int a1), (2, .int a2), (3, .int a3)] [] L f := by
  obtain ⟨⟨hx, hb, hml, hown, hts, hr, hlocks, hA, hK, hB, hz, hN, hT⟩, hlt, hnt⟩ := id C
  have hout9 : ∀ {pc9 : Nat}, ∀ x ∈ c.exceptionTable.toList, covers x pc9 = false := fun x h => (hnt x h).elim
  intro L f a0 a1 a2 a3 hw H locs hP hD hS ls hl
  rw [wp_X8_use_0] at hw
  refine lv_aload_n hx hb dX8_use_0 rfl (lv_at hl 0 rfl) ?_
  obtain ⟨fs_1, g_1, ⟨hL9, hf9, hn9⟩, hw⟩ := hw
  refine va_get (D := (dC, dI)) (ci := 9) (v := .ref g_1) (C := RX8) (T := TX8) (N := 6) hx hb hts iw_X8_use_RX8 hown hK (p_one hP hL9 hf9) 0 rfl rfl 4 (by decide) (hts _ lk_X8_use_41) (fun _ h9 => h9) hn9 dX8_use_1 ?_
  refine lv_aload_n hx hb dX8_use_4 rfl (lv_at hl 0 rfl) ?_
  refine lv_iload_n hx hb dX8_use_5 rfl (lv_at hl 1 rfl) ?_
  obtain ⟨hO9, hw⟩ := hw
  have hFc := p_free hD hS hA
  refine vx_callr (vx_runV (As := [.int a1]) (rest := [.ref g_1]) ⟨hx, hb, hml, hown, hts⟩ (c_X8_needText l hlt dC dI dA zz base L f H.size a0 a1 _ X hw) (cwV 1 hts gX8_use_X8_needText rfl rfl rfl (by decide +kernel) ⟨by decide, by decide⟩) (pPreV [.int a1] (ci := 9) rfl hO9 hK hP hD hS hB hz hN hT) rfl rfl hl.1 rfl (lv_room (Nat.le_of_ble_eq_true rfl)) dX8_use_6 ⟨by decide, by decide⟩) hS (fun q _ h => hFc q h) hFc (fun q _ h => hFc q h) (fun E ce q9 u t H1 locs ht hvm hw hB1 hz1 hk1 hS hce hcv hcl => by
      obtain ⟨E9, L9, f9⟩ := u
      obtain ⟨hE, hP, -, hD1⟩ := hB1
      rw [ht] at hP
      exact vx_out (fun x h => (hnt x h).elim) hlocks hce hcv hcl (fun t9 ht9 hvm9 => ⟨(E9, L9, f9), hw, ⟨hE, by rw [ht9]; exact hP, va_K.moved hvm9 hK, p_gain hD1 hFc⟩, hS.F ht9⟩) hS.2.2 (by decide) (by decide)) (fun u ra t H1 locs ht hvm hw hB1 hz1 hk1 hS => ?_)
  obtain ⟨r_6, L_6, f_6⟩ := u
  obtain ⟨hra, hP, -, hD1⟩ := hB1
  rw [show ra = r_6 from hra]
  rw [ht] at hP
  have hw := id hw
  have hP : va_P (dC, dI) vwCl (va_pl L_6 f_6) H1 := hP
  have hD : va_D A (va_pl L_6 f_6) := p_gain hD1 hFc
  generalize H1 = H at hP hS ⊢
  refine W.eq (g2 := F0 m 9 ls (.ref r_6 :: [.ref g_1])) rfl ?_
  refine W.widen (k := 1) (n := 6) (by decide) (by decide) ?_
  obtain ⟨hO9, hw⟩ := hw
  have hFc := p_free hD hS hA
  refine va_callv (va_runV (As := [.ref r_6]) (rest := []) ⟨hx, hb, hml, hown, hts⟩ (c_X6_read l dC dI dA zz base L_6 f_6 H.size g_1 r_6 _ hw) (cwV 1 hts gX8_use_X6_read rfl rfl rfl (by decide +kernel) ⟨by decide, by decide⟩) (pPreV [.ref r_6] (ci := 7) rfl hO9 hK hP hD hS hB hz hN hT) rfl rfl hl.1 rfl (lv_room (Nat.le_of_ble_eq_true rfl)) dX8_use_9 ⟨by decide, by decide⟩) hS (fun q _ h => hFc q h) hFc (fun u t H1 locs ht hvm hw hB1 hz1 hk1 hS => ?_)
  obtain ⟨L_9, f_9⟩ := u
  obtain ⟨hP, -, hD1⟩ := hB1
  rw [ht] at hP
  have hw := id hw
  have hP : va_P (dC, dI) vwCl (va_pl L_9 f_9) H1 := hP
  have hD : va_D A (va_pl L_9 f_9) := p_gain hD1 hFc
  generalize H1 = H at hP hS ⊢
  refine lv_iload_n hx hb dX8_use_12 rfl (lv_at hl 2 rfl) ?_
  refine lv_if_lt (tgt := 27) hx hb dX8_use_13 (by decide) (fun c_13 => ?_) (fun c_13 => ?_)
  · have hw := hw.1 c_13
    exact tb_X8_use_27 C  L_9 f_9  hw H locs hP hD hS ls (lv_sub hl [] rfl)
  · have hw := hw.2 c_13
    refine lv_iload_n hx hb dX8_use_16 rfl (lv_at hl 2 rfl) ?_
    refine lv_aload_n hx hb dX8_use_17 rfl (lv_at hl 0 rfl) ?_
    obtain ⟨fs_18, g_18, ⟨hL9, hf9, hn9⟩, hw⟩ := hw
    refine va_get (D := (dC, dI)) (ci := 9) (v := .ref g_18) (C := RX8) (T := TX8) (N := 6) hx hb hts iw_X8_use_RX8 hown hK (p_one hP hL9 hf9) 0 rfl rfl 4 (by decide) (hts _ lk_X8_use_41) (fun _ h9 => h9) hn9 dX8_use_18 ?_
    obtain ⟨hO9, hw⟩ := hw
    have hFc := p_free hD hS hA
    refine va_calli (va_runV (As := []) (rest := [.int a2]) ⟨hx, hb, hml, hown, hts⟩ (c_X6_size l dC dI dA zz base L_9 f_9 H.size g_18  _ hw) (cwV 0 hts gX8_use_X6_size rfl rfl rfl (by decide +kernel) ⟨by decide, by decide⟩) (pPreV [] (ci := 7) rfl hO9 hK hP hD hS hB hz hN hT) rfl rfl hl.1 rfl (lv_room (Nat.le_of_ble_eq_true rfl)) dX8_use_21 ⟨by decide, by decide⟩) hS (fun q _ h => hFc q h) hFc (fun r_21 u t H1 locs ht hvm hw hB1 hz1 hk1 hS => ?_)
    obtain ⟨L_21, f_21⟩ := u
    obtain ⟨hP, -, hD1⟩ := hB1
    rw [ht] at hP
    have hw := id hw
    have hP : va_P (dC, dI) vwCl (va_pl L_21 f_21) H1 := hP
    have hD : va_D A (va_pl L_21 f_21) := p_gain hD1 hFc
    generalize H1 = H at hP hS ⊢
    refine lv_icmp_lt (tgt := 37) hx hb dX8_use_24 (by decide) (fun c_24 => ?_) (fun c_24 => ?_)
    · have hw := hw.1 c_24
      refine lv_iload_n hx hb dX8_use_37 rfl (lv_at hl 3 rfl) ?_
      by_cases c_38_0 : a3 = 0
      · have hw := hw.1 c_38_0
        refine lv_tableIn (off := 34) (tgt := 72) hx hb dX8_use_38 (by rw [c_38_0]; decide) (by rw [c_38_0]; decide) (by rw [c_38_0]; decide) (by decide) ?_
        refine lv_aload_n hx hb dX8_use_72 rfl (lv_at hl 0 rfl) ?_
        obtain ⟨fs_73, g_73, ⟨hL9, hf9, hn9⟩, hw⟩ := hw
        refine va_get (D := (dC, dI)) (ci := 9) (v := .ref g_73) (C := RX8) (T := TX8) (N := 6) hx hb hts iw_X8_use_RX8 hown hK (p_one hP hL9 hf9) 0 rfl rfl 4 (by decide) (hts _ lk_X8_use_41) (fun _ h9 => h9) hn9 dX8_use_73 ?_
        refine lv_iload_n hx hb dX8_use_76 rfl (lv_at hl 2 rfl) ?_
        obtain ⟨hO9, hw⟩ := hw
        have hFc := p_free hD hS hA
        refine va_calli (va_runV (As := [.int a2]) (rest := []) ⟨hx, hb, hml, hown, hts⟩ (c_X6_beginOf l dC dI dA zz base L_21 f_21 H.size g_73 a2 _ hw) (cwV 1 hts gX8_use_X6_beginOf rfl rfl rfl (by decide +kernel) ⟨by decide, by decide⟩) (pPreV [.int a2] (ci := 7) rfl hO9 hK hP hD hS hB hz hN hT) rfl rfl hl.1 rfl (lv_room (Nat.le_of_ble_eq_true rfl)) dX8_use_77 ⟨by decide, by decide⟩) hS (fun q _ h => hFc q h) hFc (fun r_77 u t H1 locs ht hvm hw hB1 hz1 hk1 hS => ?_)
        obtain ⟨L_77, f_77⟩ := u
        obtain ⟨hP, -, hD1⟩ := hB1
        rw [ht] at hP
        have hw := id hw
        have hP : va_P (dC, dI) vwCl (va_pl L_77 f_77) H1 := hP
        have hD : va_D A (va_pl L_77 f_77) := p_gain hD1 hFc
        generalize H1 = H at hP hS ⊢
        refine W.widen (k := 2) (n := 12) (by decide) (by decide) ?_
        refine vx_ret ?_
        exact W.iret (v := r_77) hx hb hr (fun t ht hW => ⟨⟨r_77, (L_77, f_77), rfl, hw, by rw [ht]; exact hP, va_K.moved hW.alike hK, hD⟩, hS.F ht⟩) hS.2.2 dX8_use_80
      by_cases c_38_1 : a3 = 1
      · have hw := hw.2.1 c_38_1
        refine lv_tableIn (off := 43) (tgt := 81) hx hb dX8_use_38 (by rw [c_38_1]; decide) (by rw [c_38_1]; decide) (by rw [c_38_1]; decide) (by decide) ?_
        refine lv_aload_n hx hb dX8_use_81 rfl (lv_at hl 0 rfl) ?_
        obtain ⟨fs_82, g_82, ⟨hL9, hf9, hn9⟩, hw⟩ := hw
        refine va_get (D := (dC, dI)) (ci := 9) (v := .ref g_82) (C := RX8) (T := TX8) (N := 6) hx hb hts iw_X8_use_RX8 hown hK (p_one hP hL9 hf9) 0 rfl rfl 4 (by decide) (hts _ lk_X8_use_41) (fun _ h9 => h9) hn9 dX8_use_82 ?_
        refine lv_iload_n hx hb dX8_use_85 rfl (lv_at hl 2 rfl) ?_
        obtain ⟨hO9, hw⟩ := hw
        have hFc := p_free hD hS hA
        refine va_calli (va_runV (As := [.int a2]) (rest := []) ⟨hx, hb, hml, hown, hts⟩ (c_X6_endOf l dC dI dA zz base L_21 f_21 H.size g_82 a2 _ hw) (cwV 1 hts gX8_use_X6_endOf rfl rfl rfl (by decide +kernel) ⟨by decide, by decide⟩) (pPreV [.int a2] (ci := 7) rfl hO9 hK hP hD hS hB hz hN hT) rfl rfl hl.1 rfl (lv_room (Nat.le_of_ble_eq_true rfl)) dX8_use_86 ⟨by decide, by decide⟩) hS (fun q _ h => hFc q h) hFc (fun r_86 u t H1 locs ht hvm hw hB1 hz1 hk1 hS => ?_)
        obtain ⟨L_86, f_86⟩ := u
        obtain ⟨hP, -, hD1⟩ := hB1
        rw [ht] at hP
        have hw := id hw
        have hP : va_P (dC, dI) vwCl (va_pl L_86 f_86) H1 := hP
        have hD : va_D A (va_pl L_86 f_86) := p_gain hD1 hFc
        generalize H1 = H at hP hS ⊢
        refine W.widen (k := 2) (n := 12) (by decide) (by decide) ?_
        refine vx_ret ?_
        exact W.iret (v := r_86) hx hb hr (fun t ht hW => ⟨⟨r_86, (L_86, f_86), rfl, hw, by rw [ht]; exact hP, va_K.moved hW.alike hK, hD⟩, hS.F ht⟩) hS.2.2 dX8_use_89
      by_cases c_38_2 : a3 = 2
      · have hw := hw.2.2.1 c_38_2
        refine lv_tableIn (off := 52) (tgt := 90) hx hb dX8_use_38 (by rw [c_38_2]; decide) (by rw [c_38_2]; decide) (by rw [c_38_2]; decide) (by decide) ?_
        refine lv_aload_n hx hb dX8_use_90 rfl (lv_at hl 0 rfl) ?_
        obtain ⟨fs_91, g_91, ⟨hL9, hf9, hn9⟩, hw⟩ := hw
        refine va_get (D := (dC, dI)) (ci := 9) (v := .ref g_91) (C := RX8) (T := TX8) (N := 6) hx hb hts iw_X8_use_RX8 hown hK (p_one hP hL9 hf9) 0 rfl rfl 4 (by decide) (hts _ lk_X8_use_41) (fun _ h9 => h9) hn9 dX8_use_91 ?_
        refine lv_iload_n hx hb dX8_use_94 rfl (lv_at hl 2 rfl) ?_
        obtain ⟨hO9, hw⟩ := hw
        have hFc := p_free hD hS hA
        refine va_calli (va_runV (As := [.int a2]) (rest := []) ⟨hx, hb, hml, hown, hts⟩ (c_X6_termOf l dC dI dA zz base L_21 f_21 H.size g_91 a2 _ hw) (cwV 1 hts gX8_use_X6_termOf rfl rfl rfl (by decide +kernel) ⟨by decide, by decide⟩) (pPreV [.int a2] (ci := 7) rfl hO9 hK hP hD hS hB hz hN hT) rfl rfl hl.1 rfl (lv_room (Nat.le_of_ble_eq_true rfl)) dX8_use_95 ⟨by decide, by decide⟩) hS (fun q _ h => hFc q h) hFc (fun r_95 u t H1 locs ht hvm hw hB1 hz1 hk1 hS => ?_)
        obtain ⟨L_95, f_95⟩ := u
        obtain ⟨hP, -, hD1⟩ := hB1
        rw [ht] at hP
        have hw := id hw
        have hP : va_P (dC, dI) vwCl (va_pl L_95 f_95) H1 := hP
        have hD : va_D A (va_pl L_95 f_95) := p_gain hD1 hFc
        generalize H1 = H at hP hS ⊢
        refine W.widen (k := 2) (n := 12) (by decide) (by decide) ?_
        refine vx_ret ?_
        exact W.iret (v := r_95) hx hb hr (fun t ht hW => ⟨⟨r_95, (L_95, f_95), rfl, hw, by rw [ht]; exact hP, va_K.moved hW.alike hK, hD⟩, hS.F ht⟩) hS.2.2 dX8_use_98
      by_cases c_38_3 : a3 = 3
      · have hw := hw.2.2.2.1 c_38_3
        refine lv_tableIn (off := 61) (tgt := 99) hx hb dX8_use_38 (by rw [c_38_3]; decide) (by rw [c_38_3]; decide) (by rw [c_38_3]; decide) (by decide) ?_
        refine lv_aload_n hx hb dX8_use_99 rfl (lv_at hl 0 rfl) ?_
        obtain ⟨fs_100, g_100, ⟨hL9, hf9, hn9⟩, hw⟩ := hw
        refine va_get (D := (dC, dI)) (ci := 9) (v := .ref g_100) (C := RX8) (T := TX8) (N := 6) hx hb hts iw_X8_use_RX8 hown hK (p_one hP hL9 hf9) 0 rfl rfl 4 (by decide) (hts _ lk_X8_use_41) (fun _ h9 => h9) hn9 dX8_use_100 ?_
        refine lv_iload_n hx hb dX8_use_103 rfl (lv_at hl 2 rfl) ?_
        obtain ⟨hO9, hw⟩ := hw
        have hFc := p_free hD hS hA
        refine va_calli (va_runV (As := [.int a2]) (rest := []) ⟨hx, hb, hml, hown, hts⟩ (c_X6_endingOf l dC dI dA zz base L_21 f_21 H.size g_100 a2 _ hw) (cwV 1 hts gX8_use_X6_endingOf rfl rfl rfl (by decide +kernel) ⟨by decide, by decide⟩) (pPreV [.int a2] (ci := 7) rfl hO9 hK hP hD hS hB hz hN hT) rfl rfl hl.1 rfl (lv_room (Nat.le_of_ble_eq_true rfl)) dX8_use_104 ⟨by decide, by decide⟩) hS (fun q _ h => hFc q h) hFc (fun r_104 u t H1 locs ht hvm hw hB1 hz1 hk1 hS => ?_)
        obtain ⟨L_104, f_104⟩ := u
        obtain ⟨hP, -, hD1⟩ := hB1
        rw [ht] at hP
        have hw := id hw
        have hP : va_P (dC, dI) vwCl (va_pl L_104 f_104) H1 := hP
        have hD : va_D A (va_pl L_104 f_104) := p_gain hD1 hFc
        generalize H1 = H at hP hS ⊢
        refine W.widen (k := 2) (n := 12) (by decide) (by decide) ?_
        refine vx_ret ?_
        exact W.iret (v := r_104) hx hb hr (fun t ht hW => ⟨⟨r_104, (L_104, f_104), rfl, hw, by rw [ht]; exact hP, va_K.moved hW.alike hK, hD⟩, hS.F ht⟩) hS.2.2 dX8_use_107
      by_cases c_38_4 : a3 = 4
      · have hw := hw.2.2.2.2.1 c_38_4
        refine lv_tableIn (off := 70) (tgt := 108) hx hb dX8_use_38 (by rw [c_38_4]; decide) (by rw [c_38_4]; decide) (by rw [c_38_4]; decide) (by decide) ?_
        refine lv_aload_n hx hb dX8_use_108 rfl (lv_at hl 0 rfl) ?_
        obtain ⟨fs_109, g_109, ⟨hL9, hf9, hn9⟩, hw⟩ := hw
        refine va_get (D := (dC, dI)) (ci := 9) (v := .ref g_109) (C := RX8) (T := TX8) (N := 6) hx hb hts iw_X8_use_RX8 hown hK (p_one hP hL9 hf9) 0 rfl rfl 4 (by decide) (hts _ lk_X8_use_41) (fun _ h9 => h9) hn9 dX8_use_109 ?_
        refine lv_iload_n hx hb dX8_use_112 rfl (lv_at hl 2 rfl) ?_
        obtain ⟨hO9, hw⟩ := hw
        have hFc := p_free hD hS hA
        refine va_calli (va_runV (As := [.int a2]) (rest := []) ⟨hx, hb, hml, hown, hts⟩ (c_X6_findingOf l dC dI dA zz base L_21 f_21 H.size g_109 a2 _ hw) (cwV 1 hts gX8_use_X6_findingOf rfl rfl rfl (by decide +kernel) ⟨by decide, by decide⟩) (pPreV [.int a2] (ci := 7) rfl hO9 hK hP hD hS hB hz hN hT) rfl rfl hl.1 rfl (lv_room (Nat.le_of_ble_eq_true rfl)) dX8_use_113 ⟨by decide, by decide⟩) hS (fun q _ h => hFc q h) hFc (fun r_113 u t H1 locs ht hvm hw hB1 hz1 hk1 hS => ?_)
        obtain ⟨L_113, f_113⟩ := u
        obtain ⟨hP, -, hD1⟩ := hB1
        rw [ht] at hP
        have hw := id hw
        have hP : va_P (dC, dI) vwCl (va_pl L_113 f_113) H1 := hP
        have hD : va_D A (va_pl L_113 f_113) := p_gain hD1 hFc
        generalize H1 = H at hP hS ⊢
        refine W.widen (k := 2) (n := 12) (by decide) (by decide) ?_
        refine vx_ret ?_
        exact W.iret (v := r_113) hx hb hr (fun t ht hW => ⟨⟨r_113, (L_113, f_113), rfl, hw, by rw [ht]; exact hP, va_K.moved hW.alike hK, hD⟩, hS.F ht⟩) hS.2.2 dX8_use_116
      have hw := hw.2.2.2.2.2 c_38_0 c_38_1 c_38_2 c_38_3 c_38_4
      refine lv_tableOut (tgt := 117) hx hb dX8_use_38 (sw_out5 c_38_0 c_38_1 c_38_2 c_38_3 c_38_4) (by decide) ?_
      obtain ⟨sa9, hs9⟩ := hN.2.2.2.2.2.2.2.1 (165, "nothing such is told of a use") (by decide +kernel)
      exact vx_throwN (sup := "java/lang/RuntimeException") (names := ["java/lang/Exception"]) (idx := 13) (bytes := nsB) hx hb hlt (by decide +kernel) (by decide +kernel) (by decide +kernel) (by decide +kernel) hown (by decide +kernel) (by decide +kernel) (by decide +kernel) (hts _ lk_X8_use_124) (hts _ lz_X8_use_NSE) hs9 (vx_hat (fun w h => hts w (lx_X8_use_NSE w h)) pBad_NSE (pBad_of hN.2.2.2.2.2.2.2.2.2.2.2.2.1 hN.2.2.2.2.2.2.2.2.2.2.2.2.2.2.1)) lg_X8_use_NSE (hT.1.narrow hB) (hT.2.1.narrow hB) hS (by rw [hml]; exact hl.1) dX8_use_117 dX8_use_120 dX8_use_121 dX8_use_123 dX8_use_126 hout9 (Nat.le_of_ble_eq_true rfl) (Nat.le_of_ble_eq_true rfl) (Nat.le_of_ble_eq_true rfl) (Nat.le_of_ble_eq_true rfl) hlocks (fun t hvm hsz hk => ⟨("java/util/NoSuchElementException", L_21, f_21), hw, ⟨rfl, p_keep hP hk, va_K.moved hvm hK, hD⟩, p_F hS hsz hk⟩) hS.2.2 (by decide) (by decide)
    · have hw := hw.2 c_24
      exact tb_X8_use_27 C  L_21 f_21  hw H locs hP hD hS ls (lv_sub hl [] rfl)
set_option maxHeartbeats 4000000 in
set_option maxRecDepth 100000 in
theorem c_X8_use (l : Launch) (hlt : l.stackTraces = false) (dC : Nat → ClassId) (dI : Nat → Nat → Nat) (dA : Nat → ClassId) (zz : Nat → Nat) (base : Nat) (L : List Nat) (f : pF) (sz : Nat) (a0 : Nat) (a1 : Int32) (a2 : Int32) (a3 : Int32) (Q : Int32 → List Nat → pF → Prop) (X : String → List Nat → pF → Prop) (hw : wp_X8_use_0 dA zz Q X L f a0 a1 a2 a3) : vx_Met l yX8_use wsX8_use rm_X8_use (va_Pc [.ref a0, .int a1, .int a2, .int a3] (pPre dC dI dA zz base L f sz)) (va_Qi (fun r (u : List Nat × pF) => Q r u.1 u.2) (pB dC dI dA (va_A (va_pl L f) sz)) (va_A (va_pl L f) sz)) (vx_X (fun (u : String × List Nat × pF) => X u.1 u.2.1 u.2.2) (fun E u t => E = u.1 ∧ pB dC dI dA (va_A (va_pl L f) sz) u.2 t) (va_A (va_pl L f) sz)) 2 12 (va_A (va_pl L f) sz) := by
  refine vx_ofW (cc := cX8_use) (maxL := 4) (ret := (some .int)) (by decide) rfl ?_
  intro p e s m args below meth c s₁ B hml hnt hv
  obtain ⟨rfl, hsz, hP, hK, hD0, hz, hN, hT⟩ := hv
  subst hsz
  have hl := lv_entry ([.ref a0, .int a1, .int a2, .int a3]) (n := 4) (Nat.le_of_ble_eq_true rfl)
  rw [lg_entry_eq]
  generalize (lg_sl ([.ref a0, .int a1, .int a2, .int a3]) ++ List.replicate (4 - (lg_sl ([.ref a0, .int a1, .int a2, .int a3])).length) Slot.unset).toArray = ls at hl ⊢
  exact tb_X8_use_0 (Q := Q) (p := p) ⟨⟨B.exec, B.bytes, hml, findClass_of_methodNamed B.named, atoms_spec (ws := wsX8_use) B.pre, B.returns, B.notSynchronized, fun q h => Or.inr h, hK, pAB hD0 hz, hz, hN, hT⟩, hlt, hnt⟩ L f a0 a1 a2 a3 hw s.heap [] hP (hD0.self (sz := s.heap.size)) va_S.rf ls (lv_sub hl [0, 1, 2, 3] rfl)
theorem iw_X8_mend_RX8 : ∀ w ∈ u_ws RX8 TX8 6, w ∈ wsX8_mend := by decide +kernel
theorem lk_X8_mend_41 : Cond.fieldLink RX8 41 "TermKeeper" "found" "LTermKeeper$Uses;" ∈ wsX8_mend := by decide +kernel
theorem lk_X8_mend_50 : Cond.fieldLink RX8 50 "TermKeeper" "mender" "LTermKeeper$Mender;" ∈ wsX8_mend := by decide +kernel
abbrev rm_X8_mend : Room := { frames := 8, cells := 1, slots := 6, locals := 185 }
def wp_X8_mend_0 (dA : Nat → ClassId) (zz : Nat → Nat) (Q : Int32 → List Nat → pF → Prop) (X : String → List Nat → pF → Prop) (L : List Nat) (f : pF) (a0 : Nat) (a1 : Int32) (a2 : Int32) : Prop :=
    (isO L f 9 a0 ∧
      (wp_X8_needText_0 dA zz (fun r_2 L_2 f_2 =>
        (gR L_2 f_2 9 a0 4 (fun g_7 =>
          (isO L_2 f_2 7 g_7 ∧
            (wp_X6_read_0 dA zz (fun L_11 f_11 =>
              (gR L_11 f_11 9 a0 5 (fun g_15 =>
                (gR L_11 f_11 9 a0 4 (fun g_20 =>
                  (isO L_11 f_11 3 g_15 ∧
                    (wp_X2_mendsUse_0 dA zz (fun r_24 L_24 f_24 =>
                      (narrow .boolean (.int r_24) = .int r_24 ∧ (Q r_24 L_24 f_24))) L_11 f_11 g_15 r_2 g_20 a2))))))) L_2 f_2 g_7 r_2))))) X L f a0 a1))
set_option maxHeartbeats 4000000 in
set_option maxRecDepth 100000 in
theorem tb_X8_mend_0 {p : Program} {l : Launch} {e : Env} {s : State} {m : MethodId} {below : List Frame} {meth : Method} {c : Code} {args : Array Value} {dC : Nat → ClassId} {dI : Nat → Nat → Nat} {dA : Nat → ClassId} {zz : Nat → Nat} {base : Nat} {A : Nat → Prop} {Q : Int32 → List Nat → pF → Prop} {X : String → List Nat → pF → Prop} (C : pCx p s m args meth c cX8_mend 4 (some .boolean) RX8 wsX8_mend A dC dI dA zz base ∧ l.stackTraces = false ∧ (∀ x ∈ c.exceptionTable.toList, False)) : ∀ (L : List Nat) (f : pF) (a0 : Nat) (a1 : Int32) (a2 : Int32), wp_X8_mend_0 dA zz Q X  L f a0 a1 a2 → pAt p l e rm_X8_mend s m args below meth c dC dI A (vx_MQ below (va_Qi (fun r (u : List Nat × pF) => Q r u.1 u.2) (pB dC dI dA A) A) (vx_X (fun (u : String × List Nat × pF) => X u.1 u.2.1 u.2.2) (fun E u t => E = u.1 ∧ pB dC dI dA A u.2 t) A) args s 1 6 A) 0 0 0 4 [(0, .ref a0), (1, .int a1), (2, .int a2)] [] L f := by
  obtain ⟨⟨hx, hb, hml, hown, hts, hr, hlocks, hA, hK, hB, hz, hN, hT⟩, hlt, hnt⟩ := id C
  have hout9 : ∀ {pc9 : Nat}, ∀ x ∈ c.exceptionTable.toList, covers x pc9 = false := fun x h => (hnt x h).elim
  intro L f a0 a1 a2 hw H locs hP hD hS ls hl
  rw [wp_X8_mend_0] at hw
  refine lv_aload_n hx hb dX8_mend_0 rfl (lv_at hl 0 rfl) ?_
  refine lv_iload_n hx hb dX8_mend_1 rfl (lv_at hl 1 rfl) ?_
  obtain ⟨hO9, hw⟩ := hw
  have hFc := p_free hD hS hA
  refine vx_callr (vx_runV (As := [.int a1]) (rest := []) ⟨hx, hb, hml, hown, hts⟩ (c_X8_needText l hlt dC dI dA zz base L f H.size a0 a1 _ X hw) (cwV 1 hts gX8_mend_X8_needText rfl rfl rfl (by decide +kernel) ⟨by decide, by decide⟩) (pPreV [.int a1] (ci := 9) rfl hO9 hK hP hD hS hB hz hN hT) rfl rfl hl.1 rfl (lv_room (Nat.le_of_ble_eq_true rfl)) dX8_mend_2 ⟨by decide, by decide⟩) hS (fun q _ h => hFc q h) hFc (fun q _ h => hFc q h) (fun E ce q9 u t H1 locs ht hvm hw hB1 hz1 hk1 hS hce hcv hcl => by
      obtain ⟨E9, L9, f9⟩ := u
      obtain ⟨hE, hP, -, hD1⟩ := hB1
      rw [ht] at hP
      exact vx_out (fun x h => (hnt x h).elim) hlocks hce hcv hcl (fun t9 ht9 hvm9 => ⟨(E9, L9, f9), hw, ⟨hE, by rw [ht9]; exact hP, va_K.moved hvm9 hK, p_gain hD1 hFc⟩, hS.F ht9⟩) hS.2.2 (by decide) (by decide)) (fun u ra t H1 locs ht hvm hw hB1 hz1 hk1 hS => ?_)
  obtain ⟨r_2, L_2, f_2⟩ := u
  obtain ⟨hra, hP, -, hD1⟩ := hB1
  rw [show ra = r_2 from hra]
  rw [ht] at hP
  have hw := id hw
  have hP : va_P (dC, dI) vwCl (va_pl L_2 f_2) H1 := hP
  have hD : va_D A (va_pl L_2 f_2) := p_gain hD1 hFc
  generalize H1 = H at hP hS ⊢
  refine W.eq (g2 := F0 m 5 ls (.ref r_2 :: [])) rfl ?_
  refine W.widen (k := 1) (n := 6) (by decide) (by decide) ?_
  refine lv_astore_n (lv' := [(3, .ref r_2), (0, .ref a0), (1, .int a1), (2, .int a2)]) hx hb dX8_mend_5 rfl hl (by decide) rfl (fun ls hl => ?_)
  refine lv_aload_n hx hb dX8_mend_6 rfl (lv_at hl 1 rfl) ?_
  obtain ⟨fs_7, g_7, ⟨hL9, hf9, hn9⟩, hw⟩ := hw
  refine va_get (D := (dC, dI)) (ci := 9) (v := .ref g_7) (C := RX8) (T := TX8) (N := 6) hx hb hts iw_X8_mend_RX8 hown hK (p_one hP hL9 hf9) 0 rfl rfl 4 (by decide) (hts _ lk_X8_mend_41) (fun _ h9 => h9) hn9 dX8_mend_7 ?_
  refine lv_aload_n hx hb dX8_mend_10 rfl (lv_at hl 0 rfl) ?_
  obtain ⟨hO9, hw⟩ := hw
  have hFc := p_free hD hS hA
  refine va_callv (va_runV (As := [.ref r_2]) (rest := []) ⟨hx, hb, hml, hown, hts⟩ (c_X6_read l dC dI dA zz base L_2 f_2 H.size g_7 r_2 _ hw) (cwV 1 hts gX8_mend_X6_read rfl rfl rfl (by decide +kernel) ⟨by decide, by decide⟩) (pPreV [.ref r_2] (ci := 7) rfl hO9 hK hP hD hS hB hz hN hT) rfl rfl hl.1 rfl (lv_room (Nat.le_of_ble_eq_true rfl)) dX8_mend_11 ⟨by decide, by decide⟩) hS (fun q _ h => hFc q h) hFc (fun u t H1 locs ht hvm hw hB1 hz1 hk1 hS => ?_)
  obtain ⟨L_11, f_11⟩ := u
  obtain ⟨hP, -, hD1⟩ := hB1
  rw [ht] at hP
  have hw := id hw
  have hP : va_P (dC, dI) vwCl (va_pl L_11 f_11) H1 := hP
  have hD : va_D A (va_pl L_11 f_11) := p_gain hD1 hFc
  generalize H1 = H at hP hS ⊢
  refine lv_aload_n hx hb dX8_mend_14 rfl (lv_at hl 1 rfl) ?_
  obtain ⟨fs_15, g_15, ⟨hL9, hf9, hn9⟩, hw⟩ := hw
  refine va_get (D := (dC, dI)) (ci := 9) (v := .ref g_15) (C := RX8) (T := TX8) (N := 6) hx hb hts iw_X8_mend_RX8 hown hK (p_one hP hL9 hf9) 0 rfl rfl 5 (by decide) (hts _ lk_X8_mend_50) (fun _ h9 => h9) hn9 dX8_mend_15 ?_
  refine lv_aload_n hx hb dX8_mend_18 rfl (lv_at hl 0 rfl) ?_
  refine lv_aload_n hx hb dX8_mend_19 rfl (lv_at hl 1 rfl) ?_
  obtain ⟨fs_20, g_20, ⟨hL9, hf9, hn9⟩, hw⟩ := hw
  refine va_get (D := (dC, dI)) (ci := 9) (v := .ref g_20) (C := RX8) (T := TX8) (N := 6) hx hb hts iw_X8_mend_RX8 hown hK (p_one hP hL9 hf9) 0 rfl rfl 4 (by decide) (hts _ lk_X8_mend_41) (fun _ h9 => h9) hn9 dX8_mend_20 ?_
  refine lv_iload_n hx hb dX8_mend_23 rfl (lv_at hl 3 rfl) ?_
  obtain ⟨hO9, hw⟩ := hw
  have hFc := p_free hD hS hA
  refine va_calli (va_runV (As := [.ref r_2, .ref g_20, .int a2]) (rest := []) ⟨hx, hb, hml, hown, hts⟩ (c_X2_mendsUse l dC dI dA zz base L_11 f_11 H.size g_15 r_2 g_20 a2 _ hw) (cwV 3 hts gX8_mend_X2_mendsUse rfl rfl rfl (by decide +kernel) ⟨by decide, by decide⟩) (pPreV [.ref r_2, .ref g_20, .int a2] (ci := 3) rfl hO9 hK hP hD hS hB hz hN hT) rfl rfl hl.1 rfl (lv_room (Nat.le_of_ble_eq_true rfl)) dX8_mend_24 ⟨by decide, by decide⟩) hS (fun q _ h => hFc q h) hFc (fun r_24 u t H1 locs ht hvm hw hB1 hz1 hk1 hS => ?_)
  obtain ⟨L_24, f_24⟩ := u
  obtain ⟨hP, -, hD1⟩ := hB1
  rw [ht] at hP
  have hw := id hw
  have hP : va_P (dC, dI) vwCl (va_pl L_24 f_24) H1 := hP
  have hD : va_D A (va_pl L_24 f_24) := p_gain hD1 hFc
  generalize H1 = H at hP hS ⊢
  refine vx_ret ?_
  exact W.zret (v := r_24) hx hb hr hw.1 (fun t ht hW => ⟨⟨r_24, (L_24, f_24), rfl, hw.2, by rw [ht]; exact hP, va_K.moved hW.alike hK, hD⟩, hS.F ht⟩) hS.2.2 dX8_mend_27
set_option maxHeartbeats 4000000 in
set_option maxRecDepth 100000 in
theorem c_X8_mend (l : Launch) (hlt : l.stackTraces = false) (dC : Nat → ClassId) (dI : Nat → Nat → Nat) (dA : Nat → ClassId) (zz : Nat → Nat) (base : Nat) (L : List Nat) (f : pF) (sz : Nat) (a0 : Nat) (a1 : Int32) (a2 : Int32) (Q : Int32 → List Nat → pF → Prop) (X : String → List Nat → pF → Prop) (hw : wp_X8_mend_0 dA zz Q X L f a0 a1 a2) : vx_Met l yX8_mend wsX8_mend rm_X8_mend (va_Pc [.ref a0, .int a1, .int a2] (pPre dC dI dA zz base L f sz)) (va_Qi (fun r (u : List Nat × pF) => Q r u.1 u.2) (pB dC dI dA (va_A (va_pl L f) sz)) (va_A (va_pl L f) sz)) (vx_X (fun (u : String × List Nat × pF) => X u.1 u.2.1 u.2.2) (fun E u t => E = u.1 ∧ pB dC dI dA (va_A (va_pl L f) sz) u.2 t) (va_A (va_pl L f) sz)) 1 6 (va_A (va_pl L f) sz) := by
  refine vx_ofW (cc := cX8_mend) (maxL := 4) (ret := (some .boolean)) (by decide) rfl ?_
  intro p e s m args below meth c s₁ B hml hnt hv
  obtain ⟨rfl, hsz, hP, hK, hD0, hz, hN, hT⟩ := hv
  subst hsz
  have hl := lv_entry ([.ref a0, .int a1, .int a2]) (n := 4) (Nat.le_of_ble_eq_true rfl)
  rw [lg_entry_eq]
  generalize (lg_sl ([.ref a0, .int a1, .int a2]) ++ List.replicate (4 - (lg_sl ([.ref a0, .int a1, .int a2])).length) Slot.unset).toArray = ls at hl ⊢
  exact tb_X8_mend_0 (Q := Q) (p := p) ⟨⟨B.exec, B.bytes, hml, findClass_of_methodNamed B.named, atoms_spec (ws := wsX8_mend) B.pre, B.returns, B.notSynchronized, fun q h => Or.inr h, hK, pAB hD0 hz, hz, hN, hT⟩, hlt, hnt⟩ L f a0 a1 a2 hw s.heap [] hP (hD0.self (sz := s.heap.size)) va_S.rf ls (lv_sub hl [0, 1, 2] rfl)
theorem iw_X8_mendAll_RX8 : ∀ w ∈ u_ws RX8 TX8 6, w ∈ wsX8_mendAll := by decide +kernel
theorem lk_X8_mendAll_41 : Cond.fieldLink RX8 41 "TermKeeper" "found" "LTermKeeper$Uses;" ∈ wsX8_mendAll := by decide +kernel
theorem lk_X8_mendAll_50 : Cond.fieldLink RX8 50 "TermKeeper" "mender" "LTermKeeper$Mender;" ∈ wsX8_mendAll := by decide +kernel
abbrev rm_X8_mendAll : Room := { frames := 8, cells := 1, slots := 6, locals := 185 }
def wp_X8_mendAll_8 (dA : Nat → ClassId) (zz : Nat → Nat) (Q : Int32 → List Nat → pF → Prop) (X : String → List Nat → pF → Prop) : Nat → List Nat → pF → Nat → Nat → Int32 → Prop
  | 0, _, _, _, _, _ => False
  | n + 1, L, f, a0, a2, a3 =>
    (((100 : Int32) ≤ a3 →
      (Q (100 : Int32) L f))
     ∧ (¬ (100 : Int32) ≤ a3 →
      (gR L f 9 a0 4 (fun g_15 =>
        (isO L f 7 g_15 ∧
          (wp_X6_read_0 dA zz (fun L_19 f_19 =>
            (gR L_19 f_19 9 a0 5 (fun g_23 =>
              (gR L_19 f_19 9 a0 4 (fun g_28 =>
                (isO L_19 f_19 3 g_23 ∧
                  (wp_X2_mendsFirst_0 dA zz (fun r_31 L_31 f_31 =>
                    ((¬ r_31 = 0 →
                      (∀ v3_39 : Int32, v3_39 = a3 + (1 : Int32) →
                        ((wp_X8_mendAll_8 dA zz Q X  n) L_31 f_31 a0 a2 v3_39)))
                     ∧ (r_31 = 0 →
                      (Q a3 L_31 f_31)))) L_19 f_19 g_23 a2 g_28))))))) L f g_15 a2))))))
def wp_X8_mendAll_0 (dA : Nat → ClassId) (zz : Nat → Nat) (Q : Int32 → List Nat → pF → Prop) (X : String → List Nat → pF → Prop) (L : List Nat) (f : pF) (a0 : Nat) (a1 : Int32) : Prop :=
    (isO L f 9 a0 ∧
      (wp_X8_needText_0 dA zz (fun r_2 L_2 f_2 =>
        (∃ n9 : Nat, wp_X8_mendAll_8 dA zz Q X  n9 L_2 f_2 a0 r_2 (0 : Int32))) X L f a0 a1))
set_option maxHeartbeats 4000000 in
set_option maxRecDepth 100000 in
theorem tb_X8_mendAll_8 {p : Program} {l : Launch} {e : Env} {s : State} {m : MethodId} {below : List Frame} {meth : Method} {c : Code} {args : Array Value} {dC : Nat → ClassId} {dI : Nat → Nat → Nat} {dA : Nat → ClassId} {zz : Nat → Nat} {base : Nat} {A : Nat → Prop} {Q : Int32 → List Nat → pF → Prop} {X : String → List Nat → pF → Prop} (C : pCx p s m args meth c cX8_mendAll 4 (some .int) RX8 wsX8_mendAll A dC dI dA zz base ∧ l.stackTraces = false ∧ (∀ x ∈ c.exceptionTable.toList, False)) : ∀ (n : Nat) (L : List Nat) (f : pF) (a0 : Nat) (a2 : Nat) (a3 : Int32), wp_X8_mendAll_8 dA zz Q X  n L f a0 a2 a3 → pAt p l e rm_X8_mendAll s m args below meth c dC dI A (vx_MQ below (va_Qi (fun r (u : List Nat × pF) => Q r u.1 u.2) (pB dC dI dA A) A) (vx_X (fun (u : String × List Nat × pF) => X u.1 u.2.1 u.2.2) (fun E u t => E = u.1 ∧ pB dC dI dA A u.2 t) A) args s 1 6 A) 1 6 8 4 [(0, .ref a0), (2, .ref a2), (3, .int a3)] [] L f := by
  obtain ⟨⟨hx, hb, hml, hown, hts, hr, hlocks, hA, hK, hB, hz, hN, hT⟩, hlt, hnt⟩ := id C
  have hout9 : ∀ {pc9 : Nat}, ∀ x ∈ c.exceptionTable.toList, covers x pc9 = false := fun x h => (hnt x h).elim
  intro n
  induction n with
  | zero => intro L f a0 a2 a3 hw; exact hw.elim
  | succ n ih =>
    intro L f a0 a2 a3 hw H locs hP hD hS ls hl
    rw [wp_X8_mendAll_8] at hw
    refine lv_iload_n hx hb dX8_mendAll_8 rfl (lv_at hl 2 rfl) ?_
    refine lv_bipush (v := 100) hx hb dX8_mendAll_9 (by decide) ?_
    refine lv_icmp_ge (tgt := 45) hx hb dX8_mendAll_11 (by decide) (fun c_11 => ?_) (fun c_11 => ?_)
    · have hw := hw.1 c_11
      refine lv_bipush (v := 100) hx hb dX8_mendAll_45 (by decide) ?_
      refine vx_ret ?_
      exact W.iret (v := (100 : Int32)) hx hb hr (fun t ht hW => ⟨⟨(100 : Int32), (L, f), rfl, hw, by rw [ht]; exact hP, va_K.moved hW.alike hK, hD⟩, hS.F ht⟩) hS.2.2 dX8_mendAll_47
    · have hw := hw.2 c_11
      refine lv_aload_n hx hb dX8_mendAll_14 rfl (lv_at hl 0 rfl) ?_
      obtain ⟨fs_15, g_15, ⟨hL9, hf9, hn9⟩, hw⟩ := hw
      refine va_get (D := (dC, dI)) (ci := 9) (v := .ref g_15) (C := RX8) (T := TX8) (N := 6) hx hb hts iw_X8_mendAll_RX8 hown hK (p_one hP hL9 hf9) 0 rfl rfl 4 (by decide) (hts _ lk_X8_mendAll_41) (fun _ h9 => h9) hn9 dX8_mendAll_15 ?_
      refine lv_aload_n hx hb dX8_mendAll_18 rfl (lv_at hl 1 rfl) ?_
      obtain ⟨hO9, hw⟩ := hw
      have hFc := p_free hD hS hA
      refine va_callv (va_runV (As := [.ref a2]) (rest := []) ⟨hx, hb, hml, hown, hts⟩ (c_X6_read l dC dI dA zz base L f H.size g_15 a2 _ hw) (cwV 1 hts gX8_mendAll_X6_read rfl rfl rfl (by decide +kernel) ⟨by decide, by decide⟩) (pPreV [.ref a2] (ci := 7) rfl hO9 hK hP hD hS hB hz hN hT) rfl rfl hl.1 rfl (lv_room (Nat.le_of_ble_eq_true rfl)) dX8_mendAll_19 ⟨by decide, by decide⟩) hS (fun q _ h => hFc q h) hFc (fun u t H1 locs ht hvm hw hB1 hz1 hk1 hS => ?_)
      obtain ⟨L_19, f_19⟩ := u
      obtain ⟨hP, -, hD1⟩ := hB1
      rw [ht] at hP
      have hw := id hw
      have hP : va_P (dC, dI) vwCl (va_pl L_19 f_19) H1 := hP
      have hD : va_D A (va_pl L_19 f_19) := p_gain hD1 hFc
      generalize H1 = H at hP hS ⊢
      refine lv_aload_n hx hb dX8_mendAll_22 rfl (lv_at hl 0 rfl) ?_
      obtain ⟨fs_23, g_23, ⟨hL9, hf9, hn9⟩, hw⟩ := hw
      refine va_get (D := (dC, dI)) (ci := 9) (v := .ref g_23) (C := RX8) (T := TX8) (N := 6) hx hb hts iw_X8_mendAll_RX8 hown hK (p_one hP hL9 hf9) 0 rfl rfl 5 (by decide) (hts _ lk_X8_mendAll_50) (fun _ h9 => h9) hn9 dX8_mendAll_23 ?_
      refine lv_aload_n hx hb dX8_mendAll_26 rfl (lv_at hl 1 rfl) ?_
      refine lv_aload_n hx hb dX8_mendAll_27 rfl (lv_at hl 0 rfl) ?_
      obtain ⟨fs_28, g_28, ⟨hL9, hf9, hn9⟩, hw⟩ := hw
      refine va_get (D := (dC, dI)) (ci := 9) (v := .ref g_28) (C := RX8) (T := TX8) (N := 6) hx hb hts iw_X8_mendAll_RX8 hown hK (p_one hP hL9 hf9) 0 rfl rfl 4 (by decide) (hts _ lk_X8_mendAll_41) (fun _ h9 => h9) hn9 dX8_mendAll_28 ?_
      obtain ⟨hO9, hw⟩ := hw
      have hFc := p_free hD hS hA
      refine va_calli (va_runV (As := [.ref a2, .ref g_28]) (rest := []) ⟨hx, hb, hml, hown, hts⟩ (c_X2_mendsFirst l dC dI dA zz base L_19 f_19 H.size g_23 a2 g_28 _ hw) (cwV 2 hts gX8_mendAll_X2_mendsFirst rfl rfl rfl (by decide +kernel) ⟨by decide, by decide⟩) (pPreV [.ref a2, .ref g_28] (ci := 3) rfl hO9 hK hP hD hS hB hz hN hT) rfl rfl hl.1 rfl (lv_room (Nat.le_of_ble_eq_true rfl)) dX8_mendAll_31 ⟨by decide, by decide⟩) hS (fun q _ h => hFc q h) hFc (fun r_31 u t H1 locs ht hvm hw hB1 hz1 hk1 hS => ?_)
      obtain ⟨L_31, f_31⟩ := u
      obtain ⟨hP, -, hD1⟩ := hB1
      rw [ht] at hP
      have hw := id hw
      have hP : va_P (dC, dI) vwCl (va_pl L_31 f_31) H1 := hP
      have hD : va_D A (va_pl L_31 f_31) := p_gain hD1 hFc
      generalize H1 = H at hP hS ⊢
      refine lv_if_ne (tgt := 39) hx hb dX8_mendAll_34 (by decide) (fun c_34 => ?_) (fun c_34 => ?_)
      · have hw := hw.1 c_34
        obtain ⟨v3_39, ev3_39⟩ : ∃ y : Int32, y = a3 + (1 : Int32) := ⟨_, rfl⟩
        have hw := hw v3_39 ev3_39
        refine lv_iinc (v := v3_39) (lv' := [(3, .int v3_39), (0, .ref a0), (2, .ref a2)]) hx hb dX8_mendAll_39 hl (k := 2) rfl (by rw [ev3_39]; rfl) (by decide) rfl (fun ls hl => ?_)
        refine lv_goto (tgt := 8) hx hb dX8_mendAll_42 (by decide) ?_
        exact ih L_31 f_31 a0 a2 v3_39 hw H locs hP hD hS ls (lv_sub hl [1, 2, 0] rfl)
      · have hw := hw.2 c_34
        refine lv_iload_n hx hb dX8_mendAll_37 rfl (lv_at hl 2 rfl) ?_
        refine vx_ret ?_
        exact W.iret (v := a3) hx hb hr (fun t ht hW => ⟨⟨a3, (L_31, f_31), rfl, hw, by rw [ht]; exact hP, va_K.moved hW.alike hK, hD⟩, hS.F ht⟩) hS.2.2 dX8_mendAll_38
set_option maxHeartbeats 4000000 in
set_option maxRecDepth 100000 in
theorem tb_X8_mendAll_0 {p : Program} {l : Launch} {e : Env} {s : State} {m : MethodId} {below : List Frame} {meth : Method} {c : Code} {args : Array Value} {dC : Nat → ClassId} {dI : Nat → Nat → Nat} {dA : Nat → ClassId} {zz : Nat → Nat} {base : Nat} {A : Nat → Prop} {Q : Int32 → List Nat → pF → Prop} {X : String → List Nat → pF → Prop} (C : pCx p s m args meth c cX8_mendAll 4 (some .int) RX8 wsX8_mendAll A dC dI dA zz base ∧ l.stackTraces = false ∧ (∀ x ∈ c.exceptionTable.toList, False)) : ∀ (L : List Nat) (f : pF) (a0 : Nat) (a1 : Int32), wp_X8_mendAll_0 dA zz Q X  L f a0 a1 → pAt p l e rm_X8_mendAll s m args below meth c dC dI A (vx_MQ below (va_Qi (fun r (u : List Nat × pF) => Q r u.1 u.2) (pB dC dI dA A) A) (vx_X (fun (u : String × List Nat × pF) => X u.1 u.2.1 u.2.2) (fun E u t => E = u.1 ∧ pB dC dI dA A u.2 t) A) args s 1 6 A) 0 0 0 4 [(0, .ref a0), (1, .int a1)] [] L f := by
  obtain ⟨⟨hx, hb, hml, hown, hts, hr, hlocks, hA, hK, hB, hz, hN, hT⟩, hlt, hnt⟩ := id C
  have hout9 : ∀ {pc9 : Nat}, ∀ x ∈ c.exceptionTable.toList, covers x pc9 = false := fun x h => (hnt x h).elim
  intro L f a0 a1 hw H locs hP hD hS ls hl
  rw [wp_X8_mendAll_0] at hw
  refine lv_aload_n hx hb dX8_mendAll_0 rfl (lv_at hl 0 rfl) ?_
  refine lv_iload_n hx hb dX8_mendAll_1 rfl (lv_at hl 1 rfl) ?_
  obtain ⟨hO9, hw⟩ := hw
  have hFc := p_free hD hS hA
  refine vx_callr (vx_runV (As := [.int a1]) (rest := []) ⟨hx, hb, hml, hown, hts⟩ (c_X8_needText l hlt dC dI dA zz base L f H.size a0 a1 _ X hw) (cwV 1 hts gX8_mendAll_X8_needText rfl rfl rfl (by decide +kernel) ⟨by decide, by decide⟩) (pPreV [.int a1] (ci := 9) rfl hO9 hK hP hD hS hB hz hN hT) rfl rfl hl.1 rfl (lv_room (Nat.le_of_ble_eq_true rfl)) dX8_mendAll_2 ⟨by decide, by decide⟩) hS (fun q _ h => hFc q h) hFc (fun q _ h => hFc q h) (fun E ce q9 u t H1 locs ht hvm hw hB1 hz1 hk1 hS hce hcv hcl => by
      obtain ⟨E9, L9, f9⟩ := u
      obtain ⟨hE, hP, -, hD1⟩ := hB1
      rw [ht] at hP
      exact vx_out (fun x h => (hnt x h).elim) hlocks hce hcv hcl (fun t9 ht9 hvm9 => ⟨(E9, L9, f9), hw, ⟨hE, by rw [ht9]; exact hP, va_K.moved hvm9 hK, p_gain hD1 hFc⟩, hS.F ht9⟩) hS.2.2 (by decide) (by decide)) (fun u ra t H1 locs ht hvm hw hB1 hz1 hk1 hS => ?_)
  obtain ⟨r_2, L_2, f_2⟩ := u
  obtain ⟨hra, hP, -, hD1⟩ := hB1
  rw [show ra = r_2 from hra]
  rw [ht] at hP
  have hw := id hw
  have hP : va_P (dC, dI) vwCl (va_pl L_2 f_2) H1 := hP
  have hD : va_D A (va_pl L_2 f_2) := p_gain hD1 hFc
  generalize H1 = H at hP hS ⊢
  refine W.eq (g2 := F0 m 5 ls (.ref r_2 :: [])) rfl ?_
  refine W.widen (k := 1) (n := 6) (by decide) (by decide) ?_
  refine lv_astore_n (lv' := [(2, .ref r_2), (0, .ref a0), (1, .int a1)]) hx hb dX8_mendAll_5 rfl hl (by decide) rfl (fun ls hl => ?_)
  refine lv_iconst (v := 0) hx hb dX8_mendAll_6 (by decide) ?_
  refine lv_istore_n (lv' := [(3, .int (0 : Int32)), (2, .ref r_2), (0, .ref a0), (1, .int a1)]) hx hb dX8_mendAll_7 rfl hl (by decide) rfl (fun ls hl => ?_)
  obtain ⟨n9, hw⟩ := hw
  exact tb_X8_mendAll_8 C  n9 L_2 f_2 a0 r_2 (0 : Int32) hw H locs hP hD hS ls (lv_sub hl [2, 1, 0] rfl)
set_option maxHeartbeats 4000000 in
set_option maxRecDepth 100000 in
theorem c_X8_mendAll (l : Launch) (hlt : l.stackTraces = false) (dC : Nat → ClassId) (dI : Nat → Nat → Nat) (dA : Nat → ClassId) (zz : Nat → Nat) (base : Nat) (L : List Nat) (f : pF) (sz : Nat) (a0 : Nat) (a1 : Int32) (Q : Int32 → List Nat → pF → Prop) (X : String → List Nat → pF → Prop) (hw : wp_X8_mendAll_0 dA zz Q X L f a0 a1) : vx_Met l yX8_mendAll wsX8_mendAll rm_X8_mendAll (va_Pc [.ref a0, .int a1] (pPre dC dI dA zz base L f sz)) (va_Qi (fun r (u : List Nat × pF) => Q r u.1 u.2) (pB dC dI dA (va_A (va_pl L f) sz)) (va_A (va_pl L f) sz)) (vx_X (fun (u : String × List Nat × pF) => X u.1 u.2.1 u.2.2) (fun E u t => E = u.1 ∧ pB dC dI dA (va_A (va_pl L f) sz) u.2 t) (va_A (va_pl L f) sz)) 1 6 (va_A (va_pl L f) sz) := by
  refine vx_ofW (cc := cX8_mendAll) (maxL := 4) (ret := (some .int)) (by decide) rfl ?_
  intro p e s m args below meth c s₁ B hml hnt hv
  obtain ⟨rfl, hsz, hP, hK, hD0, hz, hN, hT⟩ := hv
  subst hsz
  have hl := lv_entry ([.ref a0, .int a1]) (n := 4) (Nat.le_of_ble_eq_true rfl)
  rw [lg_entry_eq]
  generalize (lg_sl ([.ref a0, .int a1]) ++ List.replicate (4 - (lg_sl ([.ref a0, .int a1])).length) Slot.unset).toArray = ls at hl ⊢
  exact tb_X8_mendAll_0 (Q := Q) (p := p) ⟨⟨B.exec, B.bytes, hml, findClass_of_methodNamed B.named, atoms_spec (ws := wsX8_mendAll) B.pre, B.returns, B.notSynchronized, fun q h => Or.inr h, hK, pAB hD0 hz, hz, hN, hT⟩, hlt, hnt⟩ L f a0 a1 hw s.heap [] hP (hD0.self (sz := s.heap.size)) va_S.rf ls (lv_sub hl [0, 1] rfl)
theorem iw_X8_count_RX8 : ∀ w ∈ u_ws RX8 TX8 6, w ∈ wsX8_count := by decide +kernel
theorem lk_X8_count_18 : Cond.fieldLink RX8 18 "TermKeeper" "texts" "[LTermKeeper$Row;" ∈ wsX8_count := by decide +kernel
theorem lk_X8_count_41 : Cond.fieldLink RX8 41 "TermKeeper" "found" "LTermKeeper$Uses;" ∈ wsX8_count := by decide +kernel
abbrev rm_X8_count : Room := { frames := 8, cells := 1, slots := 6, locals := 185 }
def wp_X8_count_20 (dA : Nat → ClassId) (zz : Nat → Nat) (Q : Int32 → List Nat → pF → Prop) (X : String → List Nat → pF → Prop) : Nat → List Nat → pF → Nat → Int32 → Int32 → Nat → Int32 → Int32 → Prop
  | 0, _, _, _, _, _, _, _, _ => False
  | n + 1, L, f, a0, a1, a2, a3, a4, a5 =>
    ((a4 ≤ a5 →
      (Q a2 L f))
     ∧ (¬ a4 ≤ a5 →
      (aR L f (dA 3) a3 a5 (fun g_30 =>
        (gR L f 9 a0 4 (fun g_34 =>
          (isO L f 7 g_34 ∧
            (wp_X6_read_0 dA zz (fun L_39 f_39 =>
              (gR L_39 f_39 9 a0 4 (fun g_44 =>
                (isO L_39 f_39 7 g_44 ∧
                  (wp_X6_usesOf_0 dA zz (fun r_48 L_48 f_48 =>
                    (∀ v2_52 : Int32, v2_52 = (a2 + r_48) →
                      (∀ v5_53 : Int32, v5_53 = a5 + (1 : Int32) →
                        ((wp_X8_count_20 dA zz Q X  n) L_48 f_48 a0 a1 v2_52 a3 a4 v5_53)))) L_39 f_39 g_44 a1))))) L f g_34 g_30))))))))
def wp_X8_count_0 (dA : Nat → ClassId) (zz : Nat → Nat) (Q : Int32 → List Nat → pF → Prop) (X : String → List Nat → pF → Prop) (L : List Nat) (f : pF) (a0 : Nat) (a1 : Int32) : Prop :=
    (isO L f 9 a0 ∧
      (wp_X8_needTerm_0 dA zz (fun r_2 L_2 f_2 =>
        (gR L_2 f_2 9 a0 1 (fun g_9 =>
          (aN L_2 f_2 (dA 3) g_9 (fun g_14 =>
            (∃ n9 : Nat, wp_X8_count_20 dA zz Q X  n9 L_2 f_2 a0 a1 (0 : Int32) g_9 g_14 (0 : Int32))))))) X L f a0 a1))
set_option maxHeartbeats 4000000 in
set_option maxRecDepth 100000 in
theorem tb_X8_count_20 {p : Program} {l : Launch} {e : Env} {s : State} {m : MethodId} {below : List Frame} {meth : Method} {c : Code} {args : Array Value} {dC : Nat → ClassId} {dI : Nat → Nat → Nat} {dA : Nat → ClassId} {zz : Nat → Nat} {base : Nat} {A : Nat → Prop} {Q : Int32 → List Nat → pF → Prop} {X : String → List Nat → pF → Prop} (C : pCx p s m args meth c cX8_count 7 (some .int) RX8 wsX8_count A dC dI dA zz base ∧ l.stackTraces = false ∧ (∀ x ∈ c.exceptionTable.toList, False)) : ∀ (n : Nat) (L : List Nat) (f : pF) (a0 : Nat) (a1 : Int32) (a2 : Int32) (a3 : Nat) (a4 : Int32) (a5 : Int32), wp_X8_count_20 dA zz Q X  n L f a0 a1 a2 a3 a4 a5 → pAt p l e rm_X8_count s m args below meth c dC dI A (vx_MQ below (va_Qi (fun r (u : List Nat × pF) => Q r u.1 u.2) (pB dC dI dA A) A) (vx_X (fun (u : String × List Nat × pF) => X u.1 u.2.1 u.2.2) (fun E u t => E = u.1 ∧ pB dC dI dA A u.2 t) A) args s 1 6 A) 1 6 20 7 [(0, .ref a0), (1, .int a1), (2, .int a2), (3, .ref a3), (4, .int a4), (5, .int a5)] [] L f := by
  obtain ⟨⟨hx, hb, hml, hown, hts, hr, hlocks, hA, hK, hB, hz, hN, hT⟩, hlt, hnt⟩ := id C
  have hout9 : ∀ {pc9 : Nat}, ∀ x ∈ c.exceptionTable.toList, covers x pc9 = false := fun x h => (hnt x h).elim
  intro n
  induction n with
  | zero => intro L f a0 a1 a2 a3 a4 a5 hw; exact hw.elim
  | succ n ih =>
    intro L f a0 a1 a2 a3 a4 a5 hw H locs hP hD hS ls hl
    rw [wp_X8_count_20] at hw
    refine lv_iload hx hb dX8_count_20 (lv_at hl 5 rfl) ?_
    refine lv_iload hx hb dX8_count_22 (lv_at hl 4 rfl) ?_
    refine lv_icmp_ge (tgt := 59) hx hb dX8_count_24 (by decide) (fun c_24 => ?_) (fun c_24 => ?_)
    · have hw := hw.1 c_24
      refine lv_iload_n hx hb dX8_count_59 rfl (lv_at hl 2 rfl) ?_
      refine vx_ret ?_
      exact W.iret (v := a2) hx hb hr (fun t ht hW => ⟨⟨a2, (L, f), rfl, hw, by rw [ht]; exact hP, va_K.moved hW.alike hK, hD⟩, hS.F ht⟩) hS.2.2 dX8_count_60
    · have hw := hw.2 c_24
      refine lv_aload_n hx hb dX8_count_27 rfl (lv_at hl 3 rfl) ?_
      refine lv_iload hx hb dX8_count_28 (lv_at hl 5 rfl) ?_
      obtain ⟨n_30, h_30, g_30, ⟨hL9, hf9, hn9, hy9⟩, hw⟩ := hw
      refine va_aldq hx hb hK (p_one hP hL9 hf9) 0 3 rfl rfl hn9 dX8_count_30 ?_
      rw [hy9]
      refine W.eq (g2 := F0 m 31 ls (.ref g_30 :: [])) rfl ?_
      refine lv_astore (lv' := [(6, .ref g_30), (0, .ref a0), (1, .int a1), (2, .int a2), (3, .ref a3), (4, .int a4), (5, .int a5)]) hx hb dX8_count_31 hl (by decide) rfl (fun ls hl => ?_)
      refine lv_aload_n hx hb dX8_count_33 rfl (lv_at hl 1 rfl) ?_
      obtain ⟨fs_34, g_34, ⟨hL9, hf9, hn9⟩, hw⟩ := hw
      refine va_get (D := (dC, dI)) (ci := 9) (v := .ref g_34) (C := RX8) (T := TX8) (N := 6) hx hb hts iw_X8_count_RX8 hown hK (p_one hP hL9 hf9) 0 rfl rfl 4 (by decide) (hts _ lk_X8_count_41) (fun _ h9 => h9) hn9 dX8_count_34 ?_
      refine lv_aload hx hb dX8_count_37 (lv_at hl 0 rfl) ?_
      obtain ⟨hO9, hw⟩ := hw
      have hFc := p_free hD hS hA
      refine va_callv (va_runV (As := [.ref g_30]) (rest := []) ⟨hx, hb, hml, hown, hts⟩ (c_X6_read l dC dI dA zz base L f H.size g_34 g_30 _ hw) (cwV 1 hts gX8_count_X6_read rfl rfl rfl (by decide +kernel) ⟨by decide, by decide⟩) (pPreV [.ref g_30] (ci := 7) rfl hO9 hK hP hD hS hB hz hN hT) rfl rfl hl.1 rfl (lv_room (Nat.le_of_ble_eq_true rfl)) dX8_count_39 ⟨by decide, by decide⟩) hS (fun q _ h => hFc q h) hFc (fun u t H1 locs ht hvm hw hB1 hz1 hk1 hS => ?_)
      obtain ⟨L_39, f_39⟩ := u
      obtain ⟨hP, -, hD1⟩ := hB1
      rw [ht] at hP
      have hw := id hw
      have hP : va_P (dC, dI) vwCl (va_pl L_39 f_39) H1 := hP
      have hD : va_D A (va_pl L_39 f_39) := p_gain hD1 hFc
      generalize H1 = H at hP hS ⊢
      refine lv_iload_n hx hb dX8_count_42 rfl (lv_at hl 3 rfl) ?_
      refine lv_aload_n hx hb dX8_count_43 rfl (lv_at hl 1 rfl) ?_
      obtain ⟨fs_44, g_44, ⟨hL9, hf9, hn9⟩, hw⟩ := hw
      refine va_get (D := (dC, dI)) (ci := 9) (v := .ref g_44) (C := RX8) (T := TX8) (N := 6) hx hb hts iw_X8_count_RX8 hown hK (p_one hP hL9 hf9) 0 rfl rfl 4 (by decide) (hts _ lk_X8_count_41) (fun _ h9 => h9) hn9 dX8_count_44 ?_
      refine lv_iload_n hx hb dX8_count_47 rfl (lv_at hl 2 rfl) ?_
      obtain ⟨hO9, hw⟩ := hw
      have hFc := p_free hD hS hA
      refine va_calli (va_runV (As := [.int a1]) (rest := [.int a2]) ⟨hx, hb, hml, hown, hts⟩ (c_X6_usesOf l dC dI dA zz base L_39 f_39 H.size g_44 a1 _ hw) (cwV 1 hts gX8_count_X6_usesOf rfl rfl rfl (by decide +kernel) ⟨by decide, by decide⟩) (pPreV [.int a1] (ci := 7) rfl hO9 hK hP hD hS hB hz hN hT) rfl rfl hl.1 rfl (lv_room (Nat.le_of_ble_eq_true rfl)) dX8_count_48 ⟨by decide, by decide⟩) hS (fun q _ h => hFc q h) hFc (fun r_48 u t H1 locs ht hvm hw hB1 hz1 hk1 hS => ?_)
      obtain ⟨L_48, f_48⟩ := u
      obtain ⟨hP, -, hD1⟩ := hB1
      rw [ht] at hP
      have hw := id hw
      have hP : va_P (dC, dI) vwCl (va_pl L_48 f_48) H1 := hP
      have hD : va_D A (va_pl L_48 f_48) := p_gain hD1 hFc
      generalize H1 = H at hP hS ⊢
      refine lv_iadd hx hb dX8_count_51 ?_
      refine lv_topi (fun v2_52 ev2_52 => ?_)
      have hw := hw v2_52 ev2_52
      refine lv_istore_n (lv' := [(2, .int v2_52), (6, .ref g_30), (0, .ref a0), (1, .int a1), (3, .ref a3), (4, .int a4), (5, .int a5)]) hx hb dX8_count_52 rfl hl (by decide) rfl (fun ls hl => ?_)
      obtain ⟨v5_53, ev5_53⟩ : ∃ y : Int32, y = a5 + (1 : Int32) := ⟨_, rfl⟩
      have hw := hw v5_53 ev5_53
      refine lv_iinc (v := v5_53) (lv' := [(5, .int v5_53), (2, .int v2_52), (6, .ref g_30), (0, .ref a0), (1, .int a1), (3, .ref a3), (4, .int a4)]) hx hb dX8_count_53 hl (k := 6) rfl (by rw [ev5_53]; rfl) (by decide) rfl (fun ls hl => ?_)
      refine lv_goto (tgt := 20) hx hb dX8_count_56 (by decide) ?_
      exact ih L_48 f_48 a0 a1 v2_52 a3 a4 v5_53 hw H locs hP hD hS ls (lv_sub hl [3, 4, 1, 5, 6, 0] rfl)
set_option maxHeartbeats 4000000 in
set_option maxRecDepth 100000 in
theorem tb_X8_count_0 {p : Program} {l : Launch} {e : Env} {s : State} {m : MethodId} {below : List Frame} {meth : Method} {c : Code} {args : Array Value} {dC : Nat → ClassId} {dI : Nat → Nat → Nat} {dA : Nat → ClassId} {zz : Nat → Nat} {base : Nat} {A : Nat → Prop} {Q : Int32 → List Nat → pF → Prop} {X : String → List Nat → pF → Prop} (C : pCx p s m args meth c cX8_count 7 (some .int) RX8 wsX8_count A dC dI dA zz base ∧ l.stackTraces = false ∧ (∀ x ∈ c.exceptionTable.toList, False)) : ∀ (L : List Nat) (f : pF) (a0 : Nat) (a1 : Int32), wp_X8_count_0 dA zz Q X  L f a0 a1 → pAt p l e rm_X8_count s m args below meth c dC dI A (vx_MQ below (va_Qi (fun r (u : List Nat × pF) => Q r u.1 u.2) (pB dC dI dA A) A) (vx_X (fun (u : String × List Nat × pF) => X u.1 u.2.1 u.2.2) (fun E u t => E = u.1 ∧ pB dC dI dA A u.2 t) A) args s 1 6 A) 0 0 0 7 [(0, .ref a0), (1, .int a1)] [] L f := by
  obtain ⟨⟨hx, hb, hml, hown, hts, hr, hlocks, hA, hK, hB, hz, hN, hT⟩, hlt, hnt⟩ := id C
  have hout9 : ∀ {pc9 : Nat}, ∀ x ∈ c.exceptionTable.toList, covers x pc9 = false := fun x h => (hnt x h).elim
  intro L f a0 a1 hw H locs hP hD hS ls hl
  rw [wp_X8_count_0] at hw
  refine lv_aload_n hx hb dX8_count_0 rfl (lv_at hl 0 rfl) ?_
  refine lv_iload_n hx hb dX8_count_1 rfl (lv_at hl 1 rfl) ?_
  obtain ⟨hO9, hw⟩ := hw
  have hFc := p_free hD hS hA
  refine vx_callr (vx_runV (As := [.int a1]) (rest := []) ⟨hx, hb, hml, hown, hts⟩ (c_X8_needTerm l hlt dC dI dA zz base L f H.size a0 a1 _ X hw) (cwV 1 hts gX8_count_X8_needTerm rfl rfl rfl (by decide +kernel) ⟨by decide, by decide⟩) (pPreV [.int a1] (ci := 9) rfl hO9 hK hP hD hS hB hz hN hT) rfl rfl hl.1 rfl (lv_room (Nat.le_of_ble_eq_true rfl)) dX8_count_2 ⟨by decide, by decide⟩) hS (fun q _ h => hFc q h) hFc (fun q _ h => hFc q h) (fun E ce q9 u t H1 locs ht hvm hw hB1 hz1 hk1 hS hce hcv hcl => by
      obtain ⟨E9, L9, f9⟩ := u
      obtain ⟨hE, hP, -, hD1⟩ := hB1
      rw [ht] at hP
      exact vx_out (fun x h => (hnt x h).elim) hlocks hce hcv hcl (fun t9 ht9 hvm9 => ⟨(E9, L9, f9), hw, ⟨hE, by rw [ht9]; exact hP, va_K.moved hvm9 hK, p_gain hD1 hFc⟩, hS.F ht9⟩) hS.2.2 (by decide) (by decide)) (fun u ra t H1 locs ht hvm hw hB1 hz1 hk1 hS => ?_)
  obtain ⟨r_2, L_2, f_2⟩ := u
  obtain ⟨hra, hP, -, hD1⟩ := hB1
  rw [show ra = r_2 from hra]
  rw [ht] at hP
  have hw := id hw
  have hP : va_P (dC, dI) vwCl (va_pl L_2 f_2) H1 := hP
  have hD : va_D A (va_pl L_2 f_2) := p_gain hD1 hFc
  generalize H1 = H at hP hS ⊢
  refine W.eq (g2 := F0 m 5 ls (.ref r_2 :: [])) rfl ?_
  refine W.widen (k := 1) (n := 6) (by decide) (by decide) ?_
  refine lv_pop hx hb dX8_count_5 rfl ?_
  refine lv_iconst (v := 0) hx hb dX8_count_6 (by decide) ?_
  refine lv_istore_n (lv' := [(2, .int (0 : Int32)), (0, .ref a0), (1, .int a1)]) hx hb dX8_count_7 rfl hl (by decide) rfl (fun ls hl => ?_)
  refine lv_aload_n hx hb dX8_count_8 rfl (lv_at hl 1 rfl) ?_
  obtain ⟨fs_9, g_9, ⟨hL9, hf9, hn9⟩, hw⟩ := hw
  refine va_get (D := (dC, dI)) (ci := 9) (v := .ref g_9) (C := RX8) (T := TX8) (N := 6) hx hb hts iw_X8_count_RX8 hown hK (p_one hP hL9 hf9) 0 rfl rfl 1 (by decide) (hts _ lk_X8_count_18) (fun _ h9 => h9) hn9 dX8_count_9 ?_
  refine lv_astore_n (lv' := [(3, .ref g_9), (2, .int (0 : Int32)), (0, .ref a0), (1, .int a1)]) hx hb dX8_count_12 rfl hl (by decide) rfl (fun ls hl => ?_)
  refine lv_aload_n hx hb dX8_count_13 rfl (lv_at hl 0 rfl) ?_
  obtain ⟨x9, ⟨hL9, hf9⟩, hw⟩ := hw
  obtain ⟨g_14, eg_14⟩ : ∃ y : Int32, y = Int32.ofNat x9.1 := ⟨_, rfl⟩
  rw [← eg_14] at hw
  refine va_alen (v := g_14) hx hb hK (p_one hP hL9 hf9) 0 3 rfl rfl eg_14.symm dX8_count_14 ?_
  refine lv_istore (lv' := [(4, .int g_14), (3, .ref g_9), (2, .int (0 : Int32)), (0, .ref a0), (1, .int a1)]) hx hb dX8_count_15 hl (by decide) rfl (fun ls hl => ?_)
  refine lv_iconst (v := 0) hx hb dX8_count_17 (by decide) ?_
  refine lv_istore (lv' := [(5, .int (0 : Int32)), (4, .int g_14), (3, .ref g_9), (2, .int (0 : Int32)), (0, .ref a0), (1, .int a1)]) hx hb dX8_count_18 hl (by decide) rfl (fun ls hl => ?_)
  obtain ⟨n9, hw⟩ := hw
  exact tb_X8_count_20 C  n9 L_2 f_2 a0 a1 (0 : Int32) g_9 g_14 (0 : Int32) hw H locs hP hD hS ls (lv_sub hl [4, 5, 3, 2, 1, 0] rfl)
set_option maxHeartbeats 4000000 in
set_option maxRecDepth 100000 in
theorem c_X8_count (l : Launch) (hlt : l.stackTraces = false) (dC : Nat → ClassId) (dI : Nat → Nat → Nat) (dA : Nat → ClassId) (zz : Nat → Nat) (base : Nat) (L : List Nat) (f : pF) (sz : Nat) (a0 : Nat) (a1 : Int32) (Q : Int32 → List Nat → pF → Prop) (X : String → List Nat → pF → Prop) (hw : wp_X8_count_0 dA zz Q X L f a0 a1) : vx_Met l yX8_count wsX8_count rm_X8_count (va_Pc [.ref a0, .int a1] (pPre dC dI dA zz base L f sz)) (va_Qi (fun r (u : List Nat × pF) => Q r u.1 u.2) (pB dC dI dA (va_A (va_pl L f) sz)) (va_A (va_pl L f) sz)) (vx_X (fun (u : String × List Nat × pF) => X u.1 u.2.1 u.2.2) (fun E u t => E = u.1 ∧ pB dC dI dA (va_A (va_pl L f) sz) u.2 t) (va_A (va_pl L f) sz)) 1 6 (va_A (va_pl L f) sz) := by
  refine vx_ofW (cc := cX8_count) (maxL := 7) (ret := (some .int)) (by decide) rfl ?_
  intro p e s m args below meth c s₁ B hml hnt hv
  obtain ⟨rfl, hsz, hP, hK, hD0, hz, hN, hT⟩ := hv
  subst hsz
  have hl := lv_entry ([.ref a0, .int a1]) (n := 7) (Nat.le_of_ble_eq_true rfl)
  rw [lg_entry_eq]
  generalize (lg_sl ([.ref a0, .int a1]) ++ List.replicate (7 - (lg_sl ([.ref a0, .int a1])).length) Slot.unset).toArray = ls at hl ⊢
  exact tb_X8_count_0 (Q := Q) (p := p) ⟨⟨B.exec, B.bytes, hml, findClass_of_methodNamed B.named, atoms_spec (ws := wsX8_count) B.pre, B.returns, B.notSynchronized, fun q h => Or.inr h, hK, pAB hD0 hz, hz, hN, hT⟩, hlt, hnt⟩ L f a0 a1 hw s.heap [] hP (hD0.self (sz := s.heap.size)) va_S.rf ls (lv_sub hl [0, 1] rfl)
theorem iw_X8_ring_RX8 : ∀ w ∈ u_ws RX8 TX8 6, w ∈ wsX8_ring := by decide +kernel
theorem lk_X8_ring_124 : Cond.classLink RX8 124 "java/util/NoSuchElementException" ∈ wsX8_ring := by decide +kernel
theorem lk_X8_ring_32 : Cond.fieldLink RX8 32 "TermKeeper" "definitions" "LTermKeeper$Definitions;" ∈ wsX8_ring := by decide +kernel
theorem lx_X8_ring_NSE : ∀ w ∈ (nsAt).filter goodWord, w ∈ wsX8_ring := by decide +kernel
theorem lg_X8_ring_NSE : ∀ w ∈ Cond.classLink RX8 124 "java/util/NoSuchElementException" :: Cond.initialized "java/util/NoSuchElementException" :: nsAt, vx_ot w = true := by decide +kernel
theorem lz_X8_ring_NSE : Cond.initialized "java/util/NoSuchElementException" ∈ wsX8_ring := by decide +kernel
abbrev rm_X8_ring : Room := { frames := 6, cells := 1, slots := 6, locals := 90 }
def wp_X8_ring_35 (dA : Nat → ClassId) (zz : Nat → Nat) (Q : Int32 → List Nat → pF → Prop) (X : String → List Nat → pF → Prop) (L : List Nat) (f : pF) : Prop :=
    (X "java/util/NoSuchElementException" L f)
def wp_X8_ring_0 (dA : Nat → ClassId) (zz : Nat → Nat) (Q : Int32 → List Nat → pF → Prop) (X : String → List Nat → pF → Prop) (L : List Nat) (f : pF) (a0 : Nat) (a1 : Int32) : Prop :=
    (gR L f 9 a0 3 (fun g_1 =>
      (isO L f 1 g_1 ∧
        (wp_X0_findRing_0 dA zz (fun L_4 f_4 =>
          ((¬ a1 = (-1 : Int32) →
            ((a1 < 0 →
              (wp_X8_ring_35 dA zz Q X  L_4 f_4 ))
             ∧ (¬ a1 < 0 →
              (gR L_4 f_4 9 a0 3 (fun g_26 =>
                (isO L_4 f_4 1 g_26 ∧
                  (wp_X0_ringSize_0 dA zz (fun r_29 L_29 f_29 =>
                    ((a1 < r_29 →
                      (gR L_29 f_29 9 a0 3 (fun g_46 =>
                        (isO L_29 f_29 1 g_46 ∧
                          (wp_X0_ringAt_0 dA zz (fun r_50 L_50 f_50 =>
                            (Q r_50 L_50 f_50)) L_29 f_29 g_46 a1)))))
                     ∧ (¬ a1 < r_29 →
                      (wp_X8_ring_35 dA zz Q X  L_29 f_29 )))) L_4 f_4 g_26 )))))))
           ∧ (a1 = (-1 : Int32) →
            (gR L_4 f_4 9 a0 3 (fun g_13 =>
              (isO L_4 f_4 1 g_13 ∧
                (wp_X0_ringSize_0 dA zz (fun r_16 L_16 f_16 =>
                  (Q r_16 L_16 f_16)) L_4 f_4 g_13 ))))))) L f g_1 ))))
set_option maxHeartbeats 4000000 in
set_option maxRecDepth 100000 in
theorem tb_X8_ring_35 {p : Program} {l : Launch} {e : Env} {s : State} {m : MethodId} {below : List Frame} {meth : Method} {c : Code} {args : Array Value} {dC : Nat → ClassId} {dI : Nat → Nat → Nat} {dA : Nat → ClassId} {zz : Nat → Nat} {base : Nat} {A : Nat → Prop} {Q : Int32 → List Nat → pF → Prop} {X : String → List Nat → pF → Prop} (C : pCx p s m args meth c cX8_ring 2 (some .int) RX8 wsX8_ring A dC dI dA zz base ∧ l.stackTraces = false ∧ (∀ x ∈ c.exceptionTable.toList, False)) : ∀ (L : List Nat) (f : pF) , wp_X8_ring_35 dA zz Q X  L f  → pAt p l e rm_X8_ring s m args below meth c dC dI A (vx_MQ below (va_Qi (fun r (u : List Nat × pF) => Q r u.1 u.2) (pB dC dI dA A) A) (vx_X (fun (u : String × List Nat × pF) => X u.1 u.2.1 u.2.2) (fun E u t => E = u.1 ∧ pB dC dI dA A u.2 t) A) args s 1 6 A) 0 0 35 2 [] [] L f := by
  obtain ⟨⟨hx, hb, hml, hown, hts, hr, hlocks, hA, hK, hB, hz, hN, hT⟩, hlt, hnt⟩ := id C
  have hout9 : ∀ {pc9 : Nat}, ∀ x ∈ c.exceptionTable.toList, covers x pc9 = false := fun x h => (hnt x h).elim
  intro L f  hw H locs hP hD hS ls hl
  rw [wp_X8_ring_35] at hw
  obtain ⟨sa9, hs9⟩ := hN.2.2.2.2.2.2.2.1 (184, "no such thing of the ring") (by decide +kernel)
  exact vx_throwN (sup := "java/lang/RuntimeException") (names := ["java/lang/Exception"]) (idx := 13) (bytes := nsB) hx hb hlt (by decide +kernel) (by decide +kernel) (by decide +kernel) (by decide +kernel) hown (by decide +kernel) (by decide +kernel) (by decide +kernel) (hts _ lk_X8_ring_124) (hts _ lz_X8_ring_NSE) hs9 (vx_hat (fun w h => hts w (lx_X8_ring_NSE w h)) pBad_NSE (pBad_of hN.2.2.2.2.2.2.2.2.2.2.2.2.1 hN.2.2.2.2.2.2.2.2.2.2.2.2.2.2.1)) lg_X8_ring_NSE (hT.1.narrow hB) (hT.2.1.narrow hB) hS (by rw [hml]; exact hl.1) dX8_ring_35 dX8_ring_38 dX8_ring_39 dX8_ring_41 dX8_ring_44 hout9 (Nat.le_of_ble_eq_true rfl) (Nat.le_of_ble_eq_true rfl) (Nat.le_of_ble_eq_true rfl) (Nat.le_of_ble_eq_true rfl) hlocks (fun t hvm hsz hk => ⟨("java/util/NoSuchElementException", L, f), hw, ⟨rfl, p_keep hP hk, va_K.moved hvm hK, hD⟩, p_F hS hsz hk⟩) hS.2.2 (by decide) (by decide)
set_option maxHeartbeats 4000000 in
set_option maxRecDepth 100000 in
theorem tb_X8_ring_0 {p : Program} {l : Launch} {e : Env} {s : State} {m : MethodId} {below : List Frame} {meth : Method} {c : Code} {args : Array Value} {dC : Nat → ClassId} {dI : Nat → Nat → Nat} {dA : Nat → ClassId} {zz : Nat → Nat} {base : Nat} {A : Nat → Prop} {Q : Int32 → List Nat → pF → Prop} {X : String → List Nat → pF → Prop} (C : pCx p s m args meth c cX8_ring 2 (some .int) RX8 wsX8_ring A dC dI dA zz base ∧ l.stackTraces = false ∧ (∀ x ∈ c.exceptionTable.toList, False)) : ∀ (L : List Nat) (f : pF) (a0 : Nat) (a1 : Int32), wp_X8_ring_0 dA zz Q X  L f a0 a1 → pAt p l e rm_X8_ring s m args below meth c dC dI A (vx_MQ below (va_Qi (fun r (u : List Nat × pF) => Q r u.1 u.2) (pB dC dI dA A) A) (vx_X (fun (u : String × List Nat × pF) => X u.1 u.2.1 u.2.2) (fun E u t => E = u.1 ∧ pB dC dI dA A u.2 t) A) args s 1 6 A) 0 0 0 2 [(0, .ref a0), (1, .int a1)] [] L f := by
  obtain ⟨⟨hx, hb, hml, hown, hts, hr, hlocks, hA, hK, hB, hz, hN, hT⟩, hlt, hnt⟩ := id C
  have hout9 : ∀ {pc9 : Nat}, ∀ x ∈ c.exceptionTable.toList, covers x pc9 = false := fun x h => (hnt x h).elim
  intro L f a0 a1 hw H locs hP hD hS ls hl
  rw [wp_X8_ring_0] at hw
  refine lv_aload_n hx hb dX8_ring_0 rfl (lv_at hl 0 rfl) ?_
  obtain ⟨fs_1, g_1, ⟨hL9, hf9, hn9⟩, hw⟩ := hw
  refine va_get (D := (dC, dI)) (ci := 9) (v := .ref g_1) (C := RX8) (T := TX8) (N := 6) hx hb hts iw_X8_ring_RX8 hown hK (p_one hP hL9 hf9) 0 rfl rfl 3 (by decide) (hts _ lk_X8_ring_32) (fun _ h9 => h9) hn9 dX8_ring_1 ?_
  obtain ⟨hO9, hw⟩ := hw
  have hFc := p_free hD hS hA
  refine va_callv (va_runV (As := []) (rest := []) ⟨hx, hb, hml, hown, hts⟩ (c_X0_findRing l dC dI dA zz base L f H.size g_1  _ hw) (cwV 0 hts gX8_ring_X0_findRing rfl rfl rfl (by decide +kernel) ⟨by decide, by decide⟩) (pPreV [] (ci := 1) rfl hO9 hK hP hD hS hB hz hN hT) rfl rfl hl.1 rfl (lv_room (Nat.le_of_ble_eq_true rfl)) dX8_ring_4 ⟨by decide, by decide⟩) hS (fun q _ h => hFc q h) hFc (fun u t H1 locs ht hvm hw hB1 hz1 hk1 hS => ?_)
  obtain ⟨L_4, f_4⟩ := u
  obtain ⟨hP, -, hD1⟩ := hB1
  rw [ht] at hP
  have hw := id hw
  have hP : va_P (dC, dI) vwCl (va_pl L_4 f_4) H1 := hP
  have hD : va_D A (va_pl L_4 f_4) := p_gain hD1 hFc
  generalize H1 = H at hP hS ⊢
  refine lv_iload_n hx hb dX8_ring_7 rfl (lv_at hl 1 rfl) ?_
  refine lv_iconst (v := -1) hx hb dX8_ring_8 (by decide) ?_
  refine lv_icmp_ne (tgt := 20) hx hb dX8_ring_9 (by decide) (fun c_9 => ?_) (fun c_9 => ?_)
  · have hw := hw.1 c_9
    refine lv_iload_n hx hb dX8_ring_20 rfl (lv_at hl 1 rfl) ?_
    refine lv_if_lt (tgt := 35) hx hb dX8_ring_21 (by decide) (fun c_21 => ?_) (fun c_21 => ?_)
    · have hw := hw.1 c_21
      exact tb_X8_ring_35 C  L_4 f_4  hw H locs hP hD hS ls (lv_sub hl [] rfl)
    · have hw := hw.2 c_21
      refine lv_iload_n hx hb dX8_ring_24 rfl (lv_at hl 1 rfl) ?_
      refine lv_aload_n hx hb dX8_ring_25 rfl (lv_at hl 0 rfl) ?_
      obtain ⟨fs_26, g_26, ⟨hL9, hf9, hn9⟩, hw⟩ := hw
      refine va_get (D := (dC, dI)) (ci := 9) (v := .ref g_26) (C := RX8) (T := TX8) (N := 6) hx hb hts iw_X8_ring_RX8 hown hK (p_one hP hL9 hf9) 0 rfl rfl 3 (by decide) (hts _ lk_X8_ring_32) (fun _ h9 => h9) hn9 dX8_ring_26 ?_
      obtain ⟨hO9, hw⟩ := hw
      have hFc := p_free hD hS hA
      refine va_calli (va_runV (As := []) (rest := [.int a1]) ⟨hx, hb, hml, hown, hts⟩ (c_X0_ringSize l dC dI dA zz base L_4 f_4 H.size g_26  _ hw) (cwV 0 hts gX8_ring_X0_ringSize rfl rfl rfl (by decide +kernel) ⟨by decide, by decide⟩) (pPreV [] (ci := 1) rfl hO9 hK hP hD hS hB hz hN hT) rfl rfl hl.1 rfl (lv_room (Nat.le_of_ble_eq_true rfl)) dX8_ring_29 ⟨by decide, by decide⟩) hS (fun q _ h => hFc q h) hFc (fun r_29 u t H1 locs ht hvm hw hB1 hz1 hk1 hS => ?_)
      obtain ⟨L_29, f_29⟩ := u
      obtain ⟨hP, -, hD1⟩ := hB1
      rw [ht] at hP
      have hw := id hw
      have hP : va_P (dC, dI) vwCl (va_pl L_29 f_29) H1 := hP
      have hD : va_D A (va_pl L_29 f_29) := p_gain hD1 hFc
      generalize H1 = H at hP hS ⊢
      refine lv_icmp_lt (tgt := 45) hx hb dX8_ring_32 (by decide) (fun c_32 => ?_) (fun c_32 => ?_)
      · have hw := hw.1 c_32
        refine lv_aload_n hx hb dX8_ring_45 rfl (lv_at hl 0 rfl) ?_
        obtain ⟨fs_46, g_46, ⟨hL9, hf9, hn9⟩, hw⟩ := hw
        refine va_get (D := (dC, dI)) (ci := 9) (v := .ref g_46) (C := RX8) (T := TX8) (N := 6) hx hb hts iw_X8_ring_RX8 hown hK (p_one hP hL9 hf9) 0 rfl rfl 3 (by decide) (hts _ lk_X8_ring_32) (fun _ h9 => h9) hn9 dX8_ring_46 ?_
        refine lv_iload_n hx hb dX8_ring_49 rfl (lv_at hl 1 rfl) ?_
        obtain ⟨hO9, hw⟩ := hw
        have hFc := p_free hD hS hA
        refine va_calli (va_runV (As := [.int a1]) (rest := []) ⟨hx, hb, hml, hown, hts⟩ (c_X0_ringAt l dC dI dA zz base L_29 f_29 H.size g_46 a1 _ hw) (cwV 1 hts gX8_ring_X0_ringAt rfl rfl rfl (by decide +kernel) ⟨by decide, by decide⟩) (pPreV [.int a1] (ci := 1) rfl hO9 hK hP hD hS hB hz hN hT) rfl rfl hl.1 rfl (lv_room (Nat.le_of_ble_eq_true rfl)) dX8_ring_50 ⟨by decide, by decide⟩) hS (fun q _ h => hFc q h) hFc (fun r_50 u t H1 locs ht hvm hw hB1 hz1 hk1 hS => ?_)
        obtain ⟨L_50, f_50⟩ := u
        obtain ⟨hP, -, hD1⟩ := hB1
        rw [ht] at hP
        have hw := id hw
        have hP : va_P (dC, dI) vwCl (va_pl L_50 f_50) H1 := hP
        have hD : va_D A (va_pl L_50 f_50) := p_gain hD1 hFc
        generalize H1 = H at hP hS ⊢
        refine W.widen (k := 1) (n := 6) (by decide) (by decide) ?_
        refine vx_ret ?_
        exact W.iret (v := r_50) hx hb hr (fun t ht hW => ⟨⟨r_50, (L_50, f_50), rfl, hw, by rw [ht]; exact hP, va_K.moved hW.alike hK, hD⟩, hS.F ht⟩) hS.2.2 dX8_ring_53
      · have hw := hw.2 c_32
        exact tb_X8_ring_35 C  L_29 f_29  hw H locs hP hD hS ls (lv_sub hl [] rfl)
  · have hw := hw.2 c_9
    refine lv_aload_n hx hb dX8_ring_12 rfl (lv_at hl 0 rfl) ?_
    obtain ⟨fs_13, g_13, ⟨hL9, hf9, hn9⟩, hw⟩ := hw
    refine va_get (D := (dC, dI)) (ci := 9) (v := .ref g_13) (C := RX8) (T := TX8) (N := 6) hx hb hts iw_X8_ring_RX8 hown hK (p_one hP hL9 hf9) 0 rfl rfl 3 (by decide) (hts _ lk_X8_ring_32) (fun _ h9 => h9) hn9 dX8_ring_13 ?_
    obtain ⟨hO9, hw⟩ := hw
    have hFc := p_free hD hS hA
    refine va_calli (va_runV (As := []) (rest := []) ⟨hx, hb, hml, hown, hts⟩ (c_X0_ringSize l dC dI dA zz base L_4 f_4 H.size g_13  _ hw) (cwV 0 hts gX8_ring_X0_ringSize rfl rfl rfl (by decide +kernel) ⟨by decide, by decide⟩) (pPreV [] (ci := 1) rfl hO9 hK hP hD hS hB hz hN hT) rfl rfl hl.1 rfl (lv_room (Nat.le_of_ble_eq_true rfl)) dX8_ring_16 ⟨by decide, by decide⟩) hS (fun q _ h => hFc q h) hFc (fun r_16 u t H1 locs ht hvm hw hB1 hz1 hk1 hS => ?_)
    obtain ⟨L_16, f_16⟩ := u
    obtain ⟨hP, -, hD1⟩ := hB1
    rw [ht] at hP
    have hw := id hw
    have hP : va_P (dC, dI) vwCl (va_pl L_16 f_16) H1 := hP
    have hD : va_D A (va_pl L_16 f_16) := p_gain hD1 hFc
    generalize H1 = H at hP hS ⊢
    refine W.widen (k := 1) (n := 6) (by decide) (by decide) ?_
    refine vx_ret ?_
    exact W.iret (v := r_16) hx hb hr (fun t ht hW => ⟨⟨r_16, (L_16, f_16), rfl, hw, by rw [ht]; exact hP, va_K.moved hW.alike hK, hD⟩, hS.F ht⟩) hS.2.2 dX8_ring_19
set_option maxHeartbeats 4000000 in
set_option maxRecDepth 100000 in
theorem c_X8_ring (l : Launch) (hlt : l.stackTraces = false) (dC : Nat → ClassId) (dI : Nat → Nat → Nat) (dA : Nat → ClassId) (zz : Nat → Nat) (base : Nat) (L : List Nat) (f : pF) (sz : Nat) (a0 : Nat) (a1 : Int32) (Q : Int32 → List Nat → pF → Prop) (X : String → List Nat → pF → Prop) (hw : wp_X8_ring_0 dA zz Q X L f a0 a1) : vx_Met l yX8_ring wsX8_ring rm_X8_ring (va_Pc [.ref a0, .int a1] (pPre dC dI dA zz base L f sz)) (va_Qi (fun r (u : List Nat × pF) => Q r u.1 u.2) (pB dC dI dA (va_A (va_pl L f) sz)) (va_A (va_pl L f) sz)) (vx_X (fun (u : String × List Nat × pF) => X u.1 u.2.1 u.2.2) (fun E u t => E = u.1 ∧ pB dC dI dA (va_A (va_pl L f) sz) u.2 t) (va_A (va_pl L f) sz)) 1 6 (va_A (va_pl L f) sz) := by
  refine vx_ofW (cc := cX8_ring) (maxL := 2) (ret := (some .int)) (by decide) rfl ?_
  intro p e s m args below meth c s₁ B hml hnt hv
  obtain ⟨rfl, hsz, hP, hK, hD0, hz, hN, hT⟩ := hv
  subst hsz
  have hl := lv_entry ([.ref a0, .int a1]) (n := 2) (Nat.le_of_ble_eq_true rfl)
  rw [lg_entry_eq]
  generalize (lg_sl ([.ref a0, .int a1]) ++ List.replicate (2 - (lg_sl ([.ref a0, .int a1])).length) Slot.unset).toArray = ls at hl ⊢
  exact tb_X8_ring_0 (Q := Q) (p := p) ⟨⟨B.exec, B.bytes, hml, findClass_of_methodNamed B.named, atoms_spec (ws := wsX8_ring) B.pre, B.returns, B.notSynchronized, fun q h => Or.inr h, hK, pAB hD0 hz, hz, hN, hT⟩, hlt, hnt⟩ L f a0 a1 hw s.heap [] hP (hD0.self (sz := s.heap.size)) va_S.rf ls (lv_sub hl [0, 1] rfl)
theorem iw_X8_fewest_RX8 : ∀ w ∈ u_ws RX8 TX8 6, w ∈ wsX8_fewest := by decide +kernel
theorem lk_X8_fewest_32 : Cond.fieldLink RX8 32 "TermKeeper" "definitions" "LTermKeeper$Definitions;" ∈ wsX8_fewest := by decide +kernel
abbrev rm_X8_fewest : Room := { frames := 3, cells := 0, slots := 0, locals := 71 }
def wp_X8_fewest_0 (dA : Nat → ClassId) (zz : Nat → Nat) (Q : Int64 → List Nat → pF → Prop) (L : List Nat) (f : pF) (a0 : Nat) : Prop :=
    (gR L f 9 a0 3 (fun g_1 =>
      (isO L f 1 g_1 ∧
        (wp_X0_findFewest_0 dA zz (fun r_4 L_4 f_4 =>
          (Q r_4 L_4 f_4)) L f g_1 ))))
set_option maxHeartbeats 4000000 in
set_option maxRecDepth 100000 in
theorem tb_X8_fewest_0 {p : Program} {l : Launch} {e : Env} {s : State} {m : MethodId} {below : List Frame} {meth : Method} {c : Code} {args : Array Value} {dC : Nat → ClassId} {dI : Nat → Nat → Nat} {dA : Nat → ClassId} {zz : Nat → Nat} {base : Nat} {A : Nat → Prop} {Q : Int64 → List Nat → pF → Prop} (C : pCx p s m args meth c cX8_fewest 1 (some .long) RX8 wsX8_fewest A dC dI dA zz base) : ∀ (L : List Nat) (f : pF) (a0 : Nat), wp_X8_fewest_0 dA zz Q  L f a0 → pAt p l e rm_X8_fewest s m args below meth c dC dI A (MQ below (va_Ql (fun r (u : List Nat × pF) => Q r u.1 u.2) (pB dC dI dA A) A) args s 0 0 A) 0 0 0 1 [(0, .ref a0)] [] L f := by
  obtain ⟨hx, hb, hml, hown, hts, hr, hlocks, hA, hK, hB, hz, hN, hT⟩ := id C
  intro L f a0 hw H locs hP hD hS ls hl
  rw [wp_X8_fewest_0] at hw
  refine lv_aload_n hx hb dX8_fewest_0 rfl (lv_at hl 0 rfl) ?_
  obtain ⟨fs_1, g_1, ⟨hL9, hf9, hn9⟩, hw⟩ := hw
  refine va_get (D := (dC, dI)) (ci := 9) (v := .ref g_1) (C := RX8) (T := TX8) (N := 6) hx hb hts iw_X8_fewest_RX8 hown hK (p_one hP hL9 hf9) 0 rfl rfl 3 (by decide) (hts _ lk_X8_fewest_32) (fun _ h9 => h9) hn9 dX8_fewest_1 ?_
  obtain ⟨hO9, hw⟩ := hw
  have hFc := p_free hD hS hA
  refine va_calll (va_runV (As := []) (rest := []) ⟨hx, hb, hml, hown, hts⟩ (c_X0_findFewest l dC dI dA zz base L f H.size g_1  _ hw) (cwV 0 hts gX8_fewest_X0_findFewest rfl rfl rfl (by decide +kernel) ⟨by decide, by decide⟩) (pPreV [] (ci := 1) rfl hO9 hK hP hD hS hB hz hN hT) rfl rfl hl.1 rfl (lv_room (Nat.le_of_ble_eq_true rfl)) dX8_fewest_4 ⟨by decide, by decide⟩) hS (fun q _ h => hFc q h) hFc (fun r_4 u t H1 locs ht hvm hw hB1 hz1 hk1 hS => ?_)
  obtain ⟨L_4, f_4⟩ := u
  obtain ⟨hP, -, hD1⟩ := hB1
  rw [ht] at hP
  have hw := id hw
  have hP : va_P (dC, dI) vwCl (va_pl L_4 f_4) H1 := hP
  have hD : va_D A (va_pl L_4 f_4) := p_gain hD1 hFc
  generalize H1 = H at hP hS ⊢
  exact W.lret (v := r_4) hx hb hr (fun t ht hW => ⟨⟨r_4, (L_4, f_4), rfl, hw, by rw [ht]; exact hP, va_K.moved hW.alike hK, hD⟩, hS.F ht⟩) hS.2.2 dX8_fewest_7
set_option maxHeartbeats 4000000 in
set_option maxRecDepth 100000 in
theorem c_X8_fewest (l : Launch) (dC : Nat → ClassId) (dI : Nat → Nat → Nat) (dA : Nat → ClassId) (zz : Nat → Nat) (base : Nat) (L : List Nat) (f : pF) (sz : Nat) (a0 : Nat) (Q : Int64 → List Nat → pF → Prop) (hw : wp_X8_fewest_0 dA zz Q L f a0) : Met l yX8_fewest wsX8_fewest rm_X8_fewest (va_Pc [.ref a0] (pPre dC dI dA zz base L f sz)) (va_Ql (fun r (u : List Nat × pF) => Q r u.1 u.2) (pB dC dI dA (va_A (va_pl L f) sz)) (va_A (va_pl L f) sz)) 0 0 (va_A (va_pl L f) sz) := by
  refine Met.ofW (cc := cX8_fewest) (maxL := 1) (ret := (some .long)) (by decide) rfl ?_
  intro p e s m args below meth c s₁ B hml hv
  obtain ⟨rfl, hsz, hP, hK, hD0, hz, hN, hT⟩ := hv
  subst hsz
  have hl := lv_entry ([.ref a0]) (n := 1) (Nat.le_of_ble_eq_true rfl)
  rw [lg_entry_eq]
  generalize (lg_sl ([.ref a0]) ++ List.replicate (1 - (lg_sl ([.ref a0])).length) Slot.unset).toArray = ls at hl ⊢
  exact tb_X8_fewest_0 (Q := Q) (p := p) ⟨B.exec, B.bytes, hml, findClass_of_methodNamed B.named, atoms_spec (ws := wsX8_fewest) B.pre, B.returns, B.notSynchronized, fun q h => Or.inr h, hK, pAB hD0 hz, hz, hN, hT⟩ L f a0 hw s.heap [] hP (hD0.self (sz := s.heap.size)) va_S.rf ls (lv_sub hl [0] rfl)
theorem iw_X8_crossing_RX8 : ∀ w ∈ u_ws RX8 TX8 6, w ∈ wsX8_crossing := by decide +kernel
theorem lk_X8_crossing_25 : Cond.fieldLink RX8 25 "TermKeeper" "glossary" "LTermKeeper$Glossary;" ∈ wsX8_crossing := by decide +kernel
theorem lk_X8_crossing_41 : Cond.fieldLink RX8 41 "TermKeeper" "found" "LTermKeeper$Uses;" ∈ wsX8_crossing := by decide +kernel
theorem lk_X8_crossing_203 : Cond.constantLong RX8 203 (-1) ∈ wsX8_crossing := by decide +kernel
abbrev rm_X8_crossing : Room := { frames := 8, cells := 2, slots := 12, locals := 185 }
def wp_X8_crossing_0 (dA : Nat → ClassId) (zz : Nat → Nat) (Q : Int64 → List Nat → pF → Prop) (X : String → List Nat → pF → Prop) (L : List Nat) (f : pF) (a0 : Nat) (a1 : Int32) (a2 : Int32) : Prop :=
    (isO L f 9 a0 ∧
      (wp_X8_needText_0 dA zz (fun r_2 L_2 f_2 =>
        (isO L_2 f_2 9 a0 ∧
          (wp_X8_needText_0 dA zz (fun r_8 L_8 f_8 =>
            (gR L_8 f_8 9 a0 4 (fun g_14 =>
              (isO L_8 f_8 7 g_14 ∧
                (wp_X6_read_0 dA zz (fun L_18 f_18 =>
                  (gR L_18 f_18 9 a0 4 (fun g_22 =>
                    (isO L_18 f_18 7 g_22 ∧
                      (wp_X6_things_0 dA zz (fun r_25 L_25 f_25 =>
                        (gR L_25 f_25 9 a0 4 (fun g_31 =>
                          (isO L_25 f_25 7 g_31 ∧
                            (wp_X6_terms_0 dA zz (fun r_34 L_34 f_34 =>
                              (gR L_34 f_34 9 a0 4 (fun g_40 =>
                                (isO L_34 f_34 7 g_40 ∧
                                  (wp_X6_read_0 dA zz (fun L_45 f_45 =>
                                    (gR L_45 f_45 9 a0 4 (fun g_51 =>
                                      (isO L_45 f_45 7 g_51 ∧
                                        (wp_X6_things_0 dA zz (fun r_54 L_54 f_54 =>
                                          (gR L_54 f_54 9 a0 2 (fun g_59 =>
                                            (gR L_54 f_54 9 a0 4 (fun g_65 =>
                                              (isO L_54 f_54 7 g_65 ∧
                                                (wp_X6_terms_0 dA zz (fun r_68 L_68 f_68 =>
                                                  (isO L_68 f_68 2 g_59 ∧
                                                    (wp_X1_thingsOf_0 dA zz (fun r_72 L_72 f_72 =>
                                                      (Q ((r_25 &&& r_54) &&& (r_72 ^^^ (-1 : Int64))) L_72 f_72)) L_68 f_68 g_59 (r_34 &&& r_68)))) L_54 f_54 g_65 ))))))) L_45 f_45 g_51 ))))) L_34 f_34 g_40 r_8))))) L_25 f_25 g_31 ))))) L_18 f_18 g_22 ))))) L_8 f_8 g_14 r_2))))) X L_2 f_2 a0 a2))) X L f a0 a1))
set_option maxHeartbeats 4000000 in
set_option maxRecDepth 100000 in
theorem tb_X8_crossing_0 {p : Program} {l : Launch} {e : Env} {s : State} {m : MethodId} {below : List Frame} {meth : Method} {c : Code} {args : Array Value} {dC : Nat → ClassId} {dI : Nat → Nat → Nat} {dA : Nat → ClassId} {zz : Nat → Nat} {base : Nat} {A : Nat → Prop} {Q : Int64 → List Nat → pF → Prop} {X : String → List Nat → pF → Prop} (C : pCx p s m args meth c cX8_crossing 9 (some .long) RX8 wsX8_crossing A dC dI dA zz base ∧ l.stackTraces = false ∧ (∀ x ∈ c.exceptionTable.toList, False)) : ∀ (L : List Nat) (f : pF) (a0 : Nat) (a1 : Int32) (a2 : Int32), wp_X8_crossing_0 dA zz Q X  L f a0 a1 a2 → pAt p l e rm_X8_crossing s m args below meth c dC dI A (vx_MQ below (va_Ql (fun r (u : List Nat × pF) => Q r u.1 u.2) (pB dC dI dA A) A) (vx_X (fun (u : String × List Nat × pF) => X u.1 u.2.1 u.2.2) (fun E u t => E = u.1 ∧ pB dC dI dA A u.2 t) A) args s 2 12 A) 0 0 0 9 [(0, .ref a0), (1, .int a1), (2, .int a2)] [] L f := by
  obtain ⟨⟨hx, hb, hml, hown, hts, hr, hlocks, hA, hK, hB, hz, hN, hT⟩, hlt, hnt⟩ := id C
  have hout9 : ∀ {pc9 : Nat}, ∀ x ∈ c.exceptionTable.toList, covers x pc9 = false := fun x h => (hnt x h).elim
  intro L f a0 a1 a2 hw H locs hP hD hS ls hl
  rw [wp_X8_crossing_0] at hw
  refine lv_aload_n hx hb dX8_crossing_0 rfl (lv_at hl 0 rfl) ?_
  refine lv_iload_n hx hb dX8_crossing_1 rfl (lv_at hl 1 rfl) ?_
  obtain ⟨hO9, hw⟩ := hw
  have hFc := p_free hD hS hA
  refine vx_callr (vx_runV (As := [.int a1]) (rest := []) ⟨hx, hb, hml, hown, hts⟩ (c_X8_needText l hlt dC dI dA zz base L f H.size a0 a1 _ X hw) (cwV 1 hts gX8_crossing_X8_needText rfl rfl rfl (by decide +kernel) ⟨by decide, by decide⟩) (pPreV [.int a1] (ci := 9) rfl hO9 hK hP hD hS hB hz hN hT) rfl rfl hl.1 rfl (lv_room (Nat.le_of_ble_eq_true rfl)) dX8_crossing_2 ⟨by decide, by decide⟩) hS (fun q _ h => hFc q h) hFc (fun q _ h => hFc q h) (fun E ce q9 u t H1 locs ht hvm hw hB1 hz1 hk1 hS hce hcv hcl => by
      obtain ⟨E9, L9, f9⟩ := u
      obtain ⟨hE, hP, -, hD1⟩ := hB1
      rw [ht] at hP
      exact vx_out (fun x h => (hnt x h).elim) hlocks hce hcv hcl (fun t9 ht9 hvm9 => ⟨(E9, L9, f9), hw, ⟨hE, by rw [ht9]; exact hP, va_K.moved hvm9 hK, p_gain hD1 hFc⟩, hS.F ht9⟩) hS.2.2 (by decide) (by decide)) (fun u ra t H1 locs ht hvm hw hB1 hz1 hk1 hS => ?_)
  obtain ⟨r_2, L_2, f_2⟩ := u
  obtain ⟨hra, hP, -, hD1⟩ := hB1
  rw [show ra = r_2 from hra]
  rw [ht] at hP
  have hw := id hw
  have hP : va_P (dC, dI) vwCl (va_pl L_2 f_2) H1 := hP
  have hD : va_D A (va_pl L_2 f_2) := p_gain hD1 hFc
  generalize H1 = H at hP hS ⊢
  refine W.eq (g2 := F0 m 5 ls (.ref r_2 :: [])) rfl ?_
  refine W.widen (k := 1) (n := 6) (by decide) (by decide) ?_
  refine lv_astore_n (lv' := [(3, .ref r_2), (0, .ref a0), (1, .int a1), (2, .int a2)]) hx hb dX8_crossing_5 rfl hl (by decide) rfl (fun ls hl => ?_)
  refine lv_aload_n hx hb dX8_crossing_6 rfl (lv_at hl 1 rfl) ?_
  refine lv_iload_n hx hb dX8_crossing_7 rfl (lv_at hl 3 rfl) ?_
  obtain ⟨hO9, hw⟩ := hw
  have hFc := p_free hD hS hA
  refine vx_callr (vx_runV (As := [.int a2]) (rest := []) ⟨hx, hb, hml, hown, hts⟩ (c_X8_needText l hlt dC dI dA zz base L_2 f_2 H.size a0 a2 _ X hw) (cwV 1 hts gX8_crossing_X8_needText rfl rfl rfl (by decide +kernel) ⟨by decide, by decide⟩) (pPreV [.int a2] (ci := 9) rfl hO9 hK hP hD hS hB hz hN hT) rfl rfl hl.1 rfl (lv_room (Nat.le_of_ble_eq_true rfl)) dX8_crossing_8 ⟨by decide, by decide⟩) hS (fun q _ h => hFc q h) hFc (fun q _ h => hFc q h) (fun E ce q9 u t H1 locs ht hvm hw hB1 hz1 hk1 hS hce hcv hcl => by
      obtain ⟨E9, L9, f9⟩ := u
      obtain ⟨hE, hP, -, hD1⟩ := hB1
      rw [ht] at hP
      exact vx_out (fun x h => (hnt x h).elim) hlocks hce hcv hcl (fun t9 ht9 hvm9 => ⟨(E9, L9, f9), hw, ⟨hE, by rw [ht9]; exact hP, va_K.moved hvm9 hK, p_gain hD1 hFc⟩, hS.F ht9⟩) hS.2.2 (by decide) (by decide)) (fun u ra t H1 locs ht hvm hw hB1 hz1 hk1 hS => ?_)
  obtain ⟨r_8, L_8, f_8⟩ := u
  obtain ⟨hra, hP, -, hD1⟩ := hB1
  rw [show ra = r_8 from hra]
  rw [ht] at hP
  have hw := id hw
  have hP : va_P (dC, dI) vwCl (va_pl L_8 f_8) H1 := hP
  have hD : va_D A (va_pl L_8 f_8) := p_gain hD1 hFc
  generalize H1 = H at hP hS ⊢
  refine W.eq (g2 := F0 m 11 ls (.ref r_8 :: [])) rfl ?_
  refine W.widen (k := 2) (n := 12) (by decide) (by decide) ?_
  refine lv_astore (lv' := [(4, .ref r_8), (3, .ref r_2), (0, .ref a0), (1, .int a1), (2, .int a2)]) hx hb dX8_crossing_11 hl (by decide) rfl (fun ls hl => ?_)
  refine lv_aload_n hx hb dX8_crossing_13 rfl (lv_at hl 2 rfl) ?_
  obtain ⟨fs_14, g_14, ⟨hL9, hf9, hn9⟩, hw⟩ := hw
  refine va_get (D := (dC, dI)) (ci := 9) (v := .ref g_14) (C := RX8) (T := TX8) (N := 6) hx hb hts iw_X8_crossing_RX8 hown hK (p_one hP hL9 hf9) 0 rfl rfl 4 (by decide) (hts _ lk_X8_crossing_41) (fun _ h9 => h9) hn9 dX8_crossing_14 ?_
  refine lv_aload_n hx hb dX8_crossing_17 rfl (lv_at hl 1 rfl) ?_
  obtain ⟨hO9, hw⟩ := hw
  have hFc := p_free hD hS hA
  refine va_callv (va_runV (As := [.ref r_2]) (rest := []) ⟨hx, hb, hml, hown, hts⟩ (c_X6_read l dC dI dA zz base L_8 f_8 H.size g_14 r_2 _ hw) (cwV 1 hts gX8_crossing_X6_read rfl rfl rfl (by decide +kernel) ⟨by decide, by decide⟩) (pPreV [.ref r_2] (ci := 7) rfl hO9 hK hP hD hS hB hz hN hT) rfl rfl hl.1 rfl (lv_room (Nat.le_of_ble_eq_true rfl)) dX8_crossing_18 ⟨by decide, by decide⟩) hS (fun q _ h => hFc q h) hFc (fun u t H1 locs ht hvm hw hB1 hz1 hk1 hS => ?_)
  obtain ⟨L_18, f_18⟩ := u
  obtain ⟨hP, -, hD1⟩ := hB1
  rw [ht] at hP
  have hw := id hw
  have hP : va_P (dC, dI) vwCl (va_pl L_18 f_18) H1 := hP
  have hD : va_D A (va_pl L_18 f_18) := p_gain hD1 hFc
  generalize H1 = H at hP hS ⊢
  refine lv_aload_n hx hb dX8_crossing_21 rfl (lv_at hl 2 rfl) ?_
  obtain ⟨fs_22, g_22, ⟨hL9, hf9, hn9⟩, hw⟩ := hw
  refine va_get (D := (dC, dI)) (ci := 9) (v := .ref g_22) (C := RX8) (T := TX8) (N := 6) hx hb hts iw_X8_crossing_RX8 hown hK (p_one hP hL9 hf9) 0 rfl rfl 4 (by decide) (hts _ lk_X8_crossing_41) (fun _ h9 => h9) hn9 dX8_crossing_22 ?_
  obtain ⟨hO9, hw⟩ := hw
  have hFc := p_free hD hS hA
  refine va_calll (va_runV (As := []) (rest := []) ⟨hx, hb, hml, hown, hts⟩ (c_X6_things l dC dI dA zz base L_18 f_18 H.size g_22  _ hw) (cwV 0 hts gX8_crossing_X6_things rfl rfl rfl (by decide +kernel) ⟨by decide, by decide⟩) (pPreV [] (ci := 7) rfl hO9 hK hP hD hS hB hz hN hT) rfl rfl hl.1 rfl (lv_room (Nat.le_of_ble_eq_true rfl)) dX8_crossing_25 ⟨by decide, by decide⟩) hS (fun q _ h => hFc q h) hFc (fun r_25 u t H1 locs ht hvm hw hB1 hz1 hk1 hS => ?_)
  obtain ⟨L_25, f_25⟩ := u
  obtain ⟨hP, -, hD1⟩ := hB1
  rw [ht] at hP
  have hw := id hw
  have hP : va_P (dC, dI) vwCl (va_pl L_25 f_25) H1 := hP
  have hD : va_D A (va_pl L_25 f_25) := p_gain hD1 hFc
  generalize H1 = H at hP hS ⊢
  refine lv_lstore (lv' := [(5, .long r_25), (4, .ref r_8), (3, .ref r_2), (0, .ref a0), (1, .int a1), (2, .int a2)]) hx hb dX8_crossing_28 hl (by decide) rfl (fun ls hl => ?_)
  refine lv_aload_n hx hb dX8_crossing_30 rfl (lv_at hl 3 rfl) ?_
  obtain ⟨fs_31, g_31, ⟨hL9, hf9, hn9⟩, hw⟩ := hw
  refine va_get (D := (dC, dI)) (ci := 9) (v := .ref g_31) (C := RX8) (T := TX8) (N := 6) hx hb hts iw_X8_crossing_RX8 hown hK (p_one hP hL9 hf9) 0 rfl rfl 4 (by decide) (hts _ lk_X8_crossing_41) (fun _ h9 => h9) hn9 dX8_crossing_31 ?_
  obtain ⟨hO9, hw⟩ := hw
  have hFc := p_free hD hS hA
  refine va_calll (va_runV (As := []) (rest := []) ⟨hx, hb, hml, hown, hts⟩ (c_X6_terms l dC dI dA zz base L_25 f_25 H.size g_31  _ hw) (cwV 0 hts gX8_crossing_X6_terms rfl rfl rfl (by decide +kernel) ⟨by decide, by decide⟩) (pPreV [] (ci := 7) rfl hO9 hK hP hD hS hB hz hN hT) rfl rfl hl.1 rfl (lv_room (Nat.le_of_ble_eq_true rfl)) dX8_crossing_34 ⟨by decide, by decide⟩) hS (fun q _ h => hFc q h) hFc (fun r_34 u t H1 locs ht hvm hw hB1 hz1 hk1 hS => ?_)
  obtain ⟨L_34, f_34⟩ := u
  obtain ⟨hP, -, hD1⟩ := hB1
  rw [ht] at hP
  have hw := id hw
  have hP : va_P (dC, dI) vwCl (va_pl L_34 f_34) H1 := hP
  have hD : va_D A (va_pl L_34 f_34) := p_gain hD1 hFc
  generalize H1 = H at hP hS ⊢
  refine lv_lstore (lv' := [(7, .long r_34), (5, .long r_25), (4, .ref r_8), (3, .ref r_2), (0, .ref a0), (1, .int a1), (2, .int a2)]) hx hb dX8_crossing_37 hl (by decide) rfl (fun ls hl => ?_)
  refine lv_aload_n hx hb dX8_crossing_39 rfl (lv_at hl 4 rfl) ?_
  obtain ⟨fs_40, g_40, ⟨hL9, hf9, hn9⟩, hw⟩ := hw
  refine va_get (D := (dC, dI)) (ci := 9) (v := .ref g_40) (C := RX8) (T := TX8) (N := 6) hx hb hts iw_X8_crossing_RX8 hown hK (p_one hP hL9 hf9) 0 rfl rfl 4 (by decide) (hts _ lk_X8_crossing_41) (fun _ h9 => h9) hn9 dX8_crossing_40 ?_
  refine lv_aload hx hb dX8_crossing_43 (lv_at hl 2 rfl) ?_
  obtain ⟨hO9, hw⟩ := hw
  have hFc := p_free hD hS hA
  refine va_callv (va_runV (As := [.ref r_8]) (rest := []) ⟨hx, hb, hml, hown, hts⟩ (c_X6_read l dC dI dA zz base L_34 f_34 H.size g_40 r_8 _ hw) (cwV 1 hts gX8_crossing_X6_read rfl rfl rfl (by decide +kernel) ⟨by decide, by decide⟩) (pPreV [.ref r_8] (ci := 7) rfl hO9 hK hP hD hS hB hz hN hT) rfl rfl hl.1 rfl (lv_room (Nat.le_of_ble_eq_true rfl)) dX8_crossing_45 ⟨by decide, by decide⟩) hS (fun q _ h => hFc q h) hFc (fun u t H1 locs ht hvm hw hB1 hz1 hk1 hS => ?_)
  obtain ⟨L_45, f_45⟩ := u
  obtain ⟨hP, -, hD1⟩ := hB1
  rw [ht] at hP
  have hw := id hw
  have hP : va_P (dC, dI) vwCl (va_pl L_45 f_45) H1 := hP
  have hD : va_D A (va_pl L_45 f_45) := p_gain hD1 hFc
  generalize H1 = H at hP hS ⊢
  refine lv_lload hx hb dX8_crossing_48 (lv_at hl 1 rfl) ?_
  refine lv_aload_n hx hb dX8_crossing_50 rfl (lv_at hl 4 rfl) ?_
  obtain ⟨fs_51, g_51, ⟨hL9, hf9, hn9⟩, hw⟩ := hw
  refine va_get (D := (dC, dI)) (ci := 9) (v := .ref g_51) (C := RX8) (T := TX8) (N := 6) hx hb hts iw_X8_crossing_RX8 hown hK (p_one hP hL9 hf9) 0 rfl rfl 4 (by decide) (hts _ lk_X8_crossing_41) (fun _ h9 => h9) hn9 dX8_crossing_51 ?_
  obtain ⟨hO9, hw⟩ := hw
  have hFc := p_free hD hS hA
  refine va_calll (va_runV (As := []) (rest := [.long r_25]) ⟨hx, hb, hml, hown, hts⟩ (c_X6_things l dC dI dA zz base L_45 f_45 H.size g_51  _ hw) (cwV 0 hts gX8_crossing_X6_things rfl rfl rfl (by decide +kernel) ⟨by decide, by decide⟩) (pPreV [] (ci := 7) rfl hO9 hK hP hD hS hB hz hN hT) rfl rfl hl.1 rfl (lv_room (Nat.le_of_ble_eq_true rfl)) dX8_crossing_54 ⟨by decide, by decide⟩) hS (fun q _ h => hFc q h) hFc (fun r_54 u t H1 locs ht hvm hw hB1 hz1 hk1 hS => ?_)
  obtain ⟨L_54, f_54⟩ := u
  obtain ⟨hP, -, hD1⟩ := hB1
  rw [ht] at hP
  have hw := id hw
  have hP : va_P (dC, dI) vwCl (va_pl L_54 f_54) H1 := hP
  have hD : va_D A (va_pl L_54 f_54) := p_gain hD1 hFc
  generalize H1 = H at hP hS ⊢
  refine lv_land hx hb dX8_crossing_57 ?_
  refine lv_aload_n hx hb dX8_crossing_58 rfl (lv_at hl 4 rfl) ?_
  obtain ⟨fs_59, g_59, ⟨hL9, hf9, hn9⟩, hw⟩ := hw
  refine va_get (D := (dC, dI)) (ci := 9) (v := .ref g_59) (C := RX8) (T := TX8) (N := 6) hx hb hts iw_X8_crossing_RX8 hown hK (p_one hP hL9 hf9) 0 rfl rfl 2 (by decide) (hts _ lk_X8_crossing_25) (fun _ h9 => h9) hn9 dX8_crossing_59 ?_
  refine lv_lload hx hb dX8_crossing_62 (lv_at hl 0 rfl) ?_
  refine lv_aload_n hx hb dX8_crossing_64 rfl (lv_at hl 4 rfl) ?_
  obtain ⟨fs_65, g_65, ⟨hL9, hf9, hn9⟩, hw⟩ := hw
  refine va_get (D := (dC, dI)) (ci := 9) (v := .ref g_65) (C := RX8) (T := TX8) (N := 6) hx hb hts iw_X8_crossing_RX8 hown hK (p_one hP hL9 hf9) 0 rfl rfl 4 (by decide) (hts _ lk_X8_crossing_41) (fun _ h9 => h9) hn9 dX8_crossing_65 ?_
  obtain ⟨hO9, hw⟩ := hw
  have hFc := p_free hD hS hA
  refine va_calll (va_runV (As := []) (rest := [.long r_34, .ref g_59, .long (r_25 &&& r_54)]) ⟨hx, hb, hml, hown, hts⟩ (c_X6_terms l dC dI dA zz base L_54 f_54 H.size g_65  _ hw) (cwV 0 hts gX8_crossing_X6_terms rfl rfl rfl (by decide +kernel) ⟨by decide, by decide⟩) (pPreV [] (ci := 7) rfl hO9 hK hP hD hS hB hz hN hT) rfl rfl hl.1 rfl (lv_room (Nat.le_of_ble_eq_true rfl)) dX8_crossing_68 ⟨by decide, by decide⟩) hS (fun q _ h => hFc q h) hFc (fun r_68 u t H1 locs ht hvm hw hB1 hz1 hk1 hS => ?_)
  obtain ⟨L_68, f_68⟩ := u
  obtain ⟨hP, -, hD1⟩ := hB1
  rw [ht] at hP
  have hw := id hw
  have hP : va_P (dC, dI) vwCl (va_pl L_68 f_68) H1 := hP
  have hD : va_D A (va_pl L_68 f_68) := p_gain hD1 hFc
  generalize H1 = H at hP hS ⊢
  refine lv_land hx hb dX8_crossing_71 ?_
  obtain ⟨hO9, hw⟩ := hw
  have hFc := p_free hD hS hA
  refine va_calll (va_runV (As := [.long (r_34 &&& r_68)]) (rest := [.long (r_25 &&& r_54)]) ⟨hx, hb, hml, hown, hts⟩ (c_X1_thingsOf l dC dI dA zz base L_68 f_68 H.size g_59 (r_34 &&& r_68) _ hw) (cwV 1 hts gX8_crossing_X1_thingsOf rfl rfl rfl (by decide +kernel) ⟨by decide, by decide⟩) (pPreV [.long (r_34 &&& r_68)] (ci := 2) rfl hO9 hK hP hD hS hB hz hN hT) rfl rfl hl.1 rfl (lv_room (Nat.le_of_ble_eq_true rfl)) dX8_crossing_72 ⟨by decide, by decide⟩) hS (fun q _ h => hFc q h) hFc (fun r_72 u t H1 locs ht hvm hw hB1 hz1 hk1 hS => ?_)
  obtain ⟨L_72, f_72⟩ := u
  obtain ⟨hP, -, hD1⟩ := hB1
  rw [ht] at hP
  have hw := id hw
  have hP : va_P (dC, dI) vwCl (va_pl L_72 f_72) H1 := hP
  have hD : va_D A (va_pl L_72 f_72) := p_gain hD1 hFc
  generalize H1 = H at hP hS ⊢
  refine lv_ldc2 (v := -1) hx hb hown (hts _ lk_X8_crossing_203) dX8_crossing_75 ?_
  refine lv_lxor hx hb dX8_crossing_78 ?_
  refine lv_land hx hb dX8_crossing_79 ?_
  refine vx_ret ?_
  exact W.lret (v := ((r_25 &&& r_54) &&& (r_72 ^^^ (-1 : Int64)))) hx hb hr (fun t ht hW => ⟨⟨((r_25 &&& r_54) &&& (r_72 ^^^ (-1 : Int64))), (L_72, f_72), rfl, hw, by rw [ht]; exact hP, va_K.moved hW.alike hK, hD⟩, hS.F ht⟩) hS.2.2 dX8_crossing_80
set_option maxHeartbeats 4000000 in
set_option maxRecDepth 100000 in
theorem c_X8_crossing (l : Launch) (hlt : l.stackTraces = false) (dC : Nat → ClassId) (dI : Nat → Nat → Nat) (dA : Nat → ClassId) (zz : Nat → Nat) (base : Nat) (L : List Nat) (f : pF) (sz : Nat) (a0 : Nat) (a1 : Int32) (a2 : Int32) (Q : Int64 → List Nat → pF → Prop) (X : String → List Nat → pF → Prop) (hw : wp_X8_crossing_0 dA zz Q X L f a0 a1 a2) : vx_Met l yX8_crossing wsX8_crossing rm_X8_crossing (va_Pc [.ref a0, .int a1, .int a2] (pPre dC dI dA zz base L f sz)) (va_Ql (fun r (u : List Nat × pF) => Q r u.1 u.2) (pB dC dI dA (va_A (va_pl L f) sz)) (va_A (va_pl L f) sz)) (vx_X (fun (u : String × List Nat × pF) => X u.1 u.2.1 u.2.2) (fun E u t => E = u.1 ∧ pB dC dI dA (va_A (va_pl L f) sz) u.2 t) (va_A (va_pl L f) sz)) 2 12 (va_A (va_pl L f) sz) := by
  refine vx_ofW (cc := cX8_crossing) (maxL := 9) (ret := (some .long)) (by decide) rfl ?_
  intro p e s m args below meth c s₁ B hml hnt hv
  obtain ⟨rfl, hsz, hP, hK, hD0, hz, hN, hT⟩ := hv
  subst hsz
  have hl := lv_entry ([.ref a0, .int a1, .int a2]) (n := 9) (Nat.le_of_ble_eq_true rfl)
  rw [lg_entry_eq]
  generalize (lg_sl ([.ref a0, .int a1, .int a2]) ++ List.replicate (9 - (lg_sl ([.ref a0, .int a1, .int a2])).length) Slot.unset).toArray = ls at hl ⊢
  exact tb_X8_crossing_0 (Q := Q) (p := p) ⟨⟨B.exec, B.bytes, hml, findClass_of_methodNamed B.named, atoms_spec (ws := wsX8_crossing) B.pre, B.returns, B.notSynchronized, fun q h => Or.inr h, hK, pAB hD0 hz, hz, hN, hT⟩, hlt, hnt⟩ L f a0 a1 a2 hw s.heap [] hP (hD0.self (sz := s.heap.size)) va_S.rf ls (lv_sub hl [0, 1, 2] rfl)
theorem iw_X8_total_RX8 : ∀ w ∈ u_ws RX8 TX8 6, w ∈ wsX8_total := by decide +kernel
theorem lk_X8_total_124 : Cond.classLink RX8 124 "java/util/NoSuchElementException" ∈ wsX8_total := by decide +kernel
theorem lk_X8_total_14 : Cond.fieldLink RX8 14 "TermKeeper" "waiting" "LTermKeeper$Row;" ∈ wsX8_total := by decide +kernel
theorem lk_X8_total_25 : Cond.fieldLink RX8 25 "TermKeeper" "glossary" "LTermKeeper$Glossary;" ∈ wsX8_total := by decide +kernel
theorem lk_X8_total_50 : Cond.fieldLink RX8 50 "TermKeeper" "mender" "LTermKeeper$Mender;" ∈ wsX8_total := by decide +kernel
theorem lk_X8_total_203 : Cond.constantLong RX8 203 (-1) ∈ wsX8_total := by decide +kernel
theorem lx_X8_total_NSE : ∀ w ∈ (nsAt).filter goodWord, w ∈ wsX8_total := by decide +kernel
theorem lg_X8_total_NSE : ∀ w ∈ Cond.classLink RX8 124 "java/util/NoSuchElementException" :: Cond.initialized "java/util/NoSuchElementException" :: nsAt, vx_ot w = true := by decide +kernel
theorem lz_X8_total_NSE : Cond.initialized "java/util/NoSuchElementException" ∈ wsX8_total := by decide +kernel
abbrev rm_X8_total : Room := { frames := 6, cells := 1, slots := 6, locals := 90 }
def wp_X8_total_0 (dA : Nat → ClassId) (zz : Nat → Nat) (Q : Int32 → List Nat → pF → Prop) (X : String → List Nat → pF → Prop) (L : List Nat) (f : pF) (a0 : Nat) (a1 : Int32) : Prop :=
    (
     (a1 = 0 →
      (gR L f 9 a0 2 (fun g_37 =>
        (isO L f 2 g_37 ∧
          (wp_X1_endingsHeld_0 dA zz (fun r_40 L_40 f_40 =>
            (Q r_40 L_40 f_40)) L f g_37 ))))) ∧
     (a1 = 1 →
      (gR L f 9 a0 2 (fun g_45 =>
        (isO L f 2 g_45 ∧
          (wp_X1_termsHeld_0 dA zz (fun r_48 L_48 f_48 =>
            (Q r_48 L_48 f_48)) L f g_45 ))))) ∧
     (a1 = 2 →
      (gR L f 9 a0 0 (fun g_53 =>
        (isO L f 5 g_53 ∧
          (wp_X4_size_0 dA zz (fun r_56 L_56 f_56 =>
            (Q r_56 L_56 f_56)) L f g_53 ))))) ∧
     (a1 = 3 →
      (gR L f 9 a0 2 (fun g_61 =>
        (isO L f 2 g_61 ∧
          (wp_X1_thingsOf_0 dA zz (fun r_67 L_67 f_67 =>
            (wp_J13_bitCount_95d88_0 (fun r_70 =>
              (Q r_70 L_67 f_67)) r_67)) L f g_61 (-1 : Int64)))))) ∧
     (a1 = 4 →
      (gR L f 9 a0 5 (fun g_75 =>
        (isO L f 3 g_75 ∧
          (wp_X2_mendsEver_0 dA zz (fun r_78 L_78 f_78 =>
            (Q r_78 L_78 f_78)) L f g_75 ))))) ∧
     (¬ a1 = 0 → ¬ a1 = 1 → ¬ a1 = 2 → ¬ a1 = 3 → ¬ a1 = 4 →
      (X "java/util/NoSuchElementException" L f)))
set_option maxHeartbeats 4000000 in
set_option maxRecDepth 100000 in
theorem tb_X8_total_0 {p : Program} {l : Launch} {e : Env} {s : State} {m : MethodId} {below : List Frame} {meth : Method} {c : Code} {args : Array Value} {dC : Nat → ClassId} {dI : Nat → Nat → Nat} {dA : Nat → ClassId} {zz : Nat → Nat} {base : Nat} {A : Nat → Prop} {Q : Int32 → List Nat → pF → Prop} {X : String → List Nat → pF → Prop} (C : pCx p s m args meth c cX8_total 2 (some .int) RX8 wsX8_total A dC dI dA zz base ∧ l.stackTraces = false ∧ (∀ x ∈ c.exceptionTable.toList, False)) : ∀ (L : List Nat) (f : pF) (a0 : Nat) (a1 : Int32), wp_X8_total_0 dA zz Q X  L f a0 a1 → pAt p l e rm_X8_total s m args below meth c dC dI A (vx_MQ below (va_Qi (fun r (u : List Nat × pF) => Q r u.1 u.2) (pB dC dI dA A) A) (vx_X (fun (u : String × List Nat × pF) => X u.1 u.2.1 u.2.2) (fun E u t => E = u.1 ∧ pB dC dI dA A u.2 t) A) args s 1 6 A) 0 0 0 2 [(0, .ref a0), (1, .int a1)] [] L f := by
  obtain ⟨⟨hx, hb, hml, hown, hts, hr, hlocks, hA, hK, hB, hz, hN, hT⟩, hlt, hnt⟩ := id C
  have hout9 : ∀ {pc9 : Nat}, ∀ x ∈ c.exceptionTable.toList, covers x pc9 = false := fun x h => (hnt x h).elim
  intro L f a0 a1 hw H locs hP hD hS ls hl
  rw [wp_X8_total_0] at hw
  refine lv_iload_n hx hb dX8_total_0 rfl (lv_at hl 1 rfl) ?_
  by_cases c_1_0 : a1 = 0
  · have hw := hw.1 c_1_0
    refine lv_tableIn (off := 35) (tgt := 36) hx hb dX8_total_1 (by rw [c_1_0]; decide) (by rw [c_1_0]; decide) (by rw [c_1_0]; decide) (by decide) ?_
    refine lv_aload_n hx hb dX8_total_36 rfl (lv_at hl 0 rfl) ?_
    obtain ⟨fs_37, g_37, ⟨hL9, hf9, hn9⟩, hw⟩ := hw
    refine va_get (D := (dC, dI)) (ci := 9) (v := .ref g_37) (C := RX8) (T := TX8) (N := 6) hx hb hts iw_X8_total_RX8 hown hK (p_one hP hL9 hf9) 0 rfl rfl 2 (by decide) (hts _ lk_X8_total_25) (fun _ h9 => h9) hn9 dX8_total_37 ?_
    obtain ⟨hO9, hw⟩ := hw
    have hFc := p_free hD hS hA
    refine va_calli (va_runV (As := []) (rest := []) ⟨hx, hb, hml, hown, hts⟩ (c_X1_endingsHeld l dC dI dA zz base L f H.size g_37  _ hw) (cwV 0 hts gX8_total_X1_endingsHeld rfl rfl rfl (by decide +kernel) ⟨by decide, by decide⟩) (pPreV [] (ci := 2) rfl hO9 hK hP hD hS hB hz hN hT) rfl rfl hl.1 rfl (lv_room (Nat.le_of_ble_eq_true rfl)) dX8_total_40 ⟨by decide, by decide⟩) hS (fun q _ h => hFc q h) hFc (fun r_40 u t H1 locs ht hvm hw hB1 hz1 hk1 hS => ?_)
    obtain ⟨L_40, f_40⟩ := u
    obtain ⟨hP, -, hD1⟩ := hB1
    rw [ht] at hP
    have hw := id hw
    have hP : va_P (dC, dI) vwCl (va_pl L_40 f_40) H1 := hP
    have hD : va_D A (va_pl L_40 f_40) := p_gain hD1 hFc
    generalize H1 = H at hP hS ⊢
    refine W.widen (k := 1) (n := 6) (by decide) (by decide) ?_
    refine vx_ret ?_
    exact W.iret (v := r_40) hx hb hr (fun t ht hW => ⟨⟨r_40, (L_40, f_40), rfl, hw, by rw [ht]; exact hP, va_K.moved hW.alike hK, hD⟩, hS.F ht⟩) hS.2.2 dX8_total_43
  by_cases c_1_1 : a1 = 1
  · have hw := hw.2.1 c_1_1
    refine lv_tableIn (off := 43) (tgt := 44) hx hb dX8_total_1 (by rw [c_1_1]; decide) (by rw [c_1_1]; decide) (by rw [c_1_1]; decide) (by decide) ?_
    refine lv_aload_n hx hb dX8_total_44 rfl (lv_at hl 0 rfl) ?_
    obtain ⟨fs_45, g_45, ⟨hL9, hf9, hn9⟩, hw⟩ := hw
    refine va_get (D := (dC, dI)) (ci := 9) (v := .ref g_45) (C := RX8) (T := TX8) (N := 6) hx hb hts iw_X8_total_RX8 hown hK (p_one hP hL9 hf9) 0 rfl rfl 2 (by decide) (hts _ lk_X8_total_25) (fun _ h9 => h9) hn9 dX8_total_45 ?_
    obtain ⟨hO9, hw⟩ := hw
    have hFc := p_free hD hS hA
    refine va_calli (va_runV (As := []) (rest := []) ⟨hx, hb, hml, hown, hts⟩ (c_X1_termsHeld l dC dI dA zz base L f H.size g_45  _ hw) (cwV 0 hts gX8_total_X1_termsHeld rfl rfl rfl (by decide +kernel) ⟨by decide, by decide⟩) (pPreV [] (ci := 2) rfl hO9 hK hP hD hS hB hz hN hT) rfl rfl hl.1 rfl (lv_room (Nat.le_of_ble_eq_true rfl)) dX8_total_48 ⟨by decide, by decide⟩) hS (fun q _ h => hFc q h) hFc (fun r_48 u t H1 locs ht hvm hw hB1 hz1 hk1 hS => ?_)
    obtain ⟨L_48, f_48⟩ := u
    obtain ⟨hP, -, hD1⟩ := hB1
    rw [ht] at hP
    have hw := id hw
    have hP : va_P (dC, dI) vwCl (va_pl L_48 f_48) H1 := hP
    have hD : va_D A (va_pl L_48 f_48) := p_gain hD1 hFc
    generalize H1 = H at hP hS ⊢
    refine W.widen (k := 1) (n := 6) (by decide) (by decide) ?_
    refine vx_ret ?_
    exact W.iret (v := r_48) hx hb hr (fun t ht hW => ⟨⟨r_48, (L_48, f_48), rfl, hw, by rw [ht]; exact hP, va_K.moved hW.alike hK, hD⟩, hS.F ht⟩) hS.2.2 dX8_total_51
  by_cases c_1_2 : a1 = 2
  · have hw := hw.2.2.1 c_1_2
    refine lv_tableIn (off := 51) (tgt := 52) hx hb dX8_total_1 (by rw [c_1_2]; decide) (by rw [c_1_2]; decide) (by rw [c_1_2]; decide) (by decide) ?_
    refine lv_aload_n hx hb dX8_total_52 rfl (lv_at hl 0 rfl) ?_
    obtain ⟨fs_53, g_53, ⟨hL9, hf9, hn9⟩, hw⟩ := hw
    refine va_get (D := (dC, dI)) (ci := 9) (v := .ref g_53) (C := RX8) (T := TX8) (N := 6) hx hb hts iw_X8_total_RX8 hown hK (p_one hP hL9 hf9) 0 rfl rfl 0 (by decide) (hts _ lk_X8_total_14) (fun _ h9 => h9) hn9 dX8_total_53 ?_
    obtain ⟨hO9, hw⟩ := hw
    have hFc := p_free hD hS hA
    refine va_calli (va_runV (As := []) (rest := []) ⟨hx, hb, hml, hown, hts⟩ (c_X4_size l dC dI dA zz base L f H.size g_53  _ hw) (cwV 0 hts gX8_total_X4_size rfl rfl rfl (by decide +kernel) ⟨by decide, by decide⟩) (pPreV [] (ci := 5) rfl hO9 hK hP hD hS hB hz hN hT) rfl rfl hl.1 rfl (lv_room (Nat.le_of_ble_eq_true rfl)) dX8_total_56 ⟨by decide, by decide⟩) hS (fun q _ h => hFc q h) hFc (fun r_56 u t H1 locs ht hvm hw hB1 hz1 hk1 hS => ?_)
    obtain ⟨L_56, f_56⟩ := u
    obtain ⟨hP, -, hD1⟩ := hB1
    rw [ht] at hP
    have hw := id hw
    have hP : va_P (dC, dI) vwCl (va_pl L_56 f_56) H1 := hP
    have hD : va_D A (va_pl L_56 f_56) := p_gain hD1 hFc
    generalize H1 = H at hP hS ⊢
    refine W.widen (k := 1) (n := 6) (by decide) (by decide) ?_
    refine vx_ret ?_
    exact W.iret (v := r_56) hx hb hr (fun t ht hW => ⟨⟨r_56, (L_56, f_56), rfl, hw, by rw [ht]; exact hP, va_K.moved hW.alike hK, hD⟩, hS.F ht⟩) hS.2.2 dX8_total_59
  by_cases c_1_3 : a1 = 3
  · have hw := hw.2.2.2.1 c_1_3
    refine lv_tableIn (off := 59) (tgt := 60) hx hb dX8_total_1 (by rw [c_1_3]; decide) (by rw [c_1_3]; decide) (by rw [c_1_3]; decide) (by decide) ?_
    refine lv_aload_n hx hb dX8_total_60 rfl (lv_at hl 0 rfl) ?_
    obtain ⟨fs_61, g_61, ⟨hL9, hf9, hn9⟩, hw⟩ := hw
    refine va_get (D := (dC, dI)) (ci := 9) (v := .ref g_61) (C := RX8) (T := TX8) (N := 6) hx hb hts iw_X8_total_RX8 hown hK (p_one hP hL9 hf9) 0 rfl rfl 2 (by decide) (hts _ lk_X8_total_25) (fun _ h9 => h9) hn9 dX8_total_61 ?_
    refine lv_ldc2 (v := -1) hx hb hown (hts _ lk_X8_total_203) dX8_total_64 ?_
    obtain ⟨hO9, hw⟩ := hw
    have hFc := p_free hD hS hA
    refine va_calll (va_runV (As := [.long (-1 : Int64)]) (rest := []) ⟨hx, hb, hml, hown, hts⟩ (c_X1_thingsOf l dC dI dA zz base L f H.size g_61 (-1 : Int64) _ hw) (cwV 1 hts gX8_total_X1_thingsOf rfl rfl rfl (by decide +kernel) ⟨by decide, by decide⟩) (pPreV [.long (-1 : Int64)] (ci := 2) rfl hO9 hK hP hD hS hB hz hN hT) rfl rfl hl.1 rfl (lv_room (Nat.le_of_ble_eq_true rfl)) dX8_total_67 ⟨by decide, by decide⟩) hS (fun q _ h => hFc q h) hFc (fun r_67 u t H1 locs ht hvm hw hB1 hz1 hk1 hS => ?_)
    obtain ⟨L_67, f_67⟩ := u
    obtain ⟨hP, -, hD1⟩ := hB1
    rw [ht] at hP
    have hw := id hw
    have hP : va_P (dC, dI) vwCl (va_pl L_67 f_67) H1 := hP
    have hD : va_D A (va_pl L_67 f_67) := p_gain hD1 hFc
    generalize H1 = H at hP hS ⊢
    refine vp_callSi (W.runS (As := [.long r_67]) (rest := []) ⟨hx, hb, hml, hown, hts⟩ (c_J13_bitCount_95d88 l r_67 _ hw) (va_cwS 1 hts gX8_total_J13_bitCount_95d88 rfl rfl rfl (by decide +kernel) ⟨by decide, by decide⟩) preEq rfl rfl hl.1 rfl (lv_room (Nat.le_of_ble_eq_true rfl)) dX8_total_70 ⟨by decide, by decide⟩) (fun r_70 hw => ?_)
    refine W.widen (k := 1) (n := 6) (by decide) (by decide) ?_
    refine vx_ret ?_
    exact W.iret (v := r_70) hx hb hr (fun t ht hW => ⟨⟨r_70, (L_67, f_67), rfl, hw, by rw [ht]; exact hP, va_K.moved hW.alike hK, hD⟩, hS.F ht⟩) hS.2.2 dX8_total_73
  by_cases c_1_4 : a1 = 4
  · have hw := hw.2.2.2.2.1 c_1_4
    refine lv_tableIn (off := 73) (tgt := 74) hx hb dX8_total_1 (by rw [c_1_4]; decide) (by rw [c_1_4]; decide) (by rw [c_1_4]; decide) (by decide) ?_
    refine lv_aload_n hx hb dX8_total_74 rfl (lv_at hl 0 rfl) ?_
    obtain ⟨fs_75, g_75, ⟨hL9, hf9, hn9⟩, hw⟩ := hw
    refine va_get (D := (dC, dI)) (ci := 9) (v := .ref g_75) (C := RX8) (T := TX8) (N := 6) hx hb hts iw_X8_total_RX8 hown hK (p_one hP hL9 hf9) 0 rfl rfl 5 (by decide) (hts _ lk_X8_total_50) (fun _ h9 => h9) hn9 dX8_total_75 ?_
    obtain ⟨hO9, hw⟩ := hw
    have hFc := p_free hD hS hA
    refine va_calli (va_runV (As := []) (rest := []) ⟨hx, hb, hml, hown, hts⟩ (c_X2_mendsEver l dC dI dA zz base L f H.size g_75  _ hw) (cwV 0 hts gX8_total_X2_mendsEver rfl rfl rfl (by decide +kernel) ⟨by decide, by decide⟩) (pPreV [] (ci := 3) rfl hO9 hK hP hD hS hB hz hN hT) rfl rfl hl.1 rfl (lv_room (Nat.le_of_ble_eq_true rfl)) dX8_total_78 ⟨by decide, by decide⟩) hS (fun q _ h => hFc q h) hFc (fun r_78 u t H1 locs ht hvm hw hB1 hz1 hk1 hS => ?_)
    obtain ⟨L_78, f_78⟩ := u
    obtain ⟨hP, -, hD1⟩ := hB1
    rw [ht] at hP
    have hw := id hw
    have hP : va_P (dC, dI) vwCl (va_pl L_78 f_78) H1 := hP
    have hD : va_D A (va_pl L_78 f_78) := p_gain hD1 hFc
    generalize H1 = H at hP hS ⊢
    refine W.widen (k := 1) (n := 6) (by decide) (by decide) ?_
    refine vx_ret ?_
    exact W.iret (v := r_78) hx hb hr (fun t ht hW => ⟨⟨r_78, (L_78, f_78), rfl, hw, by rw [ht]; exact hP, va_K.moved hW.alike hK, hD⟩, hS.F ht⟩) hS.2.2 dX8_total_81
  have hw := hw.2.2.2.2.2 c_1_0 c_1_1 c_1_2 c_1_3 c_1_4
  refine lv_tableOut (tgt := 82) hx hb dX8_total_1 (sw_out5 c_1_0 c_1_1 c_1_2 c_1_3 c_1_4) (by decide) ?_
  obtain ⟨sa9, hs9⟩ := hN.2.2.2.2.2.2.2.1 (220, "no such total") (by decide +kernel)
  exact vx_throwN (sup := "java/lang/RuntimeException") (names := ["java/lang/Exception"]) (idx := 13) (bytes := nsB) hx hb hlt (by decide +kernel) (by decide +kernel) (by decide +kernel) (by decide +kernel) hown (by decide +kernel) (by decide +kernel) (by decide +kernel) (hts _ lk_X8_total_124) (hts _ lz_X8_total_NSE) hs9 (vx_hat (fun w h => hts w (lx_X8_total_NSE w h)) pBad_NSE (pBad_of hN.2.2.2.2.2.2.2.2.2.2.2.2.1 hN.2.2.2.2.2.2.2.2.2.2.2.2.2.2.1)) lg_X8_total_NSE (hT.1.narrow hB) (hT.2.1.narrow hB) hS (by rw [hml]; exact hl.1) dX8_total_82 dX8_total_85 dX8_total_86 dX8_total_88 dX8_total_91 hout9 (Nat.le_of_ble_eq_true rfl) (Nat.le_of_ble_eq_true rfl) (Nat.le_of_ble_eq_true rfl) (Nat.le_of_ble_eq_true rfl) hlocks (fun t hvm hsz hk => ⟨("java/util/NoSuchElementException", L, f), hw, ⟨rfl, p_keep hP hk, va_K.moved hvm hK, hD⟩, p_F hS hsz hk⟩) hS.2.2 (by decide) (by decide)
set_option maxHeartbeats 4000000 in
set_option maxRecDepth 100000 in
theorem c_X8_total (l : Launch) (hlt : l.stackTraces = false) (dC : Nat → ClassId) (dI : Nat → Nat → Nat) (dA : Nat → ClassId) (zz : Nat → Nat) (base : Nat) (L : List Nat) (f : pF) (sz : Nat) (a0 : Nat) (a1 : Int32) (Q : Int32 → List Nat → pF → Prop) (X : String → List Nat → pF → Prop) (hw : wp_X8_total_0 dA zz Q X L f a0 a1) : vx_Met l yX8_total wsX8_total rm_X8_total (va_Pc [.ref a0, .int a1] (pPre dC dI dA zz base L f sz)) (va_Qi (fun r (u : List Nat × pF) => Q r u.1 u.2) (pB dC dI dA (va_A (va_pl L f) sz)) (va_A (va_pl L f) sz)) (vx_X (fun (u : String × List Nat × pF) => X u.1 u.2.1 u.2.2) (fun E u t => E = u.1 ∧ pB dC dI dA (va_A (va_pl L f) sz) u.2 t) (va_A (va_pl L f) sz)) 1 6 (va_A (va_pl L f) sz) := by
  refine vx_ofW (cc := cX8_total) (maxL := 2) (ret := (some .int)) (by decide) rfl ?_
  intro p e s m args below meth c s₁ B hml hnt hv
  obtain ⟨rfl, hsz, hP, hK, hD0, hz, hN, hT⟩ := hv
  subst hsz
  have hl := lv_entry ([.ref a0, .int a1]) (n := 2) (Nat.le_of_ble_eq_true rfl)
  rw [lg_entry_eq]
  generalize (lg_sl ([.ref a0, .int a1]) ++ List.replicate (2 - (lg_sl ([.ref a0, .int a1])).length) Slot.unset).toArray = ls at hl ⊢
  exact tb_X8_total_0 (Q := Q) (p := p) ⟨⟨B.exec, B.bytes, hml, findClass_of_methodNamed B.named, atoms_spec (ws := wsX8_total) B.pre, B.returns, B.notSynchronized, fun q h => Or.inr h, hK, pAB hD0 hz, hz, hN, hT⟩, hlt, hnt⟩ L f a0 a1 hw s.heap [] hP (hD0.self (sz := s.heap.size)) va_S.rf ls (lv_sub hl [0, 1] rfl)
