theorem iw_X1_init_RJx4a65c : ∀ w ∈ u_ws RJx4a65c TJx4a65c 3, w ∈ wsX1_init := by decide +kernel
theorem iw_X1_init_RX1 : ∀ w ∈ u_ws RX1 TX1 3, w ∈ wsX1_init := by decide +kernel
theorem lk_X1_init_9 : Cond.classLink RX1 9 RJx4a65c ∈ wsX1_init := by decide +kernel
theorem lk_X1_init_12 : Cond.fieldLink RX1 12 "TermKeeper$Glossary" "endings" "Ljava/util/ArrayList;" ∈ wsX1_init := by decide +kernel
theorem lk_X1_init_18 : Cond.fieldLink RX1 18 "TermKeeper$Glossary" "terms" "Ljava/util/ArrayList;" ∈ wsX1_init := by decide +kernel
theorem lk_X1_init_21 : Cond.fieldLink RX1 21 "TermKeeper$Glossary" "neighbours" "Ljava/util/ArrayList;" ∈ wsX1_init := by decide +kernel
theorem li_X1_init_RJx4a65c : Cond.instantiable RJx4a65c 3 ∈ wsX1_init := by decide +kernel
theorem lim_X1_init_Jx4a65c_init_da8c8 : Cond.instanceMethod yJx4a65c_init_da8c8 ∈ wsX1_init := by decide +kernel
theorem lm_X1_init_11 : Cond.methodLink RX1 11 yJx4a65c_init_da8c8 ∈ wsX1_init := by decide +kernel
theorem lo1_X1_init : Cond.instanceMethod objectInit ∈ wsX1_init := by decide +kernel
theorem lo2_X1_init : Cond.code objectInit ⟨#[0xb1]⟩ 1 none ∈ wsX1_init := by decide +kernel
theorem lm_X1_init_3 : Cond.methodLink RX1 3 objectInit ∈ wsX1_init := by decide +kernel
theorem lz_X1_init_RJx4a65c : Cond.initialized RJx4a65c ∈ wsX1_init := by decide +kernel
abbrev rm_X1_init : Room := { frames := 4, cells := 3, slots := 9, locals := 72 }
def wp_X1_init_0 (dA : Nat → ClassId) (zz : Nat → Nat) (Q : List Nat → pF → Prop) (L : List Nat) (f : pF) (a0 : Nat) : Prop :=
    (nO zz L f (.inr (0, [.int 0, .null, .int 0])) (fun q_5 L_5 f_5 =>
      (wp_Jx4a65c_init_da8c8_0 dA zz (fun L_9 f_9 =>
        (gP L_9 f_9 2 a0 0 (.ref q_5) (fun f_12 =>
          (nO zz L_9 f_12 (.inr (0, [.int 0, .null, .int 0])) (fun q_16 L_16 f_16 =>
            (wp_Jx4a65c_init_da8c8_0 dA zz (fun L_20 f_20 =>
              (gP L_20 f_20 2 a0 1 (.ref q_16) (fun f_23 =>
                (nO zz L_20 f_23 (.inr (0, [.int 0, .null, .int 0])) (fun q_27 L_27 f_27 =>
                  (wp_Jx4a65c_init_da8c8_0 dA zz (fun L_31 f_31 =>
                    (gP L_31 f_31 2 a0 2 (.ref q_27) (fun f_34 =>
                      (Q L_31 f_34)))) L_27 f_27 q_27 )))))) L_16 f_16 q_16 )))))) L_5 f_5 q_5 )))
set_option maxHeartbeats 4000000 in
set_option maxRecDepth 100000 in
theorem tb_X1_init_0 {p : Program} {l : Launch} {e : Env} {s : State} {m : MethodId} {below : List Frame} {meth : Method} {c : Code} {args : Array Value} {dC : Nat → ClassId} {dI : Nat → Nat → Nat} {dA : Nat → ClassId} {zz : Nat → Nat} {base : Nat} {A : Nat → Prop} {Q : List Nat → pF → Prop} (C : pCx p s m args meth c cX1_init 1 none RX1 wsX1_init A dC dI dA zz base ∧ meth.name = "<init>") : ∀ (L : List Nat) (f : pF) (a0 : Nat), wp_X1_init_0 dA zz Q  L f a0 → pAt p l e rm_X1_init s m args below meth c dC dI A (MQ below (va_Qv (fun (u : List Nat × pF) => Q u.1 u.2) (pB dC dI dA A) A) args s 3 9 A) 0 0 0 1 [(0, .ref a0)] [] L f := by
  obtain ⟨⟨hx, hb, hml, hown, hts, hr, hlocks, hA, hK, hB, hz, hN, hT⟩, hin⟩ := id C
  intro L f a0 hw H locs hP hD hS ls hl
  rw [wp_X1_init_0] at hw
  refine lv_aload_n hx hb dX1_init_0 rfl (lv_at hl 0 rfl) ?_
  refine W.objInit hx hb hown (hts _ lm_X1_init_3) (hts _ lo1_X1_init) (hts _ lo2_X1_init) rfl (by rw [hml]; exact hl.1) rfl dX1_init_1 (Nat.le_of_ble_eq_true rfl) (Nat.le_of_ble_eq_true rfl) ?_
  refine W.eq (g2 := F0 m 4 ls []) rfl ?_
  refine lv_aload_n hx hb dX1_init_4 rfl (lv_at hl 0 rfl) ?_
  refine va_new (ci := 0) (fs := [.int 0, .null, .int 0]) (C := RJx4a65c) (T := TJx4a65c) (N := 3) hx hb hts iw_X1_init_RJx4a65c tyJx4a65c tyJx4a65c_ok hown (hts _ lk_X1_init_9) (hts _ li_X1_init_RJx4a65c) (hts _ lz_X1_init_RJx4a65c) hK hP hD hS hA rfl (fun j hj => by rcases (show j = 0 ∨ j = 1 ∨ j = 2 by omega) with rfl | rfl | rfl <;> rfl) (by decide) (by decide) dX1_init_5 (fun q_5 H hP2 hD2 hS => ?_)
  have hq9 := p_fresh hD2
  have hz9 := p_nz hB hT hD2
  rw [va_pl_push hq9] at hP2 hD2
  obtain ⟨L_5, eL_5⟩ : ∃ y : List Nat, y = L ++ [q_5] := ⟨_, rfl⟩
  obtain ⟨f_5, ef_5⟩ : ∃ y : pF, y = va_up f q_5 (.inr (0, [.int 0, .null, .int 0])) := ⟨_, rfl⟩
  have hw := hw q_5 hq9 hz9 L_5 f_5 eL_5 ef_5
  have hP : va_P (dC, dI) vwCl (va_pl L_5 f_5) H := by rw [eL_5, ef_5]; exact hP2
  have hD : va_D A (va_pl L_5 f_5) := by rw [eL_5, ef_5]; exact hD2
  refine lv_dup hx hb dX1_init_8 rfl ?_
  have hFc := p_free hD hS hA
  refine va_callv (va_runI (As := []) (rest := [.ref q_5, .ref a0]) ⟨hx, hb, hml, hown, hts⟩ (c_Jx4a65c_init_da8c8 l dC dI dA zz base L_5 f_5 H.size q_5  _ hw) (cwI 0 hts gX1_init_Jx4a65c_init_da8c8 rfl rfl rfl (hts _ lz_X1_init_RJx4a65c) (hts _ lm_X1_init_11) (hts _ lim_X1_init_Jx4a65c_init_da8c8) rfl (by decide +kernel) ⟨by decide, by decide⟩) (pPreS [.ref q_5] hK hP hD hS hB hz hN hT) rfl rfl hl.1 rfl (lv_room (Nat.le_of_ble_eq_true rfl)) dX1_init_9 ⟨by decide, by decide⟩) hS (fun q _ h => hFc q h) hFc (fun u t H1 locs ht hvm hw hB1 hz1 hk1 hS => ?_)
  obtain ⟨L_9, f_9⟩ := u
  obtain ⟨hP, -, hD1⟩ := hB1
  rw [ht] at hP
  have hw := id hw
  have hP : va_P (dC, dI) vwCl (va_pl L_9 f_9) H1 := hP
  have hD : va_D A (va_pl L_9 f_9) := p_gain hD1 hFc
  generalize H1 = H at hP hS ⊢
  obtain ⟨fs_12, ⟨hL9, hf9, hn9⟩, hw⟩ := hw
  obtain ⟨kq9, hkq9⟩ := p_at hL9 hf9
  refine va_putF (D := (dC, dI)) (ci := 2) (v := .ref q_5) (C := RX1) (T := TX1) (N := 3) hx hb hts iw_X1_init_RX1 tyX1 tyX1_ok nmX1 hown hK hP hD hS kq9 hkq9 rfl 0 (by decide) (hts _ lk_X1_init_12) (fun _ h9 => h9) rfl hin rfl (tyX1_ok 0 (by decide)) rfl rfl hn9 dX1_init_12 (fun H locs hP2 hD2 hS => ?_)
  rw [p_set hD hL9 hf9 hkq9] at hP2 hD2
  obtain ⟨f_12, ef_12⟩ : ∃ y : pF, y = va_up f_9 a0 (.inr (2, fs_12.set 0 (.ref q_5))) := ⟨_, rfl⟩
  rw [← ef_12] at hP2 hD2
  have hw := hw f_12 ef_12
  have hP := hP2
  have hD := hD2
  refine lv_aload_n hx hb dX1_init_15 rfl (lv_at hl 0 rfl) ?_
  refine va_new (ci := 0) (fs := [.int 0, .null, .int 0]) (C := RJx4a65c) (T := TJx4a65c) (N := 3) hx hb hts iw_X1_init_RJx4a65c tyJx4a65c tyJx4a65c_ok hown (hts _ lk_X1_init_9) (hts _ li_X1_init_RJx4a65c) (hts _ lz_X1_init_RJx4a65c) hK hP hD hS hA rfl (fun j hj => by rcases (show j = 0 ∨ j = 1 ∨ j = 2 by omega) with rfl | rfl | rfl <;> rfl) (by decide) (by decide) dX1_init_16 (fun q_16 H hP2 hD2 hS => ?_)
  have hq9 := p_fresh hD2
  have hz9 := p_nz hB hT hD2
  rw [va_pl_push hq9] at hP2 hD2
  obtain ⟨L_16, eL_16⟩ : ∃ y : List Nat, y = L_9 ++ [q_16] := ⟨_, rfl⟩
  obtain ⟨f_16, ef_16⟩ : ∃ y : pF, y = va_up f_12 q_16 (.inr (0, [.int 0, .null, .int 0])) := ⟨_, rfl⟩
  have hw := hw q_16 hq9 hz9 L_16 f_16 eL_16 ef_16
  have hP : va_P (dC, dI) vwCl (va_pl L_16 f_16) H := by rw [eL_16, ef_16]; exact hP2
  have hD : va_D A (va_pl L_16 f_16) := by rw [eL_16, ef_16]; exact hD2
  refine lv_dup hx hb dX1_init_19 rfl ?_
  have hFc := p_free hD hS hA
  refine va_callv (va_runI (As := []) (rest := [.ref q_16, .ref a0]) ⟨hx, hb, hml, hown, hts⟩ (c_Jx4a65c_init_da8c8 l dC dI dA zz base L_16 f_16 H.size q_16  _ hw) (cwI 0 hts gX1_init_Jx4a65c_init_da8c8 rfl rfl rfl (hts _ lz_X1_init_RJx4a65c) (hts _ lm_X1_init_11) (hts _ lim_X1_init_Jx4a65c_init_da8c8) rfl (by decide +kernel) ⟨by decide, by decide⟩) (pPreS [.ref q_16] hK hP hD hS hB hz hN hT) rfl rfl hl.1 rfl (lv_room (Nat.le_of_ble_eq_true rfl)) dX1_init_20 ⟨by decide, by decide⟩) hS (fun q _ h => hFc q h) hFc (fun u t H1 locs ht hvm hw hB1 hz1 hk1 hS => ?_)
  obtain ⟨L_20, f_20⟩ := u
  obtain ⟨hP, -, hD1⟩ := hB1
  rw [ht] at hP
  have hw := id hw
  have hP : va_P (dC, dI) vwCl (va_pl L_20 f_20) H1 := hP
  have hD : va_D A (va_pl L_20 f_20) := p_gain hD1 hFc
  generalize H1 = H at hP hS ⊢
  obtain ⟨fs_23, ⟨hL9, hf9, hn9⟩, hw⟩ := hw
  obtain ⟨kq9, hkq9⟩ := p_at hL9 hf9
  refine va_putF (D := (dC, dI)) (ci := 2) (v := .ref q_16) (C := RX1) (T := TX1) (N := 3) hx hb hts iw_X1_init_RX1 tyX1 tyX1_ok nmX1 hown hK hP hD hS kq9 hkq9 rfl 1 (by decide) (hts _ lk_X1_init_18) (fun _ h9 => h9) rfl hin rfl (tyX1_ok 1 (by decide)) rfl rfl hn9 dX1_init_23 (fun H locs hP2 hD2 hS => ?_)
  rw [p_set hD hL9 hf9 hkq9] at hP2 hD2
  obtain ⟨f_23, ef_23⟩ : ∃ y : pF, y = va_up f_20 a0 (.inr (2, fs_23.set 1 (.ref q_16))) := ⟨_, rfl⟩
  rw [← ef_23] at hP2 hD2
  have hw := hw f_23 ef_23
  have hP := hP2
  have hD := hD2
  refine lv_aload_n hx hb dX1_init_26 rfl (lv_at hl 0 rfl) ?_
  refine va_new (ci := 0) (fs := [.int 0, .null, .int 0]) (C := RJx4a65c) (T := TJx4a65c) (N := 3) hx hb hts iw_X1_init_RJx4a65c tyJx4a65c tyJx4a65c_ok hown (hts _ lk_X1_init_9) (hts _ li_X1_init_RJx4a65c) (hts _ lz_X1_init_RJx4a65c) hK hP hD hS hA rfl (fun j hj => by rcases (show j = 0 ∨ j = 1 ∨ j = 2 by omega) with rfl | rfl | rfl <;> rfl) (by decide) (by decide) dX1_init_27 (fun q_27 H hP2 hD2 hS => ?_)
  have hq9 := p_fresh hD2
  have hz9 := p_nz hB hT hD2
  rw [va_pl_push hq9] at hP2 hD2
  obtain ⟨L_27, eL_27⟩ : ∃ y : List Nat, y = L_20 ++ [q_27] := ⟨_, rfl⟩
  obtain ⟨f_27, ef_27⟩ : ∃ y : pF, y = va_up f_23 q_27 (.inr (0, [.int 0, .null, .int 0])) := ⟨_, rfl⟩
  have hw := hw q_27 hq9 hz9 L_27 f_27 eL_27 ef_27
  have hP : va_P (dC, dI) vwCl (va_pl L_27 f_27) H := by rw [eL_27, ef_27]; exact hP2
  have hD : va_D A (va_pl L_27 f_27) := by rw [eL_27, ef_27]; exact hD2
  refine lv_dup hx hb dX1_init_30 rfl ?_
  have hFc := p_free hD hS hA
  refine va_callv (va_runI (As := []) (rest := [.ref q_27, .ref a0]) ⟨hx, hb, hml, hown, hts⟩ (c_Jx4a65c_init_da8c8 l dC dI dA zz base L_27 f_27 H.size q_27  _ hw) (cwI 0 hts gX1_init_Jx4a65c_init_da8c8 rfl rfl rfl (hts _ lz_X1_init_RJx4a65c) (hts _ lm_X1_init_11) (hts _ lim_X1_init_Jx4a65c_init_da8c8) rfl (by decide +kernel) ⟨by decide, by decide⟩) (pPreS [.ref q_27] hK hP hD hS hB hz hN hT) rfl rfl hl.1 rfl (lv_room (Nat.le_of_ble_eq_true rfl)) dX1_init_31 ⟨by decide, by decide⟩) hS (fun q _ h => hFc q h) hFc (fun u t H1 locs ht hvm hw hB1 hz1 hk1 hS => ?_)
  obtain ⟨L_31, f_31⟩ := u
  obtain ⟨hP, -, hD1⟩ := hB1
  rw [ht] at hP
  have hw := id hw
  have hP : va_P (dC, dI) vwCl (va_pl L_31 f_31) H1 := hP
  have hD : va_D A (va_pl L_31 f_31) := p_gain hD1 hFc
  generalize H1 = H at hP hS ⊢
  obtain ⟨fs_34, ⟨hL9, hf9, hn9⟩, hw⟩ := hw
  obtain ⟨kq9, hkq9⟩ := p_at hL9 hf9
  refine va_putF (D := (dC, dI)) (ci := 2) (v := .ref q_27) (C := RX1) (T := TX1) (N := 3) hx hb hts iw_X1_init_RX1 tyX1 tyX1_ok nmX1 hown hK hP hD hS kq9 hkq9 rfl 2 (by decide) (hts _ lk_X1_init_21) (fun _ h9 => h9) rfl hin rfl (tyX1_ok 2 (by decide)) rfl rfl hn9 dX1_init_34 (fun H locs hP2 hD2 hS => ?_)
  rw [p_set hD hL9 hf9 hkq9] at hP2 hD2
  obtain ⟨f_34, ef_34⟩ : ∃ y : pF, y = va_up f_31 a0 (.inr (2, fs_34.set 2 (.ref q_27))) := ⟨_, rfl⟩
  rw [← ef_34] at hP2 hD2
  have hw := hw f_34 ef_34
  have hP := hP2
  have hD := hD2
  exact W.vret hx hb hr (fun t ht hW => ⟨⟨(L_31, f_34), rfl, hw, by rw [ht]; exact hP, va_K.moved hW.alike hK, hD⟩, hS.F ht⟩) hS.2.2 dX1_init_37
set_option maxHeartbeats 4000000 in
set_option maxRecDepth 100000 in
theorem c_X1_init (l : Launch) (dC : Nat → ClassId) (dI : Nat → Nat → Nat) (dA : Nat → ClassId) (zz : Nat → Nat) (base : Nat) (L : List Nat) (f : pF) (sz : Nat) (a0 : Nat) (Q : List Nat → pF → Prop) (hw : wp_X1_init_0 dA zz Q L f a0) : Met l yX1_init wsX1_init rm_X1_init (va_Pc [.ref a0] (pPre dC dI dA zz base L f sz)) (va_Qv (fun (u : List Nat × pF) => Q u.1 u.2) (pB dC dI dA (va_A (va_pl L f) sz)) (va_A (va_pl L f) sz)) 3 9 (va_A (va_pl L f) sz) := by
  refine Met.ofW (cc := cX1_init) (maxL := 1) (ret := none) (by decide) rfl ?_
  intro p e s m args below meth c s₁ B hml hv
  obtain ⟨rfl, hsz, hP, hK, hD0, hz, hN, hT⟩ := hv
  subst hsz
  have hl := lv_entry ([.ref a0]) (n := 1) (Nat.le_of_ble_eq_true rfl)
  rw [lg_entry_eq]
  generalize (lg_sl ([.ref a0]) ++ List.replicate (1 - (lg_sl ([.ref a0])).length) Slot.unset).toArray = ls at hl ⊢
  exact tb_X1_init_0 (Q := Q) (p := p) ⟨⟨B.exec, B.bytes, hml, findClass_of_methodNamed B.named, atoms_spec (ws := wsX1_init) B.pre, B.returns, B.notSynchronized, fun q h => Or.inr h, hK, pAB hD0 hz, hz, hN, hT⟩, (name_of_methodNamed B.named B.method).1⟩ L f a0 hw s.heap [] hP (hD0.self (sz := s.heap.size)) va_S.rf ls (lv_sub hl [0] rfl)
theorem iw_X1_endingsHeld_RX1 : ∀ w ∈ u_ws RX1 TX1 3, w ∈ wsX1_endingsHeld := by decide +kernel
theorem lk_X1_endingsHeld_12 : Cond.fieldLink RX1 12 "TermKeeper$Glossary" "endings" "Ljava/util/ArrayList;" ∈ wsX1_endingsHeld := by decide +kernel
abbrev rm_X1_endingsHeld : Room := { frames := 1, cells := 0, slots := 0, locals := 20 }
def wp_X1_endingsHeld_0 (dA : Nat → ClassId) (zz : Nat → Nat) (Q : Int32 → List Nat → pF → Prop) (L : List Nat) (f : pF) (a0 : Nat) : Prop :=
    (gR L f 2 a0 0 (fun g_1 =>
      (isO L f 0 g_1 ∧
        (wp_Jx4a65c_size_8abf5_0 dA zz (fun r_4 L_4 f_4 =>
          (Q r_4 L_4 f_4)) L f g_1 ))))
set_option maxHeartbeats 4000000 in
set_option maxRecDepth 100000 in
theorem tb_X1_endingsHeld_0 {p : Program} {l : Launch} {e : Env} {s : State} {m : MethodId} {below : List Frame} {meth : Method} {c : Code} {args : Array Value} {dC : Nat → ClassId} {dI : Nat → Nat → Nat} {dA : Nat → ClassId} {zz : Nat → Nat} {base : Nat} {A : Nat → Prop} {Q : Int32 → List Nat → pF → Prop} (C : pCx p s m args meth c cX1_endingsHeld 1 (some .int) RX1 wsX1_endingsHeld A dC dI dA zz base) : ∀ (L : List Nat) (f : pF) (a0 : Nat), wp_X1_endingsHeld_0 dA zz Q  L f a0 → pAt p l e rm_X1_endingsHeld s m args below meth c dC dI A (MQ below (va_Qi (fun r (u : List Nat × pF) => Q r u.1 u.2) (pB dC dI dA A) A) args s 0 0 A) 0 0 0 1 [(0, .ref a0)] [] L f := by
  obtain ⟨hx, hb, hml, hown, hts, hr, hlocks, hA, hK, hB, hz, hN, hT⟩ := id C
  intro L f a0 hw H locs hP hD hS ls hl
  rw [wp_X1_endingsHeld_0] at hw
  refine lv_aload_n hx hb dX1_endingsHeld_0 rfl (lv_at hl 0 rfl) ?_
  obtain ⟨fs_1, g_1, ⟨hL9, hf9, hn9⟩, hw⟩ := hw
  refine va_get (D := (dC, dI)) (ci := 2) (v := .ref g_1) (C := RX1) (T := TX1) (N := 3) hx hb hts iw_X1_endingsHeld_RX1 hown hK (p_one hP hL9 hf9) 0 rfl rfl 0 (by decide) (hts _ lk_X1_endingsHeld_12) (fun _ h9 => h9) hn9 dX1_endingsHeld_1 ?_
  obtain ⟨hO9, hw⟩ := hw
  have hFc := p_free hD hS hA
  refine va_calli (va_runV (As := []) (rest := []) ⟨hx, hb, hml, hown, hts⟩ (c_Jx4a65c_size_8abf5 l dC dI dA zz base L f H.size g_1  _ hw) (cwV 0 hts gX1_endingsHeld_Jx4a65c_size_8abf5 rfl rfl rfl (by decide +kernel) ⟨by decide, by decide⟩) (pPreV [] (ci := 0) rfl hO9 hK hP hD hS hB hz hN hT) rfl rfl hl.1 rfl (lv_room (Nat.le_of_ble_eq_true rfl)) dX1_endingsHeld_4 ⟨by decide, by decide⟩) hS (fun q _ h => hFc q h) hFc (fun r_4 u t H1 locs ht hvm hw hB1 hz1 hk1 hS => ?_)
  obtain ⟨L_4, f_4⟩ := u
  obtain ⟨hP, -, hD1⟩ := hB1
  rw [ht] at hP
  have hw := id hw
  have hP : va_P (dC, dI) vwCl (va_pl L_4 f_4) H1 := hP
  have hD : va_D A (va_pl L_4 f_4) := p_gain hD1 hFc
  generalize H1 = H at hP hS ⊢
  exact W.iret (v := r_4) hx hb hr (fun t ht hW => ⟨⟨r_4, (L_4, f_4), rfl, hw, by rw [ht]; exact hP, va_K.moved hW.alike hK, hD⟩, hS.F ht⟩) hS.2.2 dX1_endingsHeld_7
set_option maxHeartbeats 4000000 in
set_option maxRecDepth 100000 in
theorem c_X1_endingsHeld (l : Launch) (dC : Nat → ClassId) (dI : Nat → Nat → Nat) (dA : Nat → ClassId) (zz : Nat → Nat) (base : Nat) (L : List Nat) (f : pF) (sz : Nat) (a0 : Nat) (Q : Int32 → List Nat → pF → Prop) (hw : wp_X1_endingsHeld_0 dA zz Q L f a0) : Met l yX1_endingsHeld wsX1_endingsHeld rm_X1_endingsHeld (va_Pc [.ref a0] (pPre dC dI dA zz base L f sz)) (va_Qi (fun r (u : List Nat × pF) => Q r u.1 u.2) (pB dC dI dA (va_A (va_pl L f) sz)) (va_A (va_pl L f) sz)) 0 0 (va_A (va_pl L f) sz) := by
  refine Met.ofW (cc := cX1_endingsHeld) (maxL := 1) (ret := (some .int)) (by decide) rfl ?_
  intro p e s m args below meth c s₁ B hml hv
  obtain ⟨rfl, hsz, hP, hK, hD0, hz, hN, hT⟩ := hv
  subst hsz
  have hl := lv_entry ([.ref a0]) (n := 1) (Nat.le_of_ble_eq_true rfl)
  rw [lg_entry_eq]
  generalize (lg_sl ([.ref a0]) ++ List.replicate (1 - (lg_sl ([.ref a0])).length) Slot.unset).toArray = ls at hl ⊢
  exact tb_X1_endingsHeld_0 (Q := Q) (p := p) ⟨B.exec, B.bytes, hml, findClass_of_methodNamed B.named, atoms_spec (ws := wsX1_endingsHeld) B.pre, B.returns, B.notSynchronized, fun q h => Or.inr h, hK, pAB hD0 hz, hz, hN, hT⟩ L f a0 hw s.heap [] hP (hD0.self (sz := s.heap.size)) va_S.rf ls (lv_sub hl [0] rfl)
theorem iw_X1_termsHeld_RX1 : ∀ w ∈ u_ws RX1 TX1 3, w ∈ wsX1_termsHeld := by decide +kernel
theorem lk_X1_termsHeld_18 : Cond.fieldLink RX1 18 "TermKeeper$Glossary" "terms" "Ljava/util/ArrayList;" ∈ wsX1_termsHeld := by decide +kernel
abbrev rm_X1_termsHeld : Room := { frames := 1, cells := 0, slots := 0, locals := 20 }
def wp_X1_termsHeld_0 (dA : Nat → ClassId) (zz : Nat → Nat) (Q : Int32 → List Nat → pF → Prop) (L : List Nat) (f : pF) (a0 : Nat) : Prop :=
    (gR L f 2 a0 1 (fun g_1 =>
      (isO L f 0 g_1 ∧
        (wp_Jx4a65c_size_8abf5_0 dA zz (fun r_4 L_4 f_4 =>
          (Q r_4 L_4 f_4)) L f g_1 ))))
set_option maxHeartbeats 4000000 in
set_option maxRecDepth 100000 in
theorem tb_X1_termsHeld_0 {p : Program} {l : Launch} {e : Env} {s : State} {m : MethodId} {below : List Frame} {meth : Method} {c : Code} {args : Array Value} {dC : Nat → ClassId} {dI : Nat → Nat → Nat} {dA : Nat → ClassId} {zz : Nat → Nat} {base : Nat} {A : Nat → Prop} {Q : Int32 → List Nat → pF → Prop} (C : pCx p s m args meth c cX1_termsHeld 1 (some .int) RX1 wsX1_termsHeld A dC dI dA zz base) : ∀ (L : List Nat) (f : pF) (a0 : Nat), wp_X1_termsHeld_0 dA zz Q  L f a0 → pAt p l e rm_X1_termsHeld s m args below meth c dC dI A (MQ below (va_Qi (fun r (u : List Nat × pF) => Q r u.1 u.2) (pB dC dI dA A) A) args s 0 0 A) 0 0 0 1 [(0, .ref a0)] [] L f := by
  obtain ⟨hx, hb, hml, hown, hts, hr, hlocks, hA, hK, hB, hz, hN, hT⟩ := id C
  intro L f a0 hw H locs hP hD hS ls hl
  rw [wp_X1_termsHeld_0] at hw
  refine lv_aload_n hx hb dX1_termsHeld_0 rfl (lv_at hl 0 rfl) ?_
  obtain ⟨fs_1, g_1, ⟨hL9, hf9, hn9⟩, hw⟩ := hw
  refine va_get (D := (dC, dI)) (ci := 2) (v := .ref g_1) (C := RX1) (T := TX1) (N := 3) hx hb hts iw_X1_termsHeld_RX1 hown hK (p_one hP hL9 hf9) 0 rfl rfl 1 (by decide) (hts _ lk_X1_termsHeld_18) (fun _ h9 => h9) hn9 dX1_termsHeld_1 ?_
  obtain ⟨hO9, hw⟩ := hw
  have hFc := p_free hD hS hA
  refine va_calli (va_runV (As := []) (rest := []) ⟨hx, hb, hml, hown, hts⟩ (c_Jx4a65c_size_8abf5 l dC dI dA zz base L f H.size g_1  _ hw) (cwV 0 hts gX1_termsHeld_Jx4a65c_size_8abf5 rfl rfl rfl (by decide +kernel) ⟨by decide, by decide⟩) (pPreV [] (ci := 0) rfl hO9 hK hP hD hS hB hz hN hT) rfl rfl hl.1 rfl (lv_room (Nat.le_of_ble_eq_true rfl)) dX1_termsHeld_4 ⟨by decide, by decide⟩) hS (fun q _ h => hFc q h) hFc (fun r_4 u t H1 locs ht hvm hw hB1 hz1 hk1 hS => ?_)
  obtain ⟨L_4, f_4⟩ := u
  obtain ⟨hP, -, hD1⟩ := hB1
  rw [ht] at hP
  have hw := id hw
  have hP : va_P (dC, dI) vwCl (va_pl L_4 f_4) H1 := hP
  have hD : va_D A (va_pl L_4 f_4) := p_gain hD1 hFc
  generalize H1 = H at hP hS ⊢
  exact W.iret (v := r_4) hx hb hr (fun t ht hW => ⟨⟨r_4, (L_4, f_4), rfl, hw, by rw [ht]; exact hP, va_K.moved hW.alike hK, hD⟩, hS.F ht⟩) hS.2.2 dX1_termsHeld_7
set_option maxHeartbeats 4000000 in
set_option maxRecDepth 100000 in
theorem c_X1_termsHeld (l : Launch) (dC : Nat → ClassId) (dI : Nat → Nat → Nat) (dA : Nat → ClassId) (zz : Nat → Nat) (base : Nat) (L : List Nat) (f : pF) (sz : Nat) (a0 : Nat) (Q : Int32 → List Nat → pF → Prop) (hw : wp_X1_termsHeld_0 dA zz Q L f a0) : Met l yX1_termsHeld wsX1_termsHeld rm_X1_termsHeld (va_Pc [.ref a0] (pPre dC dI dA zz base L f sz)) (va_Qi (fun r (u : List Nat × pF) => Q r u.1 u.2) (pB dC dI dA (va_A (va_pl L f) sz)) (va_A (va_pl L f) sz)) 0 0 (va_A (va_pl L f) sz) := by
  refine Met.ofW (cc := cX1_termsHeld) (maxL := 1) (ret := (some .int)) (by decide) rfl ?_
  intro p e s m args below meth c s₁ B hml hv
  obtain ⟨rfl, hsz, hP, hK, hD0, hz, hN, hT⟩ := hv
  subst hsz
  have hl := lv_entry ([.ref a0]) (n := 1) (Nat.le_of_ble_eq_true rfl)
  rw [lg_entry_eq]
  generalize (lg_sl ([.ref a0]) ++ List.replicate (1 - (lg_sl ([.ref a0])).length) Slot.unset).toArray = ls at hl ⊢
  exact tb_X1_termsHeld_0 (Q := Q) (p := p) ⟨B.exec, B.bytes, hml, findClass_of_methodNamed B.named, atoms_spec (ws := wsX1_termsHeld) B.pre, B.returns, B.notSynchronized, fun q h => Or.inr h, hK, pAB hD0 hz, hz, hN, hT⟩ L f a0 hw s.heap [] hP (hD0.self (sz := s.heap.size)) va_S.rf ls (lv_sub hl [0] rfl)
theorem iw_X1_holdsTerm_RX1 : ∀ w ∈ u_ws RX1 TX1 3, w ∈ wsX1_holdsTerm := by decide +kernel
theorem lk_X1_holdsTerm_18 : Cond.fieldLink RX1 18 "TermKeeper$Glossary" "terms" "Ljava/util/ArrayList;" ∈ wsX1_holdsTerm := by decide +kernel
abbrev rm_X1_holdsTerm : Room := { frames := 1, cells := 0, slots := 0, locals := 20 }
def wp_X1_holdsTerm_0 (dA : Nat → ClassId) (zz : Nat → Nat) (Q : Int32 → List Nat → pF → Prop) (L : List Nat) (f : pF) (a0 : Nat) (a1 : Int32) : Prop :=
    ((a1 < 0 →
      (Q (0 : Int32) L f))
     ∧ (¬ a1 < 0 →
      (gR L f 2 a0 1 (fun g_6 =>
        (isO L f 0 g_6 ∧
          (wp_Jx4a65c_size_8abf5_0 dA zz (fun r_9 L_9 f_9 =>
            ((r_9 ≤ a1 →
              (Q (0 : Int32) L_9 f_9))
             ∧ (¬ r_9 ≤ a1 →
              (Q (1 : Int32) L_9 f_9)))) L f g_6 ))))))
set_option maxHeartbeats 4000000 in
set_option maxRecDepth 100000 in
theorem tb_X1_holdsTerm_0 {p : Program} {l : Launch} {e : Env} {s : State} {m : MethodId} {below : List Frame} {meth : Method} {c : Code} {args : Array Value} {dC : Nat → ClassId} {dI : Nat → Nat → Nat} {dA : Nat → ClassId} {zz : Nat → Nat} {base : Nat} {A : Nat → Prop} {Q : Int32 → List Nat → pF → Prop} (C : pCx p s m args meth c cX1_holdsTerm 2 (some .boolean) RX1 wsX1_holdsTerm A dC dI dA zz base) : ∀ (L : List Nat) (f : pF) (a0 : Nat) (a1 : Int32), wp_X1_holdsTerm_0 dA zz Q  L f a0 a1 → pAt p l e rm_X1_holdsTerm s m args below meth c dC dI A (MQ below (va_Qi (fun r (u : List Nat × pF) => Q r u.1 u.2) (pB dC dI dA A) A) args s 0 0 A) 0 0 0 2 [(0, .ref a0), (1, .int a1)] [] L f := by
  obtain ⟨hx, hb, hml, hown, hts, hr, hlocks, hA, hK, hB, hz, hN, hT⟩ := id C
  intro L f a0 a1 hw H locs hP hD hS ls hl
  rw [wp_X1_holdsTerm_0] at hw
  refine lv_iload_n hx hb dX1_holdsTerm_0 rfl (lv_at hl 1 rfl) ?_
  refine lv_if_lt (tgt := 19) hx hb dX1_holdsTerm_1 (by decide) (fun c_1 => ?_) (fun c_1 => ?_)
  · have hw := hw.1 c_1
    refine lv_iconst (v := 0) hx hb dX1_holdsTerm_19 (by decide) ?_
    exact W.zret (v := (0 : Int32)) hx hb hr rfl (fun t ht hW => ⟨⟨(0 : Int32), (L, f), rfl, hw, by rw [ht]; exact hP, va_K.moved hW.alike hK, hD⟩, hS.F ht⟩) hS.2.2 dX1_holdsTerm_20
  · have hw := hw.2 c_1
    refine lv_iload_n hx hb dX1_holdsTerm_4 rfl (lv_at hl 1 rfl) ?_
    refine lv_aload_n hx hb dX1_holdsTerm_5 rfl (lv_at hl 0 rfl) ?_
    obtain ⟨fs_6, g_6, ⟨hL9, hf9, hn9⟩, hw⟩ := hw
    refine va_get (D := (dC, dI)) (ci := 2) (v := .ref g_6) (C := RX1) (T := TX1) (N := 3) hx hb hts iw_X1_holdsTerm_RX1 hown hK (p_one hP hL9 hf9) 0 rfl rfl 1 (by decide) (hts _ lk_X1_holdsTerm_18) (fun _ h9 => h9) hn9 dX1_holdsTerm_6 ?_
    obtain ⟨hO9, hw⟩ := hw
    have hFc := p_free hD hS hA
    refine va_calli (va_runV (As := []) (rest := [.int a1]) ⟨hx, hb, hml, hown, hts⟩ (c_Jx4a65c_size_8abf5 l dC dI dA zz base L f H.size g_6  _ hw) (cwV 0 hts gX1_holdsTerm_Jx4a65c_size_8abf5 rfl rfl rfl (by decide +kernel) ⟨by decide, by decide⟩) (pPreV [] (ci := 0) rfl hO9 hK hP hD hS hB hz hN hT) rfl rfl hl.1 rfl (lv_room (Nat.le_of_ble_eq_true rfl)) dX1_holdsTerm_9 ⟨by decide, by decide⟩) hS (fun q _ h => hFc q h) hFc (fun r_9 u t H1 locs ht hvm hw hB1 hz1 hk1 hS => ?_)
    obtain ⟨L_9, f_9⟩ := u
    obtain ⟨hP, -, hD1⟩ := hB1
    rw [ht] at hP
    have hw := id hw
    have hP : va_P (dC, dI) vwCl (va_pl L_9 f_9) H1 := hP
    have hD : va_D A (va_pl L_9 f_9) := p_gain hD1 hFc
    generalize H1 = H at hP hS ⊢
    refine lv_icmp_ge (tgt := 19) hx hb dX1_holdsTerm_12 (by decide) (fun c_12 => ?_) (fun c_12 => ?_)
    · have hw := hw.1 c_12
      refine lv_iconst (v := 0) hx hb dX1_holdsTerm_19 (by decide) ?_
      exact W.zret (v := (0 : Int32)) hx hb hr rfl (fun t ht hW => ⟨⟨(0 : Int32), (L_9, f_9), rfl, hw, by rw [ht]; exact hP, va_K.moved hW.alike hK, hD⟩, hS.F ht⟩) hS.2.2 dX1_holdsTerm_20
    · have hw := hw.2 c_12
      refine lv_iconst (v := 1) hx hb dX1_holdsTerm_15 (by decide) ?_
      refine lv_goto (tgt := 20) hx hb dX1_holdsTerm_16 (by decide) ?_
      exact W.zret (v := (1 : Int32)) hx hb hr rfl (fun t ht hW => ⟨⟨(1 : Int32), (L_9, f_9), rfl, hw, by rw [ht]; exact hP, va_K.moved hW.alike hK, hD⟩, hS.F ht⟩) hS.2.2 dX1_holdsTerm_20
set_option maxHeartbeats 4000000 in
set_option maxRecDepth 100000 in
theorem c_X1_holdsTerm (l : Launch) (dC : Nat → ClassId) (dI : Nat → Nat → Nat) (dA : Nat → ClassId) (zz : Nat → Nat) (base : Nat) (L : List Nat) (f : pF) (sz : Nat) (a0 : Nat) (a1 : Int32) (Q : Int32 → List Nat → pF → Prop) (hw : wp_X1_holdsTerm_0 dA zz Q L f a0 a1) : Met l yX1_holdsTerm wsX1_holdsTerm rm_X1_holdsTerm (va_Pc [.ref a0, .int a1] (pPre dC dI dA zz base L f sz)) (va_Qi (fun r (u : List Nat × pF) => Q r u.1 u.2) (pB dC dI dA (va_A (va_pl L f) sz)) (va_A (va_pl L f) sz)) 0 0 (va_A (va_pl L f) sz) := by
  refine Met.ofW (cc := cX1_holdsTerm) (maxL := 2) (ret := (some .boolean)) (by decide) rfl ?_
  intro p e s m args below meth c s₁ B hml hv
  obtain ⟨rfl, hsz, hP, hK, hD0, hz, hN, hT⟩ := hv
  subst hsz
  have hl := lv_entry ([.ref a0, .int a1]) (n := 2) (Nat.le_of_ble_eq_true rfl)
  rw [lg_entry_eq]
  generalize (lg_sl ([.ref a0, .int a1]) ++ List.replicate (2 - (lg_sl ([.ref a0, .int a1])).length) Slot.unset).toArray = ls at hl ⊢
  exact tb_X1_holdsTerm_0 (Q := Q) (p := p) ⟨B.exec, B.bytes, hml, findClass_of_methodNamed B.named, atoms_spec (ws := wsX1_holdsTerm) B.pre, B.returns, B.notSynchronized, fun q h => Or.inr h, hK, pAB hD0 hz, hz, hN, hT⟩ L f a0 a1 hw s.heap [] hP (hD0.self (sz := s.heap.size)) va_S.rf ls (lv_sub hl [0, 1] rfl)
theorem iw_X1_termAt_RX1 : ∀ w ∈ u_ws RX1 TX1 3, w ∈ wsX1_termAt := by decide +kernel
theorem lk_X1_termAt_32 : Cond.classLink RX1 32 "TermKeeper$Term" ∈ wsX1_termAt := by decide +kernel
theorem lk_X1_termAt_18 : Cond.fieldLink RX1 18 "TermKeeper$Glossary" "terms" "Ljava/util/ArrayList;" ∈ wsX1_termAt := by decide +kernel
abbrev rm_X1_termAt : Room := { frames := 3, cells := 0, slots := 0, locals := 64 }
def wp_X1_termAt_0 (dA : Nat → ClassId) (zz : Nat → Nat) (Q : Nat → List Nat → pF → Prop) (L : List Nat) (f : pF) (a0 : Nat) (a1 : Int32) : Prop :=
    (gR L f 2 a0 1 (fun g_1 =>
      (isO L f 0 g_1 ∧
        (wp_Jx4a65c_get_915e3_0 dA zz (fun r_5 L_5 f_5 =>
          (isO L_5 f_5 6 r_5 ∧
            (Q r_5 L_5 f_5))) L f g_1 a1))))
set_option maxHeartbeats 4000000 in
set_option maxRecDepth 100000 in
theorem tb_X1_termAt_0 {p : Program} {l : Launch} {e : Env} {s : State} {m : MethodId} {below : List Frame} {meth : Method} {c : Code} {args : Array Value} {dC : Nat → ClassId} {dI : Nat → Nat → Nat} {dA : Nat → ClassId} {zz : Nat → Nat} {base : Nat} {A : Nat → Prop} {Q : Nat → List Nat → pF → Prop} (C : pCx p s m args meth c cX1_termAt 2 (some (.object "TermKeeper$Term")) RX1 wsX1_termAt A dC dI dA zz base) : ∀ (L : List Nat) (f : pF) (a0 : Nat) (a1 : Int32), wp_X1_termAt_0 dA zz Q  L f a0 a1 → pAt p l e rm_X1_termAt s m args below meth c dC dI A (MQ below (va_Qr (fun (u : Nat × List Nat × pF) => Q u.1 u.2.1 u.2.2) (fun u a t => a = u.1 ∧ pB dC dI dA A u.2 t) A) args s 0 0 A) 0 0 0 2 [(0, .ref a0), (1, .int a1)] [] L f := by
  obtain ⟨hx, hb, hml, hown, hts, hr, hlocks, hA, hK, hB, hz, hN, hT⟩ := id C
  intro L f a0 a1 hw H locs hP hD hS ls hl
  rw [wp_X1_termAt_0] at hw
  refine lv_aload_n hx hb dX1_termAt_0 rfl (lv_at hl 0 rfl) ?_
  obtain ⟨fs_1, g_1, ⟨hL9, hf9, hn9⟩, hw⟩ := hw
  refine va_get (D := (dC, dI)) (ci := 2) (v := .ref g_1) (C := RX1) (T := TX1) (N := 3) hx hb hts iw_X1_termAt_RX1 hown hK (p_one hP hL9 hf9) 0 rfl rfl 1 (by decide) (hts _ lk_X1_termAt_18) (fun _ h9 => h9) hn9 dX1_termAt_1 ?_
  refine lv_iload_n hx hb dX1_termAt_4 rfl (lv_at hl 1 rfl) ?_
  obtain ⟨hO9, hw⟩ := hw
  have hFc := p_free hD hS hA
  refine va_callr (va_runV (As := [.int a1]) (rest := []) ⟨hx, hb, hml, hown, hts⟩ (c_Jx4a65c_get_915e3 l dC dI dA zz base L f H.size g_1 a1 _ hw) (cwV 1 hts gX1_termAt_Jx4a65c_get_915e3 rfl rfl rfl (by decide +kernel) ⟨by decide, by decide⟩) (pPreV [.int a1] (ci := 0) rfl hO9 hK hP hD hS hB hz hN hT) rfl rfl hl.1 rfl (lv_room (Nat.le_of_ble_eq_true rfl)) dX1_termAt_5 ⟨by decide, by decide⟩) hS (fun q _ h => hFc q h) hFc (fun u ra t H1 locs ht hvm hw hB1 hz1 hk1 hS => ?_)
  obtain ⟨r_5, L_5, f_5⟩ := u
  obtain ⟨hra, hP, -, hD1⟩ := hB1
  rw [show ra = r_5 from hra]
  rw [ht] at hP
  have hw := id hw
  have hP : va_P (dC, dI) vwCl (va_pl L_5 f_5) H1 := hP
  have hD : va_D A (va_pl L_5 f_5) := p_gain hD1 hFc
  generalize H1 = H at hP hS ⊢
  refine W.eq (g2 := F0 m 8 ls (.ref r_5 :: [])) rfl ?_
  refine va_castS (nm := RX5) hx hb hown (hts _ lk_X1_termAt_32) (hK.1 6 _ rfl).2 (p_recv hK hP hw.1 rfl) dX1_termAt_8 ?_
  have hw := hw.2
  exact W.aret (v := .ref r_5) hx hb hr (Or.inl ⟨_, rfl⟩) (Or.inr ⟨_, rfl⟩) (fun t ht hW => ⟨⟨(r_5, L_5, f_5), r_5, rfl, hw, rfl, by rw [ht]; exact hP, va_K.moved hW.alike hK, hD⟩, hS.F ht⟩) hS.2.2 dX1_termAt_11
set_option maxHeartbeats 4000000 in
set_option maxRecDepth 100000 in
theorem c_X1_termAt (l : Launch) (dC : Nat → ClassId) (dI : Nat → Nat → Nat) (dA : Nat → ClassId) (zz : Nat → Nat) (base : Nat) (L : List Nat) (f : pF) (sz : Nat) (a0 : Nat) (a1 : Int32) (Q : Nat → List Nat → pF → Prop) (hw : wp_X1_termAt_0 dA zz Q L f a0 a1) : Met l yX1_termAt wsX1_termAt rm_X1_termAt (va_Pc [.ref a0, .int a1] (pPre dC dI dA zz base L f sz)) (va_Qr (fun (u : Nat × List Nat × pF) => Q u.1 u.2.1 u.2.2) (fun u a t => a = u.1 ∧ pB dC dI dA (va_A (va_pl L f) sz) u.2 t) (va_A (va_pl L f) sz)) 0 0 (va_A (va_pl L f) sz) := by
  refine Met.ofW (cc := cX1_termAt) (maxL := 2) (ret := (some (.object "TermKeeper$Term"))) (by decide) rfl ?_
  intro p e s m args below meth c s₁ B hml hv
  obtain ⟨rfl, hsz, hP, hK, hD0, hz, hN, hT⟩ := hv
  subst hsz
  have hl := lv_entry ([.ref a0, .int a1]) (n := 2) (Nat.le_of_ble_eq_true rfl)
  rw [lg_entry_eq]
  generalize (lg_sl ([.ref a0, .int a1]) ++ List.replicate (2 - (lg_sl ([.ref a0, .int a1])).length) Slot.unset).toArray = ls at hl ⊢
  exact tb_X1_termAt_0 (Q := Q) (p := p) ⟨B.exec, B.bytes, hml, findClass_of_methodNamed B.named, atoms_spec (ws := wsX1_termAt) B.pre, B.returns, B.notSynchronized, fun q h => Or.inr h, hK, pAB hD0 hz, hz, hN, hT⟩ L f a0 a1 hw s.heap [] hP (hD0.self (sz := s.heap.size)) va_S.rf ls (lv_sub hl [0, 1] rfl)
theorem iw_X1_addEnding_RX1 : ∀ w ∈ u_ws RX1 TX1 3, w ∈ wsX1_addEnding := by decide +kernel
theorem lk_X1_addEnding_12 : Cond.fieldLink RX1 12 "TermKeeper$Glossary" "endings" "Ljava/util/ArrayList;" ∈ wsX1_addEnding := by decide +kernel
abbrev rm_X1_addEnding : Room := { frames := 7, cells := 3, slots := 1602, locals := 191 }
def wp_X1_addEnding_13 (dA : Nat → ClassId) (zz : Nat → Nat) (Q : Int32 → List Nat → pF → Prop) (L : List Nat) (f : pF) (a0 : Nat) (a1 : Nat) (k0 : Int32) : Prop :=
    (gR L f 2 a0 0 (fun g_15 =>
      (isO L f 0 g_15 ∧
        (wp_Jx4a65c_size_8abf5_0 dA zz (fun r_18 L_18 f_18 =>
          (((6 : Int32) ≤ r_18 →
            (Q (-1 : Int32) L_18 f_18))
           ∧ (¬ (6 : Int32) ≤ r_18 →
            ((k0 = 0 →
              (Q (-1 : Int32) L_18 f_18))
             ∧ (¬ k0 = 0 →
              (isO L_18 f_18 5 a1 ∧
                (wp_X4_size_0 dA zz (fun r_31 L_31 f_31 =>
                  ((r_31 ≤ (4 : Int32) →
                    (gR L_31 f_31 2 a0 0 (fun g_41 =>
                      (isO L_31 f_31 5 a1 ∧
                        (wp_X4_copied_0 dA zz (fun r_45 L_45 f_45 =>
                          (isO L_45 f_45 0 g_41 ∧
                            (wp_Jx4a65c_add_9ea2d_0 dA zz (fun r_48 L_48 f_48 =>
                              (gR L_48 f_48 2 a0 0 (fun g_53 =>
                                (isO L_48 f_48 0 g_53 ∧
                                  (wp_Jx4a65c_size_8abf5_0 dA zz (fun r_56 L_56 f_56 =>
                                    (Q (r_56 - (1 : Int32)) L_56 f_56)) L_48 f_48 g_53 ))))) L_45 f_45 g_41 r_45))) L_31 f_31 a1 )))))
                   ∧ (¬ r_31 ≤ (4 : Int32) →
                    (Q (-1 : Int32) L_31 f_31)))) L_18 f_18 a1 ))))))) L f g_15 ))))
def wp_X1_addEnding_0 (dA : Nat → ClassId) (zz : Nat → Nat) (Q : Int32 → List Nat → pF → Prop) (L : List Nat) (f : pF) (a0 : Nat) (a1 : Nat) : Prop :=
    (isO L f 5 a1 ∧
      (wp_X4_wordsOfTerm_0 dA zz (fun r_1 L_1 f_1 =>
        ((¬ r_1 = (1 : Int32) →
          (wp_X1_addEnding_13 dA zz Q  L_1 f_1 a0 a1 (0 : Int32)))
         ∧ (r_1 = (1 : Int32) →
          (wp_X1_addEnding_13 dA zz Q  L_1 f_1 a0 a1 (1 : Int32))))) L f a1 ))
set_option maxHeartbeats 4000000 in
set_option maxRecDepth 100000 in
theorem tb_X1_addEnding_13 {p : Program} {l : Launch} {e : Env} {s : State} {m : MethodId} {below : List Frame} {meth : Method} {c : Code} {args : Array Value} {dC : Nat → ClassId} {dI : Nat → Nat → Nat} {dA : Nat → ClassId} {zz : Nat → Nat} {base : Nat} {A : Nat → Prop} {Q : Int32 → List Nat → pF → Prop} (C : pCx p s m args meth c cX1_addEnding 3 (some .int) RX1 wsX1_addEnding A dC dI dA zz base) : ∀ (L : List Nat) (f : pF) (a0 : Nat) (a1 : Nat) (k0 : Int32), wp_X1_addEnding_13 dA zz Q  L f a0 a1 k0 → pAt p l e rm_X1_addEnding s m args below meth c dC dI A (MQ below (va_Qi (fun r (u : List Nat × pF) => Q r u.1 u.2) (pB dC dI dA A) A) args s 3 1602 A) 0 0 13 3 [(0, .ref a0), (1, .ref a1)] [.int k0] L f := by
  obtain ⟨hx, hb, hml, hown, hts, hr, hlocks, hA, hK, hB, hz, hN, hT⟩ := id C
  intro L f a0 a1 k0 hw H locs hP hD hS ls hl
  rw [wp_X1_addEnding_13] at hw
  refine lv_istore_n (lv' := [(2, .int k0), (0, .ref a0), (1, .ref a1)]) hx hb dX1_addEnding_13 rfl hl (by decide) rfl (fun ls hl => ?_)
  refine lv_aload_n hx hb dX1_addEnding_14 rfl (lv_at hl 1 rfl) ?_
  obtain ⟨fs_15, g_15, ⟨hL9, hf9, hn9⟩, hw⟩ := hw
  refine va_get (D := (dC, dI)) (ci := 2) (v := .ref g_15) (C := RX1) (T := TX1) (N := 3) hx hb hts iw_X1_addEnding_RX1 hown hK (p_one hP hL9 hf9) 0 rfl rfl 0 (by decide) (hts _ lk_X1_addEnding_12) (fun _ h9 => h9) hn9 dX1_addEnding_15 ?_
  obtain ⟨hO9, hw⟩ := hw
  have hFc := p_free hD hS hA
  refine va_calli (va_runV (As := []) (rest := []) ⟨hx, hb, hml, hown, hts⟩ (c_Jx4a65c_size_8abf5 l dC dI dA zz base L f H.size g_15  _ hw) (cwV 0 hts gX1_addEnding_Jx4a65c_size_8abf5 rfl rfl rfl (by decide +kernel) ⟨by decide, by decide⟩) (pPreV [] (ci := 0) rfl hO9 hK hP hD hS hB hz hN hT) rfl rfl hl.1 rfl (lv_room (Nat.le_of_ble_eq_true rfl)) dX1_addEnding_18 ⟨by decide, by decide⟩) hS (fun q _ h => hFc q h) hFc (fun r_18 u t H1 locs ht hvm hw hB1 hz1 hk1 hS => ?_)
  obtain ⟨L_18, f_18⟩ := u
  obtain ⟨hP, -, hD1⟩ := hB1
  rw [ht] at hP
  have hw := id hw
  have hP : va_P (dC, dI) vwCl (va_pl L_18 f_18) H1 := hP
  have hD : va_D A (va_pl L_18 f_18) := p_gain hD1 hFc
  generalize H1 = H at hP hS ⊢
  refine lv_bipush (v := 6) hx hb dX1_addEnding_21 (by decide) ?_
  refine lv_icmp_ge (tgt := 38) hx hb dX1_addEnding_23 (by decide) (fun c_23 => ?_) (fun c_23 => ?_)
  · have hw := hw.1 c_23
    refine lv_iconst (v := -1) hx hb dX1_addEnding_38 (by decide) ?_
    refine W.widen (k := 3) (n := 1602) (by decide) (by decide) ?_
    exact W.iret (v := (-1 : Int32)) hx hb hr (fun t ht hW => ⟨⟨(-1 : Int32), (L_18, f_18), rfl, hw, by rw [ht]; exact hP, va_K.moved hW.alike hK, hD⟩, hS.F ht⟩) hS.2.2 dX1_addEnding_39
  · have hw := hw.2 c_23
    refine lv_iload_n hx hb dX1_addEnding_26 rfl (lv_at hl 0 rfl) ?_
    refine lv_if_eq (tgt := 38) hx hb dX1_addEnding_27 (by decide) (fun c_27 => ?_) (fun c_27 => ?_)
    · have hw := hw.1 c_27
      refine lv_iconst (v := -1) hx hb dX1_addEnding_38 (by decide) ?_
      refine W.widen (k := 3) (n := 1602) (by decide) (by decide) ?_
      exact W.iret (v := (-1 : Int32)) hx hb hr (fun t ht hW => ⟨⟨(-1 : Int32), (L_18, f_18), rfl, hw, by rw [ht]; exact hP, va_K.moved hW.alike hK, hD⟩, hS.F ht⟩) hS.2.2 dX1_addEnding_39
    · have hw := hw.2 c_27
      refine lv_aload_n hx hb dX1_addEnding_30 rfl (lv_at hl 2 rfl) ?_
      obtain ⟨hO9, hw⟩ := hw
      have hFc := p_free hD hS hA
      refine va_calli (va_runV (As := []) (rest := []) ⟨hx, hb, hml, hown, hts⟩ (c_X4_size l dC dI dA zz base L_18 f_18 H.size a1  _ hw) (cwV 0 hts gX1_addEnding_X4_size rfl rfl rfl (by decide +kernel) ⟨by decide, by decide⟩) (pPreV [] (ci := 5) rfl hO9 hK hP hD hS hB hz hN hT) rfl rfl hl.1 rfl (lv_room (Nat.le_of_ble_eq_true rfl)) dX1_addEnding_31 ⟨by decide, by decide⟩) hS (fun q _ h => hFc q h) hFc (fun r_31 u t H1 locs ht hvm hw hB1 hz1 hk1 hS => ?_)
      obtain ⟨L_31, f_31⟩ := u
      obtain ⟨hP, -, hD1⟩ := hB1
      rw [ht] at hP
      have hw := id hw
      have hP : va_P (dC, dI) vwCl (va_pl L_31 f_31) H1 := hP
      have hD : va_D A (va_pl L_31 f_31) := p_gain hD1 hFc
      generalize H1 = H at hP hS ⊢
      refine lv_iconst (v := 4) hx hb dX1_addEnding_34 (by decide) ?_
      refine lv_icmp_le (tgt := 40) hx hb dX1_addEnding_35 (by decide) (fun c_35 => ?_) (fun c_35 => ?_)
      · have hw := hw.1 c_35
        refine lv_aload_n hx hb dX1_addEnding_40 rfl (lv_at hl 1 rfl) ?_
        obtain ⟨fs_41, g_41, ⟨hL9, hf9, hn9⟩, hw⟩ := hw
        refine va_get (D := (dC, dI)) (ci := 2) (v := .ref g_41) (C := RX1) (T := TX1) (N := 3) hx hb hts iw_X1_addEnding_RX1 hown hK (p_one hP hL9 hf9) 0 rfl rfl 0 (by decide) (hts _ lk_X1_addEnding_12) (fun _ h9 => h9) hn9 dX1_addEnding_41 ?_
        refine lv_aload_n hx hb dX1_addEnding_44 rfl (lv_at hl 2 rfl) ?_
        obtain ⟨hO9, hw⟩ := hw
        have hFc := p_free hD hS hA
        refine va_callr (va_runV (As := []) (rest := [.ref g_41]) ⟨hx, hb, hml, hown, hts⟩ (c_X4_copied l dC dI dA zz base L_31 f_31 H.size a1  _ hw) (cwV 0 hts gX1_addEnding_X4_copied rfl rfl rfl (by decide +kernel) ⟨by decide, by decide⟩) (pPreV [] (ci := 5) rfl hO9 hK hP hD hS hB hz hN hT) rfl rfl hl.1 rfl (lv_room (Nat.le_of_ble_eq_true rfl)) dX1_addEnding_45 ⟨by decide, by decide⟩) hS (fun q _ h => hFc q h) hFc (fun u ra t H1 locs ht hvm hw hB1 hz1 hk1 hS => ?_)
        obtain ⟨r_45, L_45, f_45⟩ := u
        obtain ⟨hra, hP, -, hD1⟩ := hB1
        rw [show ra = r_45 from hra]
        rw [ht] at hP
        have hw := id hw
        have hP : va_P (dC, dI) vwCl (va_pl L_45 f_45) H1 := hP
        have hD : va_D A (va_pl L_45 f_45) := p_gain hD1 hFc
        generalize H1 = H at hP hS ⊢
        refine W.eq (g2 := F0 m 48 ls (.ref r_45 :: [.ref g_41])) rfl ?_
        refine W.widen (k := 2) (n := 602) (by decide) (by decide) ?_
        obtain ⟨hO9, hw⟩ := hw
        have hFc := p_free hD hS hA
        refine va_calli (va_runV (As := [.ref r_45]) (rest := []) ⟨hx, hb, hml, hown, hts⟩ (c_Jx4a65c_add_9ea2d l dC dI dA zz base L_45 f_45 H.size g_41 r_45 _ hw) (cwV 1 hts gX1_addEnding_Jx4a65c_add_9ea2d rfl rfl rfl (by decide +kernel) ⟨by decide, by decide⟩) (pPreV [.ref r_45] (ci := 0) rfl hO9 hK hP hD hS hB hz hN hT) rfl rfl hl.1 rfl (lv_room (Nat.le_of_ble_eq_true rfl)) dX1_addEnding_48 ⟨by decide, by decide⟩) hS (fun q _ h => hFc q h) hFc (fun r_48 u t H1 locs ht hvm hw hB1 hz1 hk1 hS => ?_)
        obtain ⟨L_48, f_48⟩ := u
        obtain ⟨hP, -, hD1⟩ := hB1
        rw [ht] at hP
        have hw := id hw
        have hP : va_P (dC, dI) vwCl (va_pl L_48 f_48) H1 := hP
        have hD : va_D A (va_pl L_48 f_48) := p_gain hD1 hFc
        generalize H1 = H at hP hS ⊢
        refine W.widen (k := 3) (n := 1602) (by decide) (by decide) ?_
        refine lv_pop hx hb dX1_addEnding_51 rfl ?_
        refine lv_aload_n hx hb dX1_addEnding_52 rfl (lv_at hl 1 rfl) ?_
        obtain ⟨fs_53, g_53, ⟨hL9, hf9, hn9⟩, hw⟩ := hw
        refine va_get (D := (dC, dI)) (ci := 2) (v := .ref g_53) (C := RX1) (T := TX1) (N := 3) hx hb hts iw_X1_addEnding_RX1 hown hK (p_one hP hL9 hf9) 0 rfl rfl 0 (by decide) (hts _ lk_X1_addEnding_12) (fun _ h9 => h9) hn9 dX1_addEnding_53 ?_
        obtain ⟨hO9, hw⟩ := hw
        have hFc := p_free hD hS hA
        refine va_calli (va_runV (As := []) (rest := []) ⟨hx, hb, hml, hown, hts⟩ (c_Jx4a65c_size_8abf5 l dC dI dA zz base L_48 f_48 H.size g_53  _ hw) (cwV 0 hts gX1_addEnding_Jx4a65c_size_8abf5 rfl rfl rfl (by decide +kernel) ⟨by decide, by decide⟩) (pPreV [] (ci := 0) rfl hO9 hK hP hD hS hB hz hN hT) rfl rfl hl.1 rfl (lv_room (Nat.le_of_ble_eq_true rfl)) dX1_addEnding_56 ⟨by decide, by decide⟩) hS (fun q _ h => hFc q h) hFc (fun r_56 u t H1 locs ht hvm hw hB1 hz1 hk1 hS => ?_)
        obtain ⟨L_56, f_56⟩ := u
        obtain ⟨hP, -, hD1⟩ := hB1
        rw [ht] at hP
        have hw := id hw
        have hP : va_P (dC, dI) vwCl (va_pl L_56 f_56) H1 := hP
        have hD : va_D A (va_pl L_56 f_56) := p_gain hD1 hFc
        generalize H1 = H at hP hS ⊢
        refine lv_iconst (v := 1) hx hb dX1_addEnding_59 (by decide) ?_
        refine lv_isub hx hb dX1_addEnding_60 ?_
        exact W.iret (v := (r_56 - (1 : Int32))) hx hb hr (fun t ht hW => ⟨⟨(r_56 - (1 : Int32)), (L_56, f_56), rfl, hw, by rw [ht]; exact hP, va_K.moved hW.alike hK, hD⟩, hS.F ht⟩) hS.2.2 dX1_addEnding_61
      · have hw := hw.2 c_35
        refine lv_iconst (v := -1) hx hb dX1_addEnding_38 (by decide) ?_
        refine W.widen (k := 3) (n := 1602) (by decide) (by decide) ?_
        exact W.iret (v := (-1 : Int32)) hx hb hr (fun t ht hW => ⟨⟨(-1 : Int32), (L_31, f_31), rfl, hw, by rw [ht]; exact hP, va_K.moved hW.alike hK, hD⟩, hS.F ht⟩) hS.2.2 dX1_addEnding_39
set_option maxHeartbeats 4000000 in
set_option maxRecDepth 100000 in
theorem tb_X1_addEnding_0 {p : Program} {l : Launch} {e : Env} {s : State} {m : MethodId} {below : List Frame} {meth : Method} {c : Code} {args : Array Value} {dC : Nat → ClassId} {dI : Nat → Nat → Nat} {dA : Nat → ClassId} {zz : Nat → Nat} {base : Nat} {A : Nat → Prop} {Q : Int32 → List Nat → pF → Prop} (C : pCx p s m args meth c cX1_addEnding 3 (some .int) RX1 wsX1_addEnding A dC dI dA zz base) : ∀ (L : List Nat) (f : pF) (a0 : Nat) (a1 : Nat), wp_X1_addEnding_0 dA zz Q  L f a0 a1 → pAt p l e rm_X1_addEnding s m args below meth c dC dI A (MQ below (va_Qi (fun r (u : List Nat × pF) => Q r u.1 u.2) (pB dC dI dA A) A) args s 3 1602 A) 0 0 0 3 [(0, .ref a0), (1, .ref a1)] [] L f := by
  obtain ⟨hx, hb, hml, hown, hts, hr, hlocks, hA, hK, hB, hz, hN, hT⟩ := id C
  intro L f a0 a1 hw H locs hP hD hS ls hl
  rw [wp_X1_addEnding_0] at hw
  refine lv_aload_n hx hb dX1_addEnding_0 rfl (lv_at hl 1 rfl) ?_
  obtain ⟨hO9, hw⟩ := hw
  have hFc := p_free hD hS hA
  refine va_calli (va_runV (As := []) (rest := []) ⟨hx, hb, hml, hown, hts⟩ (c_X4_wordsOfTerm l dC dI dA zz base L f H.size a1  _ hw) (cwV 0 hts gX1_addEnding_X4_wordsOfTerm rfl rfl rfl (by decide +kernel) ⟨by decide, by decide⟩) (pPreV [] (ci := 5) rfl hO9 hK hP hD hS hB hz hN hT) rfl rfl hl.1 rfl (lv_room (Nat.le_of_ble_eq_true rfl)) dX1_addEnding_1 ⟨by decide, by decide⟩) hS (fun q _ h => hFc q h) hFc (fun r_1 u t H1 locs ht hvm hw hB1 hz1 hk1 hS => ?_)
  obtain ⟨L_1, f_1⟩ := u
  obtain ⟨hP, -, hD1⟩ := hB1
  rw [ht] at hP
  have hw := id hw
  have hP : va_P (dC, dI) vwCl (va_pl L_1 f_1) H1 := hP
  have hD : va_D A (va_pl L_1 f_1) := p_gain hD1 hFc
  generalize H1 = H at hP hS ⊢
  refine lv_iconst (v := 1) hx hb dX1_addEnding_4 (by decide) ?_
  refine lv_icmp_ne (tgt := 12) hx hb dX1_addEnding_5 (by decide) (fun c_5 => ?_) (fun c_5 => ?_)
  · have hw := hw.1 c_5
    refine lv_iconst (v := 0) hx hb dX1_addEnding_12 (by decide) ?_
    exact tb_X1_addEnding_13 C  L_1 f_1 a0 a1 (0 : Int32) hw H locs hP hD hS ls (lv_sub hl [0, 1] rfl)
  · have hw := hw.2 c_5
    refine lv_iconst (v := 1) hx hb dX1_addEnding_8 (by decide) ?_
    refine lv_goto (tgt := 13) hx hb dX1_addEnding_9 (by decide) ?_
    exact tb_X1_addEnding_13 C  L_1 f_1 a0 a1 (1 : Int32) hw H locs hP hD hS ls (lv_sub hl [0, 1] rfl)
set_option maxHeartbeats 4000000 in
set_option maxRecDepth 100000 in
theorem c_X1_addEnding (l : Launch) (dC : Nat → ClassId) (dI : Nat → Nat → Nat) (dA : Nat → ClassId) (zz : Nat → Nat) (base : Nat) (L : List Nat) (f : pF) (sz : Nat) (a0 : Nat) (a1 : Nat) (Q : Int32 → List Nat → pF → Prop) (hw : wp_X1_addEnding_0 dA zz Q L f a0 a1) : Met l yX1_addEnding wsX1_addEnding rm_X1_addEnding (va_Pc [.ref a0, .ref a1] (pPre dC dI dA zz base L f sz)) (va_Qi (fun r (u : List Nat × pF) => Q r u.1 u.2) (pB dC dI dA (va_A (va_pl L f) sz)) (va_A (va_pl L f) sz)) 3 1602 (va_A (va_pl L f) sz) := by
  refine Met.ofW (cc := cX1_addEnding) (maxL := 3) (ret := (some .int)) (by decide) rfl ?_
  intro p e s m args below meth c s₁ B hml hv
  obtain ⟨rfl, hsz, hP, hK, hD0, hz, hN, hT⟩ := hv
  subst hsz
  have hl := lv_entry ([.ref a0, .ref a1]) (n := 3) (Nat.le_of_ble_eq_true rfl)
  rw [lg_entry_eq]
  generalize (lg_sl ([.ref a0, .ref a1]) ++ List.replicate (3 - (lg_sl ([.ref a0, .ref a1])).length) Slot.unset).toArray = ls at hl ⊢
  exact tb_X1_addEnding_0 (Q := Q) (p := p) ⟨B.exec, B.bytes, hml, findClass_of_methodNamed B.named, atoms_spec (ws := wsX1_addEnding) B.pre, B.returns, B.notSynchronized, fun q h => Or.inr h, hK, pAB hD0 hz, hz, hN, hT⟩ L f a0 a1 hw s.heap [] hP (hD0.self (sz := s.heap.size)) va_S.rf ls (lv_sub hl [0, 1] rfl)
theorem iw_X1_addTerm_RX1 : ∀ w ∈ u_ws RX1 TX1 3, w ∈ wsX1_addTerm := by decide +kernel
theorem iw_X1_addTerm_RX5 : ∀ w ∈ u_ws RX5 TX5 5, w ∈ wsX1_addTerm := by decide +kernel
theorem lk_X1_addTerm_32 : Cond.classLink RX1 32 "TermKeeper$Term" ∈ wsX1_addTerm := by decide +kernel
theorem lk_X1_addTerm_18 : Cond.fieldLink RX1 18 "TermKeeper$Glossary" "terms" "Ljava/util/ArrayList;" ∈ wsX1_addTerm := by decide +kernel
theorem li_X1_addTerm_RX5 : Cond.instantiable RX5 5 ∈ wsX1_addTerm := by decide +kernel
theorem lim_X1_addTerm_X5_init : Cond.instanceMethod yX5_init ∈ wsX1_addTerm := by decide +kernel
theorem lm_X1_addTerm_48 : Cond.methodLink RX1 48 yX5_init ∈ wsX1_addTerm := by decide +kernel
theorem lz_X1_addTerm_RX5 : Cond.initialized RX5 ∈ wsX1_addTerm := by decide +kernel
abbrev rm_X1_addTerm : Room := { frames := 7, cells := 4, slots := 1607, locals := 191 }
def wp_X1_addTerm_0 (dA : Nat → ClassId) (zz : Nat → Nat) (Q : Int32 → List Nat → pF → Prop) (L : List Nat) (f : pF) (a0 : Nat) (a1 : Nat) (a2 : Int32) (a3 : Int32) (a4 : Int32) : Prop :=
    (isO L f 5 a1 ∧
      (wp_X4_wordsOfTerm_0 dA zz (fun r_1 L_1 f_1 =>
        (gR L_1 f_1 2 a0 1 (fun g_7 =>
          (isO L_1 f_1 0 g_7 ∧
            (wp_Jx4a65c_size_8abf5_0 dA zz (fun r_10 L_10 f_10 =>
              (((60 : Int32) ≤ r_10 →
                (Q (-1 : Int32) L_10 f_10))
               ∧ (¬ (60 : Int32) ≤ r_10 →
                ((¬ r_1 = 0 →
                  (gR L_10 f_10 2 a0 1 (fun g_26 =>
                    (nO zz L_10 f_10 (.inr (6, [.null, .int 0, .int 0, .int 0, .int 0])) (fun q_29 L_29 f_29 =>
                      (isO L_29 f_29 5 a1 ∧
                        (wp_X4_copied_0 dA zz (fun r_34 L_34 f_34 =>
                          (wp_X5_init_0 dA zz (fun L_43 f_43 =>
                            (isO L_43 f_43 0 g_26 ∧
                              (wp_Jx4a65c_add_9ea2d_0 dA zz (fun r_46 L_46 f_46 =>
                                (gR L_46 f_46 2 a0 1 (fun g_51 =>
                                  (isO L_46 f_46 0 g_51 ∧
                                    (wp_Jx4a65c_size_8abf5_0 dA zz (fun r_54 L_54 f_54 =>
                                      (Q (r_54 - (1 : Int32)) L_54 f_54)) L_46 f_46 g_51 ))))) L_43 f_43 g_26 q_29))) L_34 f_34 q_29 r_34 r_1 a2 a3 a4)) L_29 f_29 a1 )))))))
                 ∧ (r_1 = 0 →
                  (Q (-1 : Int32) L_10 f_10)))))) L_1 f_1 g_7 ))))) L f a1 ))
set_option maxHeartbeats 4000000 in
set_option maxRecDepth 100000 in
theorem tb_X1_addTerm_0 {p : Program} {l : Launch} {e : Env} {s : State} {m : MethodId} {below : List Frame} {meth : Method} {c : Code} {args : Array Value} {dC : Nat → ClassId} {dI : Nat → Nat → Nat} {dA : Nat → ClassId} {zz : Nat → Nat} {base : Nat} {A : Nat → Prop} {Q : Int32 → List Nat → pF → Prop} (C : pCx p s m args meth c cX1_addTerm 6 (some .int) RX1 wsX1_addTerm A dC dI dA zz base) : ∀ (L : List Nat) (f : pF) (a0 : Nat) (a1 : Nat) (a2 : Int32) (a3 : Int32) (a4 : Int32), wp_X1_addTerm_0 dA zz Q  L f a0 a1 a2 a3 a4 → pAt p l e rm_X1_addTerm s m args below meth c dC dI A (MQ below (va_Qi (fun r (u : List Nat × pF) => Q r u.1 u.2) (pB dC dI dA A) A) args s 4 1607 A) 0 0 0 6 [(0, .ref a0), (1, .ref a1), (2, .int a2), (3, .int a3), (4, .int a4)] [] L f := by
  obtain ⟨hx, hb, hml, hown, hts, hr, hlocks, hA, hK, hB, hz, hN, hT⟩ := id C
  intro L f a0 a1 a2 a3 a4 hw H locs hP hD hS ls hl
  rw [wp_X1_addTerm_0] at hw
  refine lv_aload_n hx hb dX1_addTerm_0 rfl (lv_at hl 1 rfl) ?_
  obtain ⟨hO9, hw⟩ := hw
  have hFc := p_free hD hS hA
  refine va_calli (va_runV (As := []) (rest := []) ⟨hx, hb, hml, hown, hts⟩ (c_X4_wordsOfTerm l dC dI dA zz base L f H.size a1  _ hw) (cwV 0 hts gX1_addTerm_X4_wordsOfTerm rfl rfl rfl (by decide +kernel) ⟨by decide, by decide⟩) (pPreV [] (ci := 5) rfl hO9 hK hP hD hS hB hz hN hT) rfl rfl hl.1 rfl (lv_room (Nat.le_of_ble_eq_true rfl)) dX1_addTerm_1 ⟨by decide, by decide⟩) hS (fun q _ h => hFc q h) hFc (fun r_1 u t H1 locs ht hvm hw hB1 hz1 hk1 hS => ?_)
  obtain ⟨L_1, f_1⟩ := u
  obtain ⟨hP, -, hD1⟩ := hB1
  rw [ht] at hP
  have hw := id hw
  have hP : va_P (dC, dI) vwCl (va_pl L_1 f_1) H1 := hP
  have hD : va_D A (va_pl L_1 f_1) := p_gain hD1 hFc
  generalize H1 = H at hP hS ⊢
  refine lv_istore (lv' := [(5, .int r_1), (0, .ref a0), (1, .ref a1), (2, .int a2), (3, .int a3), (4, .int a4)]) hx hb dX1_addTerm_4 hl (by decide) rfl (fun ls hl => ?_)
  refine lv_aload_n hx hb dX1_addTerm_6 rfl (lv_at hl 1 rfl) ?_
  obtain ⟨fs_7, g_7, ⟨hL9, hf9, hn9⟩, hw⟩ := hw
  refine va_get (D := (dC, dI)) (ci := 2) (v := .ref g_7) (C := RX1) (T := TX1) (N := 3) hx hb hts iw_X1_addTerm_RX1 hown hK (p_one hP hL9 hf9) 0 rfl rfl 1 (by decide) (hts _ lk_X1_addTerm_18) (fun _ h9 => h9) hn9 dX1_addTerm_7 ?_
  obtain ⟨hO9, hw⟩ := hw
  have hFc := p_free hD hS hA
  refine va_calli (va_runV (As := []) (rest := []) ⟨hx, hb, hml, hown, hts⟩ (c_Jx4a65c_size_8abf5 l dC dI dA zz base L_1 f_1 H.size g_7  _ hw) (cwV 0 hts gX1_addTerm_Jx4a65c_size_8abf5 rfl rfl rfl (by decide +kernel) ⟨by decide, by decide⟩) (pPreV [] (ci := 0) rfl hO9 hK hP hD hS hB hz hN hT) rfl rfl hl.1 rfl (lv_room (Nat.le_of_ble_eq_true rfl)) dX1_addTerm_10 ⟨by decide, by decide⟩) hS (fun q _ h => hFc q h) hFc (fun r_10 u t H1 locs ht hvm hw hB1 hz1 hk1 hS => ?_)
  obtain ⟨L_10, f_10⟩ := u
  obtain ⟨hP, -, hD1⟩ := hB1
  rw [ht] at hP
  have hw := id hw
  have hP : va_P (dC, dI) vwCl (va_pl L_10 f_10) H1 := hP
  have hD : va_D A (va_pl L_10 f_10) := p_gain hD1 hFc
  generalize H1 = H at hP hS ⊢
  refine lv_bipush (v := 60) hx hb dX1_addTerm_13 (by decide) ?_
  refine lv_icmp_ge (tgt := 23) hx hb dX1_addTerm_15 (by decide) (fun c_15 => ?_) (fun c_15 => ?_)
  · have hw := hw.1 c_15
    refine lv_iconst (v := -1) hx hb dX1_addTerm_23 (by decide) ?_
    refine W.widen (k := 4) (n := 1607) (by decide) (by decide) ?_
    exact W.iret (v := (-1 : Int32)) hx hb hr (fun t ht hW => ⟨⟨(-1 : Int32), (L_10, f_10), rfl, hw, by rw [ht]; exact hP, va_K.moved hW.alike hK, hD⟩, hS.F ht⟩) hS.2.2 dX1_addTerm_24
  · have hw := hw.2 c_15
    refine lv_iload hx hb dX1_addTerm_18 (lv_at hl 0 rfl) ?_
    refine lv_if_ne (tgt := 25) hx hb dX1_addTerm_20 (by decide) (fun c_20 => ?_) (fun c_20 => ?_)
    · have hw := hw.1 c_20
      refine lv_aload_n hx hb dX1_addTerm_25 rfl (lv_at hl 1 rfl) ?_
      obtain ⟨fs_26, g_26, ⟨hL9, hf9, hn9⟩, hw⟩ := hw
      refine va_get (D := (dC, dI)) (ci := 2) (v := .ref g_26) (C := RX1) (T := TX1) (N := 3) hx hb hts iw_X1_addTerm_RX1 hown hK (p_one hP hL9 hf9) 0 rfl rfl 1 (by decide) (hts _ lk_X1_addTerm_18) (fun _ h9 => h9) hn9 dX1_addTerm_26 ?_
      refine va_new (ci := 6) (fs := [.null, .int 0, .int 0, .int 0, .int 0]) (C := RX5) (T := TX5) (N := 5) hx hb hts iw_X1_addTerm_RX5 tyX5 tyX5_ok hown (hts _ lk_X1_addTerm_32) (hts _ li_X1_addTerm_RX5) (hts _ lz_X1_addTerm_RX5) hK hP hD hS hA rfl (fun j hj => by rcases (show j = 0 ∨ j = 1 ∨ j = 2 ∨ j = 3 ∨ j = 4 by omega) with rfl | rfl | rfl | rfl | rfl <;> rfl) (by decide) (by decide) dX1_addTerm_29 (fun q_29 H hP2 hD2 hS => ?_)
      have hq9 := p_fresh hD2
      have hz9 := p_nz hB hT hD2
      rw [va_pl_push hq9] at hP2 hD2
      obtain ⟨L_29, eL_29⟩ : ∃ y : List Nat, y = L_10 ++ [q_29] := ⟨_, rfl⟩
      obtain ⟨f_29, ef_29⟩ : ∃ y : pF, y = va_up f_10 q_29 (.inr (6, [.null, .int 0, .int 0, .int 0, .int 0])) := ⟨_, rfl⟩
      have hw := hw q_29 hq9 hz9 L_29 f_29 eL_29 ef_29
      have hP : va_P (dC, dI) vwCl (va_pl L_29 f_29) H := by rw [eL_29, ef_29]; exact hP2
      have hD : va_D A (va_pl L_29 f_29) := by rw [eL_29, ef_29]; exact hD2
      refine lv_dup hx hb dX1_addTerm_32 rfl ?_
      refine lv_aload_n hx hb dX1_addTerm_33 rfl (lv_at hl 2 rfl) ?_
      obtain ⟨hO9, hw⟩ := hw
      have hFc := p_free hD hS hA
      refine va_callr (va_runV (As := []) (rest := [.ref q_29, .ref q_29, .ref g_26]) ⟨hx, hb, hml, hown, hts⟩ (c_X4_copied l dC dI dA zz base L_29 f_29 H.size a1  _ hw) (cwV 0 hts gX1_addTerm_X4_copied rfl rfl rfl (by decide +kernel) ⟨by decide, by decide⟩) (pPreV [] (ci := 5) rfl hO9 hK hP hD hS hB hz hN hT) rfl rfl hl.1 rfl (lv_room (Nat.le_of_ble_eq_true rfl)) dX1_addTerm_34 ⟨by decide, by decide⟩) hS (fun q _ h => hFc q h) hFc (fun u ra t H1 locs ht hvm hw hB1 hz1 hk1 hS => ?_)
      obtain ⟨r_34, L_34, f_34⟩ := u
      obtain ⟨hra, hP, -, hD1⟩ := hB1
      rw [show ra = r_34 from hra]
      rw [ht] at hP
      have hw := id hw
      have hP : va_P (dC, dI) vwCl (va_pl L_34 f_34) H1 := hP
      have hD : va_D A (va_pl L_34 f_34) := p_gain hD1 hFc
      generalize H1 = H at hP hS ⊢
      refine W.eq (g2 := F0 m 37 ls (.ref r_34 :: [.ref q_29, .ref q_29, .ref g_26])) rfl ?_
      refine W.widen (k := 3) (n := 607) (by decide) (by decide) ?_
      refine lv_iload hx hb dX1_addTerm_37 (lv_at hl 0 rfl) ?_
      refine lv_iload_n hx hb dX1_addTerm_39 rfl (lv_at hl 3 rfl) ?_
      refine lv_iload_n hx hb dX1_addTerm_40 rfl (lv_at hl 4 rfl) ?_
      refine lv_iload hx hb dX1_addTerm_41 (lv_at hl 5 rfl) ?_
      have hFc := p_free hD hS hA
      refine va_callv (va_runI (As := [.ref r_34, .int r_1, .int a2, .int a3, .int a4]) (rest := [.ref q_29, .ref g_26]) ⟨hx, hb, hml, hown, hts⟩ (c_X5_init l dC dI dA zz base L_34 f_34 H.size q_29 r_34 r_1 a2 a3 a4 _ hw) (cwI 5 hts gX1_addTerm_X5_init rfl rfl rfl (hts _ lz_X1_addTerm_RX5) (hts _ lm_X1_addTerm_48) (hts _ lim_X1_addTerm_X5_init) rfl (by decide +kernel) ⟨by decide, by decide⟩) (pPreS [.ref q_29, .ref r_34, .int r_1, .int a2, .int a3, .int a4] hK hP hD hS hB hz hN hT) rfl rfl hl.1 rfl (lv_room (Nat.le_of_ble_eq_true rfl)) dX1_addTerm_43 ⟨by decide, by decide⟩) hS (fun q _ h => hFc q h) hFc (fun u t H1 locs ht hvm hw hB1 hz1 hk1 hS => ?_)
      obtain ⟨L_43, f_43⟩ := u
      obtain ⟨hP, -, hD1⟩ := hB1
      rw [ht] at hP
      have hw := id hw
      have hP : va_P (dC, dI) vwCl (va_pl L_43 f_43) H1 := hP
      have hD : va_D A (va_pl L_43 f_43) := p_gain hD1 hFc
      generalize H1 = H at hP hS ⊢
      obtain ⟨hO9, hw⟩ := hw
      have hFc := p_free hD hS hA
      refine va_calli (va_runV (As := [.ref q_29]) (rest := []) ⟨hx, hb, hml, hown, hts⟩ (c_Jx4a65c_add_9ea2d l dC dI dA zz base L_43 f_43 H.size g_26 q_29 _ hw) (cwV 1 hts gX1_addTerm_Jx4a65c_add_9ea2d rfl rfl rfl (by decide +kernel) ⟨by decide, by decide⟩) (pPreV [.ref q_29] (ci := 0) rfl hO9 hK hP hD hS hB hz hN hT) rfl rfl hl.1 rfl (lv_room (Nat.le_of_ble_eq_true rfl)) dX1_addTerm_46 ⟨by decide, by decide⟩) hS (fun q _ h => hFc q h) hFc (fun r_46 u t H1 locs ht hvm hw hB1 hz1 hk1 hS => ?_)
      obtain ⟨L_46, f_46⟩ := u
      obtain ⟨hP, -, hD1⟩ := hB1
      rw [ht] at hP
      have hw := id hw
      have hP : va_P (dC, dI) vwCl (va_pl L_46 f_46) H1 := hP
      have hD : va_D A (va_pl L_46 f_46) := p_gain hD1 hFc
      generalize H1 = H at hP hS ⊢
      refine W.widen (k := 4) (n := 1607) (by decide) (by decide) ?_
      refine lv_pop hx hb dX1_addTerm_49 rfl ?_
      refine lv_aload_n hx hb dX1_addTerm_50 rfl (lv_at hl 1 rfl) ?_
      obtain ⟨fs_51, g_51, ⟨hL9, hf9, hn9⟩, hw⟩ := hw
      refine va_get (D := (dC, dI)) (ci := 2) (v := .ref g_51) (C := RX1) (T := TX1) (N := 3) hx hb hts iw_X1_addTerm_RX1 hown hK (p_one hP hL9 hf9) 0 rfl rfl 1 (by decide) (hts _ lk_X1_addTerm_18) (fun _ h9 => h9) hn9 dX1_addTerm_51 ?_
      obtain ⟨hO9, hw⟩ := hw
      have hFc := p_free hD hS hA
      refine va_calli (va_runV (As := []) (rest := []) ⟨hx, hb, hml, hown, hts⟩ (c_Jx4a65c_size_8abf5 l dC dI dA zz base L_46 f_46 H.size g_51  _ hw) (cwV 0 hts gX1_addTerm_Jx4a65c_size_8abf5 rfl rfl rfl (by decide +kernel) ⟨by decide, by decide⟩) (pPreV [] (ci := 0) rfl hO9 hK hP hD hS hB hz hN hT) rfl rfl hl.1 rfl (lv_room (Nat.le_of_ble_eq_true rfl)) dX1_addTerm_54 ⟨by decide, by decide⟩) hS (fun q _ h => hFc q h) hFc (fun r_54 u t H1 locs ht hvm hw hB1 hz1 hk1 hS => ?_)
      obtain ⟨L_54, f_54⟩ := u
      obtain ⟨hP, -, hD1⟩ := hB1
      rw [ht] at hP
      have hw := id hw
      have hP : va_P (dC, dI) vwCl (va_pl L_54 f_54) H1 := hP
      have hD : va_D A (va_pl L_54 f_54) := p_gain hD1 hFc
      generalize H1 = H at hP hS ⊢
      refine lv_iconst (v := 1) hx hb dX1_addTerm_57 (by decide) ?_
      refine lv_isub hx hb dX1_addTerm_58 ?_
      exact W.iret (v := (r_54 - (1 : Int32))) hx hb hr (fun t ht hW => ⟨⟨(r_54 - (1 : Int32)), (L_54, f_54), rfl, hw, by rw [ht]; exact hP, va_K.moved hW.alike hK, hD⟩, hS.F ht⟩) hS.2.2 dX1_addTerm_59
    · have hw := hw.2 c_20
      refine lv_iconst (v := -1) hx hb dX1_addTerm_23 (by decide) ?_
      refine W.widen (k := 4) (n := 1607) (by decide) (by decide) ?_
      exact W.iret (v := (-1 : Int32)) hx hb hr (fun t ht hW => ⟨⟨(-1 : Int32), (L_10, f_10), rfl, hw, by rw [ht]; exact hP, va_K.moved hW.alike hK, hD⟩, hS.F ht⟩) hS.2.2 dX1_addTerm_24
set_option maxHeartbeats 4000000 in
set_option maxRecDepth 100000 in
theorem c_X1_addTerm (l : Launch) (dC : Nat → ClassId) (dI : Nat → Nat → Nat) (dA : Nat → ClassId) (zz : Nat → Nat) (base : Nat) (L : List Nat) (f : pF) (sz : Nat) (a0 : Nat) (a1 : Nat) (a2 : Int32) (a3 : Int32) (a4 : Int32) (Q : Int32 → List Nat → pF → Prop) (hw : wp_X1_addTerm_0 dA zz Q L f a0 a1 a2 a3 a4) : Met l yX1_addTerm wsX1_addTerm rm_X1_addTerm (va_Pc [.ref a0, .ref a1, .int a2, .int a3, .int a4] (pPre dC dI dA zz base L f sz)) (va_Qi (fun r (u : List Nat × pF) => Q r u.1 u.2) (pB dC dI dA (va_A (va_pl L f) sz)) (va_A (va_pl L f) sz)) 4 1607 (va_A (va_pl L f) sz) := by
  refine Met.ofW (cc := cX1_addTerm) (maxL := 6) (ret := (some .int)) (by decide) rfl ?_
  intro p e s m args below meth c s₁ B hml hv
  obtain ⟨rfl, hsz, hP, hK, hD0, hz, hN, hT⟩ := hv
  subst hsz
  have hl := lv_entry ([.ref a0, .ref a1, .int a2, .int a3, .int a4]) (n := 6) (Nat.le_of_ble_eq_true rfl)
  rw [lg_entry_eq]
  generalize (lg_sl ([.ref a0, .ref a1, .int a2, .int a3, .int a4]) ++ List.replicate (6 - (lg_sl ([.ref a0, .ref a1, .int a2, .int a3, .int a4])).length) Slot.unset).toArray = ls at hl ⊢
  exact tb_X1_addTerm_0 (Q := Q) (p := p) ⟨B.exec, B.bytes, hml, findClass_of_methodNamed B.named, atoms_spec (ws := wsX1_addTerm) B.pre, B.returns, B.notSynchronized, fun q h => Or.inr h, hK, pAB hD0 hz, hz, hN, hT⟩ L f a0 a1 a2 a3 a4 hw s.heap [] hP (hD0.self (sz := s.heap.size)) va_S.rf ls (lv_sub hl [0, 1, 2, 3, 4] rfl)
theorem iw_X1_addNeighbour_RX1 : ∀ w ∈ u_ws RX1 TX1 3, w ∈ wsX1_addNeighbour := by decide +kernel
theorem iw_X1_addNeighbour_RX3 : ∀ w ∈ u_ws RX3 TX3 2, w ∈ wsX1_addNeighbour := by decide +kernel
theorem lk_X1_addNeighbour_51 : Cond.classLink RX1 51 RX3 ∈ wsX1_addNeighbour := by decide +kernel
theorem lk_X1_addNeighbour_21 : Cond.fieldLink RX1 21 "TermKeeper$Glossary" "neighbours" "Ljava/util/ArrayList;" ∈ wsX1_addNeighbour := by decide +kernel
theorem lk_X1_addNeighbour_53 : Cond.fieldLink RX1 53 "TermKeeper$Neighbour" "thing" "I" ∈ wsX1_addNeighbour := by decide +kernel
theorem lk_X1_addNeighbour_57 : Cond.fieldLink RX1 57 "TermKeeper$Neighbour" "word" "LTermKeeper$Row;" ∈ wsX1_addNeighbour := by decide +kernel
theorem li_X1_addNeighbour_RX3 : Cond.instantiable RX3 2 ∈ wsX1_addNeighbour := by decide +kernel
theorem lim_X1_addNeighbour_X3_init : Cond.instanceMethod yX3_init ∈ wsX1_addNeighbour := by decide +kernel
theorem lm_X1_addNeighbour_65 : Cond.methodLink RX1 65 yX3_init ∈ wsX1_addNeighbour := by decide +kernel
theorem lz_X1_addNeighbour_RX3 : Cond.initialized RX3 ∈ wsX1_addNeighbour := by decide +kernel
abbrev rm_X1_addNeighbour : Room := { frames := 7, cells := 4, slots := 1604, locals := 191 }
def wp_X1_addNeighbour_67 (dA : Nat → ClassId) (zz : Nat → Nat) (Q : Int32 → List Nat → pF → Prop) (k15_ : List Nat → pF → Nat → Nat → Int32 → Int32 → Int32 → Prop) (L : List Nat) (f : pF) (a0 : Nat) (a1 : Nat) (a2 : Int32) (a3 : Int32) (a4 : Int32) : Prop :=
    (∀ v4_67 : Int32, v4_67 = a4 + (1 : Int32) →
      (k15_ L f a0 a1 a2 a3 v4_67))
def wp_X1_addNeighbour_73 (dA : Nat → ClassId) (zz : Nat → Nat) (Q : Int32 → List Nat → pF → Prop) (L : List Nat) (f : pF) (a0 : Nat) (a1 : Nat) (a2 : Int32) (a3 : Int32) : Prop :=
    ((a3 < (8 : Int32) →
      (gR L f 2 a0 2 (fun g_82 =>
        (nO zz L f (.inr (4, [.null, .int 0])) (fun q_85 L_85 f_85 =>
          (isO L_85 f_85 5 a1 ∧
            (wp_X4_copied_0 dA zz (fun r_90 L_90 f_90 =>
              (wp_X3_init_0 dA zz (fun L_94 f_94 =>
                (isO L_94 f_94 0 g_82 ∧
                  (wp_Jx4a65c_add_9ea2d_0 dA zz (fun r_97 L_97 f_97 =>
                    (Q (a3 + (1 : Int32)) L_97 f_97)) L_94 f_94 g_82 q_85))) L_90 f_90 q_85 r_90 a2)) L_85 f_85 a1 )))))))
     ∧ (¬ a3 < (8 : Int32) →
      (Q (-1 : Int32) L f)))
def wp_X1_addNeighbour_15 (dA : Nat → ClassId) (zz : Nat → Nat) (Q : Int32 → List Nat → pF → Prop) : Nat → List Nat → pF → Nat → Nat → Int32 → Int32 → Int32 → Prop
  | 0, _, _, _, _, _, _, _ => False
  | n + 1, L, f, a0, a1, a2, a3, a4 =>
    (gR L f 2 a0 2 (fun g_18 =>
      (isO L f 0 g_18 ∧
        (wp_Jx4a65c_size_8abf5_0 dA zz (fun r_21 L_21 f_21 =>
          ((r_21 ≤ a4 →
            (wp_X1_addNeighbour_73 dA zz Q  L_21 f_21 a0 a1 a2 a3))
           ∧ (¬ r_21 ≤ a4 →
            (gR L_21 f_21 2 a0 2 (fun g_28 =>
              (isO L_21 f_21 0 g_28 ∧
                (wp_Jx4a65c_get_915e3_0 dA zz (fun r_33 L_33 f_33 =>
                  (isO L_33 f_33 4 r_33 ∧
                    (gI L_33 f_33 4 r_33 1 (fun g_43 =>
                      ((¬ g_43 = a2 →
                        (wp_X1_addNeighbour_67 dA zz Q (wp_X1_addNeighbour_15 dA zz Q  n) L_33 f_33 a0 a1 a2 a3 a4))
                       ∧ (g_43 = a2 →
                        (gR L_33 f_33 4 r_33 0 (fun g_52 =>
                          (isO L_33 f_33 5 g_52 ∧
                            (wp_X4_sameAs_0 dA zz (fun r_56 L_56 f_56 =>
                              ((r_56 = 0 →
                                (∀ v3_64 : Int32, v3_64 = a3 + (1 : Int32) →
                                  (wp_X1_addNeighbour_67 dA zz Q (wp_X1_addNeighbour_15 dA zz Q  n) L_56 f_56 a0 a1 a2 v3_64 a4)))
                               ∧ (¬ r_56 = 0 →
                                (Q (-1 : Int32) L_56 f_56)))) L_33 f_33 g_52 a1)))))))))) L_21 f_21 g_28 a4))))))) L f g_18 ))))
def wp_X1_addNeighbour_0 (dA : Nat → ClassId) (zz : Nat → Nat) (Q : Int32 → List Nat → pF → Prop) (L : List Nat) (f : pF) (a0 : Nat) (a1 : Nat) (a2 : Int32) : Prop :=
    (isO L f 5 a1 ∧
      (wp_X4_wordsOfTerm_0 dA zz (fun r_1 L_1 f_1 =>
        ((r_1 = (1 : Int32) →
          (∃ n9 : Nat, wp_X1_addNeighbour_15 dA zz Q  n9 L_1 f_1 a0 a1 a2 (0 : Int32) (0 : Int32)))
         ∧ (¬ r_1 = (1 : Int32) →
          (Q (-1 : Int32) L_1 f_1)))) L f a1 ))
set_option maxHeartbeats 4000000 in
set_option maxRecDepth 100000 in
theorem tb_X1_addNeighbour_67 {p : Program} {l : Launch} {e : Env} {s : State} {m : MethodId} {below : List Frame} {meth : Method} {c : Code} {args : Array Value} {dC : Nat → ClassId} {dI : Nat → Nat → Nat} {dA : Nat → ClassId} {zz : Nat → Nat} {base : Nat} {A : Nat → Prop} {Q : Int32 → List Nat → pF → Prop} (C : pCx p s m args meth c cX1_addNeighbour 6 (some .int) RX1 wsX1_addNeighbour A dC dI dA zz base) {k15_ : List Nat → pF → Nat → Nat → Int32 → Int32 → Int32 → Prop} (h15_ : ∀ (L : List Nat) (f : pF) (a0 : Nat) (a1 : Nat) (a2 : Int32) (a3 : Int32) (a4 : Int32), k15_ L f a0 a1 a2 a3 a4 → pAt p l e rm_X1_addNeighbour s m args below meth c dC dI A (MQ below (va_Qi (fun r (u : List Nat × pF) => Q r u.1 u.2) (pB dC dI dA A) A) args s 4 1604 A) 0 0 15 6 [(0, .ref a0), (1, .ref a1), (2, .int a2), (3, .int a3), (4, .int a4)] [] L f) : ∀ (L : List Nat) (f : pF) (a0 : Nat) (a1 : Nat) (a2 : Int32) (a3 : Int32) (a4 : Int32), wp_X1_addNeighbour_67 dA zz Q k15_ L f a0 a1 a2 a3 a4 → pAt p l e rm_X1_addNeighbour s m args below meth c dC dI A (MQ below (va_Qi (fun r (u : List Nat × pF) => Q r u.1 u.2) (pB dC dI dA A) A) args s 4 1604 A) 0 0 67 6 [(0, .ref a0), (1, .ref a1), (2, .int a2), (3, .int a3), (4, .int a4)] [] L f := by
  obtain ⟨hx, hb, hml, hown, hts, hr, hlocks, hA, hK, hB, hz, hN, hT⟩ := id C
  intro L f a0 a1 a2 a3 a4 hw H locs hP hD hS ls hl
  rw [wp_X1_addNeighbour_67] at hw
  obtain ⟨v4_67, ev4_67⟩ : ∃ y : Int32, y = a4 + (1 : Int32) := ⟨_, rfl⟩
  have hw := hw v4_67 ev4_67
  refine lv_iinc (v := v4_67) (lv' := [(4, .int v4_67), (0, .ref a0), (1, .ref a1), (2, .int a2), (3, .int a3)]) hx hb dX1_addNeighbour_67 hl (k := 4) rfl (by rw [ev4_67]; rfl) (by decide) rfl (fun ls hl => ?_)
  refine lv_goto (tgt := 15) hx hb dX1_addNeighbour_70 (by decide) ?_
  exact h15_ L f a0 a1 a2 a3 v4_67 hw H locs hP hD hS ls (lv_sub hl [1, 2, 3, 4, 0] rfl)
set_option maxHeartbeats 4000000 in
set_option maxRecDepth 100000 in
theorem tb_X1_addNeighbour_73 {p : Program} {l : Launch} {e : Env} {s : State} {m : MethodId} {below : List Frame} {meth : Method} {c : Code} {args : Array Value} {dC : Nat → ClassId} {dI : Nat → Nat → Nat} {dA : Nat → ClassId} {zz : Nat → Nat} {base : Nat} {A : Nat → Prop} {Q : Int32 → List Nat → pF → Prop} (C : pCx p s m args meth c cX1_addNeighbour 6 (some .int) RX1 wsX1_addNeighbour A dC dI dA zz base) : ∀ (L : List Nat) (f : pF) (a0 : Nat) (a1 : Nat) (a2 : Int32) (a3 : Int32), wp_X1_addNeighbour_73 dA zz Q  L f a0 a1 a2 a3 → pAt p l e rm_X1_addNeighbour s m args below meth c dC dI A (MQ below (va_Qi (fun r (u : List Nat × pF) => Q r u.1 u.2) (pB dC dI dA A) A) args s 4 1604 A) 0 0 73 6 [(0, .ref a0), (1, .ref a1), (2, .int a2), (3, .int a3)] [] L f := by
  obtain ⟨hx, hb, hml, hown, hts, hr, hlocks, hA, hK, hB, hz, hN, hT⟩ := id C
  intro L f a0 a1 a2 a3 hw H locs hP hD hS ls hl
  rw [wp_X1_addNeighbour_73] at hw
  refine lv_iload_n hx hb dX1_addNeighbour_73 rfl (lv_at hl 3 rfl) ?_
  refine lv_bipush (v := 8) hx hb dX1_addNeighbour_74 (by decide) ?_
  refine lv_icmp_lt (tgt := 81) hx hb dX1_addNeighbour_76 (by decide) (fun c_76 => ?_) (fun c_76 => ?_)
  · have hw := hw.1 c_76
    refine lv_aload_n hx hb dX1_addNeighbour_81 rfl (lv_at hl 0 rfl) ?_
    obtain ⟨fs_82, g_82, ⟨hL9, hf9, hn9⟩, hw⟩ := hw
    refine va_get (D := (dC, dI)) (ci := 2) (v := .ref g_82) (C := RX1) (T := TX1) (N := 3) hx hb hts iw_X1_addNeighbour_RX1 hown hK (p_one hP hL9 hf9) 0 rfl rfl 2 (by decide) (hts _ lk_X1_addNeighbour_21) (fun _ h9 => h9) hn9 dX1_addNeighbour_82 ?_
    refine va_new (ci := 4) (fs := [.null, .int 0]) (C := RX3) (T := TX3) (N := 2) hx hb hts iw_X1_addNeighbour_RX3 tyX3 tyX3_ok hown (hts _ lk_X1_addNeighbour_51) (hts _ li_X1_addNeighbour_RX3) (hts _ lz_X1_addNeighbour_RX3) hK hP hD hS hA rfl (fun j hj => by rcases (show j = 0 ∨ j = 1 by omega) with rfl | rfl <;> rfl) (by decide) (by decide) dX1_addNeighbour_85 (fun q_85 H hP2 hD2 hS => ?_)
    have hq9 := p_fresh hD2
    have hz9 := p_nz hB hT hD2
    rw [va_pl_push hq9] at hP2 hD2
    obtain ⟨L_85, eL_85⟩ : ∃ y : List Nat, y = L ++ [q_85] := ⟨_, rfl⟩
    obtain ⟨f_85, ef_85⟩ : ∃ y : pF, y = va_up f q_85 (.inr (4, [.null, .int 0])) := ⟨_, rfl⟩
    have hw := hw q_85 hq9 hz9 L_85 f_85 eL_85 ef_85
    have hP : va_P (dC, dI) vwCl (va_pl L_85 f_85) H := by rw [eL_85, ef_85]; exact hP2
    have hD : va_D A (va_pl L_85 f_85) := by rw [eL_85, ef_85]; exact hD2
    refine lv_dup hx hb dX1_addNeighbour_88 rfl ?_
    refine lv_aload_n hx hb dX1_addNeighbour_89 rfl (lv_at hl 1 rfl) ?_
    obtain ⟨hO9, hw⟩ := hw
    have hFc := p_free hD hS hA
    refine va_callr (va_runV (As := []) (rest := [.ref q_85, .ref q_85, .ref g_82]) ⟨hx, hb, hml, hown, hts⟩ (c_X4_copied l dC dI dA zz base L_85 f_85 H.size a1  _ hw) (cwV 0 hts gX1_addNeighbour_X4_copied rfl rfl rfl (by decide +kernel) ⟨by decide, by decide⟩) (pPreV [] (ci := 5) rfl hO9 hK hP hD hS hB hz hN hT) rfl rfl hl.1 rfl (lv_room (Nat.le_of_ble_eq_true rfl)) dX1_addNeighbour_90 ⟨by decide, by decide⟩) hS (fun q _ h => hFc q h) hFc (fun u ra t H1 locs ht hvm hw hB1 hz1 hk1 hS => ?_)
    obtain ⟨r_90, L_90, f_90⟩ := u
    obtain ⟨hra, hP, -, hD1⟩ := hB1
    rw [show ra = r_90 from hra]
    rw [ht] at hP
    have hw := id hw
    have hP : va_P (dC, dI) vwCl (va_pl L_90 f_90) H1 := hP
    have hD : va_D A (va_pl L_90 f_90) := p_gain hD1 hFc
    generalize H1 = H at hP hS ⊢
    refine W.eq (g2 := F0 m 93 ls (.ref r_90 :: [.ref q_85, .ref q_85, .ref g_82])) rfl ?_
    refine W.widen (k := 3) (n := 604) (by decide) (by decide) ?_
    refine lv_iload_n hx hb dX1_addNeighbour_93 rfl (lv_at hl 2 rfl) ?_
    have hFc := p_free hD hS hA
    refine va_callv (va_runI (As := [.ref r_90, .int a2]) (rest := [.ref q_85, .ref g_82]) ⟨hx, hb, hml, hown, hts⟩ (c_X3_init l dC dI dA zz base L_90 f_90 H.size q_85 r_90 a2 _ hw) (cwI 2 hts gX1_addNeighbour_X3_init rfl rfl rfl (hts _ lz_X1_addNeighbour_RX3) (hts _ lm_X1_addNeighbour_65) (hts _ lim_X1_addNeighbour_X3_init) rfl (by decide +kernel) ⟨by decide, by decide⟩) (pPreS [.ref q_85, .ref r_90, .int a2] hK hP hD hS hB hz hN hT) rfl rfl hl.1 rfl (lv_room (Nat.le_of_ble_eq_true rfl)) dX1_addNeighbour_94 ⟨by decide, by decide⟩) hS (fun q _ h => hFc q h) hFc (fun u t H1 locs ht hvm hw hB1 hz1 hk1 hS => ?_)
    obtain ⟨L_94, f_94⟩ := u
    obtain ⟨hP, -, hD1⟩ := hB1
    rw [ht] at hP
    have hw := id hw
    have hP : va_P (dC, dI) vwCl (va_pl L_94 f_94) H1 := hP
    have hD : va_D A (va_pl L_94 f_94) := p_gain hD1 hFc
    generalize H1 = H at hP hS ⊢
    obtain ⟨hO9, hw⟩ := hw
    have hFc := p_free hD hS hA
    refine va_calli (va_runV (As := [.ref q_85]) (rest := []) ⟨hx, hb, hml, hown, hts⟩ (c_Jx4a65c_add_9ea2d l dC dI dA zz base L_94 f_94 H.size g_82 q_85 _ hw) (cwV 1 hts gX1_addNeighbour_Jx4a65c_add_9ea2d rfl rfl rfl (by decide +kernel) ⟨by decide, by decide⟩) (pPreV [.ref q_85] (ci := 0) rfl hO9 hK hP hD hS hB hz hN hT) rfl rfl hl.1 rfl (lv_room (Nat.le_of_ble_eq_true rfl)) dX1_addNeighbour_97 ⟨by decide, by decide⟩) hS (fun q _ h => hFc q h) hFc (fun r_97 u t H1 locs ht hvm hw hB1 hz1 hk1 hS => ?_)
    obtain ⟨L_97, f_97⟩ := u
    obtain ⟨hP, -, hD1⟩ := hB1
    rw [ht] at hP
    have hw := id hw
    have hP : va_P (dC, dI) vwCl (va_pl L_97 f_97) H1 := hP
    have hD : va_D A (va_pl L_97 f_97) := p_gain hD1 hFc
    generalize H1 = H at hP hS ⊢
    refine W.widen (k := 4) (n := 1604) (by decide) (by decide) ?_
    refine lv_pop hx hb dX1_addNeighbour_100 rfl ?_
    refine lv_iload_n hx hb dX1_addNeighbour_101 rfl (lv_at hl 3 rfl) ?_
    refine lv_iconst (v := 1) hx hb dX1_addNeighbour_102 (by decide) ?_
    refine lv_iadd hx hb dX1_addNeighbour_103 ?_
    exact W.iret (v := (a3 + (1 : Int32))) hx hb hr (fun t ht hW => ⟨⟨(a3 + (1 : Int32)), (L_97, f_97), rfl, hw, by rw [ht]; exact hP, va_K.moved hW.alike hK, hD⟩, hS.F ht⟩) hS.2.2 dX1_addNeighbour_104
  · have hw := hw.2 c_76
    refine lv_iconst (v := -1) hx hb dX1_addNeighbour_79 (by decide) ?_
    refine W.widen (k := 4) (n := 1604) (by decide) (by decide) ?_
    exact W.iret (v := (-1 : Int32)) hx hb hr (fun t ht hW => ⟨⟨(-1 : Int32), (L, f), rfl, hw, by rw [ht]; exact hP, va_K.moved hW.alike hK, hD⟩, hS.F ht⟩) hS.2.2 dX1_addNeighbour_80
set_option maxHeartbeats 4000000 in
set_option maxRecDepth 100000 in
theorem tb_X1_addNeighbour_15 {p : Program} {l : Launch} {e : Env} {s : State} {m : MethodId} {below : List Frame} {meth : Method} {c : Code} {args : Array Value} {dC : Nat → ClassId} {dI : Nat → Nat → Nat} {dA : Nat → ClassId} {zz : Nat → Nat} {base : Nat} {A : Nat → Prop} {Q : Int32 → List Nat → pF → Prop} (C : pCx p s m args meth c cX1_addNeighbour 6 (some .int) RX1 wsX1_addNeighbour A dC dI dA zz base) : ∀ (n : Nat) (L : List Nat) (f : pF) (a0 : Nat) (a1 : Nat) (a2 : Int32) (a3 : Int32) (a4 : Int32), wp_X1_addNeighbour_15 dA zz Q  n L f a0 a1 a2 a3 a4 → pAt p l e rm_X1_addNeighbour s m args below meth c dC dI A (MQ below (va_Qi (fun r (u : List Nat × pF) => Q r u.1 u.2) (pB dC dI dA A) A) args s 4 1604 A) 0 0 15 6 [(0, .ref a0), (1, .ref a1), (2, .int a2), (3, .int a3), (4, .int a4)] [] L f := by
  obtain ⟨hx, hb, hml, hown, hts, hr, hlocks, hA, hK, hB, hz, hN, hT⟩ := id C
  intro n
  induction n with
  | zero => intro L f a0 a1 a2 a3 a4 hw; exact hw.elim
  | succ n ih =>
    intro L f a0 a1 a2 a3 a4 hw H locs hP hD hS ls hl
    rw [wp_X1_addNeighbour_15] at hw
    refine lv_iload hx hb dX1_addNeighbour_15 (lv_at hl 4 rfl) ?_
    refine lv_aload_n hx hb dX1_addNeighbour_17 rfl (lv_at hl 0 rfl) ?_
    obtain ⟨fs_18, g_18, ⟨hL9, hf9, hn9⟩, hw⟩ := hw
    refine va_get (D := (dC, dI)) (ci := 2) (v := .ref g_18) (C := RX1) (T := TX1) (N := 3) hx hb hts iw_X1_addNeighbour_RX1 hown hK (p_one hP hL9 hf9) 0 rfl rfl 2 (by decide) (hts _ lk_X1_addNeighbour_21) (fun _ h9 => h9) hn9 dX1_addNeighbour_18 ?_
    obtain ⟨hO9, hw⟩ := hw
    have hFc := p_free hD hS hA
    refine va_calli (va_runV (As := []) (rest := [.int a4]) ⟨hx, hb, hml, hown, hts⟩ (c_Jx4a65c_size_8abf5 l dC dI dA zz base L f H.size g_18  _ hw) (cwV 0 hts gX1_addNeighbour_Jx4a65c_size_8abf5 rfl rfl rfl (by decide +kernel) ⟨by decide, by decide⟩) (pPreV [] (ci := 0) rfl hO9 hK hP hD hS hB hz hN hT) rfl rfl hl.1 rfl (lv_room (Nat.le_of_ble_eq_true rfl)) dX1_addNeighbour_21 ⟨by decide, by decide⟩) hS (fun q _ h => hFc q h) hFc (fun r_21 u t H1 locs ht hvm hw hB1 hz1 hk1 hS => ?_)
    obtain ⟨L_21, f_21⟩ := u
    obtain ⟨hP, -, hD1⟩ := hB1
    rw [ht] at hP
    have hw := id hw
    have hP : va_P (dC, dI) vwCl (va_pl L_21 f_21) H1 := hP
    have hD : va_D A (va_pl L_21 f_21) := p_gain hD1 hFc
    generalize H1 = H at hP hS ⊢
    refine lv_icmp_ge (tgt := 73) hx hb dX1_addNeighbour_24 (by decide) (fun c_24 => ?_) (fun c_24 => ?_)
    · have hw := hw.1 c_24
      exact tb_X1_addNeighbour_73 C  L_21 f_21 a0 a1 a2 a3 hw H locs hP hD hS ls (lv_sub hl [0, 1, 2, 3] rfl)
    · have hw := hw.2 c_24
      refine lv_aload_n hx hb dX1_addNeighbour_27 rfl (lv_at hl 0 rfl) ?_
      obtain ⟨fs_28, g_28, ⟨hL9, hf9, hn9⟩, hw⟩ := hw
      refine va_get (D := (dC, dI)) (ci := 2) (v := .ref g_28) (C := RX1) (T := TX1) (N := 3) hx hb hts iw_X1_addNeighbour_RX1 hown hK (p_one hP hL9 hf9) 0 rfl rfl 2 (by decide) (hts _ lk_X1_addNeighbour_21) (fun _ h9 => h9) hn9 dX1_addNeighbour_28 ?_
      refine lv_iload hx hb dX1_addNeighbour_31 (lv_at hl 4 rfl) ?_
      obtain ⟨hO9, hw⟩ := hw
      have hFc := p_free hD hS hA
      refine va_callr (va_runV (As := [.int a4]) (rest := []) ⟨hx, hb, hml, hown, hts⟩ (c_Jx4a65c_get_915e3 l dC dI dA zz base L_21 f_21 H.size g_28 a4 _ hw) (cwV 1 hts gX1_addNeighbour_Jx4a65c_get_915e3 rfl rfl rfl (by decide +kernel) ⟨by decide, by decide⟩) (pPreV [.int a4] (ci := 0) rfl hO9 hK hP hD hS hB hz hN hT) rfl rfl hl.1 rfl (lv_room (Nat.le_of_ble_eq_true rfl)) dX1_addNeighbour_33 ⟨by decide, by decide⟩) hS (fun q _ h => hFc q h) hFc (fun u ra t H1 locs ht hvm hw hB1 hz1 hk1 hS => ?_)
      obtain ⟨r_33, L_33, f_33⟩ := u
      obtain ⟨hra, hP, -, hD1⟩ := hB1
      rw [show ra = r_33 from hra]
      rw [ht] at hP
      have hw := id hw
      have hP : va_P (dC, dI) vwCl (va_pl L_33 f_33) H1 := hP
      have hD : va_D A (va_pl L_33 f_33) := p_gain hD1 hFc
      generalize H1 = H at hP hS ⊢
      refine W.eq (g2 := F0 m 36 ls (.ref r_33 :: [])) rfl ?_
      refine va_castS (nm := RX3) hx hb hown (hts _ lk_X1_addNeighbour_51) (hK.1 4 _ rfl).2 (p_recv hK hP hw.1 rfl) dX1_addNeighbour_36 ?_
      have hw := hw.2
      refine lv_astore (lv' := [(5, .ref r_33), (0, .ref a0), (1, .ref a1), (2, .int a2), (3, .int a3), (4, .int a4)]) hx hb dX1_addNeighbour_39 hl (by decide) rfl (fun ls hl => ?_)
      refine lv_aload hx hb dX1_addNeighbour_41 (lv_at hl 0 rfl) ?_
      obtain ⟨fs_43, g_43, ⟨hL9, hf9, hn9⟩, hw⟩ := hw
      refine va_get (D := (dC, dI)) (ci := 4) (v := .int g_43) (C := RX3) (T := TX3) (N := 2) hx hb hts iw_X1_addNeighbour_RX3 hown hK (p_one hP hL9 hf9) 0 rfl rfl 1 (by decide) (hts _ lk_X1_addNeighbour_53) (fun _ h9 => h9) hn9 dX1_addNeighbour_43 ?_
      refine lv_iload_n hx hb dX1_addNeighbour_46 rfl (lv_at hl 3 rfl) ?_
      refine lv_icmp_ne (tgt := 67) hx hb dX1_addNeighbour_47 (by decide) (fun c_47 => ?_) (fun c_47 => ?_)
      · have hw := hw.1 c_47
        exact tb_X1_addNeighbour_67 C ih L_33 f_33 a0 a1 a2 a3 a4 hw H locs hP hD hS ls (lv_sub hl [1, 2, 3, 4, 5] rfl)
      · have hw := hw.2 c_47
        refine lv_aload hx hb dX1_addNeighbour_50 (lv_at hl 0 rfl) ?_
        obtain ⟨fs_52, g_52, ⟨hL9, hf9, hn9⟩, hw⟩ := hw
        refine va_get (D := (dC, dI)) (ci := 4) (v := .ref g_52) (C := RX3) (T := TX3) (N := 2) hx hb hts iw_X1_addNeighbour_RX3 hown hK (p_one hP hL9 hf9) 0 rfl rfl 0 (by decide) (hts _ lk_X1_addNeighbour_57) (fun _ h9 => h9) hn9 dX1_addNeighbour_52 ?_
        refine lv_aload_n hx hb dX1_addNeighbour_55 rfl (lv_at hl 2 rfl) ?_
        obtain ⟨hO9, hw⟩ := hw
        have hFc := p_free hD hS hA
        refine va_calli (va_runV (As := [.ref a1]) (rest := []) ⟨hx, hb, hml, hown, hts⟩ (c_X4_sameAs l dC dI dA zz base L_33 f_33 H.size g_52 a1 _ hw) (cwV 1 hts gX1_addNeighbour_X4_sameAs rfl rfl rfl (by decide +kernel) ⟨by decide, by decide⟩) (pPreV [.ref a1] (ci := 5) rfl hO9 hK hP hD hS hB hz hN hT) rfl rfl hl.1 rfl (lv_room (Nat.le_of_ble_eq_true rfl)) dX1_addNeighbour_56 ⟨by decide, by decide⟩) hS (fun q _ h => hFc q h) hFc (fun r_56 u t H1 locs ht hvm hw hB1 hz1 hk1 hS => ?_)
        obtain ⟨L_56, f_56⟩ := u
        obtain ⟨hP, -, hD1⟩ := hB1
        rw [ht] at hP
        have hw := id hw
        have hP : va_P (dC, dI) vwCl (va_pl L_56 f_56) H1 := hP
        have hD : va_D A (va_pl L_56 f_56) := p_gain hD1 hFc
        generalize H1 = H at hP hS ⊢
        refine lv_if_eq (tgt := 64) hx hb dX1_addNeighbour_59 (by decide) (fun c_59 => ?_) (fun c_59 => ?_)
        · have hw := hw.1 c_59
          obtain ⟨v3_64, ev3_64⟩ : ∃ y : Int32, y = a3 + (1 : Int32) := ⟨_, rfl⟩
          have hw := hw v3_64 ev3_64
          refine lv_iinc (v := v3_64) (lv' := [(3, .int v3_64), (5, .ref r_33), (0, .ref a0), (1, .ref a1), (2, .int a2), (4, .int a4)]) hx hb dX1_addNeighbour_64 hl (k := 4) rfl (by rw [ev3_64]; rfl) (by decide) rfl (fun ls hl => ?_)
          exact tb_X1_addNeighbour_67 C ih L_56 f_56 a0 a1 a2 v3_64 a4 hw H locs hP hD hS ls (lv_sub hl [2, 3, 4, 0, 5] rfl)
        · have hw := hw.2 c_59
          refine lv_iconst (v := -1) hx hb dX1_addNeighbour_62 (by decide) ?_
          refine W.widen (k := 4) (n := 1604) (by decide) (by decide) ?_
          exact W.iret (v := (-1 : Int32)) hx hb hr (fun t ht hW => ⟨⟨(-1 : Int32), (L_56, f_56), rfl, hw, by rw [ht]; exact hP, va_K.moved hW.alike hK, hD⟩, hS.F ht⟩) hS.2.2 dX1_addNeighbour_63
set_option maxHeartbeats 4000000 in
set_option maxRecDepth 100000 in
theorem tb_X1_addNeighbour_0 {p : Program} {l : Launch} {e : Env} {s : State} {m : MethodId} {below : List Frame} {meth : Method} {c : Code} {args : Array Value} {dC : Nat → ClassId} {dI : Nat → Nat → Nat} {dA : Nat → ClassId} {zz : Nat → Nat} {base : Nat} {A : Nat → Prop} {Q : Int32 → List Nat → pF → Prop} (C : pCx p s m args meth c cX1_addNeighbour 6 (some .int) RX1 wsX1_addNeighbour A dC dI dA zz base) : ∀ (L : List Nat) (f : pF) (a0 : Nat) (a1 : Nat) (a2 : Int32), wp_X1_addNeighbour_0 dA zz Q  L f a0 a1 a2 → pAt p l e rm_X1_addNeighbour s m args below meth c dC dI A (MQ below (va_Qi (fun r (u : List Nat × pF) => Q r u.1 u.2) (pB dC dI dA A) A) args s 4 1604 A) 0 0 0 6 [(0, .ref a0), (1, .ref a1), (2, .int a2)] [] L f := by
  obtain ⟨hx, hb, hml, hown, hts, hr, hlocks, hA, hK, hB, hz, hN, hT⟩ := id C
  intro L f a0 a1 a2 hw H locs hP hD hS ls hl
  rw [wp_X1_addNeighbour_0] at hw
  refine lv_aload_n hx hb dX1_addNeighbour_0 rfl (lv_at hl 1 rfl) ?_
  obtain ⟨hO9, hw⟩ := hw
  have hFc := p_free hD hS hA
  refine va_calli (va_runV (As := []) (rest := []) ⟨hx, hb, hml, hown, hts⟩ (c_X4_wordsOfTerm l dC dI dA zz base L f H.size a1  _ hw) (cwV 0 hts gX1_addNeighbour_X4_wordsOfTerm rfl rfl rfl (by decide +kernel) ⟨by decide, by decide⟩) (pPreV [] (ci := 5) rfl hO9 hK hP hD hS hB hz hN hT) rfl rfl hl.1 rfl (lv_room (Nat.le_of_ble_eq_true rfl)) dX1_addNeighbour_1 ⟨by decide, by decide⟩) hS (fun q _ h => hFc q h) hFc (fun r_1 u t H1 locs ht hvm hw hB1 hz1 hk1 hS => ?_)
  obtain ⟨L_1, f_1⟩ := u
  obtain ⟨hP, -, hD1⟩ := hB1
  rw [ht] at hP
  have hw := id hw
  have hP : va_P (dC, dI) vwCl (va_pl L_1 f_1) H1 := hP
  have hD : va_D A (va_pl L_1 f_1) := p_gain hD1 hFc
  generalize H1 = H at hP hS ⊢
  refine lv_iconst (v := 1) hx hb dX1_addNeighbour_4 (by decide) ?_
  refine lv_icmp_eq (tgt := 10) hx hb dX1_addNeighbour_5 (by decide) (fun c_5 => ?_) (fun c_5 => ?_)
  · have hw := hw.1 c_5
    refine lv_iconst (v := 0) hx hb dX1_addNeighbour_10 (by decide) ?_
    refine lv_istore_n (lv' := [(3, .int (0 : Int32)), (0, .ref a0), (1, .ref a1), (2, .int a2)]) hx hb dX1_addNeighbour_11 rfl hl (by decide) rfl (fun ls hl => ?_)
    refine lv_iconst (v := 0) hx hb dX1_addNeighbour_12 (by decide) ?_
    refine lv_istore (lv' := [(4, .int (0 : Int32)), (3, .int (0 : Int32)), (0, .ref a0), (1, .ref a1), (2, .int a2)]) hx hb dX1_addNeighbour_13 hl (by decide) rfl (fun ls hl => ?_)
    obtain ⟨n9, hw⟩ := hw
    exact tb_X1_addNeighbour_15 C  n9 L_1 f_1 a0 a1 a2 (0 : Int32) (0 : Int32) hw H locs hP hD hS ls (lv_sub hl [2, 3, 4, 1, 0] rfl)
  · have hw := hw.2 c_5
    refine lv_iconst (v := -1) hx hb dX1_addNeighbour_8 (by decide) ?_
    refine W.widen (k := 4) (n := 1604) (by decide) (by decide) ?_
    exact W.iret (v := (-1 : Int32)) hx hb hr (fun t ht hW => ⟨⟨(-1 : Int32), (L_1, f_1), rfl, hw, by rw [ht]; exact hP, va_K.moved hW.alike hK, hD⟩, hS.F ht⟩) hS.2.2 dX1_addNeighbour_9
set_option maxHeartbeats 4000000 in
set_option maxRecDepth 100000 in
theorem c_X1_addNeighbour (l : Launch) (dC : Nat → ClassId) (dI : Nat → Nat → Nat) (dA : Nat → ClassId) (zz : Nat → Nat) (base : Nat) (L : List Nat) (f : pF) (sz : Nat) (a0 : Nat) (a1 : Nat) (a2 : Int32) (Q : Int32 → List Nat → pF → Prop) (hw : wp_X1_addNeighbour_0 dA zz Q L f a0 a1 a2) : Met l yX1_addNeighbour wsX1_addNeighbour rm_X1_addNeighbour (va_Pc [.ref a0, .ref a1, .int a2] (pPre dC dI dA zz base L f sz)) (va_Qi (fun r (u : List Nat × pF) => Q r u.1 u.2) (pB dC dI dA (va_A (va_pl L f) sz)) (va_A (va_pl L f) sz)) 4 1604 (va_A (va_pl L f) sz) := by
  refine Met.ofW (cc := cX1_addNeighbour) (maxL := 6) (ret := (some .int)) (by decide) rfl ?_
  intro p e s m args below meth c s₁ B hml hv
  obtain ⟨rfl, hsz, hP, hK, hD0, hz, hN, hT⟩ := hv
  subst hsz
  have hl := lv_entry ([.ref a0, .ref a1, .int a2]) (n := 6) (Nat.le_of_ble_eq_true rfl)
  rw [lg_entry_eq]
  generalize (lg_sl ([.ref a0, .ref a1, .int a2]) ++ List.replicate (6 - (lg_sl ([.ref a0, .ref a1, .int a2])).length) Slot.unset).toArray = ls at hl ⊢
  exact tb_X1_addNeighbour_0 (Q := Q) (p := p) ⟨B.exec, B.bytes, hml, findClass_of_methodNamed B.named, atoms_spec (ws := wsX1_addNeighbour) B.pre, B.returns, B.notSynchronized, fun q h => Or.inr h, hK, pAB hD0 hz, hz, hN, hT⟩ L f a0 a1 a2 hw s.heap [] hP (hD0.self (sz := s.heap.size)) va_S.rf ls (lv_sub hl [0, 1, 2] rfl)
theorem iw_X1_thingsNear_RX1 : ∀ w ∈ u_ws RX1 TX1 3, w ∈ wsX1_thingsNear := by decide +kernel
theorem iw_X1_thingsNear_RX3 : ∀ w ∈ u_ws RX3 TX3 2, w ∈ wsX1_thingsNear := by decide +kernel
theorem lk_X1_thingsNear_51 : Cond.classLink RX1 51 RX3 ∈ wsX1_thingsNear := by decide +kernel
theorem lk_X1_thingsNear_21 : Cond.fieldLink RX1 21 "TermKeeper$Glossary" "neighbours" "Ljava/util/ArrayList;" ∈ wsX1_thingsNear := by decide +kernel
theorem lk_X1_thingsNear_53 : Cond.fieldLink RX1 53 "TermKeeper$Neighbour" "thing" "I" ∈ wsX1_thingsNear := by decide +kernel
theorem lk_X1_thingsNear_57 : Cond.fieldLink RX1 57 "TermKeeper$Neighbour" "word" "LTermKeeper$Row;" ∈ wsX1_thingsNear := by decide +kernel
abbrev rm_X1_thingsNear : Room := { frames := 3, cells := 0, slots := 0, locals := 69 }
def wp_X1_thingsNear_58 (dA : Nat → ClassId) (zz : Nat → Nat) (Q : Int64 → List Nat → pF → Prop) (k6_ : List Nat → pF → Nat → Nat → Int32 → Int32 → Int64 → Int32 → Prop) (L : List Nat) (f : pF) (a0 : Nat) (a1 : Nat) (a2 : Int32) (a3 : Int32) (a4 : Int64) (a6 : Int32) : Prop :=
    (∀ v6_58 : Int32, v6_58 = a6 + (1 : Int32) →
      (k6_ L f a0 a1 a2 a3 a4 v6_58))
def wp_X1_thingsNear_6 (dA : Nat → ClassId) (zz : Nat → Nat) (Q : Int64 → List Nat → pF → Prop) : Nat → List Nat → pF → Nat → Nat → Int32 → Int32 → Int64 → Int32 → Prop
  | 0, _, _, _, _, _, _, _, _ => False
  | n + 1, L, f, a0, a1, a2, a3, a4, a6 =>
    (gR L f 2 a0 2 (fun g_9 =>
      (isO L f 0 g_9 ∧
        (wp_Jx4a65c_size_8abf5_0 dA zz (fun r_12 L_12 f_12 =>
          ((r_12 ≤ a6 →
            (Q a4 L_12 f_12))
           ∧ (¬ r_12 ≤ a6 →
            (gR L_12 f_12 2 a0 2 (fun g_19 =>
              (isO L_12 f_12 0 g_19 ∧
                (wp_Jx4a65c_get_915e3_0 dA zz (fun r_24 L_24 f_24 =>
                  (isO L_24 f_24 4 r_24 ∧
                    (gR L_24 f_24 4 r_24 0 (fun g_36 =>
                      (isO L_24 f_24 5 a1 ∧
                        (wp_X4_endOfForm_0 dA zz (fun r_39 L_39 f_39 =>
                          ((¬ r_39 = a3 →
                            (wp_X1_thingsNear_58 dA zz Q (wp_X1_thingsNear_6 dA zz Q  n) L_39 f_39 a0 a1 a2 a3 a4 a6))
                           ∧ (r_39 = a3 →
                            (gI L_39 f_39 4 r_24 1 (fun g_51 =>
                              (∀ v4_56 : Int64, v4_56 = (a4 ||| ((1 : Int64) <<< (Int32.toInt64 g_51 &&& 63))) →
                                (wp_X1_thingsNear_58 dA zz Q (wp_X1_thingsNear_6 dA zz Q  n) L_39 f_39 a0 a1 a2 a3 v4_56 a6))))))) L_24 f_24 a1 a2 g_36)))))) L_12 f_12 g_19 a6))))))) L f g_9 ))))
def wp_X1_thingsNear_0 (dA : Nat → ClassId) (zz : Nat → Nat) (Q : Int64 → List Nat → pF → Prop) (L : List Nat) (f : pF) (a0 : Nat) (a1 : Nat) (a2 : Int32) (a3 : Int32) : Prop :=
    (∃ n9 : Nat, wp_X1_thingsNear_6 dA zz Q  n9 L f a0 a1 a2 a3 (0 : Int64) (0 : Int32))
set_option maxHeartbeats 4000000 in
set_option maxRecDepth 100000 in
theorem tb_X1_thingsNear_58 {p : Program} {l : Launch} {e : Env} {s : State} {m : MethodId} {below : List Frame} {meth : Method} {c : Code} {args : Array Value} {dC : Nat → ClassId} {dI : Nat → Nat → Nat} {dA : Nat → ClassId} {zz : Nat → Nat} {base : Nat} {A : Nat → Prop} {Q : Int64 → List Nat → pF → Prop} (C : pCx p s m args meth c cX1_thingsNear 8 (some .long) RX1 wsX1_thingsNear A dC dI dA zz base) {k6_ : List Nat → pF → Nat → Nat → Int32 → Int32 → Int64 → Int32 → Prop} (h6_ : ∀ (L : List Nat) (f : pF) (a0 : Nat) (a1 : Nat) (a2 : Int32) (a3 : Int32) (a4 : Int64) (a6 : Int32), k6_ L f a0 a1 a2 a3 a4 a6 → pAt p l e rm_X1_thingsNear s m args below meth c dC dI A (MQ below (va_Ql (fun r (u : List Nat × pF) => Q r u.1 u.2) (pB dC dI dA A) A) args s 0 0 A) 0 0 6 8 [(0, .ref a0), (1, .ref a1), (2, .int a2), (3, .int a3), (4, .long a4), (6, .int a6)] [] L f) : ∀ (L : List Nat) (f : pF) (a0 : Nat) (a1 : Nat) (a2 : Int32) (a3 : Int32) (a4 : Int64) (a6 : Int32), wp_X1_thingsNear_58 dA zz Q k6_ L f a0 a1 a2 a3 a4 a6 → pAt p l e rm_X1_thingsNear s m args below meth c dC dI A (MQ below (va_Ql (fun r (u : List Nat × pF) => Q r u.1 u.2) (pB dC dI dA A) A) args s 0 0 A) 0 0 58 8 [(0, .ref a0), (1, .ref a1), (2, .int a2), (3, .int a3), (4, .long a4), (6, .int a6)] [] L f := by
  obtain ⟨hx, hb, hml, hown, hts, hr, hlocks, hA, hK, hB, hz, hN, hT⟩ := id C
  intro L f a0 a1 a2 a3 a4 a6 hw H locs hP hD hS ls hl
  rw [wp_X1_thingsNear_58] at hw
  obtain ⟨v6_58, ev6_58⟩ : ∃ y : Int32, y = a6 + (1 : Int32) := ⟨_, rfl⟩
  have hw := hw v6_58 ev6_58
  refine lv_iinc (v := v6_58) (lv' := [(6, .int v6_58), (0, .ref a0), (1, .ref a1), (2, .int a2), (3, .int a3), (4, .long a4)]) hx hb dX1_thingsNear_58 hl (k := 5) rfl (by rw [ev6_58]; rfl) (by decide) rfl (fun ls hl => ?_)
  refine lv_goto (tgt := 6) hx hb dX1_thingsNear_61 (by decide) ?_
  exact h6_ L f a0 a1 a2 a3 a4 v6_58 hw H locs hP hD hS ls (lv_sub hl [1, 2, 3, 4, 5, 0] rfl)
set_option maxHeartbeats 4000000 in
set_option maxRecDepth 100000 in
theorem tb_X1_thingsNear_6 {p : Program} {l : Launch} {e : Env} {s : State} {m : MethodId} {below : List Frame} {meth : Method} {c : Code} {args : Array Value} {dC : Nat → ClassId} {dI : Nat → Nat → Nat} {dA : Nat → ClassId} {zz : Nat → Nat} {base : Nat} {A : Nat → Prop} {Q : Int64 → List Nat → pF → Prop} (C : pCx p s m args meth c cX1_thingsNear 8 (some .long) RX1 wsX1_thingsNear A dC dI dA zz base) : ∀ (n : Nat) (L : List Nat) (f : pF) (a0 : Nat) (a1 : Nat) (a2 : Int32) (a3 : Int32) (a4 : Int64) (a6 : Int32), wp_X1_thingsNear_6 dA zz Q  n L f a0 a1 a2 a3 a4 a6 → pAt p l e rm_X1_thingsNear s m args below meth c dC dI A (MQ below (va_Ql (fun r (u : List Nat × pF) => Q r u.1 u.2) (pB dC dI dA A) A) args s 0 0 A) 0 0 6 8 [(0, .ref a0), (1, .ref a1), (2, .int a2), (3, .int a3), (4, .long a4), (6, .int a6)] [] L f := by
  obtain ⟨hx, hb, hml, hown, hts, hr, hlocks, hA, hK, hB, hz, hN, hT⟩ := id C
  intro n
  induction n with
  | zero => intro L f a0 a1 a2 a3 a4 a6 hw; exact hw.elim
  | succ n ih =>
    intro L f a0 a1 a2 a3 a4 a6 hw H locs hP hD hS ls hl
    rw [wp_X1_thingsNear_6] at hw
    refine lv_iload hx hb dX1_thingsNear_6 (lv_at hl 5 rfl) ?_
    refine lv_aload_n hx hb dX1_thingsNear_8 rfl (lv_at hl 0 rfl) ?_
    obtain ⟨fs_9, g_9, ⟨hL9, hf9, hn9⟩, hw⟩ := hw
    refine va_get (D := (dC, dI)) (ci := 2) (v := .ref g_9) (C := RX1) (T := TX1) (N := 3) hx hb hts iw_X1_thingsNear_RX1 hown hK (p_one hP hL9 hf9) 0 rfl rfl 2 (by decide) (hts _ lk_X1_thingsNear_21) (fun _ h9 => h9) hn9 dX1_thingsNear_9 ?_
    obtain ⟨hO9, hw⟩ := hw
    have hFc := p_free hD hS hA
    refine va_calli (va_runV (As := []) (rest := [.int a6]) ⟨hx, hb, hml, hown, hts⟩ (c_Jx4a65c_size_8abf5 l dC dI dA zz base L f H.size g_9  _ hw) (cwV 0 hts gX1_thingsNear_Jx4a65c_size_8abf5 rfl rfl rfl (by decide +kernel) ⟨by decide, by decide⟩) (pPreV [] (ci := 0) rfl hO9 hK hP hD hS hB hz hN hT) rfl rfl hl.1 rfl (lv_room (Nat.le_of_ble_eq_true rfl)) dX1_thingsNear_12 ⟨by decide, by decide⟩) hS (fun q _ h => hFc q h) hFc (fun r_12 u t H1 locs ht hvm hw hB1 hz1 hk1 hS => ?_)
    obtain ⟨L_12, f_12⟩ := u
    obtain ⟨hP, -, hD1⟩ := hB1
    rw [ht] at hP
    have hw := id hw
    have hP : va_P (dC, dI) vwCl (va_pl L_12 f_12) H1 := hP
    have hD : va_D A (va_pl L_12 f_12) := p_gain hD1 hFc
    generalize H1 = H at hP hS ⊢
    refine lv_icmp_ge (tgt := 64) hx hb dX1_thingsNear_15 (by decide) (fun c_15 => ?_) (fun c_15 => ?_)
    · have hw := hw.1 c_15
      refine lv_lload hx hb dX1_thingsNear_64 (lv_at hl 4 rfl) ?_
      exact W.lret (v := a4) hx hb hr (fun t ht hW => ⟨⟨a4, (L_12, f_12), rfl, hw, by rw [ht]; exact hP, va_K.moved hW.alike hK, hD⟩, hS.F ht⟩) hS.2.2 dX1_thingsNear_66
    · have hw := hw.2 c_15
      refine lv_aload_n hx hb dX1_thingsNear_18 rfl (lv_at hl 0 rfl) ?_
      obtain ⟨fs_19, g_19, ⟨hL9, hf9, hn9⟩, hw⟩ := hw
      refine va_get (D := (dC, dI)) (ci := 2) (v := .ref g_19) (C := RX1) (T := TX1) (N := 3) hx hb hts iw_X1_thingsNear_RX1 hown hK (p_one hP hL9 hf9) 0 rfl rfl 2 (by decide) (hts _ lk_X1_thingsNear_21) (fun _ h9 => h9) hn9 dX1_thingsNear_19 ?_
      refine lv_iload hx hb dX1_thingsNear_22 (lv_at hl 5 rfl) ?_
      obtain ⟨hO9, hw⟩ := hw
      have hFc := p_free hD hS hA
      refine va_callr (va_runV (As := [.int a6]) (rest := []) ⟨hx, hb, hml, hown, hts⟩ (c_Jx4a65c_get_915e3 l dC dI dA zz base L_12 f_12 H.size g_19 a6 _ hw) (cwV 1 hts gX1_thingsNear_Jx4a65c_get_915e3 rfl rfl rfl (by decide +kernel) ⟨by decide, by decide⟩) (pPreV [.int a6] (ci := 0) rfl hO9 hK hP hD hS hB hz hN hT) rfl rfl hl.1 rfl (lv_room (Nat.le_of_ble_eq_true rfl)) dX1_thingsNear_24 ⟨by decide, by decide⟩) hS (fun q _ h => hFc q h) hFc (fun u ra t H1 locs ht hvm hw hB1 hz1 hk1 hS => ?_)
      obtain ⟨r_24, L_24, f_24⟩ := u
      obtain ⟨hra, hP, -, hD1⟩ := hB1
      rw [show ra = r_24 from hra]
      rw [ht] at hP
      have hw := id hw
      have hP : va_P (dC, dI) vwCl (va_pl L_24 f_24) H1 := hP
      have hD : va_D A (va_pl L_24 f_24) := p_gain hD1 hFc
      generalize H1 = H at hP hS ⊢
      refine W.eq (g2 := F0 m 27 ls (.ref r_24 :: [])) rfl ?_
      refine va_castS (nm := RX3) hx hb hown (hts _ lk_X1_thingsNear_51) (hK.1 4 _ rfl).2 (p_recv hK hP hw.1 rfl) dX1_thingsNear_27 ?_
      have hw := hw.2
      refine lv_astore (lv' := [(7, .ref r_24), (0, .ref a0), (1, .ref a1), (2, .int a2), (3, .int a3), (4, .long a4), (6, .int a6)]) hx hb dX1_thingsNear_30 hl (by decide) rfl (fun ls hl => ?_)
      refine lv_aload_n hx hb dX1_thingsNear_32 rfl (lv_at hl 2 rfl) ?_
      refine lv_iload_n hx hb dX1_thingsNear_33 rfl (lv_at hl 3 rfl) ?_
      refine lv_aload hx hb dX1_thingsNear_34 (lv_at hl 0 rfl) ?_
      obtain ⟨fs_36, g_36, ⟨hL9, hf9, hn9⟩, hw⟩ := hw
      refine va_get (D := (dC, dI)) (ci := 4) (v := .ref g_36) (C := RX3) (T := TX3) (N := 2) hx hb hts iw_X1_thingsNear_RX3 hown hK (p_one hP hL9 hf9) 0 rfl rfl 0 (by decide) (hts _ lk_X1_thingsNear_57) (fun _ h9 => h9) hn9 dX1_thingsNear_36 ?_
      obtain ⟨hO9, hw⟩ := hw
      have hFc := p_free hD hS hA
      refine va_calli (va_runV (As := [.int a2, .ref g_36]) (rest := []) ⟨hx, hb, hml, hown, hts⟩ (c_X4_endOfForm l dC dI dA zz base L_24 f_24 H.size a1 a2 g_36 _ hw) (cwV 2 hts gX1_thingsNear_X4_endOfForm rfl rfl rfl (by decide +kernel) ⟨by decide, by decide⟩) (pPreV [.int a2, .ref g_36] (ci := 5) rfl hO9 hK hP hD hS hB hz hN hT) rfl rfl hl.1 rfl (lv_room (Nat.le_of_ble_eq_true rfl)) dX1_thingsNear_39 ⟨by decide, by decide⟩) hS (fun q _ h => hFc q h) hFc (fun r_39 u t H1 locs ht hvm hw hB1 hz1 hk1 hS => ?_)
      obtain ⟨L_39, f_39⟩ := u
      obtain ⟨hP, -, hD1⟩ := hB1
      rw [ht] at hP
      have hw := id hw
      have hP : va_P (dC, dI) vwCl (va_pl L_39 f_39) H1 := hP
      have hD : va_D A (va_pl L_39 f_39) := p_gain hD1 hFc
      generalize H1 = H at hP hS ⊢
      refine lv_iload_n hx hb dX1_thingsNear_42 rfl (lv_at hl 4 rfl) ?_
      refine lv_icmp_ne (tgt := 58) hx hb dX1_thingsNear_43 (by decide) (fun c_43 => ?_) (fun c_43 => ?_)
      · have hw := hw.1 c_43
        exact tb_X1_thingsNear_58 C ih L_39 f_39 a0 a1 a2 a3 a4 a6 hw H locs hP hD hS ls (lv_sub hl [1, 2, 3, 4, 5, 6] rfl)
      · have hw := hw.2 c_43
        refine lv_lload hx hb dX1_thingsNear_46 (lv_at hl 5 rfl) ?_
        refine lv_lconst (v := 1) hx hb dX1_thingsNear_48 (by decide) ?_
        refine lv_aload hx hb dX1_thingsNear_49 (lv_at hl 0 rfl) ?_
        obtain ⟨fs_51, g_51, ⟨hL9, hf9, hn9⟩, hw⟩ := hw
        refine va_get (D := (dC, dI)) (ci := 4) (v := .int g_51) (C := RX3) (T := TX3) (N := 2) hx hb hts iw_X1_thingsNear_RX3 hown hK (p_one hP hL9 hf9) 0 rfl rfl 1 (by decide) (hts _ lk_X1_thingsNear_53) (fun _ h9 => h9) hn9 dX1_thingsNear_51 ?_
        refine lv_lshl hx hb dX1_thingsNear_54 rfl ?_
        refine lv_lor hx hb dX1_thingsNear_55 ?_
        refine lv_topl (fun v4_56 ev4_56 => ?_)
        have hw := hw v4_56 ev4_56
        refine lv_lstore (lv' := [(4, .long v4_56), (7, .ref r_24), (0, .ref a0), (1, .ref a1), (2, .int a2), (3, .int a3), (6, .int a6)]) hx hb dX1_thingsNear_56 hl (by decide) rfl (fun ls hl => ?_)
        exact tb_X1_thingsNear_58 C ih L_39 f_39 a0 a1 a2 a3 v4_56 a6 hw H locs hP hD hS ls (lv_sub hl [2, 3, 4, 5, 0, 6] rfl)
set_option maxHeartbeats 4000000 in
set_option maxRecDepth 100000 in
theorem tb_X1_thingsNear_0 {p : Program} {l : Launch} {e : Env} {s : State} {m : MethodId} {below : List Frame} {meth : Method} {c : Code} {args : Array Value} {dC : Nat → ClassId} {dI : Nat → Nat → Nat} {dA : Nat → ClassId} {zz : Nat → Nat} {base : Nat} {A : Nat → Prop} {Q : Int64 → List Nat → pF → Prop} (C : pCx p s m args meth c cX1_thingsNear 8 (some .long) RX1 wsX1_thingsNear A dC dI dA zz base) : ∀ (L : List Nat) (f : pF) (a0 : Nat) (a1 : Nat) (a2 : Int32) (a3 : Int32), wp_X1_thingsNear_0 dA zz Q  L f a0 a1 a2 a3 → pAt p l e rm_X1_thingsNear s m args below meth c dC dI A (MQ below (va_Ql (fun r (u : List Nat × pF) => Q r u.1 u.2) (pB dC dI dA A) A) args s 0 0 A) 0 0 0 8 [(0, .ref a0), (1, .ref a1), (2, .int a2), (3, .int a3)] [] L f := by
  obtain ⟨hx, hb, hml, hown, hts, hr, hlocks, hA, hK, hB, hz, hN, hT⟩ := id C
  intro L f a0 a1 a2 a3 hw H locs hP hD hS ls hl
  rw [wp_X1_thingsNear_0] at hw
  refine lv_lconst (v := 0) hx hb dX1_thingsNear_0 (by decide) ?_
  refine lv_lstore (lv' := [(4, .long (0 : Int64)), (0, .ref a0), (1, .ref a1), (2, .int a2), (3, .int a3)]) hx hb dX1_thingsNear_1 hl (by decide) rfl (fun ls hl => ?_)
  refine lv_iconst (v := 0) hx hb dX1_thingsNear_3 (by decide) ?_
  refine lv_istore (lv' := [(6, .int (0 : Int32)), (4, .long (0 : Int64)), (0, .ref a0), (1, .ref a1), (2, .int a2), (3, .int a3)]) hx hb dX1_thingsNear_4 hl (by decide) rfl (fun ls hl => ?_)
  obtain ⟨n9, hw⟩ := hw
  exact tb_X1_thingsNear_6 C  n9 L f a0 a1 a2 a3 (0 : Int64) (0 : Int32) hw H locs hP hD hS ls (lv_sub hl [2, 3, 4, 5, 1, 0] rfl)
set_option maxHeartbeats 4000000 in
set_option maxRecDepth 100000 in
theorem c_X1_thingsNear (l : Launch) (dC : Nat → ClassId) (dI : Nat → Nat → Nat) (dA : Nat → ClassId) (zz : Nat → Nat) (base : Nat) (L : List Nat) (f : pF) (sz : Nat) (a0 : Nat) (a1 : Nat) (a2 : Int32) (a3 : Int32) (Q : Int64 → List Nat → pF → Prop) (hw : wp_X1_thingsNear_0 dA zz Q L f a0 a1 a2 a3) : Met l yX1_thingsNear wsX1_thingsNear rm_X1_thingsNear (va_Pc [.ref a0, .ref a1, .int a2, .int a3] (pPre dC dI dA zz base L f sz)) (va_Ql (fun r (u : List Nat × pF) => Q r u.1 u.2) (pB dC dI dA (va_A (va_pl L f) sz)) (va_A (va_pl L f) sz)) 0 0 (va_A (va_pl L f) sz) := by
  refine Met.ofW (cc := cX1_thingsNear) (maxL := 8) (ret := (some .long)) (by decide) rfl ?_
  intro p e s m args below meth c s₁ B hml hv
  obtain ⟨rfl, hsz, hP, hK, hD0, hz, hN, hT⟩ := hv
  subst hsz
  have hl := lv_entry ([.ref a0, .ref a1, .int a2, .int a3]) (n := 8) (Nat.le_of_ble_eq_true rfl)
  rw [lg_entry_eq]
  generalize (lg_sl ([.ref a0, .ref a1, .int a2, .int a3]) ++ List.replicate (8 - (lg_sl ([.ref a0, .ref a1, .int a2, .int a3])).length) Slot.unset).toArray = ls at hl ⊢
  exact tb_X1_thingsNear_0 (Q := Q) (p := p) ⟨B.exec, B.bytes, hml, findClass_of_methodNamed B.named, atoms_spec (ws := wsX1_thingsNear) B.pre, B.returns, B.notSynchronized, fun q h => Or.inr h, hK, pAB hD0 hz, hz, hN, hT⟩ L f a0 a1 a2 a3 hw s.heap [] hP (hD0.self (sz := s.heap.size)) va_S.rf ls (lv_sub hl [0, 1, 2, 3] rfl)
theorem iw_X1_thingsOf_RX1 : ∀ w ∈ u_ws RX1 TX1 3, w ∈ wsX1_thingsOf := by decide +kernel
theorem iw_X1_thingsOf_RX5 : ∀ w ∈ u_ws RX5 TX5 5, w ∈ wsX1_thingsOf := by decide +kernel
theorem lk_X1_thingsOf_32 : Cond.classLink RX1 32 "TermKeeper$Term" ∈ wsX1_thingsOf := by decide +kernel
theorem lk_X1_thingsOf_18 : Cond.fieldLink RX1 18 "TermKeeper$Glossary" "terms" "Ljava/util/ArrayList;" ∈ wsX1_thingsOf := by decide +kernel
theorem lk_X1_thingsOf_72 : Cond.fieldLink RX1 72 "TermKeeper$Term" "thing" "I" ∈ wsX1_thingsOf := by decide +kernel
abbrev rm_X1_thingsOf : Room := { frames := 3, cells := 0, slots := 0, locals := 64 }
def wp_X1_thingsOf_48 (dA : Nat → ClassId) (zz : Nat → Nat) (Q : Int64 → List Nat → pF → Prop) (k5_ : List Nat → pF → Nat → Int64 → Int64 → Int32 → Prop) (L : List Nat) (f : pF) (a0 : Nat) (a1 : Int64) (a3 : Int64) (a5 : Int32) : Prop :=
    (∀ v5_48 : Int32, v5_48 = a5 + (1 : Int32) →
      (k5_ L f a0 a1 a3 v5_48))
def wp_X1_thingsOf_5 (dA : Nat → ClassId) (zz : Nat → Nat) (Q : Int64 → List Nat → pF → Prop) : Nat → List Nat → pF → Nat → Int64 → Int64 → Int32 → Prop
  | 0, _, _, _, _, _, _ => False
  | n + 1, L, f, a0, a1, a3, a5 =>
    (gR L f 2 a0 1 (fun g_8 =>
      (isO L f 0 g_8 ∧
        (wp_Jx4a65c_size_8abf5_0 dA zz (fun r_11 L_11 f_11 =>
          ((r_11 ≤ a5 →
            (Q a3 L_11 f_11))
           ∧ (¬ r_11 ≤ a5 →
            (((lg_cmp ((a1 >>> (Int32.toInt64 a5 &&& 63)) &&& (1 : Int64)) (0 : Int64)) = 0 →
              (wp_X1_thingsOf_48 dA zz Q (wp_X1_thingsOf_5 dA zz Q  n) L_11 f_11 a0 a1 a3 a5))
             ∧ (¬ (lg_cmp ((a1 >>> (Int32.toInt64 a5 &&& 63)) &&& (1 : Int64)) (0 : Int64)) = 0 →
              (gR L_11 f_11 2 a0 1 (fun g_31 =>
                (isO L_11 f_11 0 g_31 ∧
                  (wp_Jx4a65c_get_915e3_0 dA zz (fun r_36 L_36 f_36 =>
                    (isO L_36 f_36 6 r_36 ∧
                      (gI L_36 f_36 6 r_36 2 (fun g_42 =>
                        (∀ v3_47 : Int64, v3_47 = (a3 ||| ((1 : Int64) <<< (Int32.toInt64 g_42 &&& 63))) →
                          (wp_X1_thingsOf_48 dA zz Q (wp_X1_thingsOf_5 dA zz Q  n) L_36 f_36 a0 a1 v3_47 a5)))))) L_11 f_11 g_31 a5))))))))) L f g_8 ))))
def wp_X1_thingsOf_0 (dA : Nat → ClassId) (zz : Nat → Nat) (Q : Int64 → List Nat → pF → Prop) (L : List Nat) (f : pF) (a0 : Nat) (a1 : Int64) : Prop :=
    (∃ n9 : Nat, wp_X1_thingsOf_5 dA zz Q  n9 L f a0 a1 (0 : Int64) (0 : Int32))
set_option maxHeartbeats 4000000 in
set_option maxRecDepth 100000 in
theorem tb_X1_thingsOf_48 {p : Program} {l : Launch} {e : Env} {s : State} {m : MethodId} {below : List Frame} {meth : Method} {c : Code} {args : Array Value} {dC : Nat → ClassId} {dI : Nat → Nat → Nat} {dA : Nat → ClassId} {zz : Nat → Nat} {base : Nat} {A : Nat → Prop} {Q : Int64 → List Nat → pF → Prop} (C : pCx p s m args meth c cX1_thingsOf 6 (some .long) RX1 wsX1_thingsOf A dC dI dA zz base) {k5_ : List Nat → pF → Nat → Int64 → Int64 → Int32 → Prop} (h5_ : ∀ (L : List Nat) (f : pF) (a0 : Nat) (a1 : Int64) (a3 : Int64) (a5 : Int32), k5_ L f a0 a1 a3 a5 → pAt p l e rm_X1_thingsOf s m args below meth c dC dI A (MQ below (va_Ql (fun r (u : List Nat × pF) => Q r u.1 u.2) (pB dC dI dA A) A) args s 0 0 A) 0 0 5 6 [(0, .ref a0), (1, .long a1), (3, .long a3), (5, .int a5)] [] L f) : ∀ (L : List Nat) (f : pF) (a0 : Nat) (a1 : Int64) (a3 : Int64) (a5 : Int32), wp_X1_thingsOf_48 dA zz Q k5_ L f a0 a1 a3 a5 → pAt p l e rm_X1_thingsOf s m args below meth c dC dI A (MQ below (va_Ql (fun r (u : List Nat × pF) => Q r u.1 u.2) (pB dC dI dA A) A) args s 0 0 A) 0 0 48 6 [(0, .ref a0), (1, .long a1), (3, .long a3), (5, .int a5)] [] L f := by
  obtain ⟨hx, hb, hml, hown, hts, hr, hlocks, hA, hK, hB, hz, hN, hT⟩ := id C
  intro L f a0 a1 a3 a5 hw H locs hP hD hS ls hl
  rw [wp_X1_thingsOf_48] at hw
  obtain ⟨v5_48, ev5_48⟩ : ∃ y : Int32, y = a5 + (1 : Int32) := ⟨_, rfl⟩
  have hw := hw v5_48 ev5_48
  refine lv_iinc (v := v5_48) (lv' := [(5, .int v5_48), (0, .ref a0), (1, .long a1), (3, .long a3)]) hx hb dX1_thingsOf_48 hl (k := 3) rfl (by rw [ev5_48]; rfl) (by decide) rfl (fun ls hl => ?_)
  refine lv_goto (tgt := 5) hx hb dX1_thingsOf_51 (by decide) ?_
  exact h5_ L f a0 a1 a3 v5_48 hw H locs hP hD hS ls (lv_sub hl [1, 2, 3, 0] rfl)
set_option maxHeartbeats 4000000 in
set_option maxRecDepth 100000 in
theorem tb_X1_thingsOf_5 {p : Program} {l : Launch} {e : Env} {s : State} {m : MethodId} {below : List Frame} {meth : Method} {c : Code} {args : Array Value} {dC : Nat → ClassId} {dI : Nat → Nat → Nat} {dA : Nat → ClassId} {zz : Nat → Nat} {base : Nat} {A : Nat → Prop} {Q : Int64 → List Nat → pF → Prop} (C : pCx p s m args meth c cX1_thingsOf 6 (some .long) RX1 wsX1_thingsOf A dC dI dA zz base) : ∀ (n : Nat) (L : List Nat) (f : pF) (a0 : Nat) (a1 : Int64) (a3 : Int64) (a5 : Int32), wp_X1_thingsOf_5 dA zz Q  n L f a0 a1 a3 a5 → pAt p l e rm_X1_thingsOf s m args below meth c dC dI A (MQ below (va_Ql (fun r (u : List Nat × pF) => Q r u.1 u.2) (pB dC dI dA A) A) args s 0 0 A) 0 0 5 6 [(0, .ref a0), (1, .long a1), (3, .long a3), (5, .int a5)] [] L f := by
  obtain ⟨hx, hb, hml, hown, hts, hr, hlocks, hA, hK, hB, hz, hN, hT⟩ := id C
  intro n
  induction n with
  | zero => intro L f a0 a1 a3 a5 hw; exact hw.elim
  | succ n ih =>
    intro L f a0 a1 a3 a5 hw H locs hP hD hS ls hl
    rw [wp_X1_thingsOf_5] at hw
    refine lv_iload hx hb dX1_thingsOf_5 (lv_at hl 3 rfl) ?_
    refine lv_aload_n hx hb dX1_thingsOf_7 rfl (lv_at hl 0 rfl) ?_
    obtain ⟨fs_8, g_8, ⟨hL9, hf9, hn9⟩, hw⟩ := hw
    refine va_get (D := (dC, dI)) (ci := 2) (v := .ref g_8) (C := RX1) (T := TX1) (N := 3) hx hb hts iw_X1_thingsOf_RX1 hown hK (p_one hP hL9 hf9) 0 rfl rfl 1 (by decide) (hts _ lk_X1_thingsOf_18) (fun _ h9 => h9) hn9 dX1_thingsOf_8 ?_
    obtain ⟨hO9, hw⟩ := hw
    have hFc := p_free hD hS hA
    refine va_calli (va_runV (As := []) (rest := [.int a5]) ⟨hx, hb, hml, hown, hts⟩ (c_Jx4a65c_size_8abf5 l dC dI dA zz base L f H.size g_8  _ hw) (cwV 0 hts gX1_thingsOf_Jx4a65c_size_8abf5 rfl rfl rfl (by decide +kernel) ⟨by decide, by decide⟩) (pPreV [] (ci := 0) rfl hO9 hK hP hD hS hB hz hN hT) rfl rfl hl.1 rfl (lv_room (Nat.le_of_ble_eq_true rfl)) dX1_thingsOf_11 ⟨by decide, by decide⟩) hS (fun q _ h => hFc q h) hFc (fun r_11 u t H1 locs ht hvm hw hB1 hz1 hk1 hS => ?_)
    obtain ⟨L_11, f_11⟩ := u
    obtain ⟨hP, -, hD1⟩ := hB1
    rw [ht] at hP
    have hw := id hw
    have hP : va_P (dC, dI) vwCl (va_pl L_11 f_11) H1 := hP
    have hD : va_D A (va_pl L_11 f_11) := p_gain hD1 hFc
    generalize H1 = H at hP hS ⊢
    refine lv_icmp_ge (tgt := 54) hx hb dX1_thingsOf_14 (by decide) (fun c_14 => ?_) (fun c_14 => ?_)
    · have hw := hw.1 c_14
      refine lv_lload_n hx hb dX1_thingsOf_54 rfl (lv_at hl 2 rfl) ?_
      exact W.lret (v := a3) hx hb hr (fun t ht hW => ⟨⟨a3, (L_11, f_11), rfl, hw, by rw [ht]; exact hP, va_K.moved hW.alike hK, hD⟩, hS.F ht⟩) hS.2.2 dX1_thingsOf_55
    · have hw := hw.2 c_14
      refine lv_lload_n hx hb dX1_thingsOf_17 rfl (lv_at hl 1 rfl) ?_
      refine lv_iload hx hb dX1_thingsOf_18 (lv_at hl 3 rfl) ?_
      refine lv_lshr hx hb dX1_thingsOf_20 rfl ?_
      refine lv_lconst (v := 1) hx hb dX1_thingsOf_21 (by decide) ?_
      refine lv_land hx hb dX1_thingsOf_22 ?_
      refine lv_lconst (v := 0) hx hb dX1_thingsOf_23 (by decide) ?_
      refine W.lcmp hx hb dX1_thingsOf_24 ?_
      refine lv_if_eq (tgt := 48) hx hb dX1_thingsOf_25 (by decide) (fun c_25 => ?_) (fun c_25 => ?_)
      · have hw := hw.1 c_25
        exact tb_X1_thingsOf_48 C ih L_11 f_11 a0 a1 a3 a5 hw H locs hP hD hS ls (lv_sub hl [0, 1, 2, 3] rfl)
      · have hw := hw.2 c_25
        refine lv_lload_n hx hb dX1_thingsOf_28 rfl (lv_at hl 2 rfl) ?_
        refine lv_lconst (v := 1) hx hb dX1_thingsOf_29 (by decide) ?_
        refine lv_aload_n hx hb dX1_thingsOf_30 rfl (lv_at hl 0 rfl) ?_
        obtain ⟨fs_31, g_31, ⟨hL9, hf9, hn9⟩, hw⟩ := hw
        refine va_get (D := (dC, dI)) (ci := 2) (v := .ref g_31) (C := RX1) (T := TX1) (N := 3) hx hb hts iw_X1_thingsOf_RX1 hown hK (p_one hP hL9 hf9) 0 rfl rfl 1 (by decide) (hts _ lk_X1_thingsOf_18) (fun _ h9 => h9) hn9 dX1_thingsOf_31 ?_
        refine lv_iload hx hb dX1_thingsOf_34 (lv_at hl 3 rfl) ?_
        obtain ⟨hO9, hw⟩ := hw
        have hFc := p_free hD hS hA
        refine va_callr (va_runV (As := [.int a5]) (rest := [.long (1 : Int64), .long a3]) ⟨hx, hb, hml, hown, hts⟩ (c_Jx4a65c_get_915e3 l dC dI dA zz base L_11 f_11 H.size g_31 a5 _ hw) (cwV 1 hts gX1_thingsOf_Jx4a65c_get_915e3 rfl rfl rfl (by decide +kernel) ⟨by decide, by decide⟩) (pPreV [.int a5] (ci := 0) rfl hO9 hK hP hD hS hB hz hN hT) rfl rfl hl.1 rfl (lv_room (Nat.le_of_ble_eq_true rfl)) dX1_thingsOf_36 ⟨by decide, by decide⟩) hS (fun q _ h => hFc q h) hFc (fun u ra t H1 locs ht hvm hw hB1 hz1 hk1 hS => ?_)
        obtain ⟨r_36, L_36, f_36⟩ := u
        obtain ⟨hra, hP, -, hD1⟩ := hB1
        rw [show ra = r_36 from hra]
        rw [ht] at hP
        have hw := id hw
        have hP : va_P (dC, dI) vwCl (va_pl L_36 f_36) H1 := hP
        have hD : va_D A (va_pl L_36 f_36) := p_gain hD1 hFc
        generalize H1 = H at hP hS ⊢
        refine W.eq (g2 := F0 m 39 ls (.ref r_36 :: [.long (1 : Int64), .long a3])) rfl ?_
        refine va_castS (nm := RX5) hx hb hown (hts _ lk_X1_thingsOf_32) (hK.1 6 _ rfl).2 (p_recv hK hP hw.1 rfl) dX1_thingsOf_39 ?_
        have hw := hw.2
        obtain ⟨fs_42, g_42, ⟨hL9, hf9, hn9⟩, hw⟩ := hw
        refine va_get (D := (dC, dI)) (ci := 6) (v := .int g_42) (C := RX5) (T := TX5) (N := 5) hx hb hts iw_X1_thingsOf_RX5 hown hK (p_one hP hL9 hf9) 0 rfl rfl 2 (by decide) (hts _ lk_X1_thingsOf_72) (fun _ h9 => h9) hn9 dX1_thingsOf_42 ?_
        refine lv_lshl hx hb dX1_thingsOf_45 rfl ?_
        refine lv_lor hx hb dX1_thingsOf_46 ?_
        refine lv_topl (fun v3_47 ev3_47 => ?_)
        have hw := hw v3_47 ev3_47
        refine lv_lstore_n (lv' := [(3, .long v3_47), (0, .ref a0), (1, .long a1), (5, .int a5)]) hx hb dX1_thingsOf_47 rfl hl (by decide) rfl (fun ls hl => ?_)
        exact tb_X1_thingsOf_48 C ih L_36 f_36 a0 a1 v3_47 a5 hw H locs hP hD hS ls (lv_sub hl [1, 2, 0, 3] rfl)
set_option maxHeartbeats 4000000 in
set_option maxRecDepth 100000 in
theorem tb_X1_thingsOf_0 {p : Program} {l : Launch} {e : Env} {s : State} {m : MethodId} {below : List Frame} {meth : Method} {c : Code} {args : Array Value} {dC : Nat → ClassId} {dI : Nat → Nat → Nat} {dA : Nat → ClassId} {zz : Nat → Nat} {base : Nat} {A : Nat → Prop} {Q : Int64 → List Nat → pF → Prop} (C : pCx p s m args meth c cX1_thingsOf 6 (some .long) RX1 wsX1_thingsOf A dC dI dA zz base) : ∀ (L : List Nat) (f : pF) (a0 : Nat) (a1 : Int64), wp_X1_thingsOf_0 dA zz Q  L f a0 a1 → pAt p l e rm_X1_thingsOf s m args below meth c dC dI A (MQ below (va_Ql (fun r (u : List Nat × pF) => Q r u.1 u.2) (pB dC dI dA A) A) args s 0 0 A) 0 0 0 6 [(0, .ref a0), (1, .long a1)] [] L f := by
  obtain ⟨hx, hb, hml, hown, hts, hr, hlocks, hA, hK, hB, hz, hN, hT⟩ := id C
  intro L f a0 a1 hw H locs hP hD hS ls hl
  rw [wp_X1_thingsOf_0] at hw
  refine lv_lconst (v := 0) hx hb dX1_thingsOf_0 (by decide) ?_
  refine lv_lstore_n (lv' := [(3, .long (0 : Int64)), (0, .ref a0), (1, .long a1)]) hx hb dX1_thingsOf_1 rfl hl (by decide) rfl (fun ls hl => ?_)
  refine lv_iconst (v := 0) hx hb dX1_thingsOf_2 (by decide) ?_
  refine lv_istore (lv' := [(5, .int (0 : Int32)), (3, .long (0 : Int64)), (0, .ref a0), (1, .long a1)]) hx hb dX1_thingsOf_3 hl (by decide) rfl (fun ls hl => ?_)
  obtain ⟨n9, hw⟩ := hw
  exact tb_X1_thingsOf_5 C  n9 L f a0 a1 (0 : Int64) (0 : Int32) hw H locs hP hD hS ls (lv_sub hl [2, 3, 1, 0] rfl)
set_option maxHeartbeats 4000000 in
set_option maxRecDepth 100000 in
theorem c_X1_thingsOf (l : Launch) (dC : Nat → ClassId) (dI : Nat → Nat → Nat) (dA : Nat → ClassId) (zz : Nat → Nat) (base : Nat) (L : List Nat) (f : pF) (sz : Nat) (a0 : Nat) (a1 : Int64) (Q : Int64 → List Nat → pF → Prop) (hw : wp_X1_thingsOf_0 dA zz Q L f a0 a1) : Met l yX1_thingsOf wsX1_thingsOf rm_X1_thingsOf (va_Pc [.ref a0, .long a1] (pPre dC dI dA zz base L f sz)) (va_Ql (fun r (u : List Nat × pF) => Q r u.1 u.2) (pB dC dI dA (va_A (va_pl L f) sz)) (va_A (va_pl L f) sz)) 0 0 (va_A (va_pl L f) sz) := by
  refine Met.ofW (cc := cX1_thingsOf) (maxL := 6) (ret := (some .long)) (by decide) rfl ?_
  intro p e s m args below meth c s₁ B hml hv
  obtain ⟨rfl, hsz, hP, hK, hD0, hz, hN, hT⟩ := hv
  subst hsz
  have hl := lv_entry ([.ref a0, .long a1]) (n := 6) (Nat.le_of_ble_eq_true rfl)
  rw [lg_entry_eq]
  generalize (lg_sl ([.ref a0, .long a1]) ++ List.replicate (6 - (lg_sl ([.ref a0, .long a1])).length) Slot.unset).toArray = ls at hl ⊢
  exact tb_X1_thingsOf_0 (Q := Q) (p := p) ⟨B.exec, B.bytes, hml, findClass_of_methodNamed B.named, atoms_spec (ws := wsX1_thingsOf) B.pre, B.returns, B.notSynchronized, fun q h => Or.inr h, hK, pAB hD0 hz, hz, hN, hT⟩ L f a0 a1 hw s.heap [] hP (hD0.self (sz := s.heap.size)) va_S.rf ls (lv_sub hl [0, 1] rfl)
theorem iw_X1_goodTermOf_RX1 : ∀ w ∈ u_ws RX1 TX1 3, w ∈ wsX1_goodTermOf := by decide +kernel
theorem iw_X1_goodTermOf_RX5 : ∀ w ∈ u_ws RX5 TX5 5, w ∈ wsX1_goodTermOf := by decide +kernel
theorem lk_X1_goodTermOf_32 : Cond.classLink RX1 32 "TermKeeper$Term" ∈ wsX1_goodTermOf := by decide +kernel
theorem lk_X1_goodTermOf_18 : Cond.fieldLink RX1 18 "TermKeeper$Glossary" "terms" "Ljava/util/ArrayList;" ∈ wsX1_goodTermOf := by decide +kernel
theorem lk_X1_goodTermOf_72 : Cond.fieldLink RX1 72 "TermKeeper$Term" "thing" "I" ∈ wsX1_goodTermOf := by decide +kernel
theorem lk_X1_goodTermOf_73 : Cond.fieldLink RX1 73 "TermKeeper$Term" "kind" "I" ∈ wsX1_goodTermOf := by decide +kernel
abbrev rm_X1_goodTermOf : Room := { frames := 3, cells := 0, slots := 0, locals := 64 }
def wp_X1_goodTermOf_42 (dA : Nat → ClassId) (zz : Nat → Nat) (Q : Int32 → List Nat → pF → Prop) (k2_ : List Nat → pF → Nat → Int32 → Int32 → Prop) (L : List Nat) (f : pF) (a0 : Nat) (a1 : Int32) (a2 : Int32) : Prop :=
    (∀ v2_42 : Int32, v2_42 = a2 + (1 : Int32) →
      (k2_ L f a0 a1 v2_42))
def wp_X1_goodTermOf_2 (dA : Nat → ClassId) (zz : Nat → Nat) (Q : Int32 → List Nat → pF → Prop) : Nat → List Nat → pF → Nat → Int32 → Int32 → Prop
  | 0, _, _, _, _, _ => False
  | n + 1, L, f, a0, a1, a2 =>
    (gR L f 2 a0 1 (fun g_4 =>
      (isO L f 0 g_4 ∧
        (wp_Jx4a65c_size_8abf5_0 dA zz (fun r_7 L_7 f_7 =>
          ((r_7 ≤ a2 →
            (Q (-1 : Int32) L_7 f_7))
           ∧ (¬ r_7 ≤ a2 →
            (gR L_7 f_7 2 a0 1 (fun g_14 =>
              (isO L_7 f_7 0 g_14 ∧
                (wp_Jx4a65c_get_915e3_0 dA zz (fun r_18 L_18 f_18 =>
                  (isO L_18 f_18 6 r_18 ∧
                    (gI L_18 f_18 6 r_18 2 (fun g_26 =>
                      ((¬ g_26 = a1 →
                        (wp_X1_goodTermOf_42 dA zz Q (wp_X1_goodTermOf_2 dA zz Q  n) L_18 f_18 a0 a1 a2))
                       ∧ (g_26 = a1 →
                        (gI L_18 f_18 6 r_18 4 (fun g_34 =>
                          ((¬ g_34 = 0 →
                            (wp_X1_goodTermOf_42 dA zz Q (wp_X1_goodTermOf_2 dA zz Q  n) L_18 f_18 a0 a1 a2))
                           ∧ (g_34 = 0 →
                            (Q a2 L_18 f_18))))))))))) L_7 f_7 g_14 a2))))))) L f g_4 ))))
def wp_X1_goodTermOf_0 (dA : Nat → ClassId) (zz : Nat → Nat) (Q : Int32 → List Nat → pF → Prop) (L : List Nat) (f : pF) (a0 : Nat) (a1 : Int32) : Prop :=
    (∃ n9 : Nat, wp_X1_goodTermOf_2 dA zz Q  n9 L f a0 a1 (0 : Int32))
set_option maxHeartbeats 4000000 in
set_option maxRecDepth 100000 in
theorem tb_X1_goodTermOf_42 {p : Program} {l : Launch} {e : Env} {s : State} {m : MethodId} {below : List Frame} {meth : Method} {c : Code} {args : Array Value} {dC : Nat → ClassId} {dI : Nat → Nat → Nat} {dA : Nat → ClassId} {zz : Nat → Nat} {base : Nat} {A : Nat → Prop} {Q : Int32 → List Nat → pF → Prop} (C : pCx p s m args meth c cX1_goodTermOf 4 (some .int) RX1 wsX1_goodTermOf A dC dI dA zz base) {k2_ : List Nat → pF → Nat → Int32 → Int32 → Prop} (h2_ : ∀ (L : List Nat) (f : pF) (a0 : Nat) (a1 : Int32) (a2 : Int32), k2_ L f a0 a1 a2 → pAt p l e rm_X1_goodTermOf s m args below meth c dC dI A (MQ below (va_Qi (fun r (u : List Nat × pF) => Q r u.1 u.2) (pB dC dI dA A) A) args s 0 0 A) 0 0 2 4 [(0, .ref a0), (1, .int a1), (2, .int a2)] [] L f) : ∀ (L : List Nat) (f : pF) (a0 : Nat) (a1 : Int32) (a2 : Int32), wp_X1_goodTermOf_42 dA zz Q k2_ L f a0 a1 a2 → pAt p l e rm_X1_goodTermOf s m args below meth c dC dI A (MQ below (va_Qi (fun r (u : List Nat × pF) => Q r u.1 u.2) (pB dC dI dA A) A) args s 0 0 A) 0 0 42 4 [(0, .ref a0), (1, .int a1), (2, .int a2)] [] L f := by
  obtain ⟨hx, hb, hml, hown, hts, hr, hlocks, hA, hK, hB, hz, hN, hT⟩ := id C
  intro L f a0 a1 a2 hw H locs hP hD hS ls hl
  rw [wp_X1_goodTermOf_42] at hw
  obtain ⟨v2_42, ev2_42⟩ : ∃ y : Int32, y = a2 + (1 : Int32) := ⟨_, rfl⟩
  have hw := hw v2_42 ev2_42
  refine lv_iinc (v := v2_42) (lv' := [(2, .int v2_42), (0, .ref a0), (1, .int a1)]) hx hb dX1_goodTermOf_42 hl (k := 2) rfl (by rw [ev2_42]; rfl) (by decide) rfl (fun ls hl => ?_)
  refine lv_goto (tgt := 2) hx hb dX1_goodTermOf_45 (by decide) ?_
  exact h2_ L f a0 a1 v2_42 hw H locs hP hD hS ls (lv_sub hl [1, 2, 0] rfl)
set_option maxHeartbeats 4000000 in
set_option maxRecDepth 100000 in
theorem tb_X1_goodTermOf_2 {p : Program} {l : Launch} {e : Env} {s : State} {m : MethodId} {below : List Frame} {meth : Method} {c : Code} {args : Array Value} {dC : Nat → ClassId} {dI : Nat → Nat → Nat} {dA : Nat → ClassId} {zz : Nat → Nat} {base : Nat} {A : Nat → Prop} {Q : Int32 → List Nat → pF → Prop} (C : pCx p s m args meth c cX1_goodTermOf 4 (some .int) RX1 wsX1_goodTermOf A dC dI dA zz base) : ∀ (n : Nat) (L : List Nat) (f : pF) (a0 : Nat) (a1 : Int32) (a2 : Int32), wp_X1_goodTermOf_2 dA zz Q  n L f a0 a1 a2 → pAt p l e rm_X1_goodTermOf s m args below meth c dC dI A (MQ below (va_Qi (fun r (u : List Nat × pF) => Q r u.1 u.2) (pB dC dI dA A) A) args s 0 0 A) 0 0 2 4 [(0, .ref a0), (1, .int a1), (2, .int a2)] [] L f := by
  obtain ⟨hx, hb, hml, hown, hts, hr, hlocks, hA, hK, hB, hz, hN, hT⟩ := id C
  intro n
  induction n with
  | zero => intro L f a0 a1 a2 hw; exact hw.elim
  | succ n ih =>
    intro L f a0 a1 a2 hw H locs hP hD hS ls hl
    rw [wp_X1_goodTermOf_2] at hw
    refine lv_iload_n hx hb dX1_goodTermOf_2 rfl (lv_at hl 2 rfl) ?_
    refine lv_aload_n hx hb dX1_goodTermOf_3 rfl (lv_at hl 0 rfl) ?_
    obtain ⟨fs_4, g_4, ⟨hL9, hf9, hn9⟩, hw⟩ := hw
    refine va_get (D := (dC, dI)) (ci := 2) (v := .ref g_4) (C := RX1) (T := TX1) (N := 3) hx hb hts iw_X1_goodTermOf_RX1 hown hK (p_one hP hL9 hf9) 0 rfl rfl 1 (by decide) (hts _ lk_X1_goodTermOf_18) (fun _ h9 => h9) hn9 dX1_goodTermOf_4 ?_
    obtain ⟨hO9, hw⟩ := hw
    have hFc := p_free hD hS hA
    refine va_calli (va_runV (As := []) (rest := [.int a2]) ⟨hx, hb, hml, hown, hts⟩ (c_Jx4a65c_size_8abf5 l dC dI dA zz base L f H.size g_4  _ hw) (cwV 0 hts gX1_goodTermOf_Jx4a65c_size_8abf5 rfl rfl rfl (by decide +kernel) ⟨by decide, by decide⟩) (pPreV [] (ci := 0) rfl hO9 hK hP hD hS hB hz hN hT) rfl rfl hl.1 rfl (lv_room (Nat.le_of_ble_eq_true rfl)) dX1_goodTermOf_7 ⟨by decide, by decide⟩) hS (fun q _ h => hFc q h) hFc (fun r_7 u t H1 locs ht hvm hw hB1 hz1 hk1 hS => ?_)
    obtain ⟨L_7, f_7⟩ := u
    obtain ⟨hP, -, hD1⟩ := hB1
    rw [ht] at hP
    have hw := id hw
    have hP : va_P (dC, dI) vwCl (va_pl L_7 f_7) H1 := hP
    have hD : va_D A (va_pl L_7 f_7) := p_gain hD1 hFc
    generalize H1 = H at hP hS ⊢
    refine lv_icmp_ge (tgt := 48) hx hb dX1_goodTermOf_10 (by decide) (fun c_10 => ?_) (fun c_10 => ?_)
    · have hw := hw.1 c_10
      refine lv_iconst (v := -1) hx hb dX1_goodTermOf_48 (by decide) ?_
      exact W.iret (v := (-1 : Int32)) hx hb hr (fun t ht hW => ⟨⟨(-1 : Int32), (L_7, f_7), rfl, hw, by rw [ht]; exact hP, va_K.moved hW.alike hK, hD⟩, hS.F ht⟩) hS.2.2 dX1_goodTermOf_49
    · have hw := hw.2 c_10
      refine lv_aload_n hx hb dX1_goodTermOf_13 rfl (lv_at hl 0 rfl) ?_
      obtain ⟨fs_14, g_14, ⟨hL9, hf9, hn9⟩, hw⟩ := hw
      refine va_get (D := (dC, dI)) (ci := 2) (v := .ref g_14) (C := RX1) (T := TX1) (N := 3) hx hb hts iw_X1_goodTermOf_RX1 hown hK (p_one hP hL9 hf9) 0 rfl rfl 1 (by decide) (hts _ lk_X1_goodTermOf_18) (fun _ h9 => h9) hn9 dX1_goodTermOf_14 ?_
      refine lv_iload_n hx hb dX1_goodTermOf_17 rfl (lv_at hl 2 rfl) ?_
      obtain ⟨hO9, hw⟩ := hw
      have hFc := p_free hD hS hA
      refine va_callr (va_runV (As := [.int a2]) (rest := []) ⟨hx, hb, hml, hown, hts⟩ (c_Jx4a65c_get_915e3 l dC dI dA zz base L_7 f_7 H.size g_14 a2 _ hw) (cwV 1 hts gX1_goodTermOf_Jx4a65c_get_915e3 rfl rfl rfl (by decide +kernel) ⟨by decide, by decide⟩) (pPreV [.int a2] (ci := 0) rfl hO9 hK hP hD hS hB hz hN hT) rfl rfl hl.1 rfl (lv_room (Nat.le_of_ble_eq_true rfl)) dX1_goodTermOf_18 ⟨by decide, by decide⟩) hS (fun q _ h => hFc q h) hFc (fun u ra t H1 locs ht hvm hw hB1 hz1 hk1 hS => ?_)
      obtain ⟨r_18, L_18, f_18⟩ := u
      obtain ⟨hra, hP, -, hD1⟩ := hB1
      rw [show ra = r_18 from hra]
      rw [ht] at hP
      have hw := id hw
      have hP : va_P (dC, dI) vwCl (va_pl L_18 f_18) H1 := hP
      have hD : va_D A (va_pl L_18 f_18) := p_gain hD1 hFc
      generalize H1 = H at hP hS ⊢
      refine W.eq (g2 := F0 m 21 ls (.ref r_18 :: [])) rfl ?_
      refine va_castS (nm := RX5) hx hb hown (hts _ lk_X1_goodTermOf_32) (hK.1 6 _ rfl).2 (p_recv hK hP hw.1 rfl) dX1_goodTermOf_21 ?_
      have hw := hw.2
      refine lv_astore_n (lv' := [(3, .ref r_18), (0, .ref a0), (1, .int a1), (2, .int a2)]) hx hb dX1_goodTermOf_24 rfl hl (by decide) rfl (fun ls hl => ?_)
      refine lv_aload_n hx hb dX1_goodTermOf_25 rfl (lv_at hl 0 rfl) ?_
      obtain ⟨fs_26, g_26, ⟨hL9, hf9, hn9⟩, hw⟩ := hw
      refine va_get (D := (dC, dI)) (ci := 6) (v := .int g_26) (C := RX5) (T := TX5) (N := 5) hx hb hts iw_X1_goodTermOf_RX5 hown hK (p_one hP hL9 hf9) 0 rfl rfl 2 (by decide) (hts _ lk_X1_goodTermOf_72) (fun _ h9 => h9) hn9 dX1_goodTermOf_26 ?_
      refine lv_iload_n hx hb dX1_goodTermOf_29 rfl (lv_at hl 2 rfl) ?_
      refine lv_icmp_ne (tgt := 42) hx hb dX1_goodTermOf_30 (by decide) (fun c_30 => ?_) (fun c_30 => ?_)
      · have hw := hw.1 c_30
        exact tb_X1_goodTermOf_42 C ih L_18 f_18 a0 a1 a2 hw H locs hP hD hS ls (lv_sub hl [1, 2, 3] rfl)
      · have hw := hw.2 c_30
        refine lv_aload_n hx hb dX1_goodTermOf_33 rfl (lv_at hl 0 rfl) ?_
        obtain ⟨fs_34, g_34, ⟨hL9, hf9, hn9⟩, hw⟩ := hw
        refine va_get (D := (dC, dI)) (ci := 6) (v := .int g_34) (C := RX5) (T := TX5) (N := 5) hx hb hts iw_X1_goodTermOf_RX5 hown hK (p_one hP hL9 hf9) 0 rfl rfl 4 (by decide) (hts _ lk_X1_goodTermOf_73) (fun _ h9 => h9) hn9 dX1_goodTermOf_34 ?_
        refine lv_if_ne (tgt := 42) hx hb dX1_goodTermOf_37 (by decide) (fun c_37 => ?_) (fun c_37 => ?_)
        · have hw := hw.1 c_37
          exact tb_X1_goodTermOf_42 C ih L_18 f_18 a0 a1 a2 hw H locs hP hD hS ls (lv_sub hl [1, 2, 3] rfl)
        · have hw := hw.2 c_37
          refine lv_iload_n hx hb dX1_goodTermOf_40 rfl (lv_at hl 3 rfl) ?_
          exact W.iret (v := a2) hx hb hr (fun t ht hW => ⟨⟨a2, (L_18, f_18), rfl, hw, by rw [ht]; exact hP, va_K.moved hW.alike hK, hD⟩, hS.F ht⟩) hS.2.2 dX1_goodTermOf_41
set_option maxHeartbeats 4000000 in
set_option maxRecDepth 100000 in
theorem tb_X1_goodTermOf_0 {p : Program} {l : Launch} {e : Env} {s : State} {m : MethodId} {below : List Frame} {meth : Method} {c : Code} {args : Array Value} {dC : Nat → ClassId} {dI : Nat → Nat → Nat} {dA : Nat → ClassId} {zz : Nat → Nat} {base : Nat} {A : Nat → Prop} {Q : Int32 → List Nat → pF → Prop} (C : pCx p s m args meth c cX1_goodTermOf 4 (some .int) RX1 wsX1_goodTermOf A dC dI dA zz base) : ∀ (L : List Nat) (f : pF) (a0 : Nat) (a1 : Int32), wp_X1_goodTermOf_0 dA zz Q  L f a0 a1 → pAt p l e rm_X1_goodTermOf s m args below meth c dC dI A (MQ below (va_Qi (fun r (u : List Nat × pF) => Q r u.1 u.2) (pB dC dI dA A) A) args s 0 0 A) 0 0 0 4 [(0, .ref a0), (1, .int a1)] [] L f := by
  obtain ⟨hx, hb, hml, hown, hts, hr, hlocks, hA, hK, hB, hz, hN, hT⟩ := id C
  intro L f a0 a1 hw H locs hP hD hS ls hl
  rw [wp_X1_goodTermOf_0] at hw
  refine lv_iconst (v := 0) hx hb dX1_goodTermOf_0 (by decide) ?_
  refine lv_istore_n (lv' := [(2, .int (0 : Int32)), (0, .ref a0), (1, .int a1)]) hx hb dX1_goodTermOf_1 rfl hl (by decide) rfl (fun ls hl => ?_)
  obtain ⟨n9, hw⟩ := hw
  exact tb_X1_goodTermOf_2 C  n9 L f a0 a1 (0 : Int32) hw H locs hP hD hS ls (lv_sub hl [1, 2, 0] rfl)
set_option maxHeartbeats 4000000 in
set_option maxRecDepth 100000 in
theorem c_X1_goodTermOf (l : Launch) (dC : Nat → ClassId) (dI : Nat → Nat → Nat) (dA : Nat → ClassId) (zz : Nat → Nat) (base : Nat) (L : List Nat) (f : pF) (sz : Nat) (a0 : Nat) (a1 : Int32) (Q : Int32 → List Nat → pF → Prop) (hw : wp_X1_goodTermOf_0 dA zz Q L f a0 a1) : Met l yX1_goodTermOf wsX1_goodTermOf rm_X1_goodTermOf (va_Pc [.ref a0, .int a1] (pPre dC dI dA zz base L f sz)) (va_Qi (fun r (u : List Nat × pF) => Q r u.1 u.2) (pB dC dI dA (va_A (va_pl L f) sz)) (va_A (va_pl L f) sz)) 0 0 (va_A (va_pl L f) sz) := by
  refine Met.ofW (cc := cX1_goodTermOf) (maxL := 4) (ret := (some .int)) (by decide) rfl ?_
  intro p e s m args below meth c s₁ B hml hv
  obtain ⟨rfl, hsz, hP, hK, hD0, hz, hN, hT⟩ := hv
  subst hsz
  have hl := lv_entry ([.ref a0, .int a1]) (n := 4) (Nat.le_of_ble_eq_true rfl)
  rw [lg_entry_eq]
  generalize (lg_sl ([.ref a0, .int a1]) ++ List.replicate (4 - (lg_sl ([.ref a0, .int a1])).length) Slot.unset).toArray = ls at hl ⊢
  exact tb_X1_goodTermOf_0 (Q := Q) (p := p) ⟨B.exec, B.bytes, hml, findClass_of_methodNamed B.named, atoms_spec (ws := wsX1_goodTermOf) B.pre, B.returns, B.notSynchronized, fun q h => Or.inr h, hK, pAB hD0 hz, hz, hN, hT⟩ L f a0 a1 hw s.heap [] hP (hD0.self (sz := s.heap.size)) va_S.rf ls (lv_sub hl [0, 1] rfl)
theorem iw_X1_wayAt_RX1 : ∀ w ∈ u_ws RX1 TX1 3, w ∈ wsX1_wayAt := by decide +kernel
theorem iw_X1_wayAt_RX5 : ∀ w ∈ u_ws RX5 TX5 5, w ∈ wsX1_wayAt := by decide +kernel
theorem lk_X1_wayAt_35 : Cond.classLink RX1 35 "TermKeeper$Row" ∈ wsX1_wayAt := by decide +kernel
theorem lk_X1_wayAt_12 : Cond.fieldLink RX1 12 "TermKeeper$Glossary" "endings" "Ljava/util/ArrayList;" ∈ wsX1_wayAt := by decide +kernel
theorem lk_X1_wayAt_76 : Cond.fieldLink RX1 76 "TermKeeper$Term" "row" "LTermKeeper$Row;" ∈ wsX1_wayAt := by decide +kernel
abbrev rm_X1_wayAt : Room := { frames := 3, cells := 0, slots := 0, locals := 69 }
def wp_X1_wayAt_93 (dA : Nat → ClassId) (zz : Nat → Nat) (Q : Int32 → List Nat → pF → Prop) (k34_ : List Nat → pF → Nat → Nat → Nat → Int32 → Int32 → Prop) (L : List Nat) (f : pF) (a0 : Nat) (a1 : Nat) (a3 : Nat) (a4 : Int32) (a5 : Int32) : Prop :=
    (∀ v5_93 : Int32, v5_93 = a5 + (1 : Int32) →
      (k34_ L f a0 a1 a3 a4 v5_93))
def wp_X1_wayAt_34 (dA : Nat → ClassId) (zz : Nat → Nat) (Q : Int32 → List Nat → pF → Prop) : Nat → List Nat → pF → Nat → Nat → Nat → Int32 → Int32 → Prop
  | 0, _, _, _, _, _, _, _ => False
  | n + 1, L, f, a0, a1, a3, a4, a5 =>
    (gR L f 2 a0 0 (fun g_37 =>
      (isO L f 0 g_37 ∧
        (wp_Jx4a65c_size_8abf5_0 dA zz (fun r_40 L_40 f_40 =>
          ((r_40 ≤ a5 →
            (Q (-2 : Int32) L_40 f_40))
           ∧ (¬ r_40 ≤ a5 →
            (isO L_40 f_40 6 a3 ∧
              (wp_X5_takesEnding_0 dA zz (fun r_49 L_49 f_49 =>
                ((r_49 = 0 →
                  (wp_X1_wayAt_93 dA zz Q (wp_X1_wayAt_34 dA zz Q  n) L_49 f_49 a0 a1 a3 a4 a5))
                 ∧ (¬ r_49 = 0 →
                  (gR L_49 f_49 2 a0 0 (fun g_59 =>
                    (isO L_49 f_49 0 g_59 ∧
                      (wp_Jx4a65c_get_915e3_0 dA zz (fun r_64 L_64 f_64 =>
                        (isO L_64 f_64 5 r_64 ∧
                          (isO L_64 f_64 5 a1 ∧
                            (wp_X4_endOfForm_0 dA zz (fun r_70 L_70 f_70 =>
                              ((r_70 = (-1 : Int32) →
                                (wp_X1_wayAt_93 dA zz Q (wp_X1_wayAt_34 dA zz Q  n) L_70 f_70 a0 a1 a3 a4 a5))
                               ∧ (¬ r_70 = (-1 : Int32) →
                                (isO L_70 f_70 5 a1 ∧
                                  (wp_X4_letterAt_0 dA zz (fun r_84 L_84 f_84 =>
                                    ((¬ r_84 = 0 →
                                      (wp_X1_wayAt_93 dA zz Q (wp_X1_wayAt_34 dA zz Q  n) L_84 f_84 a0 a1 a3 a4 a5))
                                     ∧ (r_84 = 0 →
                                      (Q a5 L_84 f_84)))) L_70 f_70 a1 r_70))))) L_64 f_64 a1 a4 r_64)))) L_49 f_49 g_59 a5))))))) L_40 f_40 a3 a5))))) L f g_37 ))))
def wp_X1_wayAt_0 (dA : Nat → ClassId) (zz : Nat → Nat) (Q : Int32 → List Nat → pF → Prop) (L : List Nat) (f : pF) (a0 : Nat) (a1 : Nat) (a2 : Int32) (a3 : Nat) : Prop :=
    (gR L f 6 a3 0 (fun g_3 =>
      (isO L f 5 a1 ∧
        (wp_X4_endOfForm_0 dA zz (fun r_6 L_6 f_6 =>
          ((¬ r_6 = (-1 : Int32) →
            (isO L_6 f_6 5 a1 ∧
              (wp_X4_letterAt_0 dA zz (fun r_23 L_23 f_23 =>
                ((¬ r_23 = 0 →
                  (∃ n9 : Nat, wp_X1_wayAt_34 dA zz Q  n9 L_23 f_23 a0 a1 a3 r_6 (0 : Int32)))
                 ∧ (r_23 = 0 →
                  (Q (-1 : Int32) L_23 f_23)))) L_6 f_6 a1 r_6)))
           ∧ (r_6 = (-1 : Int32) →
            (Q (-2 : Int32) L_6 f_6)))) L f a1 a2 g_3))))
set_option maxHeartbeats 4000000 in
set_option maxRecDepth 100000 in
theorem tb_X1_wayAt_93 {p : Program} {l : Launch} {e : Env} {s : State} {m : MethodId} {below : List Frame} {meth : Method} {c : Code} {args : Array Value} {dC : Nat → ClassId} {dI : Nat → Nat → Nat} {dA : Nat → ClassId} {zz : Nat → Nat} {base : Nat} {A : Nat → Prop} {Q : Int32 → List Nat → pF → Prop} (C : pCx p s m args meth c cX1_wayAt 7 (some .int) RX1 wsX1_wayAt A dC dI dA zz base) {k34_ : List Nat → pF → Nat → Nat → Nat → Int32 → Int32 → Prop} (h34_ : ∀ (L : List Nat) (f : pF) (a0 : Nat) (a1 : Nat) (a3 : Nat) (a4 : Int32) (a5 : Int32), k34_ L f a0 a1 a3 a4 a5 → pAt p l e rm_X1_wayAt s m args below meth c dC dI A (MQ below (va_Qi (fun r (u : List Nat × pF) => Q r u.1 u.2) (pB dC dI dA A) A) args s 0 0 A) 0 0 34 7 [(0, .ref a0), (1, .ref a1), (3, .ref a3), (4, .int a4), (5, .int a5)] [] L f) : ∀ (L : List Nat) (f : pF) (a0 : Nat) (a1 : Nat) (a3 : Nat) (a4 : Int32) (a5 : Int32), wp_X1_wayAt_93 dA zz Q k34_ L f a0 a1 a3 a4 a5 → pAt p l e rm_X1_wayAt s m args below meth c dC dI A (MQ below (va_Qi (fun r (u : List Nat × pF) => Q r u.1 u.2) (pB dC dI dA A) A) args s 0 0 A) 0 0 93 7 [(0, .ref a0), (1, .ref a1), (3, .ref a3), (4, .int a4), (5, .int a5)] [] L f := by
  obtain ⟨hx, hb, hml, hown, hts, hr, hlocks, hA, hK, hB, hz, hN, hT⟩ := id C
  intro L f a0 a1 a3 a4 a5 hw H locs hP hD hS ls hl
  rw [wp_X1_wayAt_93] at hw
  obtain ⟨v5_93, ev5_93⟩ : ∃ y : Int32, y = a5 + (1 : Int32) := ⟨_, rfl⟩
  have hw := hw v5_93 ev5_93
  refine lv_iinc (v := v5_93) (lv' := [(5, .int v5_93), (0, .ref a0), (1, .ref a1), (3, .ref a3), (4, .int a4)]) hx hb dX1_wayAt_93 hl (k := 4) rfl (by rw [ev5_93]; rfl) (by decide) rfl (fun ls hl => ?_)
  refine lv_goto (tgt := 34) hx hb dX1_wayAt_96 (by decide) ?_
  exact h34_ L f a0 a1 a3 a4 v5_93 hw H locs hP hD hS ls (lv_sub hl [1, 2, 3, 4, 0] rfl)
set_option maxHeartbeats 4000000 in
set_option maxRecDepth 100000 in
theorem tb_X1_wayAt_34 {p : Program} {l : Launch} {e : Env} {s : State} {m : MethodId} {below : List Frame} {meth : Method} {c : Code} {args : Array Value} {dC : Nat → ClassId} {dI : Nat → Nat → Nat} {dA : Nat → ClassId} {zz : Nat → Nat} {base : Nat} {A : Nat → Prop} {Q : Int32 → List Nat → pF → Prop} (C : pCx p s m args meth c cX1_wayAt 7 (some .int) RX1 wsX1_wayAt A dC dI dA zz base) : ∀ (n : Nat) (L : List Nat) (f : pF) (a0 : Nat) (a1 : Nat) (a3 : Nat) (a4 : Int32) (a5 : Int32), wp_X1_wayAt_34 dA zz Q  n L f a0 a1 a3 a4 a5 → pAt p l e rm_X1_wayAt s m args below meth c dC dI A (MQ below (va_Qi (fun r (u : List Nat × pF) => Q r u.1 u.2) (pB dC dI dA A) A) args s 0 0 A) 0 0 34 7 [(0, .ref a0), (1, .ref a1), (3, .ref a3), (4, .int a4), (5, .int a5)] [] L f := by
  obtain ⟨hx, hb, hml, hown, hts, hr, hlocks, hA, hK, hB, hz, hN, hT⟩ := id C
  intro n
  induction n with
  | zero => intro L f a0 a1 a3 a4 a5 hw; exact hw.elim
  | succ n ih =>
    intro L f a0 a1 a3 a4 a5 hw H locs hP hD hS ls hl
    rw [wp_X1_wayAt_34] at hw
    refine lv_iload hx hb dX1_wayAt_34 (lv_at hl 4 rfl) ?_
    refine lv_aload_n hx hb dX1_wayAt_36 rfl (lv_at hl 0 rfl) ?_
    obtain ⟨fs_37, g_37, ⟨hL9, hf9, hn9⟩, hw⟩ := hw
    refine va_get (D := (dC, dI)) (ci := 2) (v := .ref g_37) (C := RX1) (T := TX1) (N := 3) hx hb hts iw_X1_wayAt_RX1 hown hK (p_one hP hL9 hf9) 0 rfl rfl 0 (by decide) (hts _ lk_X1_wayAt_12) (fun _ h9 => h9) hn9 dX1_wayAt_37 ?_
    obtain ⟨hO9, hw⟩ := hw
    have hFc := p_free hD hS hA
    refine va_calli (va_runV (As := []) (rest := [.int a5]) ⟨hx, hb, hml, hown, hts⟩ (c_Jx4a65c_size_8abf5 l dC dI dA zz base L f H.size g_37  _ hw) (cwV 0 hts gX1_wayAt_Jx4a65c_size_8abf5 rfl rfl rfl (by decide +kernel) ⟨by decide, by decide⟩) (pPreV [] (ci := 0) rfl hO9 hK hP hD hS hB hz hN hT) rfl rfl hl.1 rfl (lv_room (Nat.le_of_ble_eq_true rfl)) dX1_wayAt_40 ⟨by decide, by decide⟩) hS (fun q _ h => hFc q h) hFc (fun r_40 u t H1 locs ht hvm hw hB1 hz1 hk1 hS => ?_)
    obtain ⟨L_40, f_40⟩ := u
    obtain ⟨hP, -, hD1⟩ := hB1
    rw [ht] at hP
    have hw := id hw
    have hP : va_P (dC, dI) vwCl (va_pl L_40 f_40) H1 := hP
    have hD : va_D A (va_pl L_40 f_40) := p_gain hD1 hFc
    generalize H1 = H at hP hS ⊢
    refine lv_icmp_ge (tgt := 99) hx hb dX1_wayAt_43 (by decide) (fun c_43 => ?_) (fun c_43 => ?_)
    · have hw := hw.1 c_43
      refine lv_bipush (v := -2) hx hb dX1_wayAt_99 (by decide) ?_
      exact W.iret (v := (-2 : Int32)) hx hb hr (fun t ht hW => ⟨⟨(-2 : Int32), (L_40, f_40), rfl, hw, by rw [ht]; exact hP, va_K.moved hW.alike hK, hD⟩, hS.F ht⟩) hS.2.2 dX1_wayAt_101
    · have hw := hw.2 c_43
      refine lv_aload_n hx hb dX1_wayAt_46 rfl (lv_at hl 2 rfl) ?_
      refine lv_iload hx hb dX1_wayAt_47 (lv_at hl 4 rfl) ?_
      obtain ⟨hO9, hw⟩ := hw
      have hFc := p_free hD hS hA
      refine va_calli (va_runV (As := [.int a5]) (rest := []) ⟨hx, hb, hml, hown, hts⟩ (c_X5_takesEnding l dC dI dA zz base L_40 f_40 H.size a3 a5 _ hw) (cwV 1 hts gX1_wayAt_X5_takesEnding rfl rfl rfl (by decide +kernel) ⟨by decide, by decide⟩) (pPreV [.int a5] (ci := 6) rfl hO9 hK hP hD hS hB hz hN hT) rfl rfl hl.1 rfl (lv_room (Nat.le_of_ble_eq_true rfl)) dX1_wayAt_49 ⟨by decide, by decide⟩) hS (fun q _ h => hFc q h) hFc (fun r_49 u t H1 locs ht hvm hw hB1 hz1 hk1 hS => ?_)
      obtain ⟨L_49, f_49⟩ := u
      obtain ⟨hP, -, hD1⟩ := hB1
      rw [ht] at hP
      have hw := id hw
      have hP : va_P (dC, dI) vwCl (va_pl L_49 f_49) H1 := hP
      have hD : va_D A (va_pl L_49 f_49) := p_gain hD1 hFc
      generalize H1 = H at hP hS ⊢
      refine lv_if_eq (tgt := 93) hx hb dX1_wayAt_52 (by decide) (fun c_52 => ?_) (fun c_52 => ?_)
      · have hw := hw.1 c_52
        exact tb_X1_wayAt_93 C ih L_49 f_49 a0 a1 a3 a4 a5 hw H locs hP hD hS ls (lv_sub hl [0, 1, 2, 3, 4] rfl)
      · have hw := hw.2 c_52
        refine lv_aload_n hx hb dX1_wayAt_55 rfl (lv_at hl 1 rfl) ?_
        refine lv_iload hx hb dX1_wayAt_56 (lv_at hl 3 rfl) ?_
        refine lv_aload_n hx hb dX1_wayAt_58 rfl (lv_at hl 0 rfl) ?_
        obtain ⟨fs_59, g_59, ⟨hL9, hf9, hn9⟩, hw⟩ := hw
        refine va_get (D := (dC, dI)) (ci := 2) (v := .ref g_59) (C := RX1) (T := TX1) (N := 3) hx hb hts iw_X1_wayAt_RX1 hown hK (p_one hP hL9 hf9) 0 rfl rfl 0 (by decide) (hts _ lk_X1_wayAt_12) (fun _ h9 => h9) hn9 dX1_wayAt_59 ?_
        refine lv_iload hx hb dX1_wayAt_62 (lv_at hl 4 rfl) ?_
        obtain ⟨hO9, hw⟩ := hw
        have hFc := p_free hD hS hA
        refine va_callr (va_runV (As := [.int a5]) (rest := [.int a4, .ref a1]) ⟨hx, hb, hml, hown, hts⟩ (c_Jx4a65c_get_915e3 l dC dI dA zz base L_49 f_49 H.size g_59 a5 _ hw) (cwV 1 hts gX1_wayAt_Jx4a65c_get_915e3 rfl rfl rfl (by decide +kernel) ⟨by decide, by decide⟩) (pPreV [.int a5] (ci := 0) rfl hO9 hK hP hD hS hB hz hN hT) rfl rfl hl.1 rfl (lv_room (Nat.le_of_ble_eq_true rfl)) dX1_wayAt_64 ⟨by decide, by decide⟩) hS (fun q _ h => hFc q h) hFc (fun u ra t H1 locs ht hvm hw hB1 hz1 hk1 hS => ?_)
        obtain ⟨r_64, L_64, f_64⟩ := u
        obtain ⟨hra, hP, -, hD1⟩ := hB1
        rw [show ra = r_64 from hra]
        rw [ht] at hP
        have hw := id hw
        have hP : va_P (dC, dI) vwCl (va_pl L_64 f_64) H1 := hP
        have hD : va_D A (va_pl L_64 f_64) := p_gain hD1 hFc
        generalize H1 = H at hP hS ⊢
        refine W.eq (g2 := F0 m 67 ls (.ref r_64 :: [.int a4, .ref a1])) rfl ?_
        refine va_castS (nm := RX4) hx hb hown (hts _ lk_X1_wayAt_35) (hK.1 5 _ rfl).2 (p_recv hK hP hw.1 rfl) dX1_wayAt_67 ?_
        have hw := hw.2
        obtain ⟨hO9, hw⟩ := hw
        have hFc := p_free hD hS hA
        refine va_calli (va_runV (As := [.int a4, .ref r_64]) (rest := []) ⟨hx, hb, hml, hown, hts⟩ (c_X4_endOfForm l dC dI dA zz base L_64 f_64 H.size a1 a4 r_64 _ hw) (cwV 2 hts gX1_wayAt_X4_endOfForm rfl rfl rfl (by decide +kernel) ⟨by decide, by decide⟩) (pPreV [.int a4, .ref r_64] (ci := 5) rfl hO9 hK hP hD hS hB hz hN hT) rfl rfl hl.1 rfl (lv_room (Nat.le_of_ble_eq_true rfl)) dX1_wayAt_70 ⟨by decide, by decide⟩) hS (fun q _ h => hFc q h) hFc (fun r_70 u t H1 locs ht hvm hw hB1 hz1 hk1 hS => ?_)
        obtain ⟨L_70, f_70⟩ := u
        obtain ⟨hP, -, hD1⟩ := hB1
        rw [ht] at hP
        have hw := id hw
        have hP : va_P (dC, dI) vwCl (va_pl L_70 f_70) H1 := hP
        have hD : va_D A (va_pl L_70 f_70) := p_gain hD1 hFc
        generalize H1 = H at hP hS ⊢
        refine lv_istore (lv' := [(6, .int r_70), (0, .ref a0), (1, .ref a1), (3, .ref a3), (4, .int a4), (5, .int a5)]) hx hb dX1_wayAt_73 hl (by decide) rfl (fun ls hl => ?_)
        refine lv_iload hx hb dX1_wayAt_75 (lv_at hl 0 rfl) ?_
        refine lv_iconst (v := -1) hx hb dX1_wayAt_77 (by decide) ?_
        refine lv_icmp_eq (tgt := 93) hx hb dX1_wayAt_78 (by decide) (fun c_78 => ?_) (fun c_78 => ?_)
        · have hw := hw.1 c_78
          exact tb_X1_wayAt_93 C ih L_70 f_70 a0 a1 a3 a4 a5 hw H locs hP hD hS ls (lv_sub hl [1, 2, 3, 4, 5] rfl)
        · have hw := hw.2 c_78
          refine lv_aload_n hx hb dX1_wayAt_81 rfl (lv_at hl 2 rfl) ?_
          refine lv_iload hx hb dX1_wayAt_82 (lv_at hl 0 rfl) ?_
          obtain ⟨hO9, hw⟩ := hw
          have hFc := p_free hD hS hA
          refine va_calli (va_runV (As := [.int r_70]) (rest := []) ⟨hx, hb, hml, hown, hts⟩ (c_X4_letterAt l dC dI dA zz base L_70 f_70 H.size a1 r_70 _ hw) (cwV 1 hts gX1_wayAt_X4_letterAt rfl rfl rfl (by decide +kernel) ⟨by decide, by decide⟩) (pPreV [.int r_70] (ci := 5) rfl hO9 hK hP hD hS hB hz hN hT) rfl rfl hl.1 rfl (lv_room (Nat.le_of_ble_eq_true rfl)) dX1_wayAt_84 ⟨by decide, by decide⟩) hS (fun q _ h => hFc q h) hFc (fun r_84 u t H1 locs ht hvm hw hB1 hz1 hk1 hS => ?_)
          obtain ⟨L_84, f_84⟩ := u
          obtain ⟨hP, -, hD1⟩ := hB1
          rw [ht] at hP
          have hw := id hw
          have hP : va_P (dC, dI) vwCl (va_pl L_84 f_84) H1 := hP
          have hD : va_D A (va_pl L_84 f_84) := p_gain hD1 hFc
          generalize H1 = H at hP hS ⊢
          refine lv_if_ne (tgt := 93) hx hb dX1_wayAt_87 (by decide) (fun c_87 => ?_) (fun c_87 => ?_)
          · have hw := hw.1 c_87
            exact tb_X1_wayAt_93 C ih L_84 f_84 a0 a1 a3 a4 a5 hw H locs hP hD hS ls (lv_sub hl [1, 2, 3, 4, 5] rfl)
          · have hw := hw.2 c_87
            refine lv_iload hx hb dX1_wayAt_90 (lv_at hl 5 rfl) ?_
            exact W.iret (v := a5) hx hb hr (fun t ht hW => ⟨⟨a5, (L_84, f_84), rfl, hw, by rw [ht]; exact hP, va_K.moved hW.alike hK, hD⟩, hS.F ht⟩) hS.2.2 dX1_wayAt_92
set_option maxHeartbeats 4000000 in
set_option maxRecDepth 100000 in
theorem tb_X1_wayAt_0 {p : Program} {l : Launch} {e : Env} {s : State} {m : MethodId} {below : List Frame} {meth : Method} {c : Code} {args : Array Value} {dC : Nat → ClassId} {dI : Nat → Nat → Nat} {dA : Nat → ClassId} {zz : Nat → Nat} {base : Nat} {A : Nat → Prop} {Q : Int32 → List Nat → pF → Prop} (C : pCx p s m args meth c cX1_wayAt 7 (some .int) RX1 wsX1_wayAt A dC dI dA zz base) : ∀ (L : List Nat) (f : pF) (a0 : Nat) (a1 : Nat) (a2 : Int32) (a3 : Nat), wp_X1_wayAt_0 dA zz Q  L f a0 a1 a2 a3 → pAt p l e rm_X1_wayAt s m args below meth c dC dI A (MQ below (va_Qi (fun r (u : List Nat × pF) => Q r u.1 u.2) (pB dC dI dA A) A) args s 0 0 A) 0 0 0 7 [(0, .ref a0), (1, .ref a1), (2, .int a2), (3, .ref a3)] [] L f := by
  obtain ⟨hx, hb, hml, hown, hts, hr, hlocks, hA, hK, hB, hz, hN, hT⟩ := id C
  intro L f a0 a1 a2 a3 hw H locs hP hD hS ls hl
  rw [wp_X1_wayAt_0] at hw
  refine lv_aload_n hx hb dX1_wayAt_0 rfl (lv_at hl 1 rfl) ?_
  refine lv_iload_n hx hb dX1_wayAt_1 rfl (lv_at hl 2 rfl) ?_
  refine lv_aload_n hx hb dX1_wayAt_2 rfl (lv_at hl 3 rfl) ?_
  obtain ⟨fs_3, g_3, ⟨hL9, hf9, hn9⟩, hw⟩ := hw
  refine va_get (D := (dC, dI)) (ci := 6) (v := .ref g_3) (C := RX5) (T := TX5) (N := 5) hx hb hts iw_X1_wayAt_RX5 hown hK (p_one hP hL9 hf9) 0 rfl rfl 0 (by decide) (hts _ lk_X1_wayAt_76) (fun _ h9 => h9) hn9 dX1_wayAt_3 ?_
  obtain ⟨hO9, hw⟩ := hw
  have hFc := p_free hD hS hA
  refine va_calli (va_runV (As := [.int a2, .ref g_3]) (rest := []) ⟨hx, hb, hml, hown, hts⟩ (c_X4_endOfForm l dC dI dA zz base L f H.size a1 a2 g_3 _ hw) (cwV 2 hts gX1_wayAt_X4_endOfForm rfl rfl rfl (by decide +kernel) ⟨by decide, by decide⟩) (pPreV [.int a2, .ref g_3] (ci := 5) rfl hO9 hK hP hD hS hB hz hN hT) rfl rfl hl.1 rfl (lv_room (Nat.le_of_ble_eq_true rfl)) dX1_wayAt_6 ⟨by decide, by decide⟩) hS (fun q _ h => hFc q h) hFc (fun r_6 u t H1 locs ht hvm hw hB1 hz1 hk1 hS => ?_)
  obtain ⟨L_6, f_6⟩ := u
  obtain ⟨hP, -, hD1⟩ := hB1
  rw [ht] at hP
  have hw := id hw
  have hP : va_P (dC, dI) vwCl (va_pl L_6 f_6) H1 := hP
  have hD : va_D A (va_pl L_6 f_6) := p_gain hD1 hFc
  generalize H1 = H at hP hS ⊢
  refine lv_istore (lv' := [(4, .int r_6), (0, .ref a0), (1, .ref a1), (2, .int a2), (3, .ref a3)]) hx hb dX1_wayAt_9 hl (by decide) rfl (fun ls hl => ?_)
  refine lv_iload hx hb dX1_wayAt_11 (lv_at hl 0 rfl) ?_
  refine lv_iconst (v := -1) hx hb dX1_wayAt_13 (by decide) ?_
  refine lv_icmp_ne (tgt := 20) hx hb dX1_wayAt_14 (by decide) (fun c_14 => ?_) (fun c_14 => ?_)
  · have hw := hw.1 c_14
    refine lv_aload_n hx hb dX1_wayAt_20 rfl (lv_at hl 2 rfl) ?_
    refine lv_iload hx hb dX1_wayAt_21 (lv_at hl 0 rfl) ?_
    obtain ⟨hO9, hw⟩ := hw
    have hFc := p_free hD hS hA
    refine va_calli (va_runV (As := [.int r_6]) (rest := []) ⟨hx, hb, hml, hown, hts⟩ (c_X4_letterAt l dC dI dA zz base L_6 f_6 H.size a1 r_6 _ hw) (cwV 1 hts gX1_wayAt_X4_letterAt rfl rfl rfl (by decide +kernel) ⟨by decide, by decide⟩) (pPreV [.int r_6] (ci := 5) rfl hO9 hK hP hD hS hB hz hN hT) rfl rfl hl.1 rfl (lv_room (Nat.le_of_ble_eq_true rfl)) dX1_wayAt_23 ⟨by decide, by decide⟩) hS (fun q _ h => hFc q h) hFc (fun r_23 u t H1 locs ht hvm hw hB1 hz1 hk1 hS => ?_)
    obtain ⟨L_23, f_23⟩ := u
    obtain ⟨hP, -, hD1⟩ := hB1
    rw [ht] at hP
    have hw := id hw
    have hP : va_P (dC, dI) vwCl (va_pl L_23 f_23) H1 := hP
    have hD : va_D A (va_pl L_23 f_23) := p_gain hD1 hFc
    generalize H1 = H at hP hS ⊢
    refine lv_if_ne (tgt := 31) hx hb dX1_wayAt_26 (by decide) (fun c_26 => ?_) (fun c_26 => ?_)
    · have hw := hw.1 c_26
      refine lv_iconst (v := 0) hx hb dX1_wayAt_31 (by decide) ?_
      refine lv_istore (lv' := [(5, .int (0 : Int32)), (4, .int r_6), (0, .ref a0), (1, .ref a1), (2, .int a2), (3, .ref a3)]) hx hb dX1_wayAt_32 hl (by decide) rfl (fun ls hl => ?_)
      obtain ⟨n9, hw⟩ := hw
      exact tb_X1_wayAt_34 C  n9 L_23 f_23 a0 a1 a3 r_6 (0 : Int32) hw H locs hP hD hS ls (lv_sub hl [2, 3, 5, 1, 0] rfl)
    · have hw := hw.2 c_26
      refine lv_iconst (v := -1) hx hb dX1_wayAt_29 (by decide) ?_
      exact W.iret (v := (-1 : Int32)) hx hb hr (fun t ht hW => ⟨⟨(-1 : Int32), (L_23, f_23), rfl, hw, by rw [ht]; exact hP, va_K.moved hW.alike hK, hD⟩, hS.F ht⟩) hS.2.2 dX1_wayAt_30
  · have hw := hw.2 c_14
    refine lv_bipush (v := -2) hx hb dX1_wayAt_17 (by decide) ?_
    exact W.iret (v := (-2 : Int32)) hx hb hr (fun t ht hW => ⟨⟨(-2 : Int32), (L_6, f_6), rfl, hw, by rw [ht]; exact hP, va_K.moved hW.alike hK, hD⟩, hS.F ht⟩) hS.2.2 dX1_wayAt_19
set_option maxHeartbeats 4000000 in
set_option maxRecDepth 100000 in
theorem c_X1_wayAt (l : Launch) (dC : Nat → ClassId) (dI : Nat → Nat → Nat) (dA : Nat → ClassId) (zz : Nat → Nat) (base : Nat) (L : List Nat) (f : pF) (sz : Nat) (a0 : Nat) (a1 : Nat) (a2 : Int32) (a3 : Nat) (Q : Int32 → List Nat → pF → Prop) (hw : wp_X1_wayAt_0 dA zz Q L f a0 a1 a2 a3) : Met l yX1_wayAt wsX1_wayAt rm_X1_wayAt (va_Pc [.ref a0, .ref a1, .int a2, .ref a3] (pPre dC dI dA zz base L f sz)) (va_Qi (fun r (u : List Nat × pF) => Q r u.1 u.2) (pB dC dI dA (va_A (va_pl L f) sz)) (va_A (va_pl L f) sz)) 0 0 (va_A (va_pl L f) sz) := by
  refine Met.ofW (cc := cX1_wayAt) (maxL := 7) (ret := (some .int)) (by decide) rfl ?_
  intro p e s m args below meth c s₁ B hml hv
  obtain ⟨rfl, hsz, hP, hK, hD0, hz, hN, hT⟩ := hv
  subst hsz
  have hl := lv_entry ([.ref a0, .ref a1, .int a2, .ref a3]) (n := 7) (Nat.le_of_ble_eq_true rfl)
  rw [lg_entry_eq]
  generalize (lg_sl ([.ref a0, .ref a1, .int a2, .ref a3]) ++ List.replicate (7 - (lg_sl ([.ref a0, .ref a1, .int a2, .ref a3])).length) Slot.unset).toArray = ls at hl ⊢
  exact tb_X1_wayAt_0 (Q := Q) (p := p) ⟨B.exec, B.bytes, hml, findClass_of_methodNamed B.named, atoms_spec (ws := wsX1_wayAt) B.pre, B.returns, B.notSynchronized, fun q h => Or.inr h, hK, pAB hD0 hz, hz, hN, hT⟩ L f a0 a1 a2 a3 hw s.heap [] hP (hD0.self (sz := s.heap.size)) va_S.rf ls (lv_sub hl [0, 1, 2, 3] rfl)
theorem iw_X1_pushForm_RX1 : ∀ w ∈ u_ws RX1 TX1 3, w ∈ wsX1_pushForm := by decide +kernel
theorem iw_X1_pushForm_RX5 : ∀ w ∈ u_ws RX5 TX5 5, w ∈ wsX1_pushForm := by decide +kernel
theorem lk_X1_pushForm_35 : Cond.classLink RX1 35 "TermKeeper$Row" ∈ wsX1_pushForm := by decide +kernel
theorem lk_X1_pushForm_12 : Cond.fieldLink RX1 12 "TermKeeper$Glossary" "endings" "Ljava/util/ArrayList;" ∈ wsX1_pushForm := by decide +kernel
theorem lk_X1_pushForm_76 : Cond.fieldLink RX1 76 "TermKeeper$Term" "row" "LTermKeeper$Row;" ∈ wsX1_pushForm := by decide +kernel
abbrev rm_X1_pushForm : Room := { frames := 3, cells := 0, slots := 0, locals := 64 }
def wp_X1_pushForm_66 (dA : Nat → ClassId) (zz : Nat → Nat) (Q : List Nat → pF → Prop) : Nat → List Nat → pF → Nat → Nat → Int32 → Prop
  | 0, _, _, _, _, _ => False
  | n + 1, L, f, a1, a4, a5 =>
    (isO L f 5 a4 ∧
      (wp_X4_size_0 dA zz (fun r_70 L_70 f_70 =>
        ((r_70 ≤ a5 →
          (Q L_70 f_70))
         ∧ (¬ r_70 ≤ a5 →
          (isO L_70 f_70 5 a4 ∧
            (wp_X4_at_0 dA zz (fun r_81 L_81 f_81 =>
              (isO L_81 f_81 5 a1 ∧
                (wp_X4_push_0 dA zz (fun r_84 L_84 f_84 =>
                  (∀ v5_88 : Int32, v5_88 = a5 + (1 : Int32) →
                    ((wp_X1_pushForm_66 dA zz Q  n) L_84 f_84 a1 a4 v5_88))) L_81 f_81 a1 r_81))) L_70 f_70 a4 a5))))) L f a4 ))
def wp_X1_pushForm_35 (dA : Nat → ClassId) (zz : Nat → Nat) (Q : List Nat → pF → Prop) (L : List Nat) (f : pF) (a0 : Nat) (a1 : Nat) (a3 : Int32) : Prop :=
    ((a3 < 0 →
      (Q L f))
     ∧ (¬ a3 < 0 →
      (gR L f 2 a0 0 (fun g_41 =>
        (isO L f 0 g_41 ∧
          (wp_Jx4a65c_size_8abf5_0 dA zz (fun r_44 L_44 f_44 =>
            ((r_44 ≤ a3 →
              (Q L_44 f_44))
             ∧ (¬ r_44 ≤ a3 →
              (gR L_44 f_44 2 a0 0 (fun g_51 =>
                (isO L_44 f_44 0 g_51 ∧
                  (wp_Jx4a65c_get_915e3_0 dA zz (fun r_55 L_55 f_55 =>
                    (isO L_55 f_55 5 r_55 ∧
                      (∃ n9 : Nat, wp_X1_pushForm_66 dA zz Q  n9 L_55 f_55 a1 r_55 (0 : Int32)))) L_44 f_44 g_51 a3))))))) L f g_41 ))))))
def wp_X1_pushForm_3 (dA : Nat → ClassId) (zz : Nat → Nat) (Q : List Nat → pF → Prop) : Nat → List Nat → pF → Nat → Nat → Nat → Int32 → Int32 → Prop
  | 0, _, _, _, _, _, _, _ => False
  | n + 1, L, f, a0, a1, a2, a3, a4 =>
    (gR L f 6 a2 0 (fun g_6 =>
      (isO L f 5 g_6 ∧
        (wp_X4_size_0 dA zz (fun r_9 L_9 f_9 =>
          ((r_9 ≤ a4 →
            (wp_X1_pushForm_35 dA zz Q  L_9 f_9 a0 a1 a3))
           ∧ (¬ r_9 ≤ a4 →
            (gR L_9 f_9 6 a2 0 (fun g_17 =>
              (isO L_9 f_9 5 g_17 ∧
                (wp_X4_at_0 dA zz (fun r_22 L_22 f_22 =>
                  (isO L_22 f_22 5 a1 ∧
                    (wp_X4_push_0 dA zz (fun r_25 L_25 f_25 =>
                      (∀ v4_29 : Int32, v4_29 = a4 + (1 : Int32) →
                        ((wp_X1_pushForm_3 dA zz Q  n) L_25 f_25 a0 a1 a2 a3 v4_29))) L_22 f_22 a1 r_22))) L_9 f_9 g_17 a4))))))) L f g_6 ))))
def wp_X1_pushForm_0 (dA : Nat → ClassId) (zz : Nat → Nat) (Q : List Nat → pF → Prop) (L : List Nat) (f : pF) (a0 : Nat) (a1 : Nat) (a2 : Nat) (a3 : Int32) : Prop :=
    (∃ n9 : Nat, wp_X1_pushForm_3 dA zz Q  n9 L f a0 a1 a2 a3 (0 : Int32))
set_option maxHeartbeats 4000000 in
set_option maxRecDepth 100000 in
theorem tb_X1_pushForm_66 {p : Program} {l : Launch} {e : Env} {s : State} {m : MethodId} {below : List Frame} {meth : Method} {c : Code} {args : Array Value} {dC : Nat → ClassId} {dI : Nat → Nat → Nat} {dA : Nat → ClassId} {zz : Nat → Nat} {base : Nat} {A : Nat → Prop} {Q : List Nat → pF → Prop} (C : pCx p s m args meth c cX1_pushForm 6 none RX1 wsX1_pushForm A dC dI dA zz base) : ∀ (n : Nat) (L : List Nat) (f : pF) (a1 : Nat) (a4 : Nat) (a5 : Int32), wp_X1_pushForm_66 dA zz Q  n L f a1 a4 a5 → pAt p l e rm_X1_pushForm s m args below meth c dC dI A (MQ below (va_Qv (fun (u : List Nat × pF) => Q u.1 u.2) (pB dC dI dA A) A) args s 0 0 A) 0 0 66 6 [(1, .ref a1), (4, .ref a4), (5, .int a5)] [] L f := by
  obtain ⟨hx, hb, hml, hown, hts, hr, hlocks, hA, hK, hB, hz, hN, hT⟩ := id C
  intro n
  induction n with
  | zero => intro L f a1 a4 a5 hw; exact hw.elim
  | succ n ih =>
    intro L f a1 a4 a5 hw H locs hP hD hS ls hl
    rw [wp_X1_pushForm_66] at hw
    refine lv_iload hx hb dX1_pushForm_66 (lv_at hl 2 rfl) ?_
    refine lv_aload hx hb dX1_pushForm_68 (lv_at hl 1 rfl) ?_
    obtain ⟨hO9, hw⟩ := hw
    have hFc := p_free hD hS hA
    refine va_calli (va_runV (As := []) (rest := [.int a5]) ⟨hx, hb, hml, hown, hts⟩ (c_X4_size l dC dI dA zz base L f H.size a4  _ hw) (cwV 0 hts gX1_pushForm_X4_size rfl rfl rfl (by decide +kernel) ⟨by decide, by decide⟩) (pPreV [] (ci := 5) rfl hO9 hK hP hD hS hB hz hN hT) rfl rfl hl.1 rfl (lv_room (Nat.le_of_ble_eq_true rfl)) dX1_pushForm_70 ⟨by decide, by decide⟩) hS (fun q _ h => hFc q h) hFc (fun r_70 u t H1 locs ht hvm hw hB1 hz1 hk1 hS => ?_)
    obtain ⟨L_70, f_70⟩ := u
    obtain ⟨hP, -, hD1⟩ := hB1
    rw [ht] at hP
    have hw := id hw
    have hP : va_P (dC, dI) vwCl (va_pl L_70 f_70) H1 := hP
    have hD : va_D A (va_pl L_70 f_70) := p_gain hD1 hFc
    generalize H1 = H at hP hS ⊢
    refine lv_icmp_ge (tgt := 94) hx hb dX1_pushForm_73 (by decide) (fun c_73 => ?_) (fun c_73 => ?_)
    · have hw := hw.1 c_73
      exact W.vret hx hb hr (fun t ht hW => ⟨⟨(L_70, f_70), rfl, hw, by rw [ht]; exact hP, va_K.moved hW.alike hK, hD⟩, hS.F ht⟩) hS.2.2 dX1_pushForm_94
    · have hw := hw.2 c_73
      refine lv_aload_n hx hb dX1_pushForm_76 rfl (lv_at hl 0 rfl) ?_
      refine lv_aload hx hb dX1_pushForm_77 (lv_at hl 1 rfl) ?_
      refine lv_iload hx hb dX1_pushForm_79 (lv_at hl 2 rfl) ?_
      obtain ⟨hO9, hw⟩ := hw
      have hFc := p_free hD hS hA
      refine va_calli (va_runV (As := [.int a5]) (rest := [.ref a1]) ⟨hx, hb, hml, hown, hts⟩ (c_X4_at l dC dI dA zz base L_70 f_70 H.size a4 a5 _ hw) (cwV 1 hts gX1_pushForm_X4_at rfl rfl rfl (by decide +kernel) ⟨by decide, by decide⟩) (pPreV [.int a5] (ci := 5) rfl hO9 hK hP hD hS hB hz hN hT) rfl rfl hl.1 rfl (lv_room (Nat.le_of_ble_eq_true rfl)) dX1_pushForm_81 ⟨by decide, by decide⟩) hS (fun q _ h => hFc q h) hFc (fun r_81 u t H1 locs ht hvm hw hB1 hz1 hk1 hS => ?_)
      obtain ⟨L_81, f_81⟩ := u
      obtain ⟨hP, -, hD1⟩ := hB1
      rw [ht] at hP
      have hw := id hw
      have hP : va_P (dC, dI) vwCl (va_pl L_81 f_81) H1 := hP
      have hD : va_D A (va_pl L_81 f_81) := p_gain hD1 hFc
      generalize H1 = H at hP hS ⊢
      obtain ⟨hO9, hw⟩ := hw
      have hFc := p_free hD hS hA
      refine va_calli (va_runV (As := [.int r_81]) (rest := []) ⟨hx, hb, hml, hown, hts⟩ (c_X4_push l dC dI dA zz base L_81 f_81 H.size a1 r_81 _ hw) (cwV 1 hts gX1_pushForm_X4_push rfl rfl rfl (by decide +kernel) ⟨by decide, by decide⟩) (pPreV [.int r_81] (ci := 5) rfl hO9 hK hP hD hS hB hz hN hT) rfl rfl hl.1 rfl (lv_room (Nat.le_of_ble_eq_true rfl)) dX1_pushForm_84 ⟨by decide, by decide⟩) hS (fun q _ h => hFc q h) hFc (fun r_84 u t H1 locs ht hvm hw hB1 hz1 hk1 hS => ?_)
      obtain ⟨L_84, f_84⟩ := u
      obtain ⟨hP, -, hD1⟩ := hB1
      rw [ht] at hP
      have hw := id hw
      have hP : va_P (dC, dI) vwCl (va_pl L_84 f_84) H1 := hP
      have hD : va_D A (va_pl L_84 f_84) := p_gain hD1 hFc
      generalize H1 = H at hP hS ⊢
      refine lv_pop hx hb dX1_pushForm_87 rfl ?_
      obtain ⟨v5_88, ev5_88⟩ : ∃ y : Int32, y = a5 + (1 : Int32) := ⟨_, rfl⟩
      have hw := hw v5_88 ev5_88
      refine lv_iinc (v := v5_88) (lv' := [(5, .int v5_88), (1, .ref a1), (4, .ref a4)]) hx hb dX1_pushForm_88 hl (k := 2) rfl (by rw [ev5_88]; rfl) (by decide) rfl (fun ls hl => ?_)
      refine lv_goto (tgt := 66) hx hb dX1_pushForm_91 (by decide) ?_
      exact ih L_84 f_84 a1 a4 v5_88 hw H locs hP hD hS ls (lv_sub hl [1, 2, 0] rfl)
set_option maxHeartbeats 4000000 in
set_option maxRecDepth 100000 in
theorem tb_X1_pushForm_35 {p : Program} {l : Launch} {e : Env} {s : State} {m : MethodId} {below : List Frame} {meth : Method} {c : Code} {args : Array Value} {dC : Nat → ClassId} {dI : Nat → Nat → Nat} {dA : Nat → ClassId} {zz : Nat → Nat} {base : Nat} {A : Nat → Prop} {Q : List Nat → pF → Prop} (C : pCx p s m args meth c cX1_pushForm 6 none RX1 wsX1_pushForm A dC dI dA zz base) : ∀ (L : List Nat) (f : pF) (a0 : Nat) (a1 : Nat) (a3 : Int32), wp_X1_pushForm_35 dA zz Q  L f a0 a1 a3 → pAt p l e rm_X1_pushForm s m args below meth c dC dI A (MQ below (va_Qv (fun (u : List Nat × pF) => Q u.1 u.2) (pB dC dI dA A) A) args s 0 0 A) 0 0 35 6 [(0, .ref a0), (1, .ref a1), (3, .int a3)] [] L f := by
  obtain ⟨hx, hb, hml, hown, hts, hr, hlocks, hA, hK, hB, hz, hN, hT⟩ := id C
  intro L f a0 a1 a3 hw H locs hP hD hS ls hl
  rw [wp_X1_pushForm_35] at hw
  refine lv_iload_n hx hb dX1_pushForm_35 rfl (lv_at hl 2 rfl) ?_
  refine lv_if_lt (tgt := 94) hx hb dX1_pushForm_36 (by decide) (fun c_36 => ?_) (fun c_36 => ?_)
  · have hw := hw.1 c_36
    exact W.vret hx hb hr (fun t ht hW => ⟨⟨(L, f), rfl, hw, by rw [ht]; exact hP, va_K.moved hW.alike hK, hD⟩, hS.F ht⟩) hS.2.2 dX1_pushForm_94
  · have hw := hw.2 c_36
    refine lv_iload_n hx hb dX1_pushForm_39 rfl (lv_at hl 2 rfl) ?_
    refine lv_aload_n hx hb dX1_pushForm_40 rfl (lv_at hl 0 rfl) ?_
    obtain ⟨fs_41, g_41, ⟨hL9, hf9, hn9⟩, hw⟩ := hw
    refine va_get (D := (dC, dI)) (ci := 2) (v := .ref g_41) (C := RX1) (T := TX1) (N := 3) hx hb hts iw_X1_pushForm_RX1 hown hK (p_one hP hL9 hf9) 0 rfl rfl 0 (by decide) (hts _ lk_X1_pushForm_12) (fun _ h9 => h9) hn9 dX1_pushForm_41 ?_
    obtain ⟨hO9, hw⟩ := hw
    have hFc := p_free hD hS hA
    refine va_calli (va_runV (As := []) (rest := [.int a3]) ⟨hx, hb, hml, hown, hts⟩ (c_Jx4a65c_size_8abf5 l dC dI dA zz base L f H.size g_41  _ hw) (cwV 0 hts gX1_pushForm_Jx4a65c_size_8abf5 rfl rfl rfl (by decide +kernel) ⟨by decide, by decide⟩) (pPreV [] (ci := 0) rfl hO9 hK hP hD hS hB hz hN hT) rfl rfl hl.1 rfl (lv_room (Nat.le_of_ble_eq_true rfl)) dX1_pushForm_44 ⟨by decide, by decide⟩) hS (fun q _ h => hFc q h) hFc (fun r_44 u t H1 locs ht hvm hw hB1 hz1 hk1 hS => ?_)
    obtain ⟨L_44, f_44⟩ := u
    obtain ⟨hP, -, hD1⟩ := hB1
    rw [ht] at hP
    have hw := id hw
    have hP : va_P (dC, dI) vwCl (va_pl L_44 f_44) H1 := hP
    have hD : va_D A (va_pl L_44 f_44) := p_gain hD1 hFc
    generalize H1 = H at hP hS ⊢
    refine lv_icmp_ge (tgt := 94) hx hb dX1_pushForm_47 (by decide) (fun c_47 => ?_) (fun c_47 => ?_)
    · have hw := hw.1 c_47
      exact W.vret hx hb hr (fun t ht hW => ⟨⟨(L_44, f_44), rfl, hw, by rw [ht]; exact hP, va_K.moved hW.alike hK, hD⟩, hS.F ht⟩) hS.2.2 dX1_pushForm_94
    · have hw := hw.2 c_47
      refine lv_aload_n hx hb dX1_pushForm_50 rfl (lv_at hl 0 rfl) ?_
      obtain ⟨fs_51, g_51, ⟨hL9, hf9, hn9⟩, hw⟩ := hw
      refine va_get (D := (dC, dI)) (ci := 2) (v := .ref g_51) (C := RX1) (T := TX1) (N := 3) hx hb hts iw_X1_pushForm_RX1 hown hK (p_one hP hL9 hf9) 0 rfl rfl 0 (by decide) (hts _ lk_X1_pushForm_12) (fun _ h9 => h9) hn9 dX1_pushForm_51 ?_
      refine lv_iload_n hx hb dX1_pushForm_54 rfl (lv_at hl 2 rfl) ?_
      obtain ⟨hO9, hw⟩ := hw
      have hFc := p_free hD hS hA
      refine va_callr (va_runV (As := [.int a3]) (rest := []) ⟨hx, hb, hml, hown, hts⟩ (c_Jx4a65c_get_915e3 l dC dI dA zz base L_44 f_44 H.size g_51 a3 _ hw) (cwV 1 hts gX1_pushForm_Jx4a65c_get_915e3 rfl rfl rfl (by decide +kernel) ⟨by decide, by decide⟩) (pPreV [.int a3] (ci := 0) rfl hO9 hK hP hD hS hB hz hN hT) rfl rfl hl.1 rfl (lv_room (Nat.le_of_ble_eq_true rfl)) dX1_pushForm_55 ⟨by decide, by decide⟩) hS (fun q _ h => hFc q h) hFc (fun u ra t H1 locs ht hvm hw hB1 hz1 hk1 hS => ?_)
      obtain ⟨r_55, L_55, f_55⟩ := u
      obtain ⟨hra, hP, -, hD1⟩ := hB1
      rw [show ra = r_55 from hra]
      rw [ht] at hP
      have hw := id hw
      have hP : va_P (dC, dI) vwCl (va_pl L_55 f_55) H1 := hP
      have hD : va_D A (va_pl L_55 f_55) := p_gain hD1 hFc
      generalize H1 = H at hP hS ⊢
      refine W.eq (g2 := F0 m 58 ls (.ref r_55 :: [])) rfl ?_
      refine va_castS (nm := RX4) hx hb hown (hts _ lk_X1_pushForm_35) (hK.1 5 _ rfl).2 (p_recv hK hP hw.1 rfl) dX1_pushForm_58 ?_
      have hw := hw.2
      refine lv_astore (lv' := [(4, .ref r_55), (0, .ref a0), (1, .ref a1), (3, .int a3)]) hx hb dX1_pushForm_61 hl (by decide) rfl (fun ls hl => ?_)
      refine lv_iconst (v := 0) hx hb dX1_pushForm_63 (by decide) ?_
      refine lv_istore (lv' := [(5, .int (0 : Int32)), (4, .ref r_55), (0, .ref a0), (1, .ref a1), (3, .int a3)]) hx hb dX1_pushForm_64 hl (by decide) rfl (fun ls hl => ?_)
      obtain ⟨n9, hw⟩ := hw
      exact tb_X1_pushForm_66 C  n9 L_55 f_55 a1 r_55 (0 : Int32) hw H locs hP hD hS ls (lv_sub hl [3, 1, 0] rfl)
set_option maxHeartbeats 4000000 in
set_option maxRecDepth 100000 in
theorem tb_X1_pushForm_3 {p : Program} {l : Launch} {e : Env} {s : State} {m : MethodId} {below : List Frame} {meth : Method} {c : Code} {args : Array Value} {dC : Nat → ClassId} {dI : Nat → Nat → Nat} {dA : Nat → ClassId} {zz : Nat → Nat} {base : Nat} {A : Nat → Prop} {Q : List Nat → pF → Prop} (C : pCx p s m args meth c cX1_pushForm 6 none RX1 wsX1_pushForm A dC dI dA zz base) : ∀ (n : Nat) (L : List Nat) (f : pF) (a0 : Nat) (a1 : Nat) (a2 : Nat) (a3 : Int32) (a4 : Int32), wp_X1_pushForm_3 dA zz Q  n L f a0 a1 a2 a3 a4 → pAt p l e rm_X1_pushForm s m args below meth c dC dI A (MQ below (va_Qv (fun (u : List Nat × pF) => Q u.1 u.2) (pB dC dI dA A) A) args s 0 0 A) 0 0 3 6 [(0, .ref a0), (1, .ref a1), (2, .ref a2), (3, .int a3), (4, .int a4)] [] L f := by
  obtain ⟨hx, hb, hml, hown, hts, hr, hlocks, hA, hK, hB, hz, hN, hT⟩ := id C
  intro n
  induction n with
  | zero => intro L f a0 a1 a2 a3 a4 hw; exact hw.elim
  | succ n ih =>
    intro L f a0 a1 a2 a3 a4 hw H locs hP hD hS ls hl
    rw [wp_X1_pushForm_3] at hw
    refine lv_iload hx hb dX1_pushForm_3 (lv_at hl 4 rfl) ?_
    refine lv_aload_n hx hb dX1_pushForm_5 rfl (lv_at hl 2 rfl) ?_
    obtain ⟨fs_6, g_6, ⟨hL9, hf9, hn9⟩, hw⟩ := hw
    refine va_get (D := (dC, dI)) (ci := 6) (v := .ref g_6) (C := RX5) (T := TX5) (N := 5) hx hb hts iw_X1_pushForm_RX5 hown hK (p_one hP hL9 hf9) 0 rfl rfl 0 (by decide) (hts _ lk_X1_pushForm_76) (fun _ h9 => h9) hn9 dX1_pushForm_6 ?_
    obtain ⟨hO9, hw⟩ := hw
    have hFc := p_free hD hS hA
    refine va_calli (va_runV (As := []) (rest := [.int a4]) ⟨hx, hb, hml, hown, hts⟩ (c_X4_size l dC dI dA zz base L f H.size g_6  _ hw) (cwV 0 hts gX1_pushForm_X4_size rfl rfl rfl (by decide +kernel) ⟨by decide, by decide⟩) (pPreV [] (ci := 5) rfl hO9 hK hP hD hS hB hz hN hT) rfl rfl hl.1 rfl (lv_room (Nat.le_of_ble_eq_true rfl)) dX1_pushForm_9 ⟨by decide, by decide⟩) hS (fun q _ h => hFc q h) hFc (fun r_9 u t H1 locs ht hvm hw hB1 hz1 hk1 hS => ?_)
    obtain ⟨L_9, f_9⟩ := u
    obtain ⟨hP, -, hD1⟩ := hB1
    rw [ht] at hP
    have hw := id hw
    have hP : va_P (dC, dI) vwCl (va_pl L_9 f_9) H1 := hP
    have hD : va_D A (va_pl L_9 f_9) := p_gain hD1 hFc
    generalize H1 = H at hP hS ⊢
    refine lv_icmp_ge (tgt := 35) hx hb dX1_pushForm_12 (by decide) (fun c_12 => ?_) (fun c_12 => ?_)
    · have hw := hw.1 c_12
      exact tb_X1_pushForm_35 C  L_9 f_9 a0 a1 a3 hw H locs hP hD hS ls (lv_sub hl [0, 1, 3] rfl)
    · have hw := hw.2 c_12
      refine lv_aload_n hx hb dX1_pushForm_15 rfl (lv_at hl 1 rfl) ?_
      refine lv_aload_n hx hb dX1_pushForm_16 rfl (lv_at hl 2 rfl) ?_
      obtain ⟨fs_17, g_17, ⟨hL9, hf9, hn9⟩, hw⟩ := hw
      refine va_get (D := (dC, dI)) (ci := 6) (v := .ref g_17) (C := RX5) (T := TX5) (N := 5) hx hb hts iw_X1_pushForm_RX5 hown hK (p_one hP hL9 hf9) 0 rfl rfl 0 (by decide) (hts _ lk_X1_pushForm_76) (fun _ h9 => h9) hn9 dX1_pushForm_17 ?_
      refine lv_iload hx hb dX1_pushForm_20 (lv_at hl 4 rfl) ?_
      obtain ⟨hO9, hw⟩ := hw
      have hFc := p_free hD hS hA
      refine va_calli (va_runV (As := [.int a4]) (rest := [.ref a1]) ⟨hx, hb, hml, hown, hts⟩ (c_X4_at l dC dI dA zz base L_9 f_9 H.size g_17 a4 _ hw) (cwV 1 hts gX1_pushForm_X4_at rfl rfl rfl (by decide +kernel) ⟨by decide, by decide⟩) (pPreV [.int a4] (ci := 5) rfl hO9 hK hP hD hS hB hz hN hT) rfl rfl hl.1 rfl (lv_room (Nat.le_of_ble_eq_true rfl)) dX1_pushForm_22 ⟨by decide, by decide⟩) hS (fun q _ h => hFc q h) hFc (fun r_22 u t H1 locs ht hvm hw hB1 hz1 hk1 hS => ?_)
      obtain ⟨L_22, f_22⟩ := u
      obtain ⟨hP, -, hD1⟩ := hB1
      rw [ht] at hP
      have hw := id hw
      have hP : va_P (dC, dI) vwCl (va_pl L_22 f_22) H1 := hP
      have hD : va_D A (va_pl L_22 f_22) := p_gain hD1 hFc
      generalize H1 = H at hP hS ⊢
      obtain ⟨hO9, hw⟩ := hw
      have hFc := p_free hD hS hA
      refine va_calli (va_runV (As := [.int r_22]) (rest := []) ⟨hx, hb, hml, hown, hts⟩ (c_X4_push l dC dI dA zz base L_22 f_22 H.size a1 r_22 _ hw) (cwV 1 hts gX1_pushForm_X4_push rfl rfl rfl (by decide +kernel) ⟨by decide, by decide⟩) (pPreV [.int r_22] (ci := 5) rfl hO9 hK hP hD hS hB hz hN hT) rfl rfl hl.1 rfl (lv_room (Nat.le_of_ble_eq_true rfl)) dX1_pushForm_25 ⟨by decide, by decide⟩) hS (fun q _ h => hFc q h) hFc (fun r_25 u t H1 locs ht hvm hw hB1 hz1 hk1 hS => ?_)
      obtain ⟨L_25, f_25⟩ := u
      obtain ⟨hP, -, hD1⟩ := hB1
      rw [ht] at hP
      have hw := id hw
      have hP : va_P (dC, dI) vwCl (va_pl L_25 f_25) H1 := hP
      have hD : va_D A (va_pl L_25 f_25) := p_gain hD1 hFc
      generalize H1 = H at hP hS ⊢
      refine lv_pop hx hb dX1_pushForm_28 rfl ?_
      obtain ⟨v4_29, ev4_29⟩ : ∃ y : Int32, y = a4 + (1 : Int32) := ⟨_, rfl⟩
      have hw := hw v4_29 ev4_29
      refine lv_iinc (v := v4_29) (lv' := [(4, .int v4_29), (0, .ref a0), (1, .ref a1), (2, .ref a2), (3, .int a3)]) hx hb dX1_pushForm_29 hl (k := 4) rfl (by rw [ev4_29]; rfl) (by decide) rfl (fun ls hl => ?_)
      refine lv_goto (tgt := 3) hx hb dX1_pushForm_32 (by decide) ?_
      exact ih L_25 f_25 a0 a1 a2 a3 v4_29 hw H locs hP hD hS ls (lv_sub hl [1, 2, 3, 4, 0] rfl)
set_option maxHeartbeats 4000000 in
set_option maxRecDepth 100000 in
theorem tb_X1_pushForm_0 {p : Program} {l : Launch} {e : Env} {s : State} {m : MethodId} {below : List Frame} {meth : Method} {c : Code} {args : Array Value} {dC : Nat → ClassId} {dI : Nat → Nat → Nat} {dA : Nat → ClassId} {zz : Nat → Nat} {base : Nat} {A : Nat → Prop} {Q : List Nat → pF → Prop} (C : pCx p s m args meth c cX1_pushForm 6 none RX1 wsX1_pushForm A dC dI dA zz base) : ∀ (L : List Nat) (f : pF) (a0 : Nat) (a1 : Nat) (a2 : Nat) (a3 : Int32), wp_X1_pushForm_0 dA zz Q  L f a0 a1 a2 a3 → pAt p l e rm_X1_pushForm s m args below meth c dC dI A (MQ below (va_Qv (fun (u : List Nat × pF) => Q u.1 u.2) (pB dC dI dA A) A) args s 0 0 A) 0 0 0 6 [(0, .ref a0), (1, .ref a1), (2, .ref a2), (3, .int a3)] [] L f := by
  obtain ⟨hx, hb, hml, hown, hts, hr, hlocks, hA, hK, hB, hz, hN, hT⟩ := id C
  intro L f a0 a1 a2 a3 hw H locs hP hD hS ls hl
  rw [wp_X1_pushForm_0] at hw
  refine lv_iconst (v := 0) hx hb dX1_pushForm_0 (by decide) ?_
  refine lv_istore (lv' := [(4, .int (0 : Int32)), (0, .ref a0), (1, .ref a1), (2, .ref a2), (3, .int a3)]) hx hb dX1_pushForm_1 hl (by decide) rfl (fun ls hl => ?_)
  obtain ⟨n9, hw⟩ := hw
  exact tb_X1_pushForm_3 C  n9 L f a0 a1 a2 a3 (0 : Int32) hw H locs hP hD hS ls (lv_sub hl [1, 2, 3, 4, 0] rfl)
set_option maxHeartbeats 4000000 in
set_option maxRecDepth 100000 in
theorem c_X1_pushForm (l : Launch) (dC : Nat → ClassId) (dI : Nat → Nat → Nat) (dA : Nat → ClassId) (zz : Nat → Nat) (base : Nat) (L : List Nat) (f : pF) (sz : Nat) (a0 : Nat) (a1 : Nat) (a2 : Nat) (a3 : Int32) (Q : List Nat → pF → Prop) (hw : wp_X1_pushForm_0 dA zz Q L f a0 a1 a2 a3) : Met l yX1_pushForm wsX1_pushForm rm_X1_pushForm (va_Pc [.ref a0, .ref a1, .ref a2, .int a3] (pPre dC dI dA zz base L f sz)) (va_Qv (fun (u : List Nat × pF) => Q u.1 u.2) (pB dC dI dA (va_A (va_pl L f) sz)) (va_A (va_pl L f) sz)) 0 0 (va_A (va_pl L f) sz) := by
  refine Met.ofW (cc := cX1_pushForm) (maxL := 6) (ret := none) (by decide) rfl ?_
  intro p e s m args below meth c s₁ B hml hv
  obtain ⟨rfl, hsz, hP, hK, hD0, hz, hN, hT⟩ := hv
  subst hsz
  have hl := lv_entry ([.ref a0, .ref a1, .ref a2, .int a3]) (n := 6) (Nat.le_of_ble_eq_true rfl)
  rw [lg_entry_eq]
  generalize (lg_sl ([.ref a0, .ref a1, .ref a2, .int a3]) ++ List.replicate (6 - (lg_sl ([.ref a0, .ref a1, .ref a2, .int a3])).length) Slot.unset).toArray = ls at hl ⊢
  exact tb_X1_pushForm_0 (Q := Q) (p := p) ⟨B.exec, B.bytes, hml, findClass_of_methodNamed B.named, atoms_spec (ws := wsX1_pushForm) B.pre, B.returns, B.notSynchronized, fun q h => Or.inr h, hK, pAB hD0 hz, hz, hN, hT⟩ L f a0 a1 a2 a3 hw s.heap [] hP (hD0.self (sz := s.heap.size)) va_S.rf ls (lv_sub hl [0, 1, 2, 3] rfl)
