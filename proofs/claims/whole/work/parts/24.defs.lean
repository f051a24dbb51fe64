theorem iw_X5_init_RX5 : ∀ w ∈ u_ws RX5 TX5 5, w ∈ wsX5_init := by decide +kernel
theorem lk_X5_init_13 : Cond.fieldLink RX5 13 "TermKeeper$Term" "words" "I" ∈ wsX5_init := by decide +kernel
theorem lk_X5_init_17 : Cond.fieldLink RX5 17 "TermKeeper$Term" "thing" "I" ∈ wsX5_init := by decide +kernel
theorem lk_X5_init_20 : Cond.fieldLink RX5 20 "TermKeeper$Term" "kind" "I" ∈ wsX5_init := by decide +kernel
theorem lk_X5_init_23 : Cond.fieldLink RX5 23 "TermKeeper$Term" "classes" "I" ∈ wsX5_init := by decide +kernel
theorem lk_X5_init_7 : Cond.fieldLink RX5 7 "TermKeeper$Term" "row" "LTermKeeper$Row;" ∈ wsX5_init := by decide +kernel
theorem lo1_X5_init : Cond.instanceMethod objectInit ∈ wsX5_init := by decide +kernel
theorem lo2_X5_init : Cond.code objectInit ⟨#[0xb1]⟩ 1 none ∈ wsX5_init := by decide +kernel
theorem lm_X5_init_1 : Cond.methodLink RX5 1 objectInit ∈ wsX5_init := by decide +kernel
abbrev rm_X5_init : Room := { frames := 1, cells := 0, slots := 0, locals := 12 }
def wp_X5_init_0 (dA : Nat → ClassId) (zz : Nat → Nat) (Q : List Nat → pF → Prop) (L : List Nat) (f : pF) (a0 : Nat) (a1 : Nat) (a2 : Int32) (a3 : Int32) (a4 : Int32) (a5 : Int32) : Prop :=
    (gP L f 6 a0 0 (.ref a1) (fun f_6 =>
      (gP L f_6 6 a0 1 (.int a2) (fun f_11 =>
        (gP L f_11 6 a0 2 (.int a3) (fun f_16 =>
          (gP L f_16 6 a0 4 (.int a4) (fun f_22 =>
            (gP L f_22 6 a0 3 (.int a5) (fun f_28 =>
              (Q L f_28)))))))))))
set_option maxHeartbeats 4000000 in
set_option maxRecDepth 100000 in
theorem tb_X5_init_0 {p : Program} {l : Launch} {e : Env} {s : State} {m : MethodId} {below : List Frame} {meth : Method} {c : Code} {args : Array Value} {dC : Nat → ClassId} {dI : Nat → Nat → Nat} {dA : Nat → ClassId} {zz : Nat → Nat} {base : Nat} {A : Nat → Prop} {Q : List Nat → pF → Prop} (C : pCx p s m args meth c cX5_init 6 none RX5 wsX5_init A dC dI dA zz base ∧ meth.name = "<init>") : ∀ (L : List Nat) (f : pF) (a0 : Nat) (a1 : Nat) (a2 : Int32) (a3 : Int32) (a4 : Int32) (a5 : Int32), wp_X5_init_0 dA zz Q  L f a0 a1 a2 a3 a4 a5 → pAt p l e rm_X5_init s m args below meth c dC dI A (MQ below (va_Qv (fun (u : List Nat × pF) => Q u.1 u.2) (pB dC dI dA A) A) args s 0 0 A) 0 0 0 6 [(0, .ref a0), (1, .ref a1), (2, .int a2), (3, .int a3), (4, .int a4), (5, .int a5)] [] L f := by
  obtain ⟨⟨hx, hb, hml, hown, hts, hr, hlocks, hA, hK, hB, hz, hN, hT⟩, hin⟩ := id C
  intro L f a0 a1 a2 a3 a4 a5 hw H locs hP hD hS ls hl
  rw [wp_X5_init_0] at hw
  refine lv_aload_n hx hb dX5_init_0 rfl (lv_at hl 0 rfl) ?_
  refine W.objInit hx hb hown (hts _ lm_X5_init_1) (hts _ lo1_X5_init) (hts _ lo2_X5_init) rfl (by rw [hml]; exact hl.1) rfl dX5_init_1 (Nat.le_of_ble_eq_true rfl) (Nat.le_of_ble_eq_true rfl) ?_
  refine W.eq (g2 := F0 m 4 ls []) rfl ?_
  refine lv_aload_n hx hb dX5_init_4 rfl (lv_at hl 0 rfl) ?_
  refine lv_aload_n hx hb dX5_init_5 rfl (lv_at hl 1 rfl) ?_
  obtain ⟨fs_6, ⟨hL9, hf9, hn9⟩, hw⟩ := hw
  obtain ⟨kq9, hkq9⟩ := p_at hL9 hf9
  refine va_putF (D := (dC, dI)) (ci := 6) (v := .ref a1) (C := RX5) (T := TX5) (N := 5) hx hb hts iw_X5_init_RX5 tyX5 tyX5_ok nmX5 hown hK hP hD hS kq9 hkq9 rfl 0 (by decide) (hts _ lk_X5_init_7) (fun _ h9 => h9) rfl hin rfl (tyX5_ok 0 (by decide)) rfl rfl hn9 dX5_init_6 (fun H locs hP2 hD2 hS => ?_)
  rw [p_set hD hL9 hf9 hkq9] at hP2 hD2
  obtain ⟨f_6, ef_6⟩ : ∃ y : pF, y = va_up f a0 (.inr (6, fs_6.set 0 (.ref a1))) := ⟨_, rfl⟩
  rw [← ef_6] at hP2 hD2
  have hw := hw f_6 ef_6
  have hP := hP2
  have hD := hD2
  refine lv_aload_n hx hb dX5_init_9 rfl (lv_at hl 0 rfl) ?_
  refine lv_iload_n hx hb dX5_init_10 rfl (lv_at hl 2 rfl) ?_
  obtain ⟨fs_11, ⟨hL9, hf9, hn9⟩, hw⟩ := hw
  obtain ⟨kq9, hkq9⟩ := p_at hL9 hf9
  refine va_putF (D := (dC, dI)) (ci := 6) (v := .int a2) (C := RX5) (T := TX5) (N := 5) hx hb hts iw_X5_init_RX5 tyX5 tyX5_ok nmX5 hown hK hP hD hS kq9 hkq9 rfl 1 (by decide) (hts _ lk_X5_init_13) (fun _ h9 => h9) rfl hin rfl (tyX5_ok 1 (by decide)) rfl rfl hn9 dX5_init_11 (fun H locs hP2 hD2 hS => ?_)
  rw [p_set hD hL9 hf9 hkq9] at hP2 hD2
  obtain ⟨f_11, ef_11⟩ : ∃ y : pF, y = va_up f_6 a0 (.inr (6, fs_11.set 1 (.int a2))) := ⟨_, rfl⟩
  rw [← ef_11] at hP2 hD2
  have hw := hw f_11 ef_11
  have hP := hP2
  have hD := hD2
  refine lv_aload_n hx hb dX5_init_14 rfl (lv_at hl 0 rfl) ?_
  refine lv_iload_n hx hb dX5_init_15 rfl (lv_at hl 3 rfl) ?_
  obtain ⟨fs_16, ⟨hL9, hf9, hn9⟩, hw⟩ := hw
  obtain ⟨kq9, hkq9⟩ := p_at hL9 hf9
  refine va_putF (D := (dC, dI)) (ci := 6) (v := .int a3) (C := RX5) (T := TX5) (N := 5) hx hb hts iw_X5_init_RX5 tyX5 tyX5_ok nmX5 hown hK hP hD hS kq9 hkq9 rfl 2 (by decide) (hts _ lk_X5_init_17) (fun _ h9 => h9) rfl hin rfl (tyX5_ok 2 (by decide)) rfl rfl hn9 dX5_init_16 (fun H locs hP2 hD2 hS => ?_)
  rw [p_set hD hL9 hf9 hkq9] at hP2 hD2
  obtain ⟨f_16, ef_16⟩ : ∃ y : pF, y = va_up f_11 a0 (.inr (6, fs_16.set 2 (.int a3))) := ⟨_, rfl⟩
  rw [← ef_16] at hP2 hD2
  have hw := hw f_16 ef_16
  have hP := hP2
  have hD := hD2
  refine lv_aload_n hx hb dX5_init_19 rfl (lv_at hl 0 rfl) ?_
  refine lv_iload hx hb dX5_init_20 (lv_at hl 4 rfl) ?_
  obtain ⟨fs_22, ⟨hL9, hf9, hn9⟩, hw⟩ := hw
  obtain ⟨kq9, hkq9⟩ := p_at hL9 hf9
  refine va_put (D := (dC, dI)) (ci := 6) (v := .int a4) (C := RX5) (T := TX5) (N := 5) hx hb hts iw_X5_init_RX5 tyX5 tyX5_ok nmX5 hown hK hP hD hS kq9 hkq9 rfl 4 (by decide) (hts _ lk_X5_init_20) (fun _ h9 => h9) rfl (tyX5_ok 4 (by decide)) rfl rfl hn9 dX5_init_22 (fun H locs hP2 hD2 hS => ?_)
  rw [p_set hD hL9 hf9 hkq9] at hP2 hD2
  obtain ⟨f_22, ef_22⟩ : ∃ y : pF, y = va_up f_16 a0 (.inr (6, fs_22.set 4 (.int a4))) := ⟨_, rfl⟩
  rw [← ef_22] at hP2 hD2
  have hw := hw f_22 ef_22
  have hP := hP2
  have hD := hD2
  refine lv_aload_n hx hb dX5_init_25 rfl (lv_at hl 0 rfl) ?_
  refine lv_iload hx hb dX5_init_26 (lv_at hl 5 rfl) ?_
  obtain ⟨fs_28, ⟨hL9, hf9, hn9⟩, hw⟩ := hw
  obtain ⟨kq9, hkq9⟩ := p_at hL9 hf9
  refine va_putF (D := (dC, dI)) (ci := 6) (v := .int a5) (C := RX5) (T := TX5) (N := 5) hx hb hts iw_X5_init_RX5 tyX5 tyX5_ok nmX5 hown hK hP hD hS kq9 hkq9 rfl 3 (by decide) (hts _ lk_X5_init_23) (fun _ h9 => h9) rfl hin rfl (tyX5_ok 3 (by decide)) rfl rfl hn9 dX5_init_28 (fun H locs hP2 hD2 hS => ?_)
  rw [p_set hD hL9 hf9 hkq9] at hP2 hD2
  obtain ⟨f_28, ef_28⟩ : ∃ y : pF, y = va_up f_22 a0 (.inr (6, fs_28.set 3 (.int a5))) := ⟨_, rfl⟩
  rw [← ef_28] at hP2 hD2
  have hw := hw f_28 ef_28
  have hP := hP2
  have hD := hD2
  exact W.vret hx hb hr (fun t ht hW => ⟨⟨(L, f_28), rfl, hw, by rw [ht]; exact hP, va_K.moved hW.alike hK, hD⟩, hS.F ht⟩) hS.2.2 dX5_init_31
set_option maxHeartbeats 4000000 in
set_option maxRecDepth 100000 in
theorem c_X5_init (l : Launch) (dC : Nat → ClassId) (dI : Nat → Nat → Nat) (dA : Nat → ClassId) (zz : Nat → Nat) (base : Nat) (L : List Nat) (f : pF) (sz : Nat) (a0 : Nat) (a1 : Nat) (a2 : Int32) (a3 : Int32) (a4 : Int32) (a5 : Int32) (Q : List Nat → pF → Prop) (hw : wp_X5_init_0 dA zz Q L f a0 a1 a2 a3 a4 a5) : Met l yX5_init wsX5_init rm_X5_init (va_Pc [.ref a0, .ref a1, .int a2, .int a3, .int a4, .int a5] (pPre dC dI dA zz base L f sz)) (va_Qv (fun (u : List Nat × pF) => Q u.1 u.2) (pB dC dI dA (va_A (va_pl L f) sz)) (va_A (va_pl L f) sz)) 0 0 (va_A (va_pl L f) sz) := by
  refine Met.ofW (cc := cX5_init) (maxL := 6) (ret := none) (by decide) rfl ?_
  intro p e s m args below meth c s₁ B hml hv
  obtain ⟨rfl, hsz, hP, hK, hD0, hz, hN, hT⟩ := hv
  subst hsz
  have hl := lv_entry ([.ref a0, .ref a1, .int a2, .int a3, .int a4, .int a5]) (n := 6) (Nat.le_of_ble_eq_true rfl)
  rw [lg_entry_eq]
  generalize (lg_sl ([.ref a0, .ref a1, .int a2, .int a3, .int a4, .int a5]) ++ List.replicate (6 - (lg_sl ([.ref a0, .ref a1, .int a2, .int a3, .int a4, .int a5])).length) Slot.unset).toArray = ls at hl ⊢
  exact tb_X5_init_0 (Q := Q) (p := p) ⟨⟨B.exec, B.bytes, hml, findClass_of_methodNamed B.named, atoms_spec (ws := wsX5_init) B.pre, B.returns, B.notSynchronized, fun q h => Or.inr h, hK, pAB hD0 hz, hz, hN, hT⟩, (name_of_methodNamed B.named B.method).1⟩ L f a0 a1 a2 a3 a4 a5 hw s.heap [] hP (hD0.self (sz := s.heap.size)) va_S.rf ls (lv_sub hl [0, 1, 2, 3, 4, 5] rfl)
theorem iw_X5_letters_RX5 : ∀ w ∈ u_ws RX5 TX5 5, w ∈ wsX5_letters := by decide +kernel
theorem lk_X5_letters_13 : Cond.fieldLink RX5 13 "TermKeeper$Term" "words" "I" ∈ wsX5_letters := by decide +kernel
theorem lk_X5_letters_7 : Cond.fieldLink RX5 7 "TermKeeper$Term" "row" "LTermKeeper$Row;" ∈ wsX5_letters := by decide +kernel
abbrev rm_X5_letters : Room := { frames := 1, cells := 0, slots := 0, locals := 20 }
def wp_X5_letters_0 (dA : Nat → ClassId) (zz : Nat → Nat) (Q : Int32 → List Nat → pF → Prop) (L : List Nat) (f : pF) (a0 : Nat) : Prop :=
    (gR L f 6 a0 0 (fun g_1 =>
      (isO L f 5 g_1 ∧
        (wp_X4_size_0 dA zz (fun r_4 L_4 f_4 =>
          (gI L_4 f_4 6 a0 1 (fun g_8 =>
            (Q (r_4 - (g_8 - (1 : Int32))) L_4 f_4)))) L f g_1 ))))
set_option maxHeartbeats 4000000 in
set_option maxRecDepth 100000 in
theorem tb_X5_letters_0 {p : Program} {l : Launch} {e : Env} {s : State} {m : MethodId} {below : List Frame} {meth : Method} {c : Code} {args : Array Value} {dC : Nat → ClassId} {dI : Nat → Nat → Nat} {dA : Nat → ClassId} {zz : Nat → Nat} {base : Nat} {A : Nat → Prop} {Q : Int32 → List Nat → pF → Prop} (C : pCx p s m args meth c cX5_letters 1 (some .int) RX5 wsX5_letters A dC dI dA zz base) : ∀ (L : List Nat) (f : pF) (a0 : Nat), wp_X5_letters_0 dA zz Q  L f a0 → pAt p l e rm_X5_letters s m args below meth c dC dI A (MQ below (va_Qi (fun r (u : List Nat × pF) => Q r u.1 u.2) (pB dC dI dA A) A) args s 0 0 A) 0 0 0 1 [(0, .ref a0)] [] L f := by
  obtain ⟨hx, hb, hml, hown, hts, hr, hlocks, hA, hK, hB, hz, hN, hT⟩ := id C
  intro L f a0 hw H locs hP hD hS ls hl
  rw [wp_X5_letters_0] at hw
  refine lv_aload_n hx hb dX5_letters_0 rfl (lv_at hl 0 rfl) ?_
  obtain ⟨fs_1, g_1, ⟨hL9, hf9, hn9⟩, hw⟩ := hw
  refine va_get (D := (dC, dI)) (ci := 6) (v := .ref g_1) (C := RX5) (T := TX5) (N := 5) hx hb hts iw_X5_letters_RX5 hown hK (p_one hP hL9 hf9) 0 rfl rfl 0 (by decide) (hts _ lk_X5_letters_7) (fun _ h9 => h9) hn9 dX5_letters_1 ?_
  obtain ⟨hO9, hw⟩ := hw
  have hFc := p_free hD hS hA
  refine va_calli (va_runV (As := []) (rest := []) ⟨hx, hb, hml, hown, hts⟩ (c_X4_size l dC dI dA zz base L f H.size g_1  _ hw) (cwV 0 hts gX5_letters_X4_size rfl rfl rfl (by decide +kernel) ⟨by decide, by decide⟩) (pPreV [] (ci := 5) rfl hO9 hK hP hD hS hB hz hN hT) rfl rfl hl.1 rfl (lv_room (Nat.le_of_ble_eq_true rfl)) dX5_letters_4 ⟨by decide, by decide⟩) hS (fun q _ h => hFc q h) hFc (fun r_4 u t H1 locs ht hvm hw hB1 hz1 hk1 hS => ?_)
  obtain ⟨L_4, f_4⟩ := u
  obtain ⟨hP, -, hD1⟩ := hB1
  rw [ht] at hP
  have hw := id hw
  have hP : va_P (dC, dI) vwCl (va_pl L_4 f_4) H1 := hP
  have hD : va_D A (va_pl L_4 f_4) := p_gain hD1 hFc
  generalize H1 = H at hP hS ⊢
  refine lv_aload_n hx hb dX5_letters_7 rfl (lv_at hl 0 rfl) ?_
  obtain ⟨fs_8, g_8, ⟨hL9, hf9, hn9⟩, hw⟩ := hw
  refine va_get (D := (dC, dI)) (ci := 6) (v := .int g_8) (C := RX5) (T := TX5) (N := 5) hx hb hts iw_X5_letters_RX5 hown hK (p_one hP hL9 hf9) 0 rfl rfl 1 (by decide) (hts _ lk_X5_letters_13) (fun _ h9 => h9) hn9 dX5_letters_8 ?_
  refine lv_iconst (v := 1) hx hb dX5_letters_11 (by decide) ?_
  refine lv_isub hx hb dX5_letters_12 ?_
  refine lv_isub hx hb dX5_letters_13 ?_
  exact W.iret (v := (r_4 - (g_8 - (1 : Int32)))) hx hb hr (fun t ht hW => ⟨⟨(r_4 - (g_8 - (1 : Int32))), (L_4, f_4), rfl, hw, by rw [ht]; exact hP, va_K.moved hW.alike hK, hD⟩, hS.F ht⟩) hS.2.2 dX5_letters_14
set_option maxHeartbeats 4000000 in
set_option maxRecDepth 100000 in
theorem c_X5_letters (l : Launch) (dC : Nat → ClassId) (dI : Nat → Nat → Nat) (dA : Nat → ClassId) (zz : Nat → Nat) (base : Nat) (L : List Nat) (f : pF) (sz : Nat) (a0 : Nat) (Q : Int32 → List Nat → pF → Prop) (hw : wp_X5_letters_0 dA zz Q L f a0) : Met l yX5_letters wsX5_letters rm_X5_letters (va_Pc [.ref a0] (pPre dC dI dA zz base L f sz)) (va_Qi (fun r (u : List Nat × pF) => Q r u.1 u.2) (pB dC dI dA (va_A (va_pl L f) sz)) (va_A (va_pl L f) sz)) 0 0 (va_A (va_pl L f) sz) := by
  refine Met.ofW (cc := cX5_letters) (maxL := 1) (ret := (some .int)) (by decide) rfl ?_
  intro p e s m args below meth c s₁ B hml hv
  obtain ⟨rfl, hsz, hP, hK, hD0, hz, hN, hT⟩ := hv
  subst hsz
  have hl := lv_entry ([.ref a0]) (n := 1) (Nat.le_of_ble_eq_true rfl)
  rw [lg_entry_eq]
  generalize (lg_sl ([.ref a0]) ++ List.replicate (1 - (lg_sl ([.ref a0])).length) Slot.unset).toArray = ls at hl ⊢
  exact tb_X5_letters_0 (Q := Q) (p := p) ⟨B.exec, B.bytes, hml, findClass_of_methodNamed B.named, atoms_spec (ws := wsX5_letters) B.pre, B.returns, B.notSynchronized, fun q h => Or.inr h, hK, pAB hD0 hz, hz, hN, hT⟩ L f a0 hw s.heap [] hP (hD0.self (sz := s.heap.size)) va_S.rf ls (lv_sub hl [0] rfl)
theorem iw_X5_takesEnding_RX5 : ∀ w ∈ u_ws RX5 TX5 5, w ∈ wsX5_takesEnding := by decide +kernel
theorem lk_X5_takesEnding_23 : Cond.fieldLink RX5 23 "TermKeeper$Term" "classes" "I" ∈ wsX5_takesEnding := by decide +kernel
abbrev rm_X5_takesEnding : Room := { frames := 0, cells := 0, slots := 0, locals := 0 }
def wp_X5_takesEnding_0 (dA : Nat → ClassId) (zz : Nat → Nat) (Q : Int32 → List Nat → pF → Prop) (L : List Nat) (f : pF) (a0 : Nat) (a1 : Int32) : Prop :=
    (gI L f 6 a0 3 (fun g_1 =>
      ((((g_1 >>> (a1 &&& 31)) &&& (1 : Int32)) = 0 →
        (Q (0 : Int32) L f))
       ∧ (¬ ((g_1 >>> (a1 &&& 31)) &&& (1 : Int32)) = 0 →
        (Q (1 : Int32) L f)))))
set_option maxHeartbeats 4000000 in
set_option maxRecDepth 100000 in
theorem tb_X5_takesEnding_0 {p : Program} {l : Launch} {e : Env} {s : State} {m : MethodId} {below : List Frame} {meth : Method} {c : Code} {args : Array Value} {dC : Nat → ClassId} {dI : Nat → Nat → Nat} {dA : Nat → ClassId} {zz : Nat → Nat} {base : Nat} {A : Nat → Prop} {Q : Int32 → List Nat → pF → Prop} (C : pCx p s m args meth c cX5_takesEnding 2 (some .boolean) RX5 wsX5_takesEnding A dC dI dA zz base) : ∀ (L : List Nat) (f : pF) (a0 : Nat) (a1 : Int32), wp_X5_takesEnding_0 dA zz Q  L f a0 a1 → pAt p l e rm_X5_takesEnding s m args below meth c dC dI A (MQ below (va_Qi (fun r (u : List Nat × pF) => Q r u.1 u.2) (pB dC dI dA A) A) args s 0 0 A) 0 0 0 2 [(0, .ref a0), (1, .int a1)] [] L f := by
  obtain ⟨hx, hb, hml, hown, hts, hr, hlocks, hA, hK, hB, hz, hN, hT⟩ := id C
  intro L f a0 a1 hw H locs hP hD hS ls hl
  rw [wp_X5_takesEnding_0] at hw
  refine lv_aload_n hx hb dX5_takesEnding_0 rfl (lv_at hl 0 rfl) ?_
  obtain ⟨fs_1, g_1, ⟨hL9, hf9, hn9⟩, hw⟩ := hw
  refine va_get (D := (dC, dI)) (ci := 6) (v := .int g_1) (C := RX5) (T := TX5) (N := 5) hx hb hts iw_X5_takesEnding_RX5 hown hK (p_one hP hL9 hf9) 0 rfl rfl 3 (by decide) (hts _ lk_X5_takesEnding_23) (fun _ h9 => h9) hn9 dX5_takesEnding_1 ?_
  refine lv_iload_n hx hb dX5_takesEnding_4 rfl (lv_at hl 1 rfl) ?_
  refine lv_ishr hx hb dX5_takesEnding_5 ?_
  refine lv_iconst (v := 1) hx hb dX5_takesEnding_6 (by decide) ?_
  refine lv_iand hx hb dX5_takesEnding_7 ?_
  refine lv_if_eq (tgt := 15) hx hb dX5_takesEnding_8 (by decide) (fun c_8 => ?_) (fun c_8 => ?_)
  · have hw := hw.1 c_8
    refine lv_iconst (v := 0) hx hb dX5_takesEnding_15 (by decide) ?_
    exact W.zret (v := (0 : Int32)) hx hb hr rfl (fun t ht hW => ⟨⟨(0 : Int32), (L, f), rfl, hw, by rw [ht]; exact hP, va_K.moved hW.alike hK, hD⟩, hS.F ht⟩) hS.2.2 dX5_takesEnding_16
  · have hw := hw.2 c_8
    refine lv_iconst (v := 1) hx hb dX5_takesEnding_11 (by decide) ?_
    refine lv_goto (tgt := 16) hx hb dX5_takesEnding_12 (by decide) ?_
    exact W.zret (v := (1 : Int32)) hx hb hr rfl (fun t ht hW => ⟨⟨(1 : Int32), (L, f), rfl, hw, by rw [ht]; exact hP, va_K.moved hW.alike hK, hD⟩, hS.F ht⟩) hS.2.2 dX5_takesEnding_16
set_option maxHeartbeats 4000000 in
set_option maxRecDepth 100000 in
theorem c_X5_takesEnding (l : Launch) (dC : Nat → ClassId) (dI : Nat → Nat → Nat) (dA : Nat → ClassId) (zz : Nat → Nat) (base : Nat) (L : List Nat) (f : pF) (sz : Nat) (a0 : Nat) (a1 : Int32) (Q : Int32 → List Nat → pF → Prop) (hw : wp_X5_takesEnding_0 dA zz Q L f a0 a1) : Met l yX5_takesEnding wsX5_takesEnding rm_X5_takesEnding (va_Pc [.ref a0, .int a1] (pPre dC dI dA zz base L f sz)) (va_Qi (fun r (u : List Nat × pF) => Q r u.1 u.2) (pB dC dI dA (va_A (va_pl L f) sz)) (va_A (va_pl L f) sz)) 0 0 (va_A (va_pl L f) sz) := by
  refine Met.ofW (cc := cX5_takesEnding) (maxL := 2) (ret := (some .boolean)) (by decide) rfl ?_
  intro p e s m args below meth c s₁ B hml hv
  obtain ⟨rfl, hsz, hP, hK, hD0, hz, hN, hT⟩ := hv
  subst hsz
  have hl := lv_entry ([.ref a0, .int a1]) (n := 2) (Nat.le_of_ble_eq_true rfl)
  rw [lg_entry_eq]
  generalize (lg_sl ([.ref a0, .int a1]) ++ List.replicate (2 - (lg_sl ([.ref a0, .int a1])).length) Slot.unset).toArray = ls at hl ⊢
  exact tb_X5_takesEnding_0 (Q := Q) (p := p) ⟨B.exec, B.bytes, hml, findClass_of_methodNamed B.named, atoms_spec (ws := wsX5_takesEnding) B.pre, B.returns, B.notSynchronized, fun q h => Or.inr h, hK, pAB hD0 hz, hz, hN, hT⟩ L f a0 a1 hw s.heap [] hP (hD0.self (sz := s.heap.size)) va_S.rf ls (lv_sub hl [0, 1] rfl)
theorem iw_X3_init_RX3 : ∀ w ∈ u_ws RX3 TX3 2, w ∈ wsX3_init := by decide +kernel
theorem lk_X3_init_13 : Cond.fieldLink RX3 13 "TermKeeper$Neighbour" "thing" "I" ∈ wsX3_init := by decide +kernel
theorem lk_X3_init_7 : Cond.fieldLink RX3 7 "TermKeeper$Neighbour" "word" "LTermKeeper$Row;" ∈ wsX3_init := by decide +kernel
theorem lo1_X3_init : Cond.instanceMethod objectInit ∈ wsX3_init := by decide +kernel
theorem lo2_X3_init : Cond.code objectInit ⟨#[0xb1]⟩ 1 none ∈ wsX3_init := by decide +kernel
theorem lm_X3_init_1 : Cond.methodLink RX3 1 objectInit ∈ wsX3_init := by decide +kernel
abbrev rm_X3_init : Room := { frames := 1, cells := 0, slots := 0, locals := 12 }
def wp_X3_init_0 (dA : Nat → ClassId) (zz : Nat → Nat) (Q : List Nat → pF → Prop) (L : List Nat) (f : pF) (a0 : Nat) (a1 : Nat) (a2 : Int32) : Prop :=
    (gP L f 4 a0 0 (.ref a1) (fun f_6 =>
      (gP L f_6 4 a0 1 (.int a2) (fun f_11 =>
        (Q L f_11)))))
set_option maxHeartbeats 4000000 in
set_option maxRecDepth 100000 in
theorem tb_X3_init_0 {p : Program} {l : Launch} {e : Env} {s : State} {m : MethodId} {below : List Frame} {meth : Method} {c : Code} {args : Array Value} {dC : Nat → ClassId} {dI : Nat → Nat → Nat} {dA : Nat → ClassId} {zz : Nat → Nat} {base : Nat} {A : Nat → Prop} {Q : List Nat → pF → Prop} (C : pCx p s m args meth c cX3_init 3 none RX3 wsX3_init A dC dI dA zz base ∧ meth.name = "<init>") : ∀ (L : List Nat) (f : pF) (a0 : Nat) (a1 : Nat) (a2 : Int32), wp_X3_init_0 dA zz Q  L f a0 a1 a2 → pAt p l e rm_X3_init s m args below meth c dC dI A (MQ below (va_Qv (fun (u : List Nat × pF) => Q u.1 u.2) (pB dC dI dA A) A) args s 0 0 A) 0 0 0 3 [(0, .ref a0), (1, .ref a1), (2, .int a2)] [] L f := by
  obtain ⟨⟨hx, hb, hml, hown, hts, hr, hlocks, hA, hK, hB, hz, hN, hT⟩, hin⟩ := id C
  intro L f a0 a1 a2 hw H locs hP hD hS ls hl
  rw [wp_X3_init_0] at hw
  refine lv_aload_n hx hb dX3_init_0 rfl (lv_at hl 0 rfl) ?_
  refine W.objInit hx hb hown (hts _ lm_X3_init_1) (hts _ lo1_X3_init) (hts _ lo2_X3_init) rfl (by rw [hml]; exact hl.1) rfl dX3_init_1 (Nat.le_of_ble_eq_true rfl) (Nat.le_of_ble_eq_true rfl) ?_
  refine W.eq (g2 := F0 m 4 ls []) rfl ?_
  refine lv_aload_n hx hb dX3_init_4 rfl (lv_at hl 0 rfl) ?_
  refine lv_aload_n hx hb dX3_init_5 rfl (lv_at hl 1 rfl) ?_
  obtain ⟨fs_6, ⟨hL9, hf9, hn9⟩, hw⟩ := hw
  obtain ⟨kq9, hkq9⟩ := p_at hL9 hf9
  refine va_putF (D := (dC, dI)) (ci := 4) (v := .ref a1) (C := RX3) (T := TX3) (N := 2) hx hb hts iw_X3_init_RX3 tyX3 tyX3_ok nmX3 hown hK hP hD hS kq9 hkq9 rfl 0 (by decide) (hts _ lk_X3_init_7) (fun _ h9 => h9) rfl hin rfl (tyX3_ok 0 (by decide)) rfl rfl hn9 dX3_init_6 (fun H locs hP2 hD2 hS => ?_)
  rw [p_set hD hL9 hf9 hkq9] at hP2 hD2
  obtain ⟨f_6, ef_6⟩ : ∃ y : pF, y = va_up f a0 (.inr (4, fs_6.set 0 (.ref a1))) := ⟨_, rfl⟩
  rw [← ef_6] at hP2 hD2
  have hw := hw f_6 ef_6
  have hP := hP2
  have hD := hD2
  refine lv_aload_n hx hb dX3_init_9 rfl (lv_at hl 0 rfl) ?_
  refine lv_iload_n hx hb dX3_init_10 rfl (lv_at hl 2 rfl) ?_
  obtain ⟨fs_11, ⟨hL9, hf9, hn9⟩, hw⟩ := hw
  obtain ⟨kq9, hkq9⟩ := p_at hL9 hf9
  refine va_putF (D := (dC, dI)) (ci := 4) (v := .int a2) (C := RX3) (T := TX3) (N := 2) hx hb hts iw_X3_init_RX3 tyX3 tyX3_ok nmX3 hown hK hP hD hS kq9 hkq9 rfl 1 (by decide) (hts _ lk_X3_init_13) (fun _ h9 => h9) rfl hin rfl (tyX3_ok 1 (by decide)) rfl rfl hn9 dX3_init_11 (fun H locs hP2 hD2 hS => ?_)
  rw [p_set hD hL9 hf9 hkq9] at hP2 hD2
  obtain ⟨f_11, ef_11⟩ : ∃ y : pF, y = va_up f_6 a0 (.inr (4, fs_11.set 1 (.int a2))) := ⟨_, rfl⟩
  rw [← ef_11] at hP2 hD2
  have hw := hw f_11 ef_11
  have hP := hP2
  have hD := hD2
  exact W.vret hx hb hr (fun t ht hW => ⟨⟨(L, f_11), rfl, hw, by rw [ht]; exact hP, va_K.moved hW.alike hK, hD⟩, hS.F ht⟩) hS.2.2 dX3_init_14
set_option maxHeartbeats 4000000 in
set_option maxRecDepth 100000 in
theorem c_X3_init (l : Launch) (dC : Nat → ClassId) (dI : Nat → Nat → Nat) (dA : Nat → ClassId) (zz : Nat → Nat) (base : Nat) (L : List Nat) (f : pF) (sz : Nat) (a0 : Nat) (a1 : Nat) (a2 : Int32) (Q : List Nat → pF → Prop) (hw : wp_X3_init_0 dA zz Q L f a0 a1 a2) : Met l yX3_init wsX3_init rm_X3_init (va_Pc [.ref a0, .ref a1, .int a2] (pPre dC dI dA zz base L f sz)) (va_Qv (fun (u : List Nat × pF) => Q u.1 u.2) (pB dC dI dA (va_A (va_pl L f) sz)) (va_A (va_pl L f) sz)) 0 0 (va_A (va_pl L f) sz) := by
  refine Met.ofW (cc := cX3_init) (maxL := 3) (ret := none) (by decide) rfl ?_
  intro p e s m args below meth c s₁ B hml hv
  obtain ⟨rfl, hsz, hP, hK, hD0, hz, hN, hT⟩ := hv
  subst hsz
  have hl := lv_entry ([.ref a0, .ref a1, .int a2]) (n := 3) (Nat.le_of_ble_eq_true rfl)
  rw [lg_entry_eq]
  generalize (lg_sl ([.ref a0, .ref a1, .int a2]) ++ List.replicate (3 - (lg_sl ([.ref a0, .ref a1, .int a2])).length) Slot.unset).toArray = ls at hl ⊢
  exact tb_X3_init_0 (Q := Q) (p := p) ⟨⟨B.exec, B.bytes, hml, findClass_of_methodNamed B.named, atoms_spec (ws := wsX3_init) B.pre, B.returns, B.notSynchronized, fun q h => Or.inr h, hK, pAB hD0 hz, hz, hN, hT⟩, (name_of_methodNamed B.named B.method).1⟩ L f a0 a1 a2 hw s.heap [] hP (hD0.self (sz := s.heap.size)) va_S.rf ls (lv_sub hl [0, 1, 2] rfl)
theorem iw_X0_init_RX0 : ∀ w ∈ u_ws RX0 TX0 8, w ∈ wsX0_init := by decide +kernel
theorem la_X0_init_int : Cond.arrayClass .int ∈ wsX0_init := by decide +kernel
theorem la_X0_init_long : Cond.arrayClass .long ∈ wsX0_init := by decide +kernel
theorem lk_X0_init_15 : Cond.fieldLink RX0 15 "TermKeeper$Definitions" "steps" "[I" ∈ wsX0_init := by decide +kernel
theorem lk_X0_init_19 : Cond.fieldLink RX0 19 "TermKeeper$Definitions" "ringRow" "[I" ∈ wsX0_init := by decide +kernel
theorem lk_X0_init_22 : Cond.fieldLink RX0 22 "TermKeeper$Definitions" "members" "[I" ∈ wsX0_init := by decide +kernel
theorem lk_X0_init_25 : Cond.fieldLink RX0 25 "TermKeeper$Definitions" "needs" "[I" ∈ wsX0_init := by decide +kernel
theorem lk_X0_init_9 : Cond.fieldLink RX0 9 "TermKeeper$Definitions" "bits" "[J" ∈ wsX0_init := by decide +kernel
theorem lo1_X0_init : Cond.instanceMethod objectInit ∈ wsX0_init := by decide +kernel
theorem lo2_X0_init : Cond.code objectInit ⟨#[0xb1]⟩ 1 none ∈ wsX0_init := by decide +kernel
theorem lm_X0_init_3 : Cond.methodLink RX0 3 objectInit ∈ wsX0_init := by decide +kernel
abbrev rm_X0_init : Room := { frames := 1, cells := 5, slots := 148, locals := 12 }
def wp_X0_init_0 (dA : Nat → ClassId) (zz : Nat → Nat) (Q : List Nat → pF → Prop) (L : List Nat) (f : pF) (a0 : Nat) : Prop :=
    (nO zz L f (.inl (dA 2, Int32.toNatClampNeg (40 : Int32), .inr (.inl (fun _ => 0)))) (fun q_7 L_7 f_7 =>
      (gP L_7 f_7 1 a0 0 (.ref q_7) (fun f_9 =>
        (nO zz L_7 f_9 (.inl (dA 1, Int32.toNatClampNeg (40 : Int32), .inl (fun _ => 0))) (fun q_15 L_15 f_15 =>
          (gP L_15 f_15 1 a0 2 (.ref q_15) (fun f_17 =>
            (nO zz L_15 f_17 (.inl (dA 1, Int32.toNatClampNeg (40 : Int32), .inl (fun _ => 0))) (fun q_23 L_23 f_23 =>
              (gP L_23 f_23 1 a0 3 (.ref q_23) (fun f_25 =>
                (nO zz L_23 f_25 (.inl (dA 1, Int32.toNatClampNeg (14 : Int32), .inl (fun _ => 0))) (fun q_31 L_31 f_31 =>
                  (gP L_31 f_31 1 a0 5 (.ref q_31) (fun f_33 =>
                    (nO zz L_31 f_33 (.inl (dA 1, Int32.toNatClampNeg (14 : Int32), .inl (fun _ => 0))) (fun q_39 L_39 f_39 =>
                      (gP L_39 f_39 1 a0 6 (.ref q_39) (fun f_41 =>
                        (Q L_39 f_41)))))))))))))))))))))
set_option maxHeartbeats 4000000 in
set_option maxRecDepth 100000 in
theorem tb_X0_init_0 {p : Program} {l : Launch} {e : Env} {s : State} {m : MethodId} {below : List Frame} {meth : Method} {c : Code} {args : Array Value} {dC : Nat → ClassId} {dI : Nat → Nat → Nat} {dA : Nat → ClassId} {zz : Nat → Nat} {base : Nat} {A : Nat → Prop} {Q : List Nat → pF → Prop} (C : pCx p s m args meth c cX0_init 1 none RX0 wsX0_init A dC dI dA zz base ∧ meth.name = "<init>") : ∀ (L : List Nat) (f : pF) (a0 : Nat), wp_X0_init_0 dA zz Q  L f a0 → pAt p l e rm_X0_init s m args below meth c dC dI A (MQ below (va_Qv (fun (u : List Nat × pF) => Q u.1 u.2) (pB dC dI dA A) A) args s 5 148 A) 0 0 0 1 [(0, .ref a0)] [] L f := by
  obtain ⟨⟨hx, hb, hml, hown, hts, hr, hlocks, hA, hK, hB, hz, hN, hT⟩, hin⟩ := id C
  intro L f a0 hw H locs hP hD hS ls hl
  rw [wp_X0_init_0] at hw
  refine lv_aload_n hx hb dX0_init_0 rfl (lv_at hl 0 rfl) ?_
  refine W.objInit hx hb hown (hts _ lm_X0_init_3) (hts _ lo1_X0_init) (hts _ lo2_X0_init) rfl (by rw [hml]; exact hl.1) rfl dX0_init_1 (Nat.le_of_ble_eq_true rfl) (Nat.le_of_ble_eq_true rfl) ?_
  refine W.eq (g2 := F0 m 4 ls []) rfl ?_
  refine lv_aload_n hx hb dX0_init_4 rfl (lv_at hl 0 rfl) ?_
  refine lv_bipush (v := 40) hx hb dX0_init_5 (by decide) ?_
  refine va_newa (atype := .long) (ty := .long) hx hb (hts _ la_X0_init_long) rfl hK hP hD hS hA (a0 := (Int32.toNatClampNeg (40 : Int32), .inr (.inl (fun _ => 0)))) (fun _ => rfl) (by decide) rfl (by decide) (by decide) (by decide) dX0_init_7 (fun q_7 cA9 H hK9 hP2 hD2 hS => ?_)
  have hcA : cA9 = dA 2 := p_cA hK9 (t := 2) rfl
  subst hcA
  have hq9 := p_fresh hD2
  have hz9 := p_nz hB hT hD2
  rw [va_pl_push hq9] at hP2 hD2
  obtain ⟨L_7, eL_7⟩ : ∃ y : List Nat, y = L ++ [q_7] := ⟨_, rfl⟩
  obtain ⟨f_7, ef_7⟩ : ∃ y : pF, y = va_up f q_7 (.inl (dA 2, Int32.toNatClampNeg (40 : Int32), .inr (.inl (fun _ => 0)))) := ⟨_, rfl⟩
  have hw := hw q_7 hq9 hz9 L_7 f_7 eL_7 ef_7
  have hP : va_P (dC, dI) vwCl (va_pl L_7 f_7) H := by rw [eL_7, ef_7]; exact hP2
  have hD : va_D A (va_pl L_7 f_7) := by rw [eL_7, ef_7]; exact hD2
  refine W.widen (k := 1) (n := 40) (by decide) (by decide) ?_
  obtain ⟨fs_9, ⟨hL9, hf9, hn9⟩, hw⟩ := hw
  obtain ⟨kq9, hkq9⟩ := p_at hL9 hf9
  refine va_putF (D := (dC, dI)) (ci := 1) (v := .ref q_7) (C := RX0) (T := TX0) (N := 8) hx hb hts iw_X0_init_RX0 tyX0 tyX0_ok nmX0 hown hK hP hD hS kq9 hkq9 rfl 0 (by decide) (hts _ lk_X0_init_9) (fun _ h9 => h9) rfl hin rfl (tyX0_ok 0 (by decide)) rfl rfl hn9 dX0_init_9 (fun H locs hP2 hD2 hS => ?_)
  rw [p_set hD hL9 hf9 hkq9] at hP2 hD2
  obtain ⟨f_9, ef_9⟩ : ∃ y : pF, y = va_up f_7 a0 (.inr (1, fs_9.set 0 (.ref q_7))) := ⟨_, rfl⟩
  rw [← ef_9] at hP2 hD2
  have hw := hw f_9 ef_9
  have hP := hP2
  have hD := hD2
  refine lv_aload_n hx hb dX0_init_12 rfl (lv_at hl 0 rfl) ?_
  refine lv_bipush (v := 40) hx hb dX0_init_13 (by decide) ?_
  refine va_newa (atype := .int) (ty := .int) hx hb (hts _ la_X0_init_int) rfl hK hP hD hS hA (a0 := (Int32.toNatClampNeg (40 : Int32), .inl (fun _ => 0))) (fun _ => rfl) (by decide) rfl (by decide) (by decide) (by decide) dX0_init_15 (fun q_15 cA9 H hK9 hP2 hD2 hS => ?_)
  have hcA : cA9 = dA 1 := p_cA hK9 (t := 1) rfl
  subst hcA
  have hq9 := p_fresh hD2
  have hz9 := p_nz hB hT hD2
  rw [va_pl_push hq9] at hP2 hD2
  obtain ⟨L_15, eL_15⟩ : ∃ y : List Nat, y = L_7 ++ [q_15] := ⟨_, rfl⟩
  obtain ⟨f_15, ef_15⟩ : ∃ y : pF, y = va_up f_9 q_15 (.inl (dA 1, Int32.toNatClampNeg (40 : Int32), .inl (fun _ => 0))) := ⟨_, rfl⟩
  have hw := hw q_15 hq9 hz9 L_15 f_15 eL_15 ef_15
  have hP : va_P (dC, dI) vwCl (va_pl L_15 f_15) H := by rw [eL_15, ef_15]; exact hP2
  have hD : va_D A (va_pl L_15 f_15) := by rw [eL_15, ef_15]; exact hD2
  refine W.widen (k := 2) (n := 80) (by decide) (by decide) ?_
  obtain ⟨fs_17, ⟨hL9, hf9, hn9⟩, hw⟩ := hw
  obtain ⟨kq9, hkq9⟩ := p_at hL9 hf9
  refine va_putF (D := (dC, dI)) (ci := 1) (v := .ref q_15) (C := RX0) (T := TX0) (N := 8) hx hb hts iw_X0_init_RX0 tyX0 tyX0_ok nmX0 hown hK hP hD hS kq9 hkq9 rfl 2 (by decide) (hts _ lk_X0_init_15) (fun _ h9 => h9) rfl hin rfl (tyX0_ok 2 (by decide)) rfl rfl hn9 dX0_init_17 (fun H locs hP2 hD2 hS => ?_)
  rw [p_set hD hL9 hf9 hkq9] at hP2 hD2
  obtain ⟨f_17, ef_17⟩ : ∃ y : pF, y = va_up f_15 a0 (.inr (1, fs_17.set 2 (.ref q_15))) := ⟨_, rfl⟩
  rw [← ef_17] at hP2 hD2
  have hw := hw f_17 ef_17
  have hP := hP2
  have hD := hD2
  refine lv_aload_n hx hb dX0_init_20 rfl (lv_at hl 0 rfl) ?_
  refine lv_bipush (v := 40) hx hb dX0_init_21 (by decide) ?_
  refine va_newa (atype := .int) (ty := .int) hx hb (hts _ la_X0_init_int) rfl hK hP hD hS hA (a0 := (Int32.toNatClampNeg (40 : Int32), .inl (fun _ => 0))) (fun _ => rfl) (by decide) rfl (by decide) (by decide) (by decide) dX0_init_23 (fun q_23 cA9 H hK9 hP2 hD2 hS => ?_)
  have hcA : cA9 = dA 1 := p_cA hK9 (t := 1) rfl
  subst hcA
  have hq9 := p_fresh hD2
  have hz9 := p_nz hB hT hD2
  rw [va_pl_push hq9] at hP2 hD2
  obtain ⟨L_23, eL_23⟩ : ∃ y : List Nat, y = L_15 ++ [q_23] := ⟨_, rfl⟩
  obtain ⟨f_23, ef_23⟩ : ∃ y : pF, y = va_up f_17 q_23 (.inl (dA 1, Int32.toNatClampNeg (40 : Int32), .inl (fun _ => 0))) := ⟨_, rfl⟩
  have hw := hw q_23 hq9 hz9 L_23 f_23 eL_23 ef_23
  have hP : va_P (dC, dI) vwCl (va_pl L_23 f_23) H := by rw [eL_23, ef_23]; exact hP2
  have hD : va_D A (va_pl L_23 f_23) := by rw [eL_23, ef_23]; exact hD2
  refine W.widen (k := 3) (n := 120) (by decide) (by decide) ?_
  obtain ⟨fs_25, ⟨hL9, hf9, hn9⟩, hw⟩ := hw
  obtain ⟨kq9, hkq9⟩ := p_at hL9 hf9
  refine va_putF (D := (dC, dI)) (ci := 1) (v := .ref q_23) (C := RX0) (T := TX0) (N := 8) hx hb hts iw_X0_init_RX0 tyX0 tyX0_ok nmX0 hown hK hP hD hS kq9 hkq9 rfl 3 (by decide) (hts _ lk_X0_init_19) (fun _ h9 => h9) rfl hin rfl (tyX0_ok 3 (by decide)) rfl rfl hn9 dX0_init_25 (fun H locs hP2 hD2 hS => ?_)
  rw [p_set hD hL9 hf9 hkq9] at hP2 hD2
  obtain ⟨f_25, ef_25⟩ : ∃ y : pF, y = va_up f_23 a0 (.inr (1, fs_25.set 3 (.ref q_23))) := ⟨_, rfl⟩
  rw [← ef_25] at hP2 hD2
  have hw := hw f_25 ef_25
  have hP := hP2
  have hD := hD2
  refine lv_aload_n hx hb dX0_init_28 rfl (lv_at hl 0 rfl) ?_
  refine lv_bipush (v := 14) hx hb dX0_init_29 (by decide) ?_
  refine va_newa (atype := .int) (ty := .int) hx hb (hts _ la_X0_init_int) rfl hK hP hD hS hA (a0 := (Int32.toNatClampNeg (14 : Int32), .inl (fun _ => 0))) (fun _ => rfl) (by decide) rfl (by decide) (by decide) (by decide) dX0_init_31 (fun q_31 cA9 H hK9 hP2 hD2 hS => ?_)
  have hcA : cA9 = dA 1 := p_cA hK9 (t := 1) rfl
  subst hcA
  have hq9 := p_fresh hD2
  have hz9 := p_nz hB hT hD2
  rw [va_pl_push hq9] at hP2 hD2
  obtain ⟨L_31, eL_31⟩ : ∃ y : List Nat, y = L_23 ++ [q_31] := ⟨_, rfl⟩
  obtain ⟨f_31, ef_31⟩ : ∃ y : pF, y = va_up f_25 q_31 (.inl (dA 1, Int32.toNatClampNeg (14 : Int32), .inl (fun _ => 0))) := ⟨_, rfl⟩
  have hw := hw q_31 hq9 hz9 L_31 f_31 eL_31 ef_31
  have hP : va_P (dC, dI) vwCl (va_pl L_31 f_31) H := by rw [eL_31, ef_31]; exact hP2
  have hD : va_D A (va_pl L_31 f_31) := by rw [eL_31, ef_31]; exact hD2
  refine W.widen (k := 4) (n := 134) (by decide) (by decide) ?_
  obtain ⟨fs_33, ⟨hL9, hf9, hn9⟩, hw⟩ := hw
  obtain ⟨kq9, hkq9⟩ := p_at hL9 hf9
  refine va_putF (D := (dC, dI)) (ci := 1) (v := .ref q_31) (C := RX0) (T := TX0) (N := 8) hx hb hts iw_X0_init_RX0 tyX0 tyX0_ok nmX0 hown hK hP hD hS kq9 hkq9 rfl 5 (by decide) (hts _ lk_X0_init_22) (fun _ h9 => h9) rfl hin rfl (tyX0_ok 5 (by decide)) rfl rfl hn9 dX0_init_33 (fun H locs hP2 hD2 hS => ?_)
  rw [p_set hD hL9 hf9 hkq9] at hP2 hD2
  obtain ⟨f_33, ef_33⟩ : ∃ y : pF, y = va_up f_31 a0 (.inr (1, fs_33.set 5 (.ref q_31))) := ⟨_, rfl⟩
  rw [← ef_33] at hP2 hD2
  have hw := hw f_33 ef_33
  have hP := hP2
  have hD := hD2
  refine lv_aload_n hx hb dX0_init_36 rfl (lv_at hl 0 rfl) ?_
  refine lv_bipush (v := 14) hx hb dX0_init_37 (by decide) ?_
  refine va_newa (atype := .int) (ty := .int) hx hb (hts _ la_X0_init_int) rfl hK hP hD hS hA (a0 := (Int32.toNatClampNeg (14 : Int32), .inl (fun _ => 0))) (fun _ => rfl) (by decide) rfl (by decide) (by decide) (by decide) dX0_init_39 (fun q_39 cA9 H hK9 hP2 hD2 hS => ?_)
  have hcA : cA9 = dA 1 := p_cA hK9 (t := 1) rfl
  subst hcA
  have hq9 := p_fresh hD2
  have hz9 := p_nz hB hT hD2
  rw [va_pl_push hq9] at hP2 hD2
  obtain ⟨L_39, eL_39⟩ : ∃ y : List Nat, y = L_31 ++ [q_39] := ⟨_, rfl⟩
  obtain ⟨f_39, ef_39⟩ : ∃ y : pF, y = va_up f_33 q_39 (.inl (dA 1, Int32.toNatClampNeg (14 : Int32), .inl (fun _ => 0))) := ⟨_, rfl⟩
  have hw := hw q_39 hq9 hz9 L_39 f_39 eL_39 ef_39
  have hP : va_P (dC, dI) vwCl (va_pl L_39 f_39) H := by rw [eL_39, ef_39]; exact hP2
  have hD : va_D A (va_pl L_39 f_39) := by rw [eL_39, ef_39]; exact hD2
  refine W.widen (k := 5) (n := 148) (by decide) (by decide) ?_
  obtain ⟨fs_41, ⟨hL9, hf9, hn9⟩, hw⟩ := hw
  obtain ⟨kq9, hkq9⟩ := p_at hL9 hf9
  refine va_putF (D := (dC, dI)) (ci := 1) (v := .ref q_39) (C := RX0) (T := TX0) (N := 8) hx hb hts iw_X0_init_RX0 tyX0 tyX0_ok nmX0 hown hK hP hD hS kq9 hkq9 rfl 6 (by decide) (hts _ lk_X0_init_25) (fun _ h9 => h9) rfl hin rfl (tyX0_ok 6 (by decide)) rfl rfl hn9 dX0_init_41 (fun H locs hP2 hD2 hS => ?_)
  rw [p_set hD hL9 hf9 hkq9] at hP2 hD2
  obtain ⟨f_41, ef_41⟩ : ∃ y : pF, y = va_up f_39 a0 (.inr (1, fs_41.set 6 (.ref q_39))) := ⟨_, rfl⟩
  rw [← ef_41] at hP2 hD2
  have hw := hw f_41 ef_41
  have hP := hP2
  have hD := hD2
  exact W.vret hx hb hr (fun t ht hW => ⟨⟨(L_39, f_41), rfl, hw, by rw [ht]; exact hP, va_K.moved hW.alike hK, hD⟩, hS.F ht⟩) hS.2.2 dX0_init_44
set_option maxHeartbeats 4000000 in
set_option maxRecDepth 100000 in
theorem c_X0_init (l : Launch) (dC : Nat → ClassId) (dI : Nat → Nat → Nat) (dA : Nat → ClassId) (zz : Nat → Nat) (base : Nat) (L : List Nat) (f : pF) (sz : Nat) (a0 : Nat) (Q : List Nat → pF → Prop) (hw : wp_X0_init_0 dA zz Q L f a0) : Met l yX0_init wsX0_init rm_X0_init (va_Pc [.ref a0] (pPre dC dI dA zz base L f sz)) (va_Qv (fun (u : List Nat × pF) => Q u.1 u.2) (pB dC dI dA (va_A (va_pl L f) sz)) (va_A (va_pl L f) sz)) 5 148 (va_A (va_pl L f) sz) := by
  refine Met.ofW (cc := cX0_init) (maxL := 1) (ret := none) (by decide) rfl ?_
  intro p e s m args below meth c s₁ B hml hv
  obtain ⟨rfl, hsz, hP, hK, hD0, hz, hN, hT⟩ := hv
  subst hsz
  have hl := lv_entry ([.ref a0]) (n := 1) (Nat.le_of_ble_eq_true rfl)
  rw [lg_entry_eq]
  generalize (lg_sl ([.ref a0]) ++ List.replicate (1 - (lg_sl ([.ref a0])).length) Slot.unset).toArray = ls at hl ⊢
  exact tb_X0_init_0 (Q := Q) (p := p) ⟨⟨B.exec, B.bytes, hml, findClass_of_methodNamed B.named, atoms_spec (ws := wsX0_init) B.pre, B.returns, B.notSynchronized, fun q h => Or.inr h, hK, pAB hD0 hz, hz, hN, hT⟩, (name_of_methodNamed B.named B.method).1⟩ L f a0 hw s.heap [] hP (hD0.self (sz := s.heap.size)) va_S.rf ls (lv_sub hl [0] rfl)
theorem iw_X0_replaced_RX0 : ∀ w ∈ u_ws RX0 TX0 8, w ∈ wsX0_replaced := by decide +kernel
theorem lk_X0_replaced_9 : Cond.fieldLink RX0 9 "TermKeeper$Definitions" "bits" "[J" ∈ wsX0_replaced := by decide +kernel
abbrev rm_X0_replaced : Room := { frames := 0, cells := 0, slots := 0, locals := 0 }
def wp_X0_replaced_0 (dA : Nat → ClassId) (zz : Nat → Nat) (Q : Int64 → List Nat → pF → Prop) (L : List Nat) (f : pF) (a0 : Nat) (a1 : Int32) (a2 : Int64) : Prop :=
    ((a1 < 0 →
      (Q (0 : Int64) L f))
     ∧ (¬ a1 < 0 →
      ((a1 < (40 : Int32) →
        (gR L f 1 a0 0 (fun g_13 =>
          (aJ L f (dA 2) g_13 a1 (fun g_17 =>
            (gR L f 1 a0 0 (fun g_21 =>
              (aJs L f (dA 2) g_21 a1 a2 (fun f_26 =>
                (Q g_17 L f_26))))))))))
       ∧ (¬ a1 < (40 : Int32) →
        (Q (0 : Int64) L f)))))
set_option maxHeartbeats 4000000 in
set_option maxRecDepth 100000 in
theorem tb_X0_replaced_0 {p : Program} {l : Launch} {e : Env} {s : State} {m : MethodId} {below : List Frame} {meth : Method} {c : Code} {args : Array Value} {dC : Nat → ClassId} {dI : Nat → Nat → Nat} {dA : Nat → ClassId} {zz : Nat → Nat} {base : Nat} {A : Nat → Prop} {Q : Int64 → List Nat → pF → Prop} (C : pCx p s m args meth c cX0_replaced 6 (some .long) RX0 wsX0_replaced A dC dI dA zz base) : ∀ (L : List Nat) (f : pF) (a0 : Nat) (a1 : Int32) (a2 : Int64), wp_X0_replaced_0 dA zz Q  L f a0 a1 a2 → pAt p l e rm_X0_replaced s m args below meth c dC dI A (MQ below (va_Ql (fun r (u : List Nat × pF) => Q r u.1 u.2) (pB dC dI dA A) A) args s 0 0 A) 0 0 0 6 [(0, .ref a0), (1, .int a1), (2, .long a2)] [] L f := by
  obtain ⟨hx, hb, hml, hown, hts, hr, hlocks, hA, hK, hB, hz, hN, hT⟩ := id C
  intro L f a0 a1 a2 hw H locs hP hD hS ls hl
  rw [wp_X0_replaced_0] at hw
  refine lv_iload_n hx hb dX0_replaced_0 rfl (lv_at hl 1 rfl) ?_
  refine lv_if_lt (tgt := 10) hx hb dX0_replaced_1 (by decide) (fun c_1 => ?_) (fun c_1 => ?_)
  · have hw := hw.1 c_1
    refine lv_lconst (v := 0) hx hb dX0_replaced_10 (by decide) ?_
    exact W.lret (v := (0 : Int64)) hx hb hr (fun t ht hW => ⟨⟨(0 : Int64), (L, f), rfl, hw, by rw [ht]; exact hP, va_K.moved hW.alike hK, hD⟩, hS.F ht⟩) hS.2.2 dX0_replaced_11
  · have hw := hw.2 c_1
    refine lv_iload_n hx hb dX0_replaced_4 rfl (lv_at hl 1 rfl) ?_
    refine lv_bipush (v := 40) hx hb dX0_replaced_5 (by decide) ?_
    refine lv_icmp_lt (tgt := 12) hx hb dX0_replaced_7 (by decide) (fun c_7 => ?_) (fun c_7 => ?_)
    · have hw := hw.1 c_7
      refine lv_aload_n hx hb dX0_replaced_12 rfl (lv_at hl 0 rfl) ?_
      obtain ⟨fs_13, g_13, ⟨hL9, hf9, hn9⟩, hw⟩ := hw
      refine va_get (D := (dC, dI)) (ci := 1) (v := .ref g_13) (C := RX0) (T := TX0) (N := 8) hx hb hts iw_X0_replaced_RX0 hown hK (p_one hP hL9 hf9) 0 rfl rfl 0 (by decide) (hts _ lk_X0_replaced_9) (fun _ h9 => h9) hn9 dX0_replaced_13 ?_
      refine lv_iload_n hx hb dX0_replaced_16 rfl (lv_at hl 1 rfl) ?_
      obtain ⟨n_17, h_17, ⟨hL9, hf9, hn9⟩, hw⟩ := hw
      refine va_lald hx hb hK (p_one hP hL9 hf9) 0 2 rfl rfl hn9 dX0_replaced_17 ?_
      refine lv_topl (fun g_17 eg_17 => ?_)
      rw [← eg_17] at hw
      refine lv_lstore (lv' := [(4, .long g_17), (0, .ref a0), (1, .int a1), (2, .long a2)]) hx hb dX0_replaced_18 hl (by decide) rfl (fun ls hl => ?_)
      refine lv_aload_n hx hb dX0_replaced_20 rfl (lv_at hl 1 rfl) ?_
      obtain ⟨fs_21, g_21, ⟨hL9, hf9, hn9⟩, hw⟩ := hw
      refine va_get (D := (dC, dI)) (ci := 1) (v := .ref g_21) (C := RX0) (T := TX0) (N := 8) hx hb hts iw_X0_replaced_RX0 hown hK (p_one hP hL9 hf9) 0 rfl rfl 0 (by decide) (hts _ lk_X0_replaced_9) (fun _ h9 => h9) hn9 dX0_replaced_21 ?_
      refine lv_iload_n hx hb dX0_replaced_24 rfl (lv_at hl 2 rfl) ?_
      refine lv_lload_n hx hb dX0_replaced_25 rfl (lv_at hl 3 rfl) ?_
      obtain ⟨n_26, h_26, ⟨hL9, hf9, hn9⟩, hw⟩ := hw
      obtain ⟨kq9, hkq9⟩ := p_at hL9 hf9
      refine va_last hx hb hK hP hD hS kq9 2 hkq9 rfl hn9 dX0_replaced_26 (fun H locs hP2 hD2 hS => ?_)
      rw [p_set hD hL9 hf9 hkq9] at hP2 hD2
      obtain ⟨f_26, ef_26⟩ : ∃ y : pF, y = va_up f g_21 (.inl (dA 2, n_26, .inr (.inl (vp_updL h_26 (Int32.toNatClampNeg a1) a2)))) := ⟨_, rfl⟩
      rw [← ef_26] at hP2 hD2
      have hw := hw f_26 ef_26
      have hP := hP2
      have hD := hD2
      refine lv_lload hx hb dX0_replaced_27 (lv_at hl 0 rfl) ?_
      exact W.lret (v := g_17) hx hb hr (fun t ht hW => ⟨⟨g_17, (L, f_26), rfl, hw, by rw [ht]; exact hP, va_K.moved hW.alike hK, hD⟩, hS.F ht⟩) hS.2.2 dX0_replaced_29
    · have hw := hw.2 c_7
      refine lv_lconst (v := 0) hx hb dX0_replaced_10 (by decide) ?_
      exact W.lret (v := (0 : Int64)) hx hb hr (fun t ht hW => ⟨⟨(0 : Int64), (L, f), rfl, hw, by rw [ht]; exact hP, va_K.moved hW.alike hK, hD⟩, hS.F ht⟩) hS.2.2 dX0_replaced_11
set_option maxHeartbeats 4000000 in
set_option maxRecDepth 100000 in
theorem c_X0_replaced (l : Launch) (dC : Nat → ClassId) (dI : Nat → Nat → Nat) (dA : Nat → ClassId) (zz : Nat → Nat) (base : Nat) (L : List Nat) (f : pF) (sz : Nat) (a0 : Nat) (a1 : Int32) (a2 : Int64) (Q : Int64 → List Nat → pF → Prop) (hw : wp_X0_replaced_0 dA zz Q L f a0 a1 a2) : Met l yX0_replaced wsX0_replaced rm_X0_replaced (va_Pc [.ref a0, .int a1, .long a2] (pPre dC dI dA zz base L f sz)) (va_Ql (fun r (u : List Nat × pF) => Q r u.1 u.2) (pB dC dI dA (va_A (va_pl L f) sz)) (va_A (va_pl L f) sz)) 0 0 (va_A (va_pl L f) sz) := by
  refine Met.ofW (cc := cX0_replaced) (maxL := 6) (ret := (some .long)) (by decide) rfl ?_
  intro p e s m args below meth c s₁ B hml hv
  obtain ⟨rfl, hsz, hP, hK, hD0, hz, hN, hT⟩ := hv
  subst hsz
  have hl := lv_entry ([.ref a0, .int a1, .long a2]) (n := 6) (Nat.le_of_ble_eq_true rfl)
  rw [lg_entry_eq]
  generalize (lg_sl ([.ref a0, .int a1, .long a2]) ++ List.replicate (6 - (lg_sl ([.ref a0, .int a1, .long a2])).length) Slot.unset).toArray = ls at hl ⊢
  exact tb_X0_replaced_0 (Q := Q) (p := p) ⟨B.exec, B.bytes, hml, findClass_of_methodNamed B.named, atoms_spec (ws := wsX0_replaced) B.pre, B.returns, B.notSynchronized, fun q h => Or.inr h, hK, pAB hD0 hz, hz, hN, hT⟩ L f a0 a1 a2 hw s.heap [] hP (hD0.self (sz := s.heap.size)) va_S.rf ls (lv_sub hl [0, 1, 2] rfl)
theorem iw_X0_madeKnown_RX0 : ∀ w ∈ u_ws RX0 TX0 8, w ∈ wsX0_madeKnown := by decide +kernel
theorem lk_X0_madeKnown_28 : Cond.fieldLink RX0 28 "TermKeeper$Definitions" "known" "J" ∈ wsX0_madeKnown := by decide +kernel
theorem lk_X0_madeKnown_32 : Cond.constantLong RX0 32 (-1) ∈ wsX0_madeKnown := by decide +kernel
abbrev rm_X0_madeKnown : Room := { frames := 0, cells := 0, slots := 0, locals := 0 }
def wp_X0_madeKnown_47 (dA : Nat → ClassId) (zz : Nat → Nat) (Q : Int32 → List Nat → pF → Prop) (L : List Nat) (f : pF) (a3 : Int32) (k0 : Int64) (k1 : Nat) : Prop :=
    (gP L f 1 k1 1 (.long k0) (fun f_47 =>
      (narrow .boolean (.int a3) = .int a3 ∧ (Q a3 L f_47))))
def wp_X0_madeKnown_18 (dA : Nat → ClassId) (zz : Nat → Nat) (Q : Int32 → List Nat → pF → Prop) (L : List Nat) (f : pF) (a0 : Nat) (a1 : Int32) (a2 : Int32) (k0 : Int32) : Prop :=
    ((a2 = 0 →
      (gJ L f 1 a0 1 (fun g_36 =>
        (wp_X0_madeKnown_47 dA zz Q  L f k0 (g_36 &&& (((1 : Int64) <<< (Int32.toInt64 a1 &&& 63)) ^^^ (-1 : Int64))) a0))))
     ∧ (¬ a2 = 0 →
      (gJ L f 1 a0 1 (fun g_25 =>
        (wp_X0_madeKnown_47 dA zz Q  L f k0 (g_25 ||| ((1 : Int64) <<< (Int32.toInt64 a1 &&& 63))) a0)))))
def wp_X0_madeKnown_0 (dA : Nat → ClassId) (zz : Nat → Nat) (Q : Int32 → List Nat → pF → Prop) (L : List Nat) (f : pF) (a0 : Nat) (a1 : Int32) (a2 : Int32) : Prop :=
    (gJ L f 1 a0 1 (fun g_1 =>
      (((lg_cmp ((g_1 >>> (Int32.toInt64 a1 &&& 63)) &&& (1 : Int64)) (0 : Int64)) = 0 →
        (wp_X0_madeKnown_18 dA zz Q  L f a0 a1 a2 (0 : Int32)))
       ∧ (¬ (lg_cmp ((g_1 >>> (Int32.toInt64 a1 &&& 63)) &&& (1 : Int64)) (0 : Int64)) = 0 →
        (wp_X0_madeKnown_18 dA zz Q  L f a0 a1 a2 (1 : Int32))))))
set_option maxHeartbeats 4000000 in
set_option maxRecDepth 100000 in
theorem tb_X0_madeKnown_47 {p : Program} {l : Launch} {e : Env} {s : State} {m : MethodId} {below : List Frame} {meth : Method} {c : Code} {args : Array Value} {dC : Nat → ClassId} {dI : Nat → Nat → Nat} {dA : Nat → ClassId} {zz : Nat → Nat} {base : Nat} {A : Nat → Prop} {Q : Int32 → List Nat → pF → Prop} (C : pCx p s m args meth c cX0_madeKnown 4 (some .boolean) RX0 wsX0_madeKnown A dC dI dA zz base) : ∀ (L : List Nat) (f : pF) (a3 : Int32) (k0 : Int64) (k1 : Nat), wp_X0_madeKnown_47 dA zz Q  L f a3 k0 k1 → pAt p l e rm_X0_madeKnown s m args below meth c dC dI A (MQ below (va_Qi (fun r (u : List Nat × pF) => Q r u.1 u.2) (pB dC dI dA A) A) args s 0 0 A) 0 0 47 4 [(3, .int a3)] [.long k0, .ref k1] L f := by
  obtain ⟨hx, hb, hml, hown, hts, hr, hlocks, hA, hK, hB, hz, hN, hT⟩ := id C
  intro L f a3 k0 k1 hw H locs hP hD hS ls hl
  rw [wp_X0_madeKnown_47] at hw
  obtain ⟨fs_47, ⟨hL9, hf9, hn9⟩, hw⟩ := hw
  obtain ⟨kq9, hkq9⟩ := p_at hL9 hf9
  refine va_put (D := (dC, dI)) (ci := 1) (v := .long k0) (C := RX0) (T := TX0) (N := 8) hx hb hts iw_X0_madeKnown_RX0 tyX0 tyX0_ok nmX0 hown hK hP hD hS kq9 hkq9 rfl 1 (by decide) (hts _ lk_X0_madeKnown_28) (fun _ h9 => h9) rfl (tyX0_ok 1 (by decide)) rfl rfl hn9 dX0_madeKnown_47 (fun H locs hP2 hD2 hS => ?_)
  rw [p_set hD hL9 hf9 hkq9] at hP2 hD2
  obtain ⟨f_47, ef_47⟩ : ∃ y : pF, y = va_up f k1 (.inr (1, fs_47.set 1 (.long k0))) := ⟨_, rfl⟩
  rw [← ef_47] at hP2 hD2
  have hw := hw f_47 ef_47
  have hP := hP2
  have hD := hD2
  refine lv_iload_n hx hb dX0_madeKnown_50 rfl (lv_at hl 0 rfl) ?_
  exact W.zret (v := a3) hx hb hr hw.1 (fun t ht hW => ⟨⟨a3, (L, f_47), rfl, hw.2, by rw [ht]; exact hP, va_K.moved hW.alike hK, hD⟩, hS.F ht⟩) hS.2.2 dX0_madeKnown_51
set_option maxHeartbeats 4000000 in
set_option maxRecDepth 100000 in
theorem tb_X0_madeKnown_18 {p : Program} {l : Launch} {e : Env} {s : State} {m : MethodId} {below : List Frame} {meth : Method} {c : Code} {args : Array Value} {dC : Nat → ClassId} {dI : Nat → Nat → Nat} {dA : Nat → ClassId} {zz : Nat → Nat} {base : Nat} {A : Nat → Prop} {Q : Int32 → List Nat → pF → Prop} (C : pCx p s m args meth c cX0_madeKnown 4 (some .boolean) RX0 wsX0_madeKnown A dC dI dA zz base) : ∀ (L : List Nat) (f : pF) (a0 : Nat) (a1 : Int32) (a2 : Int32) (k0 : Int32), wp_X0_madeKnown_18 dA zz Q  L f a0 a1 a2 k0 → pAt p l e rm_X0_madeKnown s m args below meth c dC dI A (MQ below (va_Qi (fun r (u : List Nat × pF) => Q r u.1 u.2) (pB dC dI dA A) A) args s 0 0 A) 0 0 18 4 [(0, .ref a0), (1, .int a1), (2, .int a2)] [.int k0] L f := by
  obtain ⟨hx, hb, hml, hown, hts, hr, hlocks, hA, hK, hB, hz, hN, hT⟩ := id C
  intro L f a0 a1 a2 k0 hw H locs hP hD hS ls hl
  rw [wp_X0_madeKnown_18] at hw
  refine lv_istore_n (lv' := [(3, .int k0), (0, .ref a0), (1, .int a1), (2, .int a2)]) hx hb dX0_madeKnown_18 rfl hl (by decide) rfl (fun ls hl => ?_)
  refine lv_aload_n hx hb dX0_madeKnown_19 rfl (lv_at hl 1 rfl) ?_
  refine lv_iload_n hx hb dX0_madeKnown_20 rfl (lv_at hl 3 rfl) ?_
  refine lv_if_eq (tgt := 35) hx hb dX0_madeKnown_21 (by decide) (fun c_21 => ?_) (fun c_21 => ?_)
  · have hw := hw.1 c_21
    refine lv_aload_n hx hb dX0_madeKnown_35 rfl (lv_at hl 1 rfl) ?_
    obtain ⟨fs_36, g_36, ⟨hL9, hf9, hn9⟩, hw⟩ := hw
    refine va_get (D := (dC, dI)) (ci := 1) (v := .long g_36) (C := RX0) (T := TX0) (N := 8) hx hb hts iw_X0_madeKnown_RX0 hown hK (p_one hP hL9 hf9) 0 rfl rfl 1 (by decide) (hts _ lk_X0_madeKnown_28) (fun _ h9 => h9) hn9 dX0_madeKnown_36 ?_
    refine lv_lconst (v := 1) hx hb dX0_madeKnown_39 (by decide) ?_
    refine lv_iload_n hx hb dX0_madeKnown_40 rfl (lv_at hl 2 rfl) ?_
    refine lv_lshl hx hb dX0_madeKnown_41 rfl ?_
    refine lv_ldc2 (v := -1) hx hb hown (hts _ lk_X0_madeKnown_32) dX0_madeKnown_42 ?_
    refine lv_lxor hx hb dX0_madeKnown_45 ?_
    refine lv_land hx hb dX0_madeKnown_46 ?_
    exact tb_X0_madeKnown_47 C  L f k0 (g_36 &&& (((1 : Int64) <<< (Int32.toInt64 a1 &&& 63)) ^^^ (-1 : Int64))) a0 hw H locs hP hD hS ls (lv_sub hl [0] rfl)
  · have hw := hw.2 c_21
    refine lv_aload_n hx hb dX0_madeKnown_24 rfl (lv_at hl 1 rfl) ?_
    obtain ⟨fs_25, g_25, ⟨hL9, hf9, hn9⟩, hw⟩ := hw
    refine va_get (D := (dC, dI)) (ci := 1) (v := .long g_25) (C := RX0) (T := TX0) (N := 8) hx hb hts iw_X0_madeKnown_RX0 hown hK (p_one hP hL9 hf9) 0 rfl rfl 1 (by decide) (hts _ lk_X0_madeKnown_28) (fun _ h9 => h9) hn9 dX0_madeKnown_25 ?_
    refine lv_lconst (v := 1) hx hb dX0_madeKnown_28 (by decide) ?_
    refine lv_iload_n hx hb dX0_madeKnown_29 rfl (lv_at hl 2 rfl) ?_
    refine lv_lshl hx hb dX0_madeKnown_30 rfl ?_
    refine lv_lor hx hb dX0_madeKnown_31 ?_
    refine lv_goto (tgt := 47) hx hb dX0_madeKnown_32 (by decide) ?_
    exact tb_X0_madeKnown_47 C  L f k0 (g_25 ||| ((1 : Int64) <<< (Int32.toInt64 a1 &&& 63))) a0 hw H locs hP hD hS ls (lv_sub hl [0] rfl)
set_option maxHeartbeats 4000000 in
set_option maxRecDepth 100000 in
theorem tb_X0_madeKnown_0 {p : Program} {l : Launch} {e : Env} {s : State} {m : MethodId} {below : List Frame} {meth : Method} {c : Code} {args : Array Value} {dC : Nat → ClassId} {dI : Nat → Nat → Nat} {dA : Nat → ClassId} {zz : Nat → Nat} {base : Nat} {A : Nat → Prop} {Q : Int32 → List Nat → pF → Prop} (C : pCx p s m args meth c cX0_madeKnown 4 (some .boolean) RX0 wsX0_madeKnown A dC dI dA zz base) : ∀ (L : List Nat) (f : pF) (a0 : Nat) (a1 : Int32) (a2 : Int32), wp_X0_madeKnown_0 dA zz Q  L f a0 a1 a2 → pAt p l e rm_X0_madeKnown s m args below meth c dC dI A (MQ below (va_Qi (fun r (u : List Nat × pF) => Q r u.1 u.2) (pB dC dI dA A) A) args s 0 0 A) 0 0 0 4 [(0, .ref a0), (1, .int a1), (2, .int a2)] [] L f := by
  obtain ⟨hx, hb, hml, hown, hts, hr, hlocks, hA, hK, hB, hz, hN, hT⟩ := id C
  intro L f a0 a1 a2 hw H locs hP hD hS ls hl
  rw [wp_X0_madeKnown_0] at hw
  refine lv_aload_n hx hb dX0_madeKnown_0 rfl (lv_at hl 0 rfl) ?_
  obtain ⟨fs_1, g_1, ⟨hL9, hf9, hn9⟩, hw⟩ := hw
  refine va_get (D := (dC, dI)) (ci := 1) (v := .long g_1) (C := RX0) (T := TX0) (N := 8) hx hb hts iw_X0_madeKnown_RX0 hown hK (p_one hP hL9 hf9) 0 rfl rfl 1 (by decide) (hts _ lk_X0_madeKnown_28) (fun _ h9 => h9) hn9 dX0_madeKnown_1 ?_
  refine lv_iload_n hx hb dX0_madeKnown_4 rfl (lv_at hl 1 rfl) ?_
  refine lv_lshr hx hb dX0_madeKnown_5 rfl ?_
  refine lv_lconst (v := 1) hx hb dX0_madeKnown_6 (by decide) ?_
  refine lv_land hx hb dX0_madeKnown_7 ?_
  refine lv_lconst (v := 0) hx hb dX0_madeKnown_8 (by decide) ?_
  refine W.lcmp hx hb dX0_madeKnown_9 ?_
  refine lv_if_eq (tgt := 17) hx hb dX0_madeKnown_10 (by decide) (fun c_10 => ?_) (fun c_10 => ?_)
  · have hw := hw.1 c_10
    refine lv_iconst (v := 0) hx hb dX0_madeKnown_17 (by decide) ?_
    exact tb_X0_madeKnown_18 C  L f a0 a1 a2 (0 : Int32) hw H locs hP hD hS ls (lv_sub hl [0, 1, 2] rfl)
  · have hw := hw.2 c_10
    refine lv_iconst (v := 1) hx hb dX0_madeKnown_13 (by decide) ?_
    refine lv_goto (tgt := 18) hx hb dX0_madeKnown_14 (by decide) ?_
    exact tb_X0_madeKnown_18 C  L f a0 a1 a2 (1 : Int32) hw H locs hP hD hS ls (lv_sub hl [0, 1, 2] rfl)
set_option maxHeartbeats 4000000 in
set_option maxRecDepth 100000 in
theorem c_X0_madeKnown (l : Launch) (dC : Nat → ClassId) (dI : Nat → Nat → Nat) (dA : Nat → ClassId) (zz : Nat → Nat) (base : Nat) (L : List Nat) (f : pF) (sz : Nat) (a0 : Nat) (a1 : Int32) (a2 : Int32) (Q : Int32 → List Nat → pF → Prop) (hw : wp_X0_madeKnown_0 dA zz Q L f a0 a1 a2) : Met l yX0_madeKnown wsX0_madeKnown rm_X0_madeKnown (va_Pc [.ref a0, .int a1, .int a2] (pPre dC dI dA zz base L f sz)) (va_Qi (fun r (u : List Nat × pF) => Q r u.1 u.2) (pB dC dI dA (va_A (va_pl L f) sz)) (va_A (va_pl L f) sz)) 0 0 (va_A (va_pl L f) sz) := by
  refine Met.ofW (cc := cX0_madeKnown) (maxL := 4) (ret := (some .boolean)) (by decide) rfl ?_
  intro p e s m args below meth c s₁ B hml hv
  obtain ⟨rfl, hsz, hP, hK, hD0, hz, hN, hT⟩ := hv
  subst hsz
  have hl := lv_entry ([.ref a0, .int a1, .int a2]) (n := 4) (Nat.le_of_ble_eq_true rfl)
  rw [lg_entry_eq]
  generalize (lg_sl ([.ref a0, .int a1, .int a2]) ++ List.replicate (4 - (lg_sl ([.ref a0, .int a1, .int a2])).length) Slot.unset).toArray = ls at hl ⊢
  exact tb_X0_madeKnown_0 (Q := Q) (p := p) ⟨B.exec, B.bytes, hml, findClass_of_methodNamed B.named, atoms_spec (ws := wsX0_madeKnown) B.pre, B.returns, B.notSynchronized, fun q h => Or.inr h, hK, pAB hD0 hz, hz, hN, hT⟩ L f a0 a1 a2 hw s.heap [] hP (hD0.self (sz := s.heap.size)) va_S.rf ls (lv_sub hl [0, 1, 2] rfl)
theorem iw_X0_explainedBy_RX0 : ∀ w ∈ u_ws RX0 TX0 8, w ∈ wsX0_explainedBy := by decide +kernel
theorem lk_X0_explainedBy_28 : Cond.fieldLink RX0 28 "TermKeeper$Definitions" "known" "J" ∈ wsX0_explainedBy := by decide +kernel
theorem lk_X0_explainedBy_9 : Cond.fieldLink RX0 9 "TermKeeper$Definitions" "bits" "[J" ∈ wsX0_explainedBy := by decide +kernel
theorem lk_X0_explainedBy_32 : Cond.constantLong RX0 32 (-1) ∈ wsX0_explainedBy := by decide +kernel
abbrev rm_X0_explainedBy : Room := { frames := 0, cells := 0, slots := 0, locals := 0 }
def wp_X0_explainedBy_32 (dA : Nat → ClassId) (zz : Nat → Nat) (Q : Int32 → List Nat → pF → Prop) (L : List Nat) (f : pF) : Prop :=
    (Q (1 : Int32) L f)
def wp_X0_explainedBy_0 (dA : Nat → ClassId) (zz : Nat → Nat) (Q : Int32 → List Nat → pF → Prop) (L : List Nat) (f : pF) (a0 : Nat) (a1 : Int32) (a2 : Int64) : Prop :=
    ((a1 < 0 →
      (wp_X0_explainedBy_32 dA zz Q  L f ))
     ∧ (¬ a1 < 0 →
      (((40 : Int32) ≤ a1 →
        (wp_X0_explainedBy_32 dA zz Q  L f ))
       ∧ (¬ (40 : Int32) ≤ a1 →
        (gR L f 1 a0 0 (fun g_11 =>
          (aJ L f (dA 2) g_11 a1 (fun g_15 =>
            (gJ L f 1 a0 1 (fun g_18 =>
              ((¬ (lg_cmp (g_15 &&& ((a2 ||| g_18) ^^^ (-1 : Int64))) (0 : Int64)) = 0 →
                (Q (0 : Int32) L f))
               ∧ ((lg_cmp (g_15 &&& ((a2 ||| g_18) ^^^ (-1 : Int64))) (0 : Int64)) = 0 →
                (wp_X0_explainedBy_32 dA zz Q  L f )))))))))))))
set_option maxHeartbeats 4000000 in
set_option maxRecDepth 100000 in
theorem tb_X0_explainedBy_32 {p : Program} {l : Launch} {e : Env} {s : State} {m : MethodId} {below : List Frame} {meth : Method} {c : Code} {args : Array Value} {dC : Nat → ClassId} {dI : Nat → Nat → Nat} {dA : Nat → ClassId} {zz : Nat → Nat} {base : Nat} {A : Nat → Prop} {Q : Int32 → List Nat → pF → Prop} (C : pCx p s m args meth c cX0_explainedBy 4 (some .boolean) RX0 wsX0_explainedBy A dC dI dA zz base) : ∀ (L : List Nat) (f : pF) , wp_X0_explainedBy_32 dA zz Q  L f  → pAt p l e rm_X0_explainedBy s m args below meth c dC dI A (MQ below (va_Qi (fun r (u : List Nat × pF) => Q r u.1 u.2) (pB dC dI dA A) A) args s 0 0 A) 0 0 32 4 [] [] L f := by
  obtain ⟨hx, hb, hml, hown, hts, hr, hlocks, hA, hK, hB, hz, hN, hT⟩ := id C
  intro L f  hw H locs hP hD hS ls hl
  rw [wp_X0_explainedBy_32] at hw
  refine lv_iconst (v := 1) hx hb dX0_explainedBy_32 (by decide) ?_
  refine lv_goto (tgt := 37) hx hb dX0_explainedBy_33 (by decide) ?_
  exact W.zret (v := (1 : Int32)) hx hb hr rfl (fun t ht hW => ⟨⟨(1 : Int32), (L, f), rfl, hw, by rw [ht]; exact hP, va_K.moved hW.alike hK, hD⟩, hS.F ht⟩) hS.2.2 dX0_explainedBy_37
set_option maxHeartbeats 4000000 in
set_option maxRecDepth 100000 in
theorem tb_X0_explainedBy_0 {p : Program} {l : Launch} {e : Env} {s : State} {m : MethodId} {below : List Frame} {meth : Method} {c : Code} {args : Array Value} {dC : Nat → ClassId} {dI : Nat → Nat → Nat} {dA : Nat → ClassId} {zz : Nat → Nat} {base : Nat} {A : Nat → Prop} {Q : Int32 → List Nat → pF → Prop} (C : pCx p s m args meth c cX0_explainedBy 4 (some .boolean) RX0 wsX0_explainedBy A dC dI dA zz base) : ∀ (L : List Nat) (f : pF) (a0 : Nat) (a1 : Int32) (a2 : Int64), wp_X0_explainedBy_0 dA zz Q  L f a0 a1 a2 → pAt p l e rm_X0_explainedBy s m args below meth c dC dI A (MQ below (va_Qi (fun r (u : List Nat × pF) => Q r u.1 u.2) (pB dC dI dA A) A) args s 0 0 A) 0 0 0 4 [(0, .ref a0), (1, .int a1), (2, .long a2)] [] L f := by
  obtain ⟨hx, hb, hml, hown, hts, hr, hlocks, hA, hK, hB, hz, hN, hT⟩ := id C
  intro L f a0 a1 a2 hw H locs hP hD hS ls hl
  rw [wp_X0_explainedBy_0] at hw
  refine lv_iload_n hx hb dX0_explainedBy_0 rfl (lv_at hl 1 rfl) ?_
  refine lv_if_lt (tgt := 32) hx hb dX0_explainedBy_1 (by decide) (fun c_1 => ?_) (fun c_1 => ?_)
  · have hw := hw.1 c_1
    exact tb_X0_explainedBy_32 C  L f  hw H locs hP hD hS ls (lv_sub hl [] rfl)
  · have hw := hw.2 c_1
    refine lv_iload_n hx hb dX0_explainedBy_4 rfl (lv_at hl 1 rfl) ?_
    refine lv_bipush (v := 40) hx hb dX0_explainedBy_5 (by decide) ?_
    refine lv_icmp_ge (tgt := 32) hx hb dX0_explainedBy_7 (by decide) (fun c_7 => ?_) (fun c_7 => ?_)
    · have hw := hw.1 c_7
      exact tb_X0_explainedBy_32 C  L f  hw H locs hP hD hS ls (lv_sub hl [] rfl)
    · have hw := hw.2 c_7
      refine lv_aload_n hx hb dX0_explainedBy_10 rfl (lv_at hl 0 rfl) ?_
      obtain ⟨fs_11, g_11, ⟨hL9, hf9, hn9⟩, hw⟩ := hw
      refine va_get (D := (dC, dI)) (ci := 1) (v := .ref g_11) (C := RX0) (T := TX0) (N := 8) hx hb hts iw_X0_explainedBy_RX0 hown hK (p_one hP hL9 hf9) 0 rfl rfl 0 (by decide) (hts _ lk_X0_explainedBy_9) (fun _ h9 => h9) hn9 dX0_explainedBy_11 ?_
      refine lv_iload_n hx hb dX0_explainedBy_14 rfl (lv_at hl 1 rfl) ?_
      obtain ⟨n_15, h_15, ⟨hL9, hf9, hn9⟩, hw⟩ := hw
      refine va_lald hx hb hK (p_one hP hL9 hf9) 0 2 rfl rfl hn9 dX0_explainedBy_15 ?_
      refine lv_topl (fun g_15 eg_15 => ?_)
      rw [← eg_15] at hw
      refine lv_lload_n hx hb dX0_explainedBy_16 rfl (lv_at hl 2 rfl) ?_
      refine lv_aload_n hx hb dX0_explainedBy_17 rfl (lv_at hl 0 rfl) ?_
      obtain ⟨fs_18, g_18, ⟨hL9, hf9, hn9⟩, hw⟩ := hw
      refine va_get (D := (dC, dI)) (ci := 1) (v := .long g_18) (C := RX0) (T := TX0) (N := 8) hx hb hts iw_X0_explainedBy_RX0 hown hK (p_one hP hL9 hf9) 0 rfl rfl 1 (by decide) (hts _ lk_X0_explainedBy_28) (fun _ h9 => h9) hn9 dX0_explainedBy_18 ?_
      refine lv_lor hx hb dX0_explainedBy_21 ?_
      refine lv_ldc2 (v := -1) hx hb hown (hts _ lk_X0_explainedBy_32) dX0_explainedBy_22 ?_
      refine lv_lxor hx hb dX0_explainedBy_25 ?_
      refine lv_land hx hb dX0_explainedBy_26 ?_
      refine lv_lconst (v := 0) hx hb dX0_explainedBy_27 (by decide) ?_
      refine W.lcmp hx hb dX0_explainedBy_28 ?_
      refine lv_if_ne (tgt := 36) hx hb dX0_explainedBy_29 (by decide) (fun c_29 => ?_) (fun c_29 => ?_)
      · have hw := hw.1 c_29
        refine lv_iconst (v := 0) hx hb dX0_explainedBy_36 (by decide) ?_
        exact W.zret (v := (0 : Int32)) hx hb hr rfl (fun t ht hW => ⟨⟨(0 : Int32), (L, f), rfl, hw, by rw [ht]; exact hP, va_K.moved hW.alike hK, hD⟩, hS.F ht⟩) hS.2.2 dX0_explainedBy_37
      · have hw := hw.2 c_29
        exact tb_X0_explainedBy_32 C  L f  hw H locs hP hD hS ls (lv_sub hl [] rfl)
set_option maxHeartbeats 4000000 in
set_option maxRecDepth 100000 in
theorem c_X0_explainedBy (l : Launch) (dC : Nat → ClassId) (dI : Nat → Nat → Nat) (dA : Nat → ClassId) (zz : Nat → Nat) (base : Nat) (L : List Nat) (f : pF) (sz : Nat) (a0 : Nat) (a1 : Int32) (a2 : Int64) (Q : Int32 → List Nat → pF → Prop) (hw : wp_X0_explainedBy_0 dA zz Q L f a0 a1 a2) : Met l yX0_explainedBy wsX0_explainedBy rm_X0_explainedBy (va_Pc [.ref a0, .int a1, .long a2] (pPre dC dI dA zz base L f sz)) (va_Qi (fun r (u : List Nat × pF) => Q r u.1 u.2) (pB dC dI dA (va_A (va_pl L f) sz)) (va_A (va_pl L f) sz)) 0 0 (va_A (va_pl L f) sz) := by
  refine Met.ofW (cc := cX0_explainedBy) (maxL := 4) (ret := (some .boolean)) (by decide) rfl ?_
  intro p e s m args below meth c s₁ B hml hv
  obtain ⟨rfl, hsz, hP, hK, hD0, hz, hN, hT⟩ := hv
  subst hsz
  have hl := lv_entry ([.ref a0, .int a1, .long a2]) (n := 4) (Nat.le_of_ble_eq_true rfl)
  rw [lg_entry_eq]
  generalize (lg_sl ([.ref a0, .int a1, .long a2]) ++ List.replicate (4 - (lg_sl ([.ref a0, .int a1, .long a2])).length) Slot.unset).toArray = ls at hl ⊢
  exact tb_X0_explainedBy_0 (Q := Q) (p := p) ⟨B.exec, B.bytes, hml, findClass_of_methodNamed B.named, atoms_spec (ws := wsX0_explainedBy) B.pre, B.returns, B.notSynchronized, fun q h => Or.inr h, hK, pAB hD0 hz, hz, hN, hT⟩ L f a0 a1 a2 hw s.heap [] hP (hD0.self (sz := s.heap.size)) va_S.rf ls (lv_sub hl [0, 1, 2] rfl)
theorem iw_X0_ringSize_RX0 : ∀ w ∈ u_ws RX0 TX0 8, w ∈ wsX0_ringSize := by decide +kernel
theorem lk_X0_ringSize_34 : Cond.fieldLink RX0 34 "TermKeeper$Definitions" "ringLength" "I" ∈ wsX0_ringSize := by decide +kernel
abbrev rm_X0_ringSize : Room := { frames := 0, cells := 0, slots := 0, locals := 0 }
def wp_X0_ringSize_0 (dA : Nat → ClassId) (zz : Nat → Nat) (Q : Int32 → List Nat → pF → Prop) (L : List Nat) (f : pF) (a0 : Nat) : Prop :=
    (gI L f 1 a0 4 (fun g_1 =>
      (Q g_1 L f)))
set_option maxHeartbeats 4000000 in
set_option maxRecDepth 100000 in
theorem tb_X0_ringSize_0 {p : Program} {l : Launch} {e : Env} {s : State} {m : MethodId} {below : List Frame} {meth : Method} {c : Code} {args : Array Value} {dC : Nat → ClassId} {dI : Nat → Nat → Nat} {dA : Nat → ClassId} {zz : Nat → Nat} {base : Nat} {A : Nat → Prop} {Q : Int32 → List Nat → pF → Prop} (C : pCx p s m args meth c cX0_ringSize 1 (some .int) RX0 wsX0_ringSize A dC dI dA zz base) : ∀ (L : List Nat) (f : pF) (a0 : Nat), wp_X0_ringSize_0 dA zz Q  L f a0 → pAt p l e rm_X0_ringSize s m args below meth c dC dI A (MQ below (va_Qi (fun r (u : List Nat × pF) => Q r u.1 u.2) (pB dC dI dA A) A) args s 0 0 A) 0 0 0 1 [(0, .ref a0)] [] L f := by
  obtain ⟨hx, hb, hml, hown, hts, hr, hlocks, hA, hK, hB, hz, hN, hT⟩ := id C
  intro L f a0 hw H locs hP hD hS ls hl
  rw [wp_X0_ringSize_0] at hw
  refine lv_aload_n hx hb dX0_ringSize_0 rfl (lv_at hl 0 rfl) ?_
  obtain ⟨fs_1, g_1, ⟨hL9, hf9, hn9⟩, hw⟩ := hw
  refine va_get (D := (dC, dI)) (ci := 1) (v := .int g_1) (C := RX0) (T := TX0) (N := 8) hx hb hts iw_X0_ringSize_RX0 hown hK (p_one hP hL9 hf9) 0 rfl rfl 4 (by decide) (hts _ lk_X0_ringSize_34) (fun _ h9 => h9) hn9 dX0_ringSize_1 ?_
  exact W.iret (v := g_1) hx hb hr (fun t ht hW => ⟨⟨g_1, (L, f), rfl, hw, by rw [ht]; exact hP, va_K.moved hW.alike hK, hD⟩, hS.F ht⟩) hS.2.2 dX0_ringSize_4
set_option maxHeartbeats 4000000 in
set_option maxRecDepth 100000 in
theorem c_X0_ringSize (l : Launch) (dC : Nat → ClassId) (dI : Nat → Nat → Nat) (dA : Nat → ClassId) (zz : Nat → Nat) (base : Nat) (L : List Nat) (f : pF) (sz : Nat) (a0 : Nat) (Q : Int32 → List Nat → pF → Prop) (hw : wp_X0_ringSize_0 dA zz Q L f a0) : Met l yX0_ringSize wsX0_ringSize rm_X0_ringSize (va_Pc [.ref a0] (pPre dC dI dA zz base L f sz)) (va_Qi (fun r (u : List Nat × pF) => Q r u.1 u.2) (pB dC dI dA (va_A (va_pl L f) sz)) (va_A (va_pl L f) sz)) 0 0 (va_A (va_pl L f) sz) := by
  refine Met.ofW (cc := cX0_ringSize) (maxL := 1) (ret := (some .int)) (by decide) rfl ?_
  intro p e s m args below meth c s₁ B hml hv
  obtain ⟨rfl, hsz, hP, hK, hD0, hz, hN, hT⟩ := hv
  subst hsz
  have hl := lv_entry ([.ref a0]) (n := 1) (Nat.le_of_ble_eq_true rfl)
  rw [lg_entry_eq]
  generalize (lg_sl ([.ref a0]) ++ List.replicate (1 - (lg_sl ([.ref a0])).length) Slot.unset).toArray = ls at hl ⊢
  exact tb_X0_ringSize_0 (Q := Q) (p := p) ⟨B.exec, B.bytes, hml, findClass_of_methodNamed B.named, atoms_spec (ws := wsX0_ringSize) B.pre, B.returns, B.notSynchronized, fun q h => Or.inr h, hK, pAB hD0 hz, hz, hN, hT⟩ L f a0 hw s.heap [] hP (hD0.self (sz := s.heap.size)) va_S.rf ls (lv_sub hl [0] rfl)
theorem iw_X0_ringAt_RX0 : ∀ w ∈ u_ws RX0 TX0 8, w ∈ wsX0_ringAt := by decide +kernel
theorem lk_X0_ringAt_19 : Cond.fieldLink RX0 19 "TermKeeper$Definitions" "ringRow" "[I" ∈ wsX0_ringAt := by decide +kernel
theorem lk_X0_ringAt_34 : Cond.fieldLink RX0 34 "TermKeeper$Definitions" "ringLength" "I" ∈ wsX0_ringAt := by decide +kernel
abbrev rm_X0_ringAt : Room := { frames := 0, cells := 0, slots := 0, locals := 0 }
def wp_X0_ringAt_0 (dA : Nat → ClassId) (zz : Nat → Nat) (Q : Int32 → List Nat → pF → Prop) (L : List Nat) (f : pF) (a0 : Nat) (a1 : Int32) : Prop :=
    ((a1 < 0 →
      (Q (-1 : Int32) L f))
     ∧ (¬ a1 < 0 →
      (gI L f 1 a0 4 (fun g_6 =>
        ((g_6 ≤ a1 →
          (Q (-1 : Int32) L f))
         ∧ (¬ g_6 ≤ a1 →
          (gR L f 1 a0 3 (fun g_13 =>
            (aI L f (dA 1) g_13 a1 (fun g_17 =>
              (Q g_17 L f)))))))))))
set_option maxHeartbeats 4000000 in
set_option maxRecDepth 100000 in
theorem tb_X0_ringAt_0 {p : Program} {l : Launch} {e : Env} {s : State} {m : MethodId} {below : List Frame} {meth : Method} {c : Code} {args : Array Value} {dC : Nat → ClassId} {dI : Nat → Nat → Nat} {dA : Nat → ClassId} {zz : Nat → Nat} {base : Nat} {A : Nat → Prop} {Q : Int32 → List Nat → pF → Prop} (C : pCx p s m args meth c cX0_ringAt 2 (some .int) RX0 wsX0_ringAt A dC dI dA zz base) : ∀ (L : List Nat) (f : pF) (a0 : Nat) (a1 : Int32), wp_X0_ringAt_0 dA zz Q  L f a0 a1 → pAt p l e rm_X0_ringAt s m args below meth c dC dI A (MQ below (va_Qi (fun r (u : List Nat × pF) => Q r u.1 u.2) (pB dC dI dA A) A) args s 0 0 A) 0 0 0 2 [(0, .ref a0), (1, .int a1)] [] L f := by
  obtain ⟨hx, hb, hml, hown, hts, hr, hlocks, hA, hK, hB, hz, hN, hT⟩ := id C
  intro L f a0 a1 hw H locs hP hD hS ls hl
  rw [wp_X0_ringAt_0] at hw
  refine lv_iload_n hx hb dX0_ringAt_0 rfl (lv_at hl 1 rfl) ?_
  refine lv_if_lt (tgt := 21) hx hb dX0_ringAt_1 (by decide) (fun c_1 => ?_) (fun c_1 => ?_)
  · have hw := hw.1 c_1
    refine lv_iconst (v := -1) hx hb dX0_ringAt_21 (by decide) ?_
    exact W.iret (v := (-1 : Int32)) hx hb hr (fun t ht hW => ⟨⟨(-1 : Int32), (L, f), rfl, hw, by rw [ht]; exact hP, va_K.moved hW.alike hK, hD⟩, hS.F ht⟩) hS.2.2 dX0_ringAt_22
  · have hw := hw.2 c_1
    refine lv_iload_n hx hb dX0_ringAt_4 rfl (lv_at hl 1 rfl) ?_
    refine lv_aload_n hx hb dX0_ringAt_5 rfl (lv_at hl 0 rfl) ?_
    obtain ⟨fs_6, g_6, ⟨hL9, hf9, hn9⟩, hw⟩ := hw
    refine va_get (D := (dC, dI)) (ci := 1) (v := .int g_6) (C := RX0) (T := TX0) (N := 8) hx hb hts iw_X0_ringAt_RX0 hown hK (p_one hP hL9 hf9) 0 rfl rfl 4 (by decide) (hts _ lk_X0_ringAt_34) (fun _ h9 => h9) hn9 dX0_ringAt_6 ?_
    refine lv_icmp_ge (tgt := 21) hx hb dX0_ringAt_9 (by decide) (fun c_9 => ?_) (fun c_9 => ?_)
    · have hw := hw.1 c_9
      refine lv_iconst (v := -1) hx hb dX0_ringAt_21 (by decide) ?_
      exact W.iret (v := (-1 : Int32)) hx hb hr (fun t ht hW => ⟨⟨(-1 : Int32), (L, f), rfl, hw, by rw [ht]; exact hP, va_K.moved hW.alike hK, hD⟩, hS.F ht⟩) hS.2.2 dX0_ringAt_22
    · have hw := hw.2 c_9
      refine lv_aload_n hx hb dX0_ringAt_12 rfl (lv_at hl 0 rfl) ?_
      obtain ⟨fs_13, g_13, ⟨hL9, hf9, hn9⟩, hw⟩ := hw
      refine va_get (D := (dC, dI)) (ci := 1) (v := .ref g_13) (C := RX0) (T := TX0) (N := 8) hx hb hts iw_X0_ringAt_RX0 hown hK (p_one hP hL9 hf9) 0 rfl rfl 3 (by decide) (hts _ lk_X0_ringAt_19) (fun _ h9 => h9) hn9 dX0_ringAt_13 ?_
      refine lv_iload_n hx hb dX0_ringAt_16 rfl (lv_at hl 1 rfl) ?_
      obtain ⟨n_17, h_17, ⟨hL9, hf9, hn9⟩, hw⟩ := hw
      refine va_iald hx hb hK (p_one hP hL9 hf9) 0 1 rfl rfl hn9 dX0_ringAt_17 ?_
      refine lv_topi (fun g_17 eg_17 => ?_)
      rw [← eg_17] at hw
      refine lv_goto (tgt := 22) hx hb dX0_ringAt_18 (by decide) ?_
      exact W.iret (v := g_17) hx hb hr (fun t ht hW => ⟨⟨g_17, (L, f), rfl, hw, by rw [ht]; exact hP, va_K.moved hW.alike hK, hD⟩, hS.F ht⟩) hS.2.2 dX0_ringAt_22
set_option maxHeartbeats 4000000 in
set_option maxRecDepth 100000 in
theorem c_X0_ringAt (l : Launch) (dC : Nat → ClassId) (dI : Nat → Nat → Nat) (dA : Nat → ClassId) (zz : Nat → Nat) (base : Nat) (L : List Nat) (f : pF) (sz : Nat) (a0 : Nat) (a1 : Int32) (Q : Int32 → List Nat → pF → Prop) (hw : wp_X0_ringAt_0 dA zz Q L f a0 a1) : Met l yX0_ringAt wsX0_ringAt rm_X0_ringAt (va_Pc [.ref a0, .int a1] (pPre dC dI dA zz base L f sz)) (va_Qi (fun r (u : List Nat × pF) => Q r u.1 u.2) (pB dC dI dA (va_A (va_pl L f) sz)) (va_A (va_pl L f) sz)) 0 0 (va_A (va_pl L f) sz) := by
  refine Met.ofW (cc := cX0_ringAt) (maxL := 2) (ret := (some .int)) (by decide) rfl ?_
  intro p e s m args below meth c s₁ B hml hv
  obtain ⟨rfl, hsz, hP, hK, hD0, hz, hN, hT⟩ := hv
  subst hsz
  have hl := lv_entry ([.ref a0, .int a1]) (n := 2) (Nat.le_of_ble_eq_true rfl)
  rw [lg_entry_eq]
  generalize (lg_sl ([.ref a0, .int a1]) ++ List.replicate (2 - (lg_sl ([.ref a0, .int a1])).length) Slot.unset).toArray = ls at hl ⊢
  exact tb_X0_ringAt_0 (Q := Q) (p := p) ⟨B.exec, B.bytes, hml, findClass_of_methodNamed B.named, atoms_spec (ws := wsX0_ringAt) B.pre, B.returns, B.notSynchronized, fun q h => Or.inr h, hK, pAB hD0 hz, hz, hN, hT⟩ L f a0 a1 hw s.heap [] hP (hD0.self (sz := s.heap.size)) va_S.rf ls (lv_sub hl [0, 1] rfl)
theorem iw_X0_stepsBackTo_RX0 : ∀ w ∈ u_ws RX0 TX0 8, w ∈ wsX0_stepsBackTo := by decide +kernel
theorem lk_X0_stepsBackTo_15 : Cond.fieldLink RX0 15 "TermKeeper$Definitions" "steps" "[I" ∈ wsX0_stepsBackTo := by decide +kernel
theorem lk_X0_stepsBackTo_9 : Cond.fieldLink RX0 9 "TermKeeper$Definitions" "bits" "[J" ∈ wsX0_stepsBackTo := by decide +kernel
abbrev rm_X0_stepsBackTo : Room := { frames := 0, cells := 0, slots := 0, locals := 0 }
def wp_X0_stepsBackTo_96 (dA : Nat → ClassId) (zz : Nat → Nat) (Q : Int32 → List Nat → pF → Prop) (k28_ : List Nat → pF → Nat → Int32 → Int64 → Int32 → Prop) (k47_ : List Nat → pF → Nat → Int32 → Int64 → Int32 → Int64 → Int32 → Prop) (L : List Nat) (f : pF) (a0 : Nat) (a1 : Int32) (a2 : Int64) (a4 : Int32) (a5 : Int64) (a7 : Int32) : Prop :=
    (∀ v7_96 : Int32, v7_96 = a7 + (1 : Int32) →
      (k47_ L f a0 a1 a2 a4 a5 v7_96))
def wp_X0_stepsBackTo_102 (dA : Nat → ClassId) (zz : Nat → Nat) (Q : Int32 → List Nat → pF → Prop) (k28_ : List Nat → pF → Nat → Int32 → Int64 → Int32 → Prop) (L : List Nat) (f : pF) (a0 : Nat) (a1 : Int32) (a4 : Int32) (a5 : Int64) : Prop :=
    (∀ v4_105 : Int32, v4_105 = a4 + (1 : Int32) →
      (k28_ L f a0 a1 a5 v4_105))
def wp_X0_stepsBackTo_47 (dA : Nat → ClassId) (zz : Nat → Nat) (Q : Int32 → List Nat → pF → Prop) (k28_ : List Nat → pF → Nat → Int32 → Int64 → Int32 → Prop) : Nat → List Nat → pF → Nat → Int32 → Int64 → Int32 → Int64 → Int32 → Prop
  | 0, _, _, _, _, _, _, _, _ => False
  | n + 1, L, f, a0, a1, a2, a4, a5, a7 =>
    (((40 : Int32) ≤ a7 →
      (wp_X0_stepsBackTo_102 dA zz Q k28_ L f a0 a1 a4 a5))
     ∧ (¬ (40 : Int32) ≤ a7 →
      (gR L f 1 a0 2 (fun g_55 =>
        (aI L f (dA 1) g_55 a7 (fun g_60 =>
          ((¬ g_60 = 0 →
            (wp_X0_stepsBackTo_96 dA zz Q k28_ (wp_X0_stepsBackTo_47 dA zz Q k28_ n) L f a0 a1 a2 a4 a5 a7))
           ∧ (g_60 = 0 →
            (gR L f 1 a0 0 (fun g_65 =>
              (aJ L f (dA 2) g_65 a7 (fun g_70 =>
                (((lg_cmp (g_70 &&& a2) (0 : Int64)) = 0 →
                  (wp_X0_stepsBackTo_96 dA zz Q k28_ (wp_X0_stepsBackTo_47 dA zz Q k28_ n) L f a0 a1 a2 a4 a5 a7))
                 ∧ (¬ (lg_cmp (g_70 &&& a2) (0 : Int64)) = 0 →
                  (gR L f 1 a0 2 (fun g_79 =>
                    (aIs L f (dA 1) g_79 a7 a4 (fun f_86 =>
                      (∀ v5_94 : Int64, v5_94 = (a5 ||| ((1 : Int64) <<< (Int32.toInt64 a7 &&& 63))) →
                        (wp_X0_stepsBackTo_96 dA zz Q k28_ (wp_X0_stepsBackTo_47 dA zz Q k28_ n) L f_86 a0 a1 a2 a4 v5_94 a7))))))))))))))))))))
def wp_X0_stepsBackTo_111 (dA : Nat → ClassId) (zz : Nat → Nat) (Q : Int32 → List Nat → pF → Prop) (L : List Nat) (f : pF) (a0 : Nat) (a1 : Int32) : Prop :=
    ((a1 < 0 →
      (Q (0 : Int32) L f))
     ∧ (¬ a1 < 0 →
      (((40 : Int32) ≤ a1 →
        (Q (0 : Int32) L f))
       ∧ (¬ (40 : Int32) ≤ a1 →
        (gR L f 1 a0 2 (fun g_122 =>
          (aI L f (dA 1) g_122 a1 (fun g_126 =>
            (Q g_126 L f)))))))))
def wp_X0_stepsBackTo_28 (dA : Nat → ClassId) (zz : Nat → Nat) (Q : Int32 → List Nat → pF → Prop) : Nat → List Nat → pF → Nat → Int32 → Int64 → Int32 → Prop
  | 0, _, _, _, _, _, _ => False
  | n + 1, L, f, a0, a1, a2, a4 =>
    (((40 : Int32) < a4 →
      (wp_X0_stepsBackTo_111 dA zz Q  L f a0 a1))
     ∧ (¬ (40 : Int32) < a4 →
      (((lg_cmp a2 (0 : Int64)) = 0 →
        (wp_X0_stepsBackTo_111 dA zz Q  L f a0 a1))
       ∧ (¬ (lg_cmp a2 (0 : Int64)) = 0 →
        (∃ n9 : Nat, wp_X0_stepsBackTo_47 dA zz Q (wp_X0_stepsBackTo_28 dA zz Q  n) n9 L f a0 a1 a2 a4 (0 : Int64) (0 : Int32))))))
def wp_X0_stepsBackTo_21 (dA : Nat → ClassId) (zz : Nat → Nat) (Q : Int32 → List Nat → pF → Prop) (L : List Nat) (f : pF) (a0 : Nat) (a1 : Int32) : Prop :=
    (∀ v2_24 : Int64, v2_24 = ((1 : Int64) <<< (Int32.toInt64 a1 &&& 63)) →
      (∃ n9 : Nat, wp_X0_stepsBackTo_28 dA zz Q  n9 L f a0 a1 v2_24 (1 : Int32)))
def wp_X0_stepsBackTo_2 (dA : Nat → ClassId) (zz : Nat → Nat) (Q : Int32 → List Nat → pF → Prop) : Nat → List Nat → pF → Nat → Int32 → Int32 → Prop
  | 0, _, _, _, _, _ => False
  | n + 1, L, f, a0, a1, a2 =>
    (((40 : Int32) ≤ a2 →
      (wp_X0_stepsBackTo_21 dA zz Q  L f a0 a1))
     ∧ (¬ (40 : Int32) ≤ a2 →
      (gR L f 1 a0 2 (fun g_9 =>
        (aIs L f (dA 1) g_9 a2 (0 : Int32) (fun f_14 =>
          (∀ v2_15 : Int32, v2_15 = a2 + (1 : Int32) →
            ((wp_X0_stepsBackTo_2 dA zz Q  n) L f_14 a0 a1 v2_15))))))))
def wp_X0_stepsBackTo_0 (dA : Nat → ClassId) (zz : Nat → Nat) (Q : Int32 → List Nat → pF → Prop) (L : List Nat) (f : pF) (a0 : Nat) (a1 : Int32) : Prop :=
    (∃ n9 : Nat, wp_X0_stepsBackTo_2 dA zz Q  n9 L f a0 a1 (0 : Int32))
set_option maxHeartbeats 4000000 in
set_option maxRecDepth 100000 in
theorem tb_X0_stepsBackTo_96 {p : Program} {l : Launch} {e : Env} {s : State} {m : MethodId} {below : List Frame} {meth : Method} {c : Code} {args : Array Value} {dC : Nat → ClassId} {dI : Nat → Nat → Nat} {dA : Nat → ClassId} {zz : Nat → Nat} {base : Nat} {A : Nat → Prop} {Q : Int32 → List Nat → pF → Prop} (C : pCx p s m args meth c cX0_stepsBackTo 8 (some .int) RX0 wsX0_stepsBackTo A dC dI dA zz base) {k28_ : List Nat → pF → Nat → Int32 → Int64 → Int32 → Prop} (h28_ : ∀ (L : List Nat) (f : pF) (a0 : Nat) (a1 : Int32) (a2 : Int64) (a4 : Int32), k28_ L f a0 a1 a2 a4 → pAt p l e rm_X0_stepsBackTo s m args below meth c dC dI A (MQ below (va_Qi (fun r (u : List Nat × pF) => Q r u.1 u.2) (pB dC dI dA A) A) args s 0 0 A) 0 0 28 8 [(0, .ref a0), (1, .int a1), (2, .long a2), (4, .int a4)] [] L f) {k47_ : List Nat → pF → Nat → Int32 → Int64 → Int32 → Int64 → Int32 → Prop} (h47_ : ∀ (L : List Nat) (f : pF) (a0 : Nat) (a1 : Int32) (a2 : Int64) (a4 : Int32) (a5 : Int64) (a7 : Int32), k47_ L f a0 a1 a2 a4 a5 a7 → pAt p l e rm_X0_stepsBackTo s m args below meth c dC dI A (MQ below (va_Qi (fun r (u : List Nat × pF) => Q r u.1 u.2) (pB dC dI dA A) A) args s 0 0 A) 0 0 47 8 [(0, .ref a0), (1, .int a1), (2, .long a2), (4, .int a4), (5, .long a5), (7, .int a7)] [] L f) : ∀ (L : List Nat) (f : pF) (a0 : Nat) (a1 : Int32) (a2 : Int64) (a4 : Int32) (a5 : Int64) (a7 : Int32), wp_X0_stepsBackTo_96 dA zz Q k28_ k47_ L f a0 a1 a2 a4 a5 a7 → pAt p l e rm_X0_stepsBackTo s m args below meth c dC dI A (MQ below (va_Qi (fun r (u : List Nat × pF) => Q r u.1 u.2) (pB dC dI dA A) A) args s 0 0 A) 0 0 96 8 [(0, .ref a0), (1, .int a1), (2, .long a2), (4, .int a4), (5, .long a5), (7, .int a7)] [] L f := by
  obtain ⟨hx, hb, hml, hown, hts, hr, hlocks, hA, hK, hB, hz, hN, hT⟩ := id C
  intro L f a0 a1 a2 a4 a5 a7 hw H locs hP hD hS ls hl
  rw [wp_X0_stepsBackTo_96] at hw
  obtain ⟨v7_96, ev7_96⟩ : ∃ y : Int32, y = a7 + (1 : Int32) := ⟨_, rfl⟩
  have hw := hw v7_96 ev7_96
  refine lv_iinc (v := v7_96) (lv' := [(7, .int v7_96), (0, .ref a0), (1, .int a1), (2, .long a2), (4, .int a4), (5, .long a5)]) hx hb dX0_stepsBackTo_96 hl (k := 5) rfl (by rw [ev7_96]; rfl) (by decide) rfl (fun ls hl => ?_)
  refine lv_goto (tgt := 47) hx hb dX0_stepsBackTo_99 (by decide) ?_
  exact h47_ L f a0 a1 a2 a4 a5 v7_96 hw H locs hP hD hS ls (lv_sub hl [1, 2, 3, 4, 5, 0] rfl)
set_option maxHeartbeats 4000000 in
set_option maxRecDepth 100000 in
theorem tb_X0_stepsBackTo_102 {p : Program} {l : Launch} {e : Env} {s : State} {m : MethodId} {below : List Frame} {meth : Method} {c : Code} {args : Array Value} {dC : Nat → ClassId} {dI : Nat → Nat → Nat} {dA : Nat → ClassId} {zz : Nat → Nat} {base : Nat} {A : Nat → Prop} {Q : Int32 → List Nat → pF → Prop} (C : pCx p s m args meth c cX0_stepsBackTo 8 (some .int) RX0 wsX0_stepsBackTo A dC dI dA zz base) {k28_ : List Nat → pF → Nat → Int32 → Int64 → Int32 → Prop} (h28_ : ∀ (L : List Nat) (f : pF) (a0 : Nat) (a1 : Int32) (a2 : Int64) (a4 : Int32), k28_ L f a0 a1 a2 a4 → pAt p l e rm_X0_stepsBackTo s m args below meth c dC dI A (MQ below (va_Qi (fun r (u : List Nat × pF) => Q r u.1 u.2) (pB dC dI dA A) A) args s 0 0 A) 0 0 28 8 [(0, .ref a0), (1, .int a1), (2, .long a2), (4, .int a4)] [] L f) : ∀ (L : List Nat) (f : pF) (a0 : Nat) (a1 : Int32) (a4 : Int32) (a5 : Int64), wp_X0_stepsBackTo_102 dA zz Q k28_ L f a0 a1 a4 a5 → pAt p l e rm_X0_stepsBackTo s m args below meth c dC dI A (MQ below (va_Qi (fun r (u : List Nat × pF) => Q r u.1 u.2) (pB dC dI dA A) A) args s 0 0 A) 0 0 102 8 [(0, .ref a0), (1, .int a1), (4, .int a4), (5, .long a5)] [] L f := by
  obtain ⟨hx, hb, hml, hown, hts, hr, hlocks, hA, hK, hB, hz, hN, hT⟩ := id C
  intro L f a0 a1 a4 a5 hw H locs hP hD hS ls hl
  rw [wp_X0_stepsBackTo_102] at hw
  refine lv_lload hx hb dX0_stepsBackTo_102 (lv_at hl 3 rfl) ?_
  refine lv_lstore_n (lv' := [(2, .long a5), (0, .ref a0), (1, .int a1), (4, .int a4), (5, .long a5)]) hx hb dX0_stepsBackTo_104 rfl hl (by decide) rfl (fun ls hl => ?_)
  obtain ⟨v4_105, ev4_105⟩ : ∃ y : Int32, y = a4 + (1 : Int32) := ⟨_, rfl⟩
  have hw := hw v4_105 ev4_105
  refine lv_iinc (v := v4_105) (lv' := [(4, .int v4_105), (2, .long a5), (0, .ref a0), (1, .int a1), (5, .long a5)]) hx hb dX0_stepsBackTo_105 hl (k := 3) rfl (by rw [ev4_105]; rfl) (by decide) rfl (fun ls hl => ?_)
  refine lv_goto (tgt := 28) hx hb dX0_stepsBackTo_108 (by decide) ?_
  exact h28_ L f a0 a1 a5 v4_105 hw H locs hP hD hS ls (lv_sub hl [2, 3, 1, 0] rfl)
set_option maxHeartbeats 4000000 in
set_option maxRecDepth 100000 in
theorem tb_X0_stepsBackTo_47 {p : Program} {l : Launch} {e : Env} {s : State} {m : MethodId} {below : List Frame} {meth : Method} {c : Code} {args : Array Value} {dC : Nat → ClassId} {dI : Nat → Nat → Nat} {dA : Nat → ClassId} {zz : Nat → Nat} {base : Nat} {A : Nat → Prop} {Q : Int32 → List Nat → pF → Prop} (C : pCx p s m args meth c cX0_stepsBackTo 8 (some .int) RX0 wsX0_stepsBackTo A dC dI dA zz base) {k28_ : List Nat → pF → Nat → Int32 → Int64 → Int32 → Prop} (h28_ : ∀ (L : List Nat) (f : pF) (a0 : Nat) (a1 : Int32) (a2 : Int64) (a4 : Int32), k28_ L f a0 a1 a2 a4 → pAt p l e rm_X0_stepsBackTo s m args below meth c dC dI A (MQ below (va_Qi (fun r (u : List Nat × pF) => Q r u.1 u.2) (pB dC dI dA A) A) args s 0 0 A) 0 0 28 8 [(0, .ref a0), (1, .int a1), (2, .long a2), (4, .int a4)] [] L f) : ∀ (n : Nat) (L : List Nat) (f : pF) (a0 : Nat) (a1 : Int32) (a2 : Int64) (a4 : Int32) (a5 : Int64) (a7 : Int32), wp_X0_stepsBackTo_47 dA zz Q k28_ n L f a0 a1 a2 a4 a5 a7 → pAt p l e rm_X0_stepsBackTo s m args below meth c dC dI A (MQ below (va_Qi (fun r (u : List Nat × pF) => Q r u.1 u.2) (pB dC dI dA A) A) args s 0 0 A) 0 0 47 8 [(0, .ref a0), (1, .int a1), (2, .long a2), (4, .int a4), (5, .long a5), (7, .int a7)] [] L f := by
  obtain ⟨hx, hb, hml, hown, hts, hr, hlocks, hA, hK, hB, hz, hN, hT⟩ := id C
  intro n
  induction n with
  | zero => intro L f a0 a1 a2 a4 a5 a7 hw; exact hw.elim
  | succ n ih =>
    intro L f a0 a1 a2 a4 a5 a7 hw H locs hP hD hS ls hl
    rw [wp_X0_stepsBackTo_47] at hw
    refine lv_iload hx hb dX0_stepsBackTo_47 (lv_at hl 5 rfl) ?_
    refine lv_bipush (v := 40) hx hb dX0_stepsBackTo_49 (by decide) ?_
    refine lv_icmp_ge (tgt := 102) hx hb dX0_stepsBackTo_51 (by decide) (fun c_51 => ?_) (fun c_51 => ?_)
    · have hw := hw.1 c_51
      exact tb_X0_stepsBackTo_102 C h28_ L f a0 a1 a4 a5 hw H locs hP hD hS ls (lv_sub hl [0, 1, 3, 4] rfl)
    · have hw := hw.2 c_51
      refine lv_aload_n hx hb dX0_stepsBackTo_54 rfl (lv_at hl 0 rfl) ?_
      obtain ⟨fs_55, g_55, ⟨hL9, hf9, hn9⟩, hw⟩ := hw
      refine va_get (D := (dC, dI)) (ci := 1) (v := .ref g_55) (C := RX0) (T := TX0) (N := 8) hx hb hts iw_X0_stepsBackTo_RX0 hown hK (p_one hP hL9 hf9) 0 rfl rfl 2 (by decide) (hts _ lk_X0_stepsBackTo_15) (fun _ h9 => h9) hn9 dX0_stepsBackTo_55 ?_
      refine lv_iload hx hb dX0_stepsBackTo_58 (lv_at hl 5 rfl) ?_
      obtain ⟨n_60, h_60, ⟨hL9, hf9, hn9⟩, hw⟩ := hw
      refine va_iald hx hb hK (p_one hP hL9 hf9) 0 1 rfl rfl hn9 dX0_stepsBackTo_60 ?_
      refine lv_topi (fun g_60 eg_60 => ?_)
      rw [← eg_60] at hw
      refine lv_if_ne (tgt := 96) hx hb dX0_stepsBackTo_61 (by decide) (fun c_61 => ?_) (fun c_61 => ?_)
      · have hw := hw.1 c_61
        exact tb_X0_stepsBackTo_96 C h28_ ih L f a0 a1 a2 a4 a5 a7 hw H locs hP hD hS ls (lv_sub hl [0, 1, 2, 3, 4, 5] rfl)
      · have hw := hw.2 c_61
        refine lv_aload_n hx hb dX0_stepsBackTo_64 rfl (lv_at hl 0 rfl) ?_
        obtain ⟨fs_65, g_65, ⟨hL9, hf9, hn9⟩, hw⟩ := hw
        refine va_get (D := (dC, dI)) (ci := 1) (v := .ref g_65) (C := RX0) (T := TX0) (N := 8) hx hb hts iw_X0_stepsBackTo_RX0 hown hK (p_one hP hL9 hf9) 0 rfl rfl 0 (by decide) (hts _ lk_X0_stepsBackTo_9) (fun _ h9 => h9) hn9 dX0_stepsBackTo_65 ?_
        refine lv_iload hx hb dX0_stepsBackTo_68 (lv_at hl 5 rfl) ?_
        obtain ⟨n_70, h_70, ⟨hL9, hf9, hn9⟩, hw⟩ := hw
        refine va_lald hx hb hK (p_one hP hL9 hf9) 0 2 rfl rfl hn9 dX0_stepsBackTo_70 ?_
        refine lv_topl (fun g_70 eg_70 => ?_)
        rw [← eg_70] at hw
        refine lv_lload_n hx hb dX0_stepsBackTo_71 rfl (lv_at hl 2 rfl) ?_
        refine lv_land hx hb dX0_stepsBackTo_72 ?_
        refine lv_lconst (v := 0) hx hb dX0_stepsBackTo_73 (by decide) ?_
        refine W.lcmp hx hb dX0_stepsBackTo_74 ?_
        refine lv_if_eq (tgt := 96) hx hb dX0_stepsBackTo_75 (by decide) (fun c_75 => ?_) (fun c_75 => ?_)
        · have hw := hw.1 c_75
          exact tb_X0_stepsBackTo_96 C h28_ ih L f a0 a1 a2 a4 a5 a7 hw H locs hP hD hS ls (lv_sub hl [0, 1, 2, 3, 4, 5] rfl)
        · have hw := hw.2 c_75
          refine lv_aload_n hx hb dX0_stepsBackTo_78 rfl (lv_at hl 0 rfl) ?_
          obtain ⟨fs_79, g_79, ⟨hL9, hf9, hn9⟩, hw⟩ := hw
          refine va_get (D := (dC, dI)) (ci := 1) (v := .ref g_79) (C := RX0) (T := TX0) (N := 8) hx hb hts iw_X0_stepsBackTo_RX0 hown hK (p_one hP hL9 hf9) 0 rfl rfl 2 (by decide) (hts _ lk_X0_stepsBackTo_15) (fun _ h9 => h9) hn9 dX0_stepsBackTo_79 ?_
          refine lv_iload hx hb dX0_stepsBackTo_82 (lv_at hl 5 rfl) ?_
          refine lv_iload hx hb dX0_stepsBackTo_84 (lv_at hl 3 rfl) ?_
          obtain ⟨n_86, h_86, ⟨hL9, hf9, hn9⟩, hw⟩ := hw
          obtain ⟨kq9, hkq9⟩ := p_at hL9 hf9
          refine va_iast hx hb hK hP hD hS kq9 1 hkq9 rfl hn9 dX0_stepsBackTo_86 (fun H locs hP2 hD2 hS => ?_)
          rw [p_set hD hL9 hf9 hkq9] at hP2 hD2
          obtain ⟨f_86, ef_86⟩ : ∃ y : pF, y = va_up f g_79 (.inl (dA 1, n_86, .inl (upd h_86 (Int32.toNatClampNeg a7) a4))) := ⟨_, rfl⟩
          rw [← ef_86] at hP2 hD2
          have hw := hw f_86 ef_86
          have hP := hP2
          have hD := hD2
          refine lv_lload hx hb dX0_stepsBackTo_87 (lv_at hl 4 rfl) ?_
          refine lv_lconst (v := 1) hx hb dX0_stepsBackTo_89 (by decide) ?_
          refine lv_iload hx hb dX0_stepsBackTo_90 (lv_at hl 5 rfl) ?_
          refine lv_lshl hx hb dX0_stepsBackTo_92 rfl ?_
          refine lv_lor hx hb dX0_stepsBackTo_93 ?_
          refine lv_topl (fun v5_94 ev5_94 => ?_)
          have hw := hw v5_94 ev5_94
          refine lv_lstore (lv' := [(5, .long v5_94), (0, .ref a0), (1, .int a1), (2, .long a2), (4, .int a4), (7, .int a7)]) hx hb dX0_stepsBackTo_94 hl (by decide) rfl (fun ls hl => ?_)
          exact tb_X0_stepsBackTo_96 C h28_ ih L f_86 a0 a1 a2 a4 v5_94 a7 hw H locs hP hD hS ls (lv_sub hl [1, 2, 3, 4, 0, 5] rfl)
set_option maxHeartbeats 4000000 in
set_option maxRecDepth 100000 in
theorem tb_X0_stepsBackTo_111 {p : Program} {l : Launch} {e : Env} {s : State} {m : MethodId} {below : List Frame} {meth : Method} {c : Code} {args : Array Value} {dC : Nat → ClassId} {dI : Nat → Nat → Nat} {dA : Nat → ClassId} {zz : Nat → Nat} {base : Nat} {A : Nat → Prop} {Q : Int32 → List Nat → pF → Prop} (C : pCx p s m args meth c cX0_stepsBackTo 8 (some .int) RX0 wsX0_stepsBackTo A dC dI dA zz base) : ∀ (L : List Nat) (f : pF) (a0 : Nat) (a1 : Int32), wp_X0_stepsBackTo_111 dA zz Q  L f a0 a1 → pAt p l e rm_X0_stepsBackTo s m args below meth c dC dI A (MQ below (va_Qi (fun r (u : List Nat × pF) => Q r u.1 u.2) (pB dC dI dA A) A) args s 0 0 A) 0 0 111 8 [(0, .ref a0), (1, .int a1)] [] L f := by
  obtain ⟨hx, hb, hml, hown, hts, hr, hlocks, hA, hK, hB, hz, hN, hT⟩ := id C
  intro L f a0 a1 hw H locs hP hD hS ls hl
  rw [wp_X0_stepsBackTo_111] at hw
  refine lv_iload_n hx hb dX0_stepsBackTo_111 rfl (lv_at hl 1 rfl) ?_
  refine lv_if_lt (tgt := 130) hx hb dX0_stepsBackTo_112 (by decide) (fun c_112 => ?_) (fun c_112 => ?_)
  · have hw := hw.1 c_112
    refine lv_iconst (v := 0) hx hb dX0_stepsBackTo_130 (by decide) ?_
    exact W.iret (v := (0 : Int32)) hx hb hr (fun t ht hW => ⟨⟨(0 : Int32), (L, f), rfl, hw, by rw [ht]; exact hP, va_K.moved hW.alike hK, hD⟩, hS.F ht⟩) hS.2.2 dX0_stepsBackTo_131
  · have hw := hw.2 c_112
    refine lv_iload_n hx hb dX0_stepsBackTo_115 rfl (lv_at hl 1 rfl) ?_
    refine lv_bipush (v := 40) hx hb dX0_stepsBackTo_116 (by decide) ?_
    refine lv_icmp_ge (tgt := 130) hx hb dX0_stepsBackTo_118 (by decide) (fun c_118 => ?_) (fun c_118 => ?_)
    · have hw := hw.1 c_118
      refine lv_iconst (v := 0) hx hb dX0_stepsBackTo_130 (by decide) ?_
      exact W.iret (v := (0 : Int32)) hx hb hr (fun t ht hW => ⟨⟨(0 : Int32), (L, f), rfl, hw, by rw [ht]; exact hP, va_K.moved hW.alike hK, hD⟩, hS.F ht⟩) hS.2.2 dX0_stepsBackTo_131
    · have hw := hw.2 c_118
      refine lv_aload_n hx hb dX0_stepsBackTo_121 rfl (lv_at hl 0 rfl) ?_
      obtain ⟨fs_122, g_122, ⟨hL9, hf9, hn9⟩, hw⟩ := hw
      refine va_get (D := (dC, dI)) (ci := 1) (v := .ref g_122) (C := RX0) (T := TX0) (N := 8) hx hb hts iw_X0_stepsBackTo_RX0 hown hK (p_one hP hL9 hf9) 0 rfl rfl 2 (by decide) (hts _ lk_X0_stepsBackTo_15) (fun _ h9 => h9) hn9 dX0_stepsBackTo_122 ?_
      refine lv_iload_n hx hb dX0_stepsBackTo_125 rfl (lv_at hl 1 rfl) ?_
      obtain ⟨n_126, h_126, ⟨hL9, hf9, hn9⟩, hw⟩ := hw
      refine va_iald hx hb hK (p_one hP hL9 hf9) 0 1 rfl rfl hn9 dX0_stepsBackTo_126 ?_
      refine lv_topi (fun g_126 eg_126 => ?_)
      rw [← eg_126] at hw
      refine lv_goto (tgt := 131) hx hb dX0_stepsBackTo_127 (by decide) ?_
      exact W.iret (v := g_126) hx hb hr (fun t ht hW => ⟨⟨g_126, (L, f), rfl, hw, by rw [ht]; exact hP, va_K.moved hW.alike hK, hD⟩, hS.F ht⟩) hS.2.2 dX0_stepsBackTo_131
set_option maxHeartbeats 4000000 in
set_option maxRecDepth 100000 in
theorem tb_X0_stepsBackTo_28 {p : Program} {l : Launch} {e : Env} {s : State} {m : MethodId} {below : List Frame} {meth : Method} {c : Code} {args : Array Value} {dC : Nat → ClassId} {dI : Nat → Nat → Nat} {dA : Nat → ClassId} {zz : Nat → Nat} {base : Nat} {A : Nat → Prop} {Q : Int32 → List Nat → pF → Prop} (C : pCx p s m args meth c cX0_stepsBackTo 8 (some .int) RX0 wsX0_stepsBackTo A dC dI dA zz base) : ∀ (n : Nat) (L : List Nat) (f : pF) (a0 : Nat) (a1 : Int32) (a2 : Int64) (a4 : Int32), wp_X0_stepsBackTo_28 dA zz Q  n L f a0 a1 a2 a4 → pAt p l e rm_X0_stepsBackTo s m args below meth c dC dI A (MQ below (va_Qi (fun r (u : List Nat × pF) => Q r u.1 u.2) (pB dC dI dA A) A) args s 0 0 A) 0 0 28 8 [(0, .ref a0), (1, .int a1), (2, .long a2), (4, .int a4)] [] L f := by
  obtain ⟨hx, hb, hml, hown, hts, hr, hlocks, hA, hK, hB, hz, hN, hT⟩ := id C
  intro n
  induction n with
  | zero => intro L f a0 a1 a2 a4 hw; exact hw.elim
  | succ n ih =>
    intro L f a0 a1 a2 a4 hw H locs hP hD hS ls hl
    rw [wp_X0_stepsBackTo_28] at hw
    refine lv_iload hx hb dX0_stepsBackTo_28 (lv_at hl 3 rfl) ?_
    refine lv_bipush (v := 40) hx hb dX0_stepsBackTo_30 (by decide) ?_
    refine lv_icmp_gt (tgt := 111) hx hb dX0_stepsBackTo_32 (by decide) (fun c_32 => ?_) (fun c_32 => ?_)
    · have hw := hw.1 c_32
      exact tb_X0_stepsBackTo_111 C  L f a0 a1 hw H locs hP hD hS ls (lv_sub hl [0, 1] rfl)
    · have hw := hw.2 c_32
      refine lv_lload_n hx hb dX0_stepsBackTo_35 rfl (lv_at hl 2 rfl) ?_
      refine lv_lconst (v := 0) hx hb dX0_stepsBackTo_36 (by decide) ?_
      refine W.lcmp hx hb dX0_stepsBackTo_37 ?_
      refine lv_if_eq (tgt := 111) hx hb dX0_stepsBackTo_38 (by decide) (fun c_38 => ?_) (fun c_38 => ?_)
      · have hw := hw.1 c_38
        exact tb_X0_stepsBackTo_111 C  L f a0 a1 hw H locs hP hD hS ls (lv_sub hl [0, 1] rfl)
      · have hw := hw.2 c_38
        refine lv_lconst (v := 0) hx hb dX0_stepsBackTo_41 (by decide) ?_
        refine lv_lstore (lv' := [(5, .long (0 : Int64)), (0, .ref a0), (1, .int a1), (2, .long a2), (4, .int a4)]) hx hb dX0_stepsBackTo_42 hl (by decide) rfl (fun ls hl => ?_)
        refine lv_iconst (v := 0) hx hb dX0_stepsBackTo_44 (by decide) ?_
        refine lv_istore (lv' := [(7, .int (0 : Int32)), (5, .long (0 : Int64)), (0, .ref a0), (1, .int a1), (2, .long a2), (4, .int a4)]) hx hb dX0_stepsBackTo_45 hl (by decide) rfl (fun ls hl => ?_)
        obtain ⟨n9, hw⟩ := hw
        exact tb_X0_stepsBackTo_47 C ih n9 L f a0 a1 a2 a4 (0 : Int64) (0 : Int32) hw H locs hP hD hS ls (lv_sub hl [2, 3, 4, 5, 1, 0] rfl)
set_option maxHeartbeats 4000000 in
set_option maxRecDepth 100000 in
theorem tb_X0_stepsBackTo_21 {p : Program} {l : Launch} {e : Env} {s : State} {m : MethodId} {below : List Frame} {meth : Method} {c : Code} {args : Array Value} {dC : Nat → ClassId} {dI : Nat → Nat → Nat} {dA : Nat → ClassId} {zz : Nat → Nat} {base : Nat} {A : Nat → Prop} {Q : Int32 → List Nat → pF → Prop} (C : pCx p s m args meth c cX0_stepsBackTo 8 (some .int) RX0 wsX0_stepsBackTo A dC dI dA zz base) : ∀ (L : List Nat) (f : pF) (a0 : Nat) (a1 : Int32), wp_X0_stepsBackTo_21 dA zz Q  L f a0 a1 → pAt p l e rm_X0_stepsBackTo s m args below meth c dC dI A (MQ below (va_Qi (fun r (u : List Nat × pF) => Q r u.1 u.2) (pB dC dI dA A) A) args s 0 0 A) 0 0 21 8 [(0, .ref a0), (1, .int a1)] [] L f := by
  obtain ⟨hx, hb, hml, hown, hts, hr, hlocks, hA, hK, hB, hz, hN, hT⟩ := id C
  intro L f a0 a1 hw H locs hP hD hS ls hl
  rw [wp_X0_stepsBackTo_21] at hw
  refine lv_lconst (v := 1) hx hb dX0_stepsBackTo_21 (by decide) ?_
  refine lv_iload_n hx hb dX0_stepsBackTo_22 rfl (lv_at hl 1 rfl) ?_
  refine lv_lshl hx hb dX0_stepsBackTo_23 rfl ?_
  refine lv_topl (fun v2_24 ev2_24 => ?_)
  have hw := hw v2_24 ev2_24
  refine lv_lstore_n (lv' := [(2, .long v2_24), (0, .ref a0), (1, .int a1)]) hx hb dX0_stepsBackTo_24 rfl hl (by decide) rfl (fun ls hl => ?_)
  refine lv_iconst (v := 1) hx hb dX0_stepsBackTo_25 (by decide) ?_
  refine lv_istore (lv' := [(4, .int (1 : Int32)), (2, .long v2_24), (0, .ref a0), (1, .int a1)]) hx hb dX0_stepsBackTo_26 hl (by decide) rfl (fun ls hl => ?_)
  obtain ⟨n9, hw⟩ := hw
  exact tb_X0_stepsBackTo_28 C  n9 L f a0 a1 v2_24 (1 : Int32) hw H locs hP hD hS ls (lv_sub hl [2, 3, 1, 0] rfl)
set_option maxHeartbeats 4000000 in
set_option maxRecDepth 100000 in
theorem tb_X0_stepsBackTo_2 {p : Program} {l : Launch} {e : Env} {s : State} {m : MethodId} {below : List Frame} {meth : Method} {c : Code} {args : Array Value} {dC : Nat → ClassId} {dI : Nat → Nat → Nat} {dA : Nat → ClassId} {zz : Nat → Nat} {base : Nat} {A : Nat → Prop} {Q : Int32 → List Nat → pF → Prop} (C : pCx p s m args meth c cX0_stepsBackTo 8 (some .int) RX0 wsX0_stepsBackTo A dC dI dA zz base) : ∀ (n : Nat) (L : List Nat) (f : pF) (a0 : Nat) (a1 : Int32) (a2 : Int32), wp_X0_stepsBackTo_2 dA zz Q  n L f a0 a1 a2 → pAt p l e rm_X0_stepsBackTo s m args below meth c dC dI A (MQ below (va_Qi (fun r (u : List Nat × pF) => Q r u.1 u.2) (pB dC dI dA A) A) args s 0 0 A) 0 0 2 8 [(0, .ref a0), (1, .int a1), (2, .int a2)] [] L f := by
  obtain ⟨hx, hb, hml, hown, hts, hr, hlocks, hA, hK, hB, hz, hN, hT⟩ := id C
  intro n
  induction n with
  | zero => intro L f a0 a1 a2 hw; exact hw.elim
  | succ n ih =>
    intro L f a0 a1 a2 hw H locs hP hD hS ls hl
    rw [wp_X0_stepsBackTo_2] at hw
    refine lv_iload_n hx hb dX0_stepsBackTo_2 rfl (lv_at hl 2 rfl) ?_
    refine lv_bipush (v := 40) hx hb dX0_stepsBackTo_3 (by decide) ?_
    refine lv_icmp_ge (tgt := 21) hx hb dX0_stepsBackTo_5 (by decide) (fun c_5 => ?_) (fun c_5 => ?_)
    · have hw := hw.1 c_5
      exact tb_X0_stepsBackTo_21 C  L f a0 a1 hw H locs hP hD hS ls (lv_sub hl [0, 1] rfl)
    · have hw := hw.2 c_5
      refine lv_aload_n hx hb dX0_stepsBackTo_8 rfl (lv_at hl 0 rfl) ?_
      obtain ⟨fs_9, g_9, ⟨hL9, hf9, hn9⟩, hw⟩ := hw
      refine va_get (D := (dC, dI)) (ci := 1) (v := .ref g_9) (C := RX0) (T := TX0) (N := 8) hx hb hts iw_X0_stepsBackTo_RX0 hown hK (p_one hP hL9 hf9) 0 rfl rfl 2 (by decide) (hts _ lk_X0_stepsBackTo_15) (fun _ h9 => h9) hn9 dX0_stepsBackTo_9 ?_
      refine lv_iload_n hx hb dX0_stepsBackTo_12 rfl (lv_at hl 2 rfl) ?_
      refine lv_iconst (v := 0) hx hb dX0_stepsBackTo_13 (by decide) ?_
      obtain ⟨n_14, h_14, ⟨hL9, hf9, hn9⟩, hw⟩ := hw
      obtain ⟨kq9, hkq9⟩ := p_at hL9 hf9
      refine va_iast hx hb hK hP hD hS kq9 1 hkq9 rfl hn9 dX0_stepsBackTo_14 (fun H locs hP2 hD2 hS => ?_)
      rw [p_set hD hL9 hf9 hkq9] at hP2 hD2
      obtain ⟨f_14, ef_14⟩ : ∃ y : pF, y = va_up f g_9 (.inl (dA 1, n_14, .inl (upd h_14 (Int32.toNatClampNeg a2) (0 : Int32)))) := ⟨_, rfl⟩
      rw [← ef_14] at hP2 hD2
      have hw := hw f_14 ef_14
      have hP := hP2
      have hD := hD2
      obtain ⟨v2_15, ev2_15⟩ : ∃ y : Int32, y = a2 + (1 : Int32) := ⟨_, rfl⟩
      have hw := hw v2_15 ev2_15
      refine lv_iinc (v := v2_15) (lv' := [(2, .int v2_15), (0, .ref a0), (1, .int a1)]) hx hb dX0_stepsBackTo_15 hl (k := 2) rfl (by rw [ev2_15]; rfl) (by decide) rfl (fun ls hl => ?_)
      refine lv_goto (tgt := 2) hx hb dX0_stepsBackTo_18 (by decide) ?_
      exact ih L f_14 a0 a1 v2_15 hw H locs hP hD hS ls (lv_sub hl [1, 2, 0] rfl)
set_option maxHeartbeats 4000000 in
set_option maxRecDepth 100000 in
theorem tb_X0_stepsBackTo_0 {p : Program} {l : Launch} {e : Env} {s : State} {m : MethodId} {below : List Frame} {meth : Method} {c : Code} {args : Array Value} {dC : Nat → ClassId} {dI : Nat → Nat → Nat} {dA : Nat → ClassId} {zz : Nat → Nat} {base : Nat} {A : Nat → Prop} {Q : Int32 → List Nat → pF → Prop} (C : pCx p s m args meth c cX0_stepsBackTo 8 (some .int) RX0 wsX0_stepsBackTo A dC dI dA zz base) : ∀ (L : List Nat) (f : pF) (a0 : Nat) (a1 : Int32), wp_X0_stepsBackTo_0 dA zz Q  L f a0 a1 → pAt p l e rm_X0_stepsBackTo s m args below meth c dC dI A (MQ below (va_Qi (fun r (u : List Nat × pF) => Q r u.1 u.2) (pB dC dI dA A) A) args s 0 0 A) 0 0 0 8 [(0, .ref a0), (1, .int a1)] [] L f := by
  obtain ⟨hx, hb, hml, hown, hts, hr, hlocks, hA, hK, hB, hz, hN, hT⟩ := id C
  intro L f a0 a1 hw H locs hP hD hS ls hl
  rw [wp_X0_stepsBackTo_0] at hw
  refine lv_iconst (v := 0) hx hb dX0_stepsBackTo_0 (by decide) ?_
  refine lv_istore_n (lv' := [(2, .int (0 : Int32)), (0, .ref a0), (1, .int a1)]) hx hb dX0_stepsBackTo_1 rfl hl (by decide) rfl (fun ls hl => ?_)
  obtain ⟨n9, hw⟩ := hw
  exact tb_X0_stepsBackTo_2 C  n9 L f a0 a1 (0 : Int32) hw H locs hP hD hS ls (lv_sub hl [1, 2, 0] rfl)
set_option maxHeartbeats 4000000 in
set_option maxRecDepth 100000 in
theorem c_X0_stepsBackTo (l : Launch) (dC : Nat → ClassId) (dI : Nat → Nat → Nat) (dA : Nat → ClassId) (zz : Nat → Nat) (base : Nat) (L : List Nat) (f : pF) (sz : Nat) (a0 : Nat) (a1 : Int32) (Q : Int32 → List Nat → pF → Prop) (hw : wp_X0_stepsBackTo_0 dA zz Q L f a0 a1) : Met l yX0_stepsBackTo wsX0_stepsBackTo rm_X0_stepsBackTo (va_Pc [.ref a0, .int a1] (pPre dC dI dA zz base L f sz)) (va_Qi (fun r (u : List Nat × pF) => Q r u.1 u.2) (pB dC dI dA (va_A (va_pl L f) sz)) (va_A (va_pl L f) sz)) 0 0 (va_A (va_pl L f) sz) := by
  refine Met.ofW (cc := cX0_stepsBackTo) (maxL := 8) (ret := (some .int)) (by decide) rfl ?_
  intro p e s m args below meth c s₁ B hml hv
  obtain ⟨rfl, hsz, hP, hK, hD0, hz, hN, hT⟩ := hv
  subst hsz
  have hl := lv_entry ([.ref a0, .int a1]) (n := 8) (Nat.le_of_ble_eq_true rfl)
  rw [lg_entry_eq]
  generalize (lg_sl ([.ref a0, .int a1]) ++ List.replicate (8 - (lg_sl ([.ref a0, .int a1])).length) Slot.unset).toArray = ls at hl ⊢
  exact tb_X0_stepsBackTo_0 (Q := Q) (p := p) ⟨B.exec, B.bytes, hml, findClass_of_methodNamed B.named, atoms_spec (ws := wsX0_stepsBackTo) B.pre, B.returns, B.notSynchronized, fun q h => Or.inr h, hK, pAB hD0 hz, hz, hN, hT⟩ L f a0 a1 hw s.heap [] hP (hD0.self (sz := s.heap.size)) va_S.rf ls (lv_sub hl [0, 1] rfl)
theorem iw_X0_leastNext_RX0 : ∀ w ∈ u_ws RX0 TX0 8, w ∈ wsX0_leastNext := by decide +kernel
theorem lk_X0_leastNext_15 : Cond.fieldLink RX0 15 "TermKeeper$Definitions" "steps" "[I" ∈ wsX0_leastNext := by decide +kernel
theorem lk_X0_leastNext_9 : Cond.fieldLink RX0 9 "TermKeeper$Definitions" "bits" "[J" ∈ wsX0_leastNext := by decide +kernel
abbrev rm_X0_leastNext : Room := { frames := 0, cells := 0, slots := 0, locals := 0 }
def wp_X0_leastNext_47 (dA : Nat → ClassId) (zz : Nat → Nat) (Q : Int32 → List Nat → pF → Prop) (k14_ : List Nat → pF → Nat → Int32 → Int32 → Int32 → Prop) (L : List Nat) (f : pF) (a0 : Nat) (a1 : Int32) (a2 : Int32) (a3 : Int32) : Prop :=
    (∀ v3_47 : Int32, v3_47 = a3 + (1 : Int32) →
      (k14_ L f a0 a1 a2 v3_47))
def wp_X0_leastNext_14 (dA : Nat → ClassId) (zz : Nat → Nat) (Q : Int32 → List Nat → pF → Prop) : Nat → List Nat → pF → Nat → Int32 → Int32 → Int32 → Prop
  | 0, _, _, _, _, _, _ => False
  | n + 1, L, f, a0, a1, a2, a3 =>
    (((40 : Int32) ≤ a3 →
      (Q (-1 : Int32) L f))
     ∧ (¬ (40 : Int32) ≤ a3 →
      (gR L f 1 a0 0 (fun g_21 =>
        (aJ L f (dA 2) g_21 a1 (fun g_25 =>
          (((lg_cmp ((g_25 >>> (Int32.toInt64 a3 &&& 63)) &&& (1 : Int64)) (0 : Int64)) = 0 →
            (wp_X0_leastNext_47 dA zz Q (wp_X0_leastNext_14 dA zz Q  n) L f a0 a1 a2 a3))
           ∧ (¬ (lg_cmp ((g_25 >>> (Int32.toInt64 a3 &&& 63)) &&& (1 : Int64)) (0 : Int64)) = 0 →
            (gR L f 1 a0 2 (fun g_36 =>
              (aI L f (dA 1) g_36 a3 (fun g_40 =>
                ((¬ g_40 = a2 →
                  (wp_X0_leastNext_47 dA zz Q (wp_X0_leastNext_14 dA zz Q  n) L f a0 a1 a2 a3))
                 ∧ (g_40 = a2 →
                  (Q a3 L f)))))))))))))))
def wp_X0_leastNext_0 (dA : Nat → ClassId) (zz : Nat → Nat) (Q : Int32 → List Nat → pF → Prop) (L : List Nat) (f : pF) (a0 : Nat) (a1 : Int32) (a2 : Int32) : Prop :=
    ((a1 < 0 →
      (Q (-1 : Int32) L f))
     ∧ (¬ a1 < 0 →
      ((a1 < (40 : Int32) →
        (∃ n9 : Nat, wp_X0_leastNext_14 dA zz Q  n9 L f a0 a1 a2 (0 : Int32)))
       ∧ (¬ a1 < (40 : Int32) →
        (Q (-1 : Int32) L f)))))
set_option maxHeartbeats 4000000 in
set_option maxRecDepth 100000 in
theorem tb_X0_leastNext_47 {p : Program} {l : Launch} {e : Env} {s : State} {m : MethodId} {below : List Frame} {meth : Method} {c : Code} {args : Array Value} {dC : Nat → ClassId} {dI : Nat → Nat → Nat} {dA : Nat → ClassId} {zz : Nat → Nat} {base : Nat} {A : Nat → Prop} {Q : Int32 → List Nat → pF → Prop} (C : pCx p s m args meth c cX0_leastNext 4 (some .int) RX0 wsX0_leastNext A dC dI dA zz base) {k14_ : List Nat → pF → Nat → Int32 → Int32 → Int32 → Prop} (h14_ : ∀ (L : List Nat) (f : pF) (a0 : Nat) (a1 : Int32) (a2 : Int32) (a3 : Int32), k14_ L f a0 a1 a2 a3 → pAt p l e rm_X0_leastNext s m args below meth c dC dI A (MQ below (va_Qi (fun r (u : List Nat × pF) => Q r u.1 u.2) (pB dC dI dA A) A) args s 0 0 A) 0 0 14 4 [(0, .ref a0), (1, .int a1), (2, .int a2), (3, .int a3)] [] L f) : ∀ (L : List Nat) (f : pF) (a0 : Nat) (a1 : Int32) (a2 : Int32) (a3 : Int32), wp_X0_leastNext_47 dA zz Q k14_ L f a0 a1 a2 a3 → pAt p l e rm_X0_leastNext s m args below meth c dC dI A (MQ below (va_Qi (fun r (u : List Nat × pF) => Q r u.1 u.2) (pB dC dI dA A) A) args s 0 0 A) 0 0 47 4 [(0, .ref a0), (1, .int a1), (2, .int a2), (3, .int a3)] [] L f := by
  obtain ⟨hx, hb, hml, hown, hts, hr, hlocks, hA, hK, hB, hz, hN, hT⟩ := id C
  intro L f a0 a1 a2 a3 hw H locs hP hD hS ls hl
  rw [wp_X0_leastNext_47] at hw
  obtain ⟨v3_47, ev3_47⟩ : ∃ y : Int32, y = a3 + (1 : Int32) := ⟨_, rfl⟩
  have hw := hw v3_47 ev3_47
  refine lv_iinc (v := v3_47) (lv' := [(3, .int v3_47), (0, .ref a0), (1, .int a1), (2, .int a2)]) hx hb dX0_leastNext_47 hl (k := 3) rfl (by rw [ev3_47]; rfl) (by decide) rfl (fun ls hl => ?_)
  refine lv_goto (tgt := 14) hx hb dX0_leastNext_50 (by decide) ?_
  exact h14_ L f a0 a1 a2 v3_47 hw H locs hP hD hS ls (lv_sub hl [1, 2, 3, 0] rfl)
set_option maxHeartbeats 4000000 in
set_option maxRecDepth 100000 in
theorem tb_X0_leastNext_14 {p : Program} {l : Launch} {e : Env} {s : State} {m : MethodId} {below : List Frame} {meth : Method} {c : Code} {args : Array Value} {dC : Nat → ClassId} {dI : Nat → Nat → Nat} {dA : Nat → ClassId} {zz : Nat → Nat} {base : Nat} {A : Nat → Prop} {Q : Int32 → List Nat → pF → Prop} (C : pCx p s m args meth c cX0_leastNext 4 (some .int) RX0 wsX0_leastNext A dC dI dA zz base) : ∀ (n : Nat) (L : List Nat) (f : pF) (a0 : Nat) (a1 : Int32) (a2 : Int32) (a3 : Int32), wp_X0_leastNext_14 dA zz Q  n L f a0 a1 a2 a3 → pAt p l e rm_X0_leastNext s m args below meth c dC dI A (MQ below (va_Qi (fun r (u : List Nat × pF) => Q r u.1 u.2) (pB dC dI dA A) A) args s 0 0 A) 0 0 14 4 [(0, .ref a0), (1, .int a1), (2, .int a2), (3, .int a3)] [] L f := by
  obtain ⟨hx, hb, hml, hown, hts, hr, hlocks, hA, hK, hB, hz, hN, hT⟩ := id C
  intro n
  induction n with
  | zero => intro L f a0 a1 a2 a3 hw; exact hw.elim
  | succ n ih =>
    intro L f a0 a1 a2 a3 hw H locs hP hD hS ls hl
    rw [wp_X0_leastNext_14] at hw
    refine lv_iload_n hx hb dX0_leastNext_14 rfl (lv_at hl 3 rfl) ?_
    refine lv_bipush (v := 40) hx hb dX0_leastNext_15 (by decide) ?_
    refine lv_icmp_ge (tgt := 53) hx hb dX0_leastNext_17 (by decide) (fun c_17 => ?_) (fun c_17 => ?_)
    · have hw := hw.1 c_17
      refine lv_iconst (v := -1) hx hb dX0_leastNext_53 (by decide) ?_
      exact W.iret (v := (-1 : Int32)) hx hb hr (fun t ht hW => ⟨⟨(-1 : Int32), (L, f), rfl, hw, by rw [ht]; exact hP, va_K.moved hW.alike hK, hD⟩, hS.F ht⟩) hS.2.2 dX0_leastNext_54
    · have hw := hw.2 c_17
      refine lv_aload_n hx hb dX0_leastNext_20 rfl (lv_at hl 0 rfl) ?_
      obtain ⟨fs_21, g_21, ⟨hL9, hf9, hn9⟩, hw⟩ := hw
      refine va_get (D := (dC, dI)) (ci := 1) (v := .ref g_21) (C := RX0) (T := TX0) (N := 8) hx hb hts iw_X0_leastNext_RX0 hown hK (p_one hP hL9 hf9) 0 rfl rfl 0 (by decide) (hts _ lk_X0_leastNext_9) (fun _ h9 => h9) hn9 dX0_leastNext_21 ?_
      refine lv_iload_n hx hb dX0_leastNext_24 rfl (lv_at hl 1 rfl) ?_
      obtain ⟨n_25, h_25, ⟨hL9, hf9, hn9⟩, hw⟩ := hw
      refine va_lald hx hb hK (p_one hP hL9 hf9) 0 2 rfl rfl hn9 dX0_leastNext_25 ?_
      refine lv_topl (fun g_25 eg_25 => ?_)
      rw [← eg_25] at hw
      refine lv_iload_n hx hb dX0_leastNext_26 rfl (lv_at hl 3 rfl) ?_
      refine lv_lshr hx hb dX0_leastNext_27 rfl ?_
      refine lv_lconst (v := 1) hx hb dX0_leastNext_28 (by decide) ?_
      refine lv_land hx hb dX0_leastNext_29 ?_
      refine lv_lconst (v := 0) hx hb dX0_leastNext_30 (by decide) ?_
      refine W.lcmp hx hb dX0_leastNext_31 ?_
      refine lv_if_eq (tgt := 47) hx hb dX0_leastNext_32 (by decide) (fun c_32 => ?_) (fun c_32 => ?_)
      · have hw := hw.1 c_32
        exact tb_X0_leastNext_47 C ih L f a0 a1 a2 a3 hw H locs hP hD hS ls (lv_sub hl [0, 1, 2, 3] rfl)
      · have hw := hw.2 c_32
        refine lv_aload_n hx hb dX0_leastNext_35 rfl (lv_at hl 0 rfl) ?_
        obtain ⟨fs_36, g_36, ⟨hL9, hf9, hn9⟩, hw⟩ := hw
        refine va_get (D := (dC, dI)) (ci := 1) (v := .ref g_36) (C := RX0) (T := TX0) (N := 8) hx hb hts iw_X0_leastNext_RX0 hown hK (p_one hP hL9 hf9) 0 rfl rfl 2 (by decide) (hts _ lk_X0_leastNext_15) (fun _ h9 => h9) hn9 dX0_leastNext_36 ?_
        refine lv_iload_n hx hb dX0_leastNext_39 rfl (lv_at hl 3 rfl) ?_
        obtain ⟨n_40, h_40, ⟨hL9, hf9, hn9⟩, hw⟩ := hw
        refine va_iald hx hb hK (p_one hP hL9 hf9) 0 1 rfl rfl hn9 dX0_leastNext_40 ?_
        refine lv_topi (fun g_40 eg_40 => ?_)
        rw [← eg_40] at hw
        refine lv_iload_n hx hb dX0_leastNext_41 rfl (lv_at hl 2 rfl) ?_
        refine lv_icmp_ne (tgt := 47) hx hb dX0_leastNext_42 (by decide) (fun c_42 => ?_) (fun c_42 => ?_)
        · have hw := hw.1 c_42
          exact tb_X0_leastNext_47 C ih L f a0 a1 a2 a3 hw H locs hP hD hS ls (lv_sub hl [0, 1, 2, 3] rfl)
        · have hw := hw.2 c_42
          refine lv_iload_n hx hb dX0_leastNext_45 rfl (lv_at hl 3 rfl) ?_
          exact W.iret (v := a3) hx hb hr (fun t ht hW => ⟨⟨a3, (L, f), rfl, hw, by rw [ht]; exact hP, va_K.moved hW.alike hK, hD⟩, hS.F ht⟩) hS.2.2 dX0_leastNext_46
set_option maxHeartbeats 4000000 in
set_option maxRecDepth 100000 in
theorem tb_X0_leastNext_0 {p : Program} {l : Launch} {e : Env} {s : State} {m : MethodId} {below : List Frame} {meth : Method} {c : Code} {args : Array Value} {dC : Nat → ClassId} {dI : Nat → Nat → Nat} {dA : Nat → ClassId} {zz : Nat → Nat} {base : Nat} {A : Nat → Prop} {Q : Int32 → List Nat → pF → Prop} (C : pCx p s m args meth c cX0_leastNext 4 (some .int) RX0 wsX0_leastNext A dC dI dA zz base) : ∀ (L : List Nat) (f : pF) (a0 : Nat) (a1 : Int32) (a2 : Int32), wp_X0_leastNext_0 dA zz Q  L f a0 a1 a2 → pAt p l e rm_X0_leastNext s m args below meth c dC dI A (MQ below (va_Qi (fun r (u : List Nat × pF) => Q r u.1 u.2) (pB dC dI dA A) A) args s 0 0 A) 0 0 0 4 [(0, .ref a0), (1, .int a1), (2, .int a2)] [] L f := by
  obtain ⟨hx, hb, hml, hown, hts, hr, hlocks, hA, hK, hB, hz, hN, hT⟩ := id C
  intro L f a0 a1 a2 hw H locs hP hD hS ls hl
  rw [wp_X0_leastNext_0] at hw
  refine lv_iload_n hx hb dX0_leastNext_0 rfl (lv_at hl 1 rfl) ?_
  refine lv_if_lt (tgt := 10) hx hb dX0_leastNext_1 (by decide) (fun c_1 => ?_) (fun c_1 => ?_)
  · have hw := hw.1 c_1
    refine lv_iconst (v := -1) hx hb dX0_leastNext_10 (by decide) ?_
    exact W.iret (v := (-1 : Int32)) hx hb hr (fun t ht hW => ⟨⟨(-1 : Int32), (L, f), rfl, hw, by rw [ht]; exact hP, va_K.moved hW.alike hK, hD⟩, hS.F ht⟩) hS.2.2 dX0_leastNext_11
  · have hw := hw.2 c_1
    refine lv_iload_n hx hb dX0_leastNext_4 rfl (lv_at hl 1 rfl) ?_
    refine lv_bipush (v := 40) hx hb dX0_leastNext_5 (by decide) ?_
    refine lv_icmp_lt (tgt := 12) hx hb dX0_leastNext_7 (by decide) (fun c_7 => ?_) (fun c_7 => ?_)
    · have hw := hw.1 c_7
      refine lv_iconst (v := 0) hx hb dX0_leastNext_12 (by decide) ?_
      refine lv_istore_n (lv' := [(3, .int (0 : Int32)), (0, .ref a0), (1, .int a1), (2, .int a2)]) hx hb dX0_leastNext_13 rfl hl (by decide) rfl (fun ls hl => ?_)
      obtain ⟨n9, hw⟩ := hw
      exact tb_X0_leastNext_14 C  n9 L f a0 a1 a2 (0 : Int32) hw H locs hP hD hS ls (lv_sub hl [1, 2, 3, 0] rfl)
    · have hw := hw.2 c_7
      refine lv_iconst (v := -1) hx hb dX0_leastNext_10 (by decide) ?_
      exact W.iret (v := (-1 : Int32)) hx hb hr (fun t ht hW => ⟨⟨(-1 : Int32), (L, f), rfl, hw, by rw [ht]; exact hP, va_K.moved hW.alike hK, hD⟩, hS.F ht⟩) hS.2.2 dX0_leastNext_11
set_option maxHeartbeats 4000000 in
set_option maxRecDepth 100000 in
theorem c_X0_leastNext (l : Launch) (dC : Nat → ClassId) (dI : Nat → Nat → Nat) (dA : Nat → ClassId) (zz : Nat → Nat) (base : Nat) (L : List Nat) (f : pF) (sz : Nat) (a0 : Nat) (a1 : Int32) (a2 : Int32) (Q : Int32 → List Nat → pF → Prop) (hw : wp_X0_leastNext_0 dA zz Q L f a0 a1 a2) : Met l yX0_leastNext wsX0_leastNext rm_X0_leastNext (va_Pc [.ref a0, .int a1, .int a2] (pPre dC dI dA zz base L f sz)) (va_Qi (fun r (u : List Nat × pF) => Q r u.1 u.2) (pB dC dI dA (va_A (va_pl L f) sz)) (va_A (va_pl L f) sz)) 0 0 (va_A (va_pl L f) sz) := by
  refine Met.ofW (cc := cX0_leastNext) (maxL := 4) (ret := (some .int)) (by decide) rfl ?_
  intro p e s m args below meth c s₁ B hml hv
  obtain ⟨rfl, hsz, hP, hK, hD0, hz, hN, hT⟩ := hv
  subst hsz
  have hl := lv_entry ([.ref a0, .int a1, .int a2]) (n := 4) (Nat.le_of_ble_eq_true rfl)
  rw [lg_entry_eq]
  generalize (lg_sl ([.ref a0, .int a1, .int a2]) ++ List.replicate (4 - (lg_sl ([.ref a0, .int a1, .int a2])).length) Slot.unset).toArray = ls at hl ⊢
  exact tb_X0_leastNext_0 (Q := Q) (p := p) ⟨B.exec, B.bytes, hml, findClass_of_methodNamed B.named, atoms_spec (ws := wsX0_leastNext) B.pre, B.returns, B.notSynchronized, fun q h => Or.inr h, hK, pAB hD0 hz, hz, hN, hT⟩ L f a0 a1 a2 hw s.heap [] hP (hD0.self (sz := s.heap.size)) va_S.rf ls (lv_sub hl [0, 1, 2] rfl)
theorem iw_X0_walkRing_RX0 : ∀ w ∈ u_ws RX0 TX0 8, w ∈ wsX0_walkRing := by decide +kernel
theorem lk_X0_walkRing_19 : Cond.fieldLink RX0 19 "TermKeeper$Definitions" "ringRow" "[I" ∈ wsX0_walkRing := by decide +kernel
theorem lk_X0_walkRing_34 : Cond.fieldLink RX0 34 "TermKeeper$Definitions" "ringLength" "I" ∈ wsX0_walkRing := by decide +kernel
abbrev rm_X0_walkRing : Room := { frames := 1, cells := 0, slots := 0, locals := 23 }
def wp_X0_walkRing_4 (dA : Nat → ClassId) (zz : Nat → Nat) (Q : List Nat → pF → Prop) : Nat → List Nat → pF → Nat → Int32 → Int32 → Prop
  | 0, _, _, _, _, _ => False
  | n + 1, L, f, a0, a2, a3 =>
    (gI L f 1 a0 4 (fun g_6 =>
      ((g_6 ≤ a3 →
        (Q L f))
       ∧ (¬ g_6 ≤ a3 →
        (((40 : Int32) ≤ a3 →
          (Q L f))
         ∧ (¬ (40 : Int32) ≤ a3 →
          (gR L f 1 a0 3 (fun g_19 =>
            (aIs L f (dA 1) g_19 a3 a2 (fun f_24 =>
              (gI L f_24 1 a0 4 (fun g_28 =>
                (isO L f_24 1 a0 ∧
                  (wp_X0_leastNext_0 dA zz (fun r_35 L_35 f_35 =>
                    (∀ v3_39 : Int32, v3_39 = a3 + (1 : Int32) →
                      ((wp_X0_walkRing_4 dA zz Q  n) L_35 f_35 a0 r_35 v3_39))) L f_24 a0 a2 ((g_28 - a3) - (1 : Int32))))))))))))))))
def wp_X0_walkRing_0 (dA : Nat → ClassId) (zz : Nat → Nat) (Q : List Nat → pF → Prop) (L : List Nat) (f : pF) (a0 : Nat) (a1 : Int32) : Prop :=
    (∃ n9 : Nat, wp_X0_walkRing_4 dA zz Q  n9 L f a0 a1 (0 : Int32))
set_option maxHeartbeats 4000000 in
set_option maxRecDepth 100000 in
theorem tb_X0_walkRing_4 {p : Program} {l : Launch} {e : Env} {s : State} {m : MethodId} {below : List Frame} {meth : Method} {c : Code} {args : Array Value} {dC : Nat → ClassId} {dI : Nat → Nat → Nat} {dA : Nat → ClassId} {zz : Nat → Nat} {base : Nat} {A : Nat → Prop} {Q : List Nat → pF → Prop} (C : pCx p s m args meth c cX0_walkRing 4 none RX0 wsX0_walkRing A dC dI dA zz base) : ∀ (n : Nat) (L : List Nat) (f : pF) (a0 : Nat) (a2 : Int32) (a3 : Int32), wp_X0_walkRing_4 dA zz Q  n L f a0 a2 a3 → pAt p l e rm_X0_walkRing s m args below meth c dC dI A (MQ below (va_Qv (fun (u : List Nat × pF) => Q u.1 u.2) (pB dC dI dA A) A) args s 0 0 A) 0 0 4 4 [(0, .ref a0), (2, .int a2), (3, .int a3)] [] L f := by
  obtain ⟨hx, hb, hml, hown, hts, hr, hlocks, hA, hK, hB, hz, hN, hT⟩ := id C
  intro n
  induction n with
  | zero => intro L f a0 a2 a3 hw; exact hw.elim
  | succ n ih =>
    intro L f a0 a2 a3 hw H locs hP hD hS ls hl
    rw [wp_X0_walkRing_4] at hw
    refine lv_iload_n hx hb dX0_walkRing_4 rfl (lv_at hl 2 rfl) ?_
    refine lv_aload_n hx hb dX0_walkRing_5 rfl (lv_at hl 0 rfl) ?_
    obtain ⟨fs_6, g_6, ⟨hL9, hf9, hn9⟩, hw⟩ := hw
    refine va_get (D := (dC, dI)) (ci := 1) (v := .int g_6) (C := RX0) (T := TX0) (N := 8) hx hb hts iw_X0_walkRing_RX0 hown hK (p_one hP hL9 hf9) 0 rfl rfl 4 (by decide) (hts _ lk_X0_walkRing_34) (fun _ h9 => h9) hn9 dX0_walkRing_6 ?_
    refine lv_icmp_ge (tgt := 45) hx hb dX0_walkRing_9 (by decide) (fun c_9 => ?_) (fun c_9 => ?_)
    · have hw := hw.1 c_9
      exact W.vret hx hb hr (fun t ht hW => ⟨⟨(L, f), rfl, hw, by rw [ht]; exact hP, va_K.moved hW.alike hK, hD⟩, hS.F ht⟩) hS.2.2 dX0_walkRing_45
    · have hw := hw.2 c_9
      refine lv_iload_n hx hb dX0_walkRing_12 rfl (lv_at hl 2 rfl) ?_
      refine lv_bipush (v := 40) hx hb dX0_walkRing_13 (by decide) ?_
      refine lv_icmp_ge (tgt := 45) hx hb dX0_walkRing_15 (by decide) (fun c_15 => ?_) (fun c_15 => ?_)
      · have hw := hw.1 c_15
        exact W.vret hx hb hr (fun t ht hW => ⟨⟨(L, f), rfl, hw, by rw [ht]; exact hP, va_K.moved hW.alike hK, hD⟩, hS.F ht⟩) hS.2.2 dX0_walkRing_45
      · have hw := hw.2 c_15
        refine lv_aload_n hx hb dX0_walkRing_18 rfl (lv_at hl 0 rfl) ?_
        obtain ⟨fs_19, g_19, ⟨hL9, hf9, hn9⟩, hw⟩ := hw
        refine va_get (D := (dC, dI)) (ci := 1) (v := .ref g_19) (C := RX0) (T := TX0) (N := 8) hx hb hts iw_X0_walkRing_RX0 hown hK (p_one hP hL9 hf9) 0 rfl rfl 3 (by decide) (hts _ lk_X0_walkRing_19) (fun _ h9 => h9) hn9 dX0_walkRing_19 ?_
        refine lv_iload_n hx hb dX0_walkRing_22 rfl (lv_at hl 2 rfl) ?_
        refine lv_iload_n hx hb dX0_walkRing_23 rfl (lv_at hl 1 rfl) ?_
        obtain ⟨n_24, h_24, ⟨hL9, hf9, hn9⟩, hw⟩ := hw
        obtain ⟨kq9, hkq9⟩ := p_at hL9 hf9
        refine va_iast hx hb hK hP hD hS kq9 1 hkq9 rfl hn9 dX0_walkRing_24 (fun H locs hP2 hD2 hS => ?_)
        rw [p_set hD hL9 hf9 hkq9] at hP2 hD2
        obtain ⟨f_24, ef_24⟩ : ∃ y : pF, y = va_up f g_19 (.inl (dA 1, n_24, .inl (upd h_24 (Int32.toNatClampNeg a3) a2))) := ⟨_, rfl⟩
        rw [← ef_24] at hP2 hD2
        have hw := hw f_24 ef_24
        have hP := hP2
        have hD := hD2
        refine lv_aload_n hx hb dX0_walkRing_25 rfl (lv_at hl 0 rfl) ?_
        refine lv_iload_n hx hb dX0_walkRing_26 rfl (lv_at hl 1 rfl) ?_
        refine lv_aload_n hx hb dX0_walkRing_27 rfl (lv_at hl 0 rfl) ?_
        obtain ⟨fs_28, g_28, ⟨hL9, hf9, hn9⟩, hw⟩ := hw
        refine va_get (D := (dC, dI)) (ci := 1) (v := .int g_28) (C := RX0) (T := TX0) (N := 8) hx hb hts iw_X0_walkRing_RX0 hown hK (p_one hP hL9 hf9) 0 rfl rfl 4 (by decide) (hts _ lk_X0_walkRing_34) (fun _ h9 => h9) hn9 dX0_walkRing_28 ?_
        refine lv_iload_n hx hb dX0_walkRing_31 rfl (lv_at hl 2 rfl) ?_
        refine lv_isub hx hb dX0_walkRing_32 ?_
        refine lv_iconst (v := 1) hx hb dX0_walkRing_33 (by decide) ?_
        refine lv_isub hx hb dX0_walkRing_34 ?_
        obtain ⟨hO9, hw⟩ := hw
        have hFc := p_free hD hS hA
        refine va_calli (va_runV (As := [.int a2, .int ((g_28 - a3) - (1 : Int32))]) (rest := []) ⟨hx, hb, hml, hown, hts⟩ (c_X0_leastNext l dC dI dA zz base L f_24 H.size a0 a2 ((g_28 - a3) - (1 : Int32)) _ hw) (cwV 2 hts gX0_walkRing_X0_leastNext rfl rfl rfl (by decide +kernel) ⟨by decide, by decide⟩) (pPreV [.int a2, .int ((g_28 - a3) - (1 : Int32))] (ci := 1) rfl hO9 hK hP hD hS hB hz hN hT) rfl rfl hl.1 rfl (lv_room (Nat.le_of_ble_eq_true rfl)) dX0_walkRing_35 ⟨by decide, by decide⟩) hS (fun q _ h => hFc q h) hFc (fun r_35 u t H1 locs ht hvm hw hB1 hz1 hk1 hS => ?_)
        obtain ⟨L_35, f_35⟩ := u
        obtain ⟨hP, -, hD1⟩ := hB1
        rw [ht] at hP
        have hw := id hw
        have hP : va_P (dC, dI) vwCl (va_pl L_35 f_35) H1 := hP
        have hD : va_D A (va_pl L_35 f_35) := p_gain hD1 hFc
        generalize H1 = H at hP hS ⊢
        refine lv_istore_n (lv' := [(2, .int r_35), (0, .ref a0), (3, .int a3)]) hx hb dX0_walkRing_38 rfl hl (by decide) rfl (fun ls hl => ?_)
        obtain ⟨v3_39, ev3_39⟩ : ∃ y : Int32, y = a3 + (1 : Int32) := ⟨_, rfl⟩
        have hw := hw v3_39 ev3_39
        refine lv_iinc (v := v3_39) (lv' := [(3, .int v3_39), (2, .int r_35), (0, .ref a0)]) hx hb dX0_walkRing_39 hl (k := 2) rfl (by rw [ev3_39]; rfl) (by decide) rfl (fun ls hl => ?_)
        refine lv_goto (tgt := 4) hx hb dX0_walkRing_42 (by decide) ?_
        exact ih L_35 f_35 a0 r_35 v3_39 hw H locs hP hD hS ls (lv_sub hl [2, 1, 0] rfl)
set_option maxHeartbeats 4000000 in
set_option maxRecDepth 100000 in
theorem tb_X0_walkRing_0 {p : Program} {l : Launch} {e : Env} {s : State} {m : MethodId} {below : List Frame} {meth : Method} {c : Code} {args : Array Value} {dC : Nat → ClassId} {dI : Nat → Nat → Nat} {dA : Nat → ClassId} {zz : Nat → Nat} {base : Nat} {A : Nat → Prop} {Q : List Nat → pF → Prop} (C : pCx p s m args meth c cX0_walkRing 4 none RX0 wsX0_walkRing A dC dI dA zz base) : ∀ (L : List Nat) (f : pF) (a0 : Nat) (a1 : Int32), wp_X0_walkRing_0 dA zz Q  L f a0 a1 → pAt p l e rm_X0_walkRing s m args below meth c dC dI A (MQ below (va_Qv (fun (u : List Nat × pF) => Q u.1 u.2) (pB dC dI dA A) A) args s 0 0 A) 0 0 0 4 [(0, .ref a0), (1, .int a1)] [] L f := by
  obtain ⟨hx, hb, hml, hown, hts, hr, hlocks, hA, hK, hB, hz, hN, hT⟩ := id C
  intro L f a0 a1 hw H locs hP hD hS ls hl
  rw [wp_X0_walkRing_0] at hw
  refine lv_iload_n hx hb dX0_walkRing_0 rfl (lv_at hl 1 rfl) ?_
  refine lv_istore_n (lv' := [(2, .int a1), (0, .ref a0), (1, .int a1)]) hx hb dX0_walkRing_1 rfl hl (by decide) rfl (fun ls hl => ?_)
  refine lv_iconst (v := 0) hx hb dX0_walkRing_2 (by decide) ?_
  refine lv_istore_n (lv' := [(3, .int (0 : Int32)), (2, .int a1), (0, .ref a0), (1, .int a1)]) hx hb dX0_walkRing_3 rfl hl (by decide) rfl (fun ls hl => ?_)
  obtain ⟨n9, hw⟩ := hw
  exact tb_X0_walkRing_4 C  n9 L f a0 a1 (0 : Int32) hw H locs hP hD hS ls (lv_sub hl [2, 1, 0] rfl)
set_option maxHeartbeats 4000000 in
set_option maxRecDepth 100000 in
theorem c_X0_walkRing (l : Launch) (dC : Nat → ClassId) (dI : Nat → Nat → Nat) (dA : Nat → ClassId) (zz : Nat → Nat) (base : Nat) (L : List Nat) (f : pF) (sz : Nat) (a0 : Nat) (a1 : Int32) (Q : List Nat → pF → Prop) (hw : wp_X0_walkRing_0 dA zz Q L f a0 a1) : Met l yX0_walkRing wsX0_walkRing rm_X0_walkRing (va_Pc [.ref a0, .int a1] (pPre dC dI dA zz base L f sz)) (va_Qv (fun (u : List Nat × pF) => Q u.1 u.2) (pB dC dI dA (va_A (va_pl L f) sz)) (va_A (va_pl L f) sz)) 0 0 (va_A (va_pl L f) sz) := by
  refine Met.ofW (cc := cX0_walkRing) (maxL := 4) (ret := none) (by decide) rfl ?_
  intro p e s m args below meth c s₁ B hml hv
  obtain ⟨rfl, hsz, hP, hK, hD0, hz, hN, hT⟩ := hv
  subst hsz
  have hl := lv_entry ([.ref a0, .int a1]) (n := 4) (Nat.le_of_ble_eq_true rfl)
  rw [lg_entry_eq]
  generalize (lg_sl ([.ref a0, .int a1]) ++ List.replicate (4 - (lg_sl ([.ref a0, .int a1])).length) Slot.unset).toArray = ls at hl ⊢
  exact tb_X0_walkRing_0 (Q := Q) (p := p) ⟨B.exec, B.bytes, hml, findClass_of_methodNamed B.named, atoms_spec (ws := wsX0_walkRing) B.pre, B.returns, B.notSynchronized, fun q h => Or.inr h, hK, pAB hD0 hz, hz, hN, hT⟩ L f a0 a1 hw s.heap [] hP (hD0.self (sz := s.heap.size)) va_S.rf ls (lv_sub hl [0, 1] rfl)
theorem iw_X0_findRing_RX0 : ∀ w ∈ u_ws RX0 TX0 8, w ∈ wsX0_findRing := by decide +kernel
theorem lk_X0_findRing_34 : Cond.fieldLink RX0 34 "TermKeeper$Definitions" "ringLength" "I" ∈ wsX0_findRing := by decide +kernel
abbrev rm_X0_findRing : Room := { frames := 2, cells := 0, slots := 0, locals := 46 }
def wp_X0_findRing_45 (dA : Nat → ClassId) (zz : Nat → Nat) (Q : List Nat → pF → Prop) (k9_ : List Nat → pF → Nat → Int32 → Int32 → Prop) (L : List Nat) (f : pF) (a0 : Nat) (a1 : Int32) (a2 : Int32) : Prop :=
    (∀ v2_45 : Int32, v2_45 = a2 + (1 : Int32) →
      (k9_ L f a0 a1 v2_45))
def wp_X0_findRing_38 (dA : Nat → ClassId) (zz : Nat → Nat) (Q : List Nat → pF → Prop) (k9_ : List Nat → pF → Nat → Int32 → Int32 → Prop) (L : List Nat) (f : pF) (a0 : Nat) (a2 : Int32) (a3 : Int32) : Prop :=
    (gP L f 1 a0 4 (.int a3) (fun f_42 =>
      (wp_X0_findRing_45 dA zz Q k9_ L f_42 a0 a2 a2)))
def wp_X0_findRing_51 (dA : Nat → ClassId) (zz : Nat → Nat) (Q : List Nat → pF → Prop) (L : List Nat) (f : pF) (a0 : Nat) (a1 : Int32) : Prop :=
    ((a1 = (-1 : Int32) →
      (Q L f))
     ∧ (¬ a1 = (-1 : Int32) →
      (isO L f 1 a0 ∧
        (wp_X0_stepsBackTo_0 dA zz (fun r_58 L_58 f_58 =>
          (isO L_58 f_58 1 a0 ∧
            (wp_X0_walkRing_0 dA zz (fun L_64 f_64 =>
              (Q L_64 f_64)) L_58 f_58 a0 a1))) L f a0 a1))))
def wp_X0_findRing_9 (dA : Nat → ClassId) (zz : Nat → Nat) (Q : List Nat → pF → Prop) : Nat → List Nat → pF → Nat → Int32 → Int32 → Prop
  | 0, _, _, _, _, _ => False
  | n + 1, L, f, a0, a1, a2 =>
    (((40 : Int32) ≤ a2 →
      (wp_X0_findRing_51 dA zz Q  L f a0 a1))
     ∧ (¬ (40 : Int32) ≤ a2 →
      (isO L f 1 a0 ∧
        (wp_X0_stepsBackTo_0 dA zz (fun r_17 L_17 f_17 =>
          ((r_17 ≤ 0 →
            (wp_X0_findRing_45 dA zz Q (wp_X0_findRing_9 dA zz Q  n) L_17 f_17 a0 a1 a2))
           ∧ (¬ r_17 ≤ 0 →
            ((a1 = (-1 : Int32) →
              (wp_X0_findRing_38 dA zz Q (wp_X0_findRing_9 dA zz Q  n) L_17 f_17 a0 a2 r_17))
             ∧ (¬ a1 = (-1 : Int32) →
              (gI L_17 f_17 1 a0 4 (fun g_32 =>
                ((g_32 ≤ r_17 →
                  (wp_X0_findRing_45 dA zz Q (wp_X0_findRing_9 dA zz Q  n) L_17 f_17 a0 a1 a2))
                 ∧ (¬ g_32 ≤ r_17 →
                  (wp_X0_findRing_38 dA zz Q (wp_X0_findRing_9 dA zz Q  n) L_17 f_17 a0 a2 r_17)))))))))) L f a0 a2))))
def wp_X0_findRing_0 (dA : Nat → ClassId) (zz : Nat → Nat) (Q : List Nat → pF → Prop) (L : List Nat) (f : pF) (a0 : Nat) : Prop :=
    (gP L f 1 a0 4 (.int (0 : Int32)) (fun f_4 =>
      (∃ n9 : Nat, wp_X0_findRing_9 dA zz Q  n9 L f_4 a0 (-1 : Int32) (0 : Int32))))
set_option maxHeartbeats 4000000 in
set_option maxRecDepth 100000 in
theorem tb_X0_findRing_45 {p : Program} {l : Launch} {e : Env} {s : State} {m : MethodId} {below : List Frame} {meth : Method} {c : Code} {args : Array Value} {dC : Nat → ClassId} {dI : Nat → Nat → Nat} {dA : Nat → ClassId} {zz : Nat → Nat} {base : Nat} {A : Nat → Prop} {Q : List Nat → pF → Prop} (C : pCx p s m args meth c cX0_findRing 4 none RX0 wsX0_findRing A dC dI dA zz base) {k9_ : List Nat → pF → Nat → Int32 → Int32 → Prop} (h9_ : ∀ (L : List Nat) (f : pF) (a0 : Nat) (a1 : Int32) (a2 : Int32), k9_ L f a0 a1 a2 → pAt p l e rm_X0_findRing s m args below meth c dC dI A (MQ below (va_Qv (fun (u : List Nat × pF) => Q u.1 u.2) (pB dC dI dA A) A) args s 0 0 A) 0 0 9 4 [(0, .ref a0), (1, .int a1), (2, .int a2)] [] L f) : ∀ (L : List Nat) (f : pF) (a0 : Nat) (a1 : Int32) (a2 : Int32), wp_X0_findRing_45 dA zz Q k9_ L f a0 a1 a2 → pAt p l e rm_X0_findRing s m args below meth c dC dI A (MQ below (va_Qv (fun (u : List Nat × pF) => Q u.1 u.2) (pB dC dI dA A) A) args s 0 0 A) 0 0 45 4 [(0, .ref a0), (1, .int a1), (2, .int a2)] [] L f := by
  obtain ⟨hx, hb, hml, hown, hts, hr, hlocks, hA, hK, hB, hz, hN, hT⟩ := id C
  intro L f a0 a1 a2 hw H locs hP hD hS ls hl
  rw [wp_X0_findRing_45] at hw
  obtain ⟨v2_45, ev2_45⟩ : ∃ y : Int32, y = a2 + (1 : Int32) := ⟨_, rfl⟩
  have hw := hw v2_45 ev2_45
  refine lv_iinc (v := v2_45) (lv' := [(2, .int v2_45), (0, .ref a0), (1, .int a1)]) hx hb dX0_findRing_45 hl (k := 2) rfl (by rw [ev2_45]; rfl) (by decide) rfl (fun ls hl => ?_)
  refine lv_goto (tgt := 9) hx hb dX0_findRing_48 (by decide) ?_
  exact h9_ L f a0 a1 v2_45 hw H locs hP hD hS ls (lv_sub hl [1, 2, 0] rfl)
set_option maxHeartbeats 4000000 in
set_option maxRecDepth 100000 in
theorem tb_X0_findRing_38 {p : Program} {l : Launch} {e : Env} {s : State} {m : MethodId} {below : List Frame} {meth : Method} {c : Code} {args : Array Value} {dC : Nat → ClassId} {dI : Nat → Nat → Nat} {dA : Nat → ClassId} {zz : Nat → Nat} {base : Nat} {A : Nat → Prop} {Q : List Nat → pF → Prop} (C : pCx p s m args meth c cX0_findRing 4 none RX0 wsX0_findRing A dC dI dA zz base) {k9_ : List Nat → pF → Nat → Int32 → Int32 → Prop} (h9_ : ∀ (L : List Nat) (f : pF) (a0 : Nat) (a1 : Int32) (a2 : Int32), k9_ L f a0 a1 a2 → pAt p l e rm_X0_findRing s m args below meth c dC dI A (MQ below (va_Qv (fun (u : List Nat × pF) => Q u.1 u.2) (pB dC dI dA A) A) args s 0 0 A) 0 0 9 4 [(0, .ref a0), (1, .int a1), (2, .int a2)] [] L f) : ∀ (L : List Nat) (f : pF) (a0 : Nat) (a2 : Int32) (a3 : Int32), wp_X0_findRing_38 dA zz Q k9_ L f a0 a2 a3 → pAt p l e rm_X0_findRing s m args below meth c dC dI A (MQ below (va_Qv (fun (u : List Nat × pF) => Q u.1 u.2) (pB dC dI dA A) A) args s 0 0 A) 0 0 38 4 [(0, .ref a0), (2, .int a2), (3, .int a3)] [] L f := by
  obtain ⟨hx, hb, hml, hown, hts, hr, hlocks, hA, hK, hB, hz, hN, hT⟩ := id C
  intro L f a0 a2 a3 hw H locs hP hD hS ls hl
  rw [wp_X0_findRing_38] at hw
  refine lv_iload_n hx hb dX0_findRing_38 rfl (lv_at hl 1 rfl) ?_
  refine lv_istore_n (lv' := [(1, .int a2), (0, .ref a0), (2, .int a2), (3, .int a3)]) hx hb dX0_findRing_39 rfl hl (by decide) rfl (fun ls hl => ?_)
  refine lv_aload_n hx hb dX0_findRing_40 rfl (lv_at hl 1 rfl) ?_
  refine lv_iload_n hx hb dX0_findRing_41 rfl (lv_at hl 3 rfl) ?_
  obtain ⟨fs_42, ⟨hL9, hf9, hn9⟩, hw⟩ := hw
  obtain ⟨kq9, hkq9⟩ := p_at hL9 hf9
  refine va_put (D := (dC, dI)) (ci := 1) (v := .int a3) (C := RX0) (T := TX0) (N := 8) hx hb hts iw_X0_findRing_RX0 tyX0 tyX0_ok nmX0 hown hK hP hD hS kq9 hkq9 rfl 4 (by decide) (hts _ lk_X0_findRing_34) (fun _ h9 => h9) rfl (tyX0_ok 4 (by decide)) rfl rfl hn9 dX0_findRing_42 (fun H locs hP2 hD2 hS => ?_)
  rw [p_set hD hL9 hf9 hkq9] at hP2 hD2
  obtain ⟨f_42, ef_42⟩ : ∃ y : pF, y = va_up f a0 (.inr (1, fs_42.set 4 (.int a3))) := ⟨_, rfl⟩
  rw [← ef_42] at hP2 hD2
  have hw := hw f_42 ef_42
  have hP := hP2
  have hD := hD2
  exact tb_X0_findRing_45 C h9_ L f_42 a0 a2 a2 hw H locs hP hD hS ls (lv_sub hl [1, 0, 2] rfl)
set_option maxHeartbeats 4000000 in
set_option maxRecDepth 100000 in
theorem tb_X0_findRing_51 {p : Program} {l : Launch} {e : Env} {s : State} {m : MethodId} {below : List Frame} {meth : Method} {c : Code} {args : Array Value} {dC : Nat → ClassId} {dI : Nat → Nat → Nat} {dA : Nat → ClassId} {zz : Nat → Nat} {base : Nat} {A : Nat → Prop} {Q : List Nat → pF → Prop} (C : pCx p s m args meth c cX0_findRing 4 none RX0 wsX0_findRing A dC dI dA zz base) : ∀ (L : List Nat) (f : pF) (a0 : Nat) (a1 : Int32), wp_X0_findRing_51 dA zz Q  L f a0 a1 → pAt p l e rm_X0_findRing s m args below meth c dC dI A (MQ below (va_Qv (fun (u : List Nat × pF) => Q u.1 u.2) (pB dC dI dA A) A) args s 0 0 A) 0 0 51 4 [(0, .ref a0), (1, .int a1)] [] L f := by
  obtain ⟨hx, hb, hml, hown, hts, hr, hlocks, hA, hK, hB, hz, hN, hT⟩ := id C
  intro L f a0 a1 hw H locs hP hD hS ls hl
  rw [wp_X0_findRing_51] at hw
  refine lv_iload_n hx hb dX0_findRing_51 rfl (lv_at hl 1 rfl) ?_
  refine lv_iconst (v := -1) hx hb dX0_findRing_52 (by decide) ?_
  refine lv_icmp_eq (tgt := 67) hx hb dX0_findRing_53 (by decide) (fun c_53 => ?_) (fun c_53 => ?_)
  · have hw := hw.1 c_53
    exact W.vret hx hb hr (fun t ht hW => ⟨⟨(L, f), rfl, hw, by rw [ht]; exact hP, va_K.moved hW.alike hK, hD⟩, hS.F ht⟩) hS.2.2 dX0_findRing_67
  · have hw := hw.2 c_53
    refine lv_aload_n hx hb dX0_findRing_56 rfl (lv_at hl 0 rfl) ?_
    refine lv_iload_n hx hb dX0_findRing_57 rfl (lv_at hl 1 rfl) ?_
    obtain ⟨hO9, hw⟩ := hw
    have hFc := p_free hD hS hA
    refine va_calli (va_runV (As := [.int a1]) (rest := []) ⟨hx, hb, hml, hown, hts⟩ (c_X0_stepsBackTo l dC dI dA zz base L f H.size a0 a1 _ hw) (cwV 1 hts gX0_findRing_X0_stepsBackTo rfl rfl rfl (by decide +kernel) ⟨by decide, by decide⟩) (pPreV [.int a1] (ci := 1) rfl hO9 hK hP hD hS hB hz hN hT) rfl rfl hl.1 rfl (lv_room (Nat.le_of_ble_eq_true rfl)) dX0_findRing_58 ⟨by decide, by decide⟩) hS (fun q _ h => hFc q h) hFc (fun r_58 u t H1 locs ht hvm hw hB1 hz1 hk1 hS => ?_)
    obtain ⟨L_58, f_58⟩ := u
    obtain ⟨hP, -, hD1⟩ := hB1
    rw [ht] at hP
    have hw := id hw
    have hP : va_P (dC, dI) vwCl (va_pl L_58 f_58) H1 := hP
    have hD : va_D A (va_pl L_58 f_58) := p_gain hD1 hFc
    generalize H1 = H at hP hS ⊢
    refine lv_pop hx hb dX0_findRing_61 rfl ?_
    refine lv_aload_n hx hb dX0_findRing_62 rfl (lv_at hl 0 rfl) ?_
    refine lv_iload_n hx hb dX0_findRing_63 rfl (lv_at hl 1 rfl) ?_
    obtain ⟨hO9, hw⟩ := hw
    have hFc := p_free hD hS hA
    refine va_callv (va_runV (As := [.int a1]) (rest := []) ⟨hx, hb, hml, hown, hts⟩ (c_X0_walkRing l dC dI dA zz base L_58 f_58 H.size a0 a1 _ hw) (cwV 1 hts gX0_findRing_X0_walkRing rfl rfl rfl (by decide +kernel) ⟨by decide, by decide⟩) (pPreV [.int a1] (ci := 1) rfl hO9 hK hP hD hS hB hz hN hT) rfl rfl hl.1 rfl (lv_room (Nat.le_of_ble_eq_true rfl)) dX0_findRing_64 ⟨by decide, by decide⟩) hS (fun q _ h => hFc q h) hFc (fun u t H1 locs ht hvm hw hB1 hz1 hk1 hS => ?_)
    obtain ⟨L_64, f_64⟩ := u
    obtain ⟨hP, -, hD1⟩ := hB1
    rw [ht] at hP
    have hw := id hw
    have hP : va_P (dC, dI) vwCl (va_pl L_64 f_64) H1 := hP
    have hD : va_D A (va_pl L_64 f_64) := p_gain hD1 hFc
    generalize H1 = H at hP hS ⊢
    exact W.vret hx hb hr (fun t ht hW => ⟨⟨(L_64, f_64), rfl, hw, by rw [ht]; exact hP, va_K.moved hW.alike hK, hD⟩, hS.F ht⟩) hS.2.2 dX0_findRing_67
set_option maxHeartbeats 4000000 in
set_option maxRecDepth 100000 in
theorem tb_X0_findRing_9 {p : Program} {l : Launch} {e : Env} {s : State} {m : MethodId} {below : List Frame} {meth : Method} {c : Code} {args : Array Value} {dC : Nat → ClassId} {dI : Nat → Nat → Nat} {dA : Nat → ClassId} {zz : Nat → Nat} {base : Nat} {A : Nat → Prop} {Q : List Nat → pF → Prop} (C : pCx p s m args meth c cX0_findRing 4 none RX0 wsX0_findRing A dC dI dA zz base) : ∀ (n : Nat) (L : List Nat) (f : pF) (a0 : Nat) (a1 : Int32) (a2 : Int32), wp_X0_findRing_9 dA zz Q  n L f a0 a1 a2 → pAt p l e rm_X0_findRing s m args below meth c dC dI A (MQ below (va_Qv (fun (u : List Nat × pF) => Q u.1 u.2) (pB dC dI dA A) A) args s 0 0 A) 0 0 9 4 [(0, .ref a0), (1, .int a1), (2, .int a2)] [] L f := by
  obtain ⟨hx, hb, hml, hown, hts, hr, hlocks, hA, hK, hB, hz, hN, hT⟩ := id C
  intro n
  induction n with
  | zero => intro L f a0 a1 a2 hw; exact hw.elim
  | succ n ih =>
    intro L f a0 a1 a2 hw H locs hP hD hS ls hl
    rw [wp_X0_findRing_9] at hw
    refine lv_iload_n hx hb dX0_findRing_9 rfl (lv_at hl 2 rfl) ?_
    refine lv_bipush (v := 40) hx hb dX0_findRing_10 (by decide) ?_
    refine lv_icmp_ge (tgt := 51) hx hb dX0_findRing_12 (by decide) (fun c_12 => ?_) (fun c_12 => ?_)
    · have hw := hw.1 c_12
      exact tb_X0_findRing_51 C  L f a0 a1 hw H locs hP hD hS ls (lv_sub hl [0, 1] rfl)
    · have hw := hw.2 c_12
      refine lv_aload_n hx hb dX0_findRing_15 rfl (lv_at hl 0 rfl) ?_
      refine lv_iload_n hx hb dX0_findRing_16 rfl (lv_at hl 2 rfl) ?_
      obtain ⟨hO9, hw⟩ := hw
      have hFc := p_free hD hS hA
      refine va_calli (va_runV (As := [.int a2]) (rest := []) ⟨hx, hb, hml, hown, hts⟩ (c_X0_stepsBackTo l dC dI dA zz base L f H.size a0 a2 _ hw) (cwV 1 hts gX0_findRing_X0_stepsBackTo rfl rfl rfl (by decide +kernel) ⟨by decide, by decide⟩) (pPreV [.int a2] (ci := 1) rfl hO9 hK hP hD hS hB hz hN hT) rfl rfl hl.1 rfl (lv_room (Nat.le_of_ble_eq_true rfl)) dX0_findRing_17 ⟨by decide, by decide⟩) hS (fun q _ h => hFc q h) hFc (fun r_17 u t H1 locs ht hvm hw hB1 hz1 hk1 hS => ?_)
      obtain ⟨L_17, f_17⟩ := u
      obtain ⟨hP, -, hD1⟩ := hB1
      rw [ht] at hP
      have hw := id hw
      have hP : va_P (dC, dI) vwCl (va_pl L_17 f_17) H1 := hP
      have hD : va_D A (va_pl L_17 f_17) := p_gain hD1 hFc
      generalize H1 = H at hP hS ⊢
      refine lv_istore_n (lv' := [(3, .int r_17), (0, .ref a0), (1, .int a1), (2, .int a2)]) hx hb dX0_findRing_20 rfl hl (by decide) rfl (fun ls hl => ?_)
      refine lv_iload_n hx hb dX0_findRing_21 rfl (lv_at hl 0 rfl) ?_
      refine lv_if_le (tgt := 45) hx hb dX0_findRing_22 (by decide) (fun c_22 => ?_) (fun c_22 => ?_)
      · have hw := hw.1 c_22
        exact tb_X0_findRing_45 C ih L_17 f_17 a0 a1 a2 hw H locs hP hD hS ls (lv_sub hl [1, 2, 3] rfl)
      · have hw := hw.2 c_22
        refine lv_iload_n hx hb dX0_findRing_25 rfl (lv_at hl 2 rfl) ?_
        refine lv_iconst (v := -1) hx hb dX0_findRing_26 (by decide) ?_
        refine lv_icmp_eq (tgt := 38) hx hb dX0_findRing_27 (by decide) (fun c_27 => ?_) (fun c_27 => ?_)
        · have hw := hw.1 c_27
          exact tb_X0_findRing_38 C ih L_17 f_17 a0 a2 r_17 hw H locs hP hD hS ls (lv_sub hl [1, 3, 0] rfl)
        · have hw := hw.2 c_27
          refine lv_iload_n hx hb dX0_findRing_30 rfl (lv_at hl 0 rfl) ?_
          refine lv_aload_n hx hb dX0_findRing_31 rfl (lv_at hl 1 rfl) ?_
          obtain ⟨fs_32, g_32, ⟨hL9, hf9, hn9⟩, hw⟩ := hw
          refine va_get (D := (dC, dI)) (ci := 1) (v := .int g_32) (C := RX0) (T := TX0) (N := 8) hx hb hts iw_X0_findRing_RX0 hown hK (p_one hP hL9 hf9) 0 rfl rfl 4 (by decide) (hts _ lk_X0_findRing_34) (fun _ h9 => h9) hn9 dX0_findRing_32 ?_
          refine lv_icmp_ge (tgt := 45) hx hb dX0_findRing_35 (by decide) (fun c_35 => ?_) (fun c_35 => ?_)
          · have hw := hw.1 c_35
            exact tb_X0_findRing_45 C ih L_17 f_17 a0 a1 a2 hw H locs hP hD hS ls (lv_sub hl [1, 2, 3] rfl)
          · have hw := hw.2 c_35
            exact tb_X0_findRing_38 C ih L_17 f_17 a0 a2 r_17 hw H locs hP hD hS ls (lv_sub hl [1, 3, 0] rfl)
set_option maxHeartbeats 4000000 in
set_option maxRecDepth 100000 in
theorem tb_X0_findRing_0 {p : Program} {l : Launch} {e : Env} {s : State} {m : MethodId} {below : List Frame} {meth : Method} {c : Code} {args : Array Value} {dC : Nat → ClassId} {dI : Nat → Nat → Nat} {dA : Nat → ClassId} {zz : Nat → Nat} {base : Nat} {A : Nat → Prop} {Q : List Nat → pF → Prop} (C : pCx p s m args meth c cX0_findRing 4 none RX0 wsX0_findRing A dC dI dA zz base) : ∀ (L : List Nat) (f : pF) (a0 : Nat), wp_X0_findRing_0 dA zz Q  L f a0 → pAt p l e rm_X0_findRing s m args below meth c dC dI A (MQ below (va_Qv (fun (u : List Nat × pF) => Q u.1 u.2) (pB dC dI dA A) A) args s 0 0 A) 0 0 0 4 [(0, .ref a0)] [] L f := by
  obtain ⟨hx, hb, hml, hown, hts, hr, hlocks, hA, hK, hB, hz, hN, hT⟩ := id C
  intro L f a0 hw H locs hP hD hS ls hl
  rw [wp_X0_findRing_0] at hw
  refine lv_iconst (v := -1) hx hb dX0_findRing_0 (by decide) ?_
  refine lv_istore_n (lv' := [(1, .int (-1 : Int32)), (0, .ref a0)]) hx hb dX0_findRing_1 rfl hl (by decide) rfl (fun ls hl => ?_)
  refine lv_aload_n hx hb dX0_findRing_2 rfl (lv_at hl 1 rfl) ?_
  refine lv_iconst (v := 0) hx hb dX0_findRing_3 (by decide) ?_
  obtain ⟨fs_4, ⟨hL9, hf9, hn9⟩, hw⟩ := hw
  obtain ⟨kq9, hkq9⟩ := p_at hL9 hf9
  refine va_put (D := (dC, dI)) (ci := 1) (v := .int (0 : Int32)) (C := RX0) (T := TX0) (N := 8) hx hb hts iw_X0_findRing_RX0 tyX0 tyX0_ok nmX0 hown hK hP hD hS kq9 hkq9 rfl 4 (by decide) (hts _ lk_X0_findRing_34) (fun _ h9 => h9) rfl (tyX0_ok 4 (by decide)) rfl rfl hn9 dX0_findRing_4 (fun H locs hP2 hD2 hS => ?_)
  rw [p_set hD hL9 hf9 hkq9] at hP2 hD2
  obtain ⟨f_4, ef_4⟩ : ∃ y : pF, y = va_up f a0 (.inr (1, fs_4.set 4 (.int (0 : Int32)))) := ⟨_, rfl⟩
  rw [← ef_4] at hP2 hD2
  have hw := hw f_4 ef_4
  have hP := hP2
  have hD := hD2
  refine lv_iconst (v := 0) hx hb dX0_findRing_7 (by decide) ?_
  refine lv_istore_n (lv' := [(2, .int (0 : Int32)), (1, .int (-1 : Int32)), (0, .ref a0)]) hx hb dX0_findRing_8 rfl hl (by decide) rfl (fun ls hl => ?_)
  obtain ⟨n9, hw⟩ := hw
  exact tb_X0_findRing_9 C  n9 L f_4 a0 (-1 : Int32) (0 : Int32) hw H locs hP hD hS ls (lv_sub hl [2, 1, 0] rfl)
set_option maxHeartbeats 4000000 in
set_option maxRecDepth 100000 in
theorem c_X0_findRing (l : Launch) (dC : Nat → ClassId) (dI : Nat → Nat → Nat) (dA : Nat → ClassId) (zz : Nat → Nat) (base : Nat) (L : List Nat) (f : pF) (sz : Nat) (a0 : Nat) (Q : List Nat → pF → Prop) (hw : wp_X0_findRing_0 dA zz Q L f a0) : Met l yX0_findRing wsX0_findRing rm_X0_findRing (va_Pc [.ref a0] (pPre dC dI dA zz base L f sz)) (va_Qv (fun (u : List Nat × pF) => Q u.1 u.2) (pB dC dI dA (va_A (va_pl L f) sz)) (va_A (va_pl L f) sz)) 0 0 (va_A (va_pl L f) sz) := by
  refine Met.ofW (cc := cX0_findRing) (maxL := 4) (ret := none) (by decide) rfl ?_
  intro p e s m args below meth c s₁ B hml hv
  obtain ⟨rfl, hsz, hP, hK, hD0, hz, hN, hT⟩ := hv
  subst hsz
  have hl := lv_entry ([.ref a0]) (n := 4) (Nat.le_of_ble_eq_true rfl)
  rw [lg_entry_eq]
  generalize (lg_sl ([.ref a0]) ++ List.replicate (4 - (lg_sl ([.ref a0])).length) Slot.unset).toArray = ls at hl ⊢
  exact tb_X0_findRing_0 (Q := Q) (p := p) ⟨B.exec, B.bytes, hml, findClass_of_methodNamed B.named, atoms_spec (ws := wsX0_findRing) B.pre, B.returns, B.notSynchronized, fun q h => Or.inr h, hK, pAB hD0 hz, hz, hN, hT⟩ L f a0 hw s.heap [] hP (hD0.self (sz := s.heap.size)) va_S.rf ls (lv_sub hl [0] rfl)
theorem iw_X0_explainsAll_RX0 : ∀ w ∈ u_ws RX0 TX0 8, w ∈ wsX0_explainsAll := by decide +kernel
theorem lk_X0_explainsAll_25 : Cond.fieldLink RX0 25 "TermKeeper$Definitions" "needs" "[I" ∈ wsX0_explainsAll := by decide +kernel
theorem lk_X0_explainsAll_54 : Cond.fieldLink RX0 54 "TermKeeper$Definitions" "memberCount" "I" ∈ wsX0_explainsAll := by decide +kernel
abbrev rm_X0_explainsAll : Room := { frames := 0, cells := 0, slots := 0, locals := 0 }
def wp_X0_explainsAll_58 (dA : Nat → ClassId) (zz : Nat → Nat) (Q : Int32 → List Nat → pF → Prop) (k4_ : List Nat → pF → Nat → Int32 → Int32 → Prop) (k18_ : List Nat → pF → Nat → Int32 → Int32 → Int32 → Int32 → Prop) (L : List Nat) (f : pF) (a0 : Nat) (a2 : Int32) (a3 : Int32) (a4 : Int32) (a5 : Int32) : Prop :=
    (∀ v5_58 : Int32, v5_58 = a5 + (1 : Int32) →
      (k18_ L f a0 a2 a3 a4 v5_58))
def wp_X0_explainsAll_79 (dA : Nat → ClassId) (zz : Nat → Nat) (Q : Int32 → List Nat → pF → Prop) (L : List Nat) (f : pF) (a0 : Nat) (a2 : Int32) : Prop :=
    (gI L f 1 a0 7 (fun g_82 =>
      ((¬ a2 = (((1 : Int32) <<< (g_82 &&& 31)) - (1 : Int32)) →
        (Q (0 : Int32) L f))
       ∧ (a2 = (((1 : Int32) <<< (g_82 &&& 31)) - (1 : Int32)) →
        (Q (1 : Int32) L f)))))
def wp_X0_explainsAll_70 (dA : Nat → ClassId) (zz : Nat → Nat) (Q : Int32 → List Nat → pF → Prop) (L : List Nat) (f : pF) (a0 : Nat) (a2 : Int32) : Prop :=
    (wp_X0_explainsAll_79 dA zz Q  L f a0 a2)
def wp_X0_explainsAll_64 (dA : Nat → ClassId) (zz : Nat → Nat) (Q : Int32 → List Nat → pF → Prop) (k4_ : List Nat → pF → Nat → Int32 → Int32 → Prop) (L : List Nat) (f : pF) (a0 : Nat) (a2 : Int32) (a3 : Int32) (a4 : Int32) : Prop :=
    ((¬ a2 = a4 →
      (∀ v3_73 : Int32, v3_73 = a3 + (1 : Int32) →
        (k4_ L f a0 a2 v3_73)))
     ∧ (a2 = a4 →
      (wp_X0_explainsAll_70 dA zz Q  L f a0 a2)))
def wp_X0_explainsAll_18 (dA : Nat → ClassId) (zz : Nat → Nat) (Q : Int32 → List Nat → pF → Prop) (k4_ : List Nat → pF → Nat → Int32 → Int32 → Prop) : Nat → List Nat → pF → Nat → Int32 → Int32 → Int32 → Int32 → Prop
  | 0, _, _, _, _, _, _, _ => False
  | n + 1, L, f, a0, a2, a3, a4, a5 =>
    (gI L f 1 a0 7 (fun g_21 =>
      ((g_21 ≤ a5 →
        (wp_X0_explainsAll_64 dA zz Q k4_ L f a0 a2 a3 a4))
       ∧ (¬ g_21 ≤ a5 →
        (gR L f 1 a0 6 (fun g_28 =>
          (aI L f (dA 1) g_28 a5 (fun g_33 =>
            ((g_33 = 0 →
              (wp_X0_explainsAll_58 dA zz Q k4_ (wp_X0_explainsAll_18 dA zz Q k4_ n) L f a0 a2 a3 a4 a5))
             ∧ (¬ g_33 = 0 →
              (gR L f 1 a0 6 (fun g_38 =>
                (aI L f (dA 1) g_38 a5 (fun g_43 =>
                  ((¬ (g_43 &&& (a2 ^^^ (-1 : Int32))) = 0 →
                    (wp_X0_explainsAll_58 dA zz Q k4_ (wp_X0_explainsAll_18 dA zz Q k4_ n) L f a0 a2 a3 a4 a5))
                   ∧ ((g_43 &&& (a2 ^^^ (-1 : Int32))) = 0 →
                    (∀ v2_57 : Int32, v2_57 = (a2 ||| ((1 : Int32) <<< (a5 &&& 31))) →
                      (wp_X0_explainsAll_58 dA zz Q k4_ (wp_X0_explainsAll_18 dA zz Q k4_ n) L f a0 v2_57 a3 a4 a5))))))))))))))))))
def wp_X0_explainsAll_4 (dA : Nat → ClassId) (zz : Nat → Nat) (Q : Int32 → List Nat → pF → Prop) : Nat → List Nat → pF → Nat → Int32 → Int32 → Prop
  | 0, _, _, _, _, _ => False
  | n + 1, L, f, a0, a2, a3 =>
    (gI L f 1 a0 7 (fun g_6 =>
      ((g_6 ≤ a3 →
        (wp_X0_explainsAll_79 dA zz Q  L f a0 a2))
       ∧ (¬ g_6 ≤ a3 →
        (∃ n9 : Nat, wp_X0_explainsAll_18 dA zz Q (wp_X0_explainsAll_4 dA zz Q  n) n9 L f a0 a2 a3 a2 (0 : Int32))))))
def wp_X0_explainsAll_0 (dA : Nat → ClassId) (zz : Nat → Nat) (Q : Int32 → List Nat → pF → Prop) (L : List Nat) (f : pF) (a0 : Nat) (a1 : Int32) : Prop :=
    (∃ n9 : Nat, wp_X0_explainsAll_4 dA zz Q  n9 L f a0 a1 (0 : Int32))
set_option maxHeartbeats 4000000 in
set_option maxRecDepth 100000 in
theorem tb_X0_explainsAll_58 {p : Program} {l : Launch} {e : Env} {s : State} {m : MethodId} {below : List Frame} {meth : Method} {c : Code} {args : Array Value} {dC : Nat → ClassId} {dI : Nat → Nat → Nat} {dA : Nat → ClassId} {zz : Nat → Nat} {base : Nat} {A : Nat → Prop} {Q : Int32 → List Nat → pF → Prop} (C : pCx p s m args meth c cX0_explainsAll 6 (some .boolean) RX0 wsX0_explainsAll A dC dI dA zz base) {k4_ : List Nat → pF → Nat → Int32 → Int32 → Prop} (h4_ : ∀ (L : List Nat) (f : pF) (a0 : Nat) (a2 : Int32) (a3 : Int32), k4_ L f a0 a2 a3 → pAt p l e rm_X0_explainsAll s m args below meth c dC dI A (MQ below (va_Qi (fun r (u : List Nat × pF) => Q r u.1 u.2) (pB dC dI dA A) A) args s 0 0 A) 0 0 4 6 [(0, .ref a0), (2, .int a2), (3, .int a3)] [] L f) {k18_ : List Nat → pF → Nat → Int32 → Int32 → Int32 → Int32 → Prop} (h18_ : ∀ (L : List Nat) (f : pF) (a0 : Nat) (a2 : Int32) (a3 : Int32) (a4 : Int32) (a5 : Int32), k18_ L f a0 a2 a3 a4 a5 → pAt p l e rm_X0_explainsAll s m args below meth c dC dI A (MQ below (va_Qi (fun r (u : List Nat × pF) => Q r u.1 u.2) (pB dC dI dA A) A) args s 0 0 A) 0 0 18 6 [(0, .ref a0), (2, .int a2), (3, .int a3), (4, .int a4), (5, .int a5)] [] L f) : ∀ (L : List Nat) (f : pF) (a0 : Nat) (a2 : Int32) (a3 : Int32) (a4 : Int32) (a5 : Int32), wp_X0_explainsAll_58 dA zz Q k4_ k18_ L f a0 a2 a3 a4 a5 → pAt p l e rm_X0_explainsAll s m args below meth c dC dI A (MQ below (va_Qi (fun r (u : List Nat × pF) => Q r u.1 u.2) (pB dC dI dA A) A) args s 0 0 A) 0 0 58 6 [(0, .ref a0), (2, .int a2), (3, .int a3), (4, .int a4), (5, .int a5)] [] L f := by
  obtain ⟨hx, hb, hml, hown, hts, hr, hlocks, hA, hK, hB, hz, hN, hT⟩ := id C
  intro L f a0 a2 a3 a4 a5 hw H locs hP hD hS ls hl
  rw [wp_X0_explainsAll_58] at hw
  obtain ⟨v5_58, ev5_58⟩ : ∃ y : Int32, y = a5 + (1 : Int32) := ⟨_, rfl⟩
  have hw := hw v5_58 ev5_58
  refine lv_iinc (v := v5_58) (lv' := [(5, .int v5_58), (0, .ref a0), (2, .int a2), (3, .int a3), (4, .int a4)]) hx hb dX0_explainsAll_58 hl (k := 4) rfl (by rw [ev5_58]; rfl) (by decide) rfl (fun ls hl => ?_)
  refine lv_goto (tgt := 18) hx hb dX0_explainsAll_61 (by decide) ?_
  exact h18_ L f a0 a2 a3 a4 v5_58 hw H locs hP hD hS ls (lv_sub hl [1, 2, 3, 4, 0] rfl)
set_option maxHeartbeats 4000000 in
set_option maxRecDepth 100000 in
theorem tb_X0_explainsAll_79 {p : Program} {l : Launch} {e : Env} {s : State} {m : MethodId} {below : List Frame} {meth : Method} {c : Code} {args : Array Value} {dC : Nat → ClassId} {dI : Nat → Nat → Nat} {dA : Nat → ClassId} {zz : Nat → Nat} {base : Nat} {A : Nat → Prop} {Q : Int32 → List Nat → pF → Prop} (C : pCx p s m args meth c cX0_explainsAll 6 (some .boolean) RX0 wsX0_explainsAll A dC dI dA zz base) : ∀ (L : List Nat) (f : pF) (a0 : Nat) (a2 : Int32), wp_X0_explainsAll_79 dA zz Q  L f a0 a2 → pAt p l e rm_X0_explainsAll s m args below meth c dC dI A (MQ below (va_Qi (fun r (u : List Nat × pF) => Q r u.1 u.2) (pB dC dI dA A) A) args s 0 0 A) 0 0 79 6 [(0, .ref a0), (2, .int a2)] [] L f := by
  obtain ⟨hx, hb, hml, hown, hts, hr, hlocks, hA, hK, hB, hz, hN, hT⟩ := id C
  intro L f a0 a2 hw H locs hP hD hS ls hl
  rw [wp_X0_explainsAll_79] at hw
  refine lv_iload_n hx hb dX0_explainsAll_79 rfl (lv_at hl 1 rfl) ?_
  refine lv_iconst (v := 1) hx hb dX0_explainsAll_80 (by decide) ?_
  refine lv_aload_n hx hb dX0_explainsAll_81 rfl (lv_at hl 0 rfl) ?_
  obtain ⟨fs_82, g_82, ⟨hL9, hf9, hn9⟩, hw⟩ := hw
  refine va_get (D := (dC, dI)) (ci := 1) (v := .int g_82) (C := RX0) (T := TX0) (N := 8) hx hb hts iw_X0_explainsAll_RX0 hown hK (p_one hP hL9 hf9) 0 rfl rfl 7 (by decide) (hts _ lk_X0_explainsAll_54) (fun _ h9 => h9) hn9 dX0_explainsAll_82 ?_
  refine lv_ishl hx hb dX0_explainsAll_85 ?_
  refine lv_iconst (v := 1) hx hb dX0_explainsAll_86 (by decide) ?_
  refine lv_isub hx hb dX0_explainsAll_87 ?_
  refine lv_icmp_ne (tgt := 95) hx hb dX0_explainsAll_88 (by decide) (fun c_88 => ?_) (fun c_88 => ?_)
  · have hw := hw.1 c_88
    refine lv_iconst (v := 0) hx hb dX0_explainsAll_95 (by decide) ?_
    exact W.zret (v := (0 : Int32)) hx hb hr rfl (fun t ht hW => ⟨⟨(0 : Int32), (L, f), rfl, hw, by rw [ht]; exact hP, va_K.moved hW.alike hK, hD⟩, hS.F ht⟩) hS.2.2 dX0_explainsAll_96
  · have hw := hw.2 c_88
    refine lv_iconst (v := 1) hx hb dX0_explainsAll_91 (by decide) ?_
    refine lv_goto (tgt := 96) hx hb dX0_explainsAll_92 (by decide) ?_
    exact W.zret (v := (1 : Int32)) hx hb hr rfl (fun t ht hW => ⟨⟨(1 : Int32), (L, f), rfl, hw, by rw [ht]; exact hP, va_K.moved hW.alike hK, hD⟩, hS.F ht⟩) hS.2.2 dX0_explainsAll_96
set_option maxHeartbeats 4000000 in
set_option maxRecDepth 100000 in
theorem tb_X0_explainsAll_70 {p : Program} {l : Launch} {e : Env} {s : State} {m : MethodId} {below : List Frame} {meth : Method} {c : Code} {args : Array Value} {dC : Nat → ClassId} {dI : Nat → Nat → Nat} {dA : Nat → ClassId} {zz : Nat → Nat} {base : Nat} {A : Nat → Prop} {Q : Int32 → List Nat → pF → Prop} (C : pCx p s m args meth c cX0_explainsAll 6 (some .boolean) RX0 wsX0_explainsAll A dC dI dA zz base) : ∀ (L : List Nat) (f : pF) (a0 : Nat) (a2 : Int32), wp_X0_explainsAll_70 dA zz Q  L f a0 a2 → pAt p l e rm_X0_explainsAll s m args below meth c dC dI A (MQ below (va_Qi (fun r (u : List Nat × pF) => Q r u.1 u.2) (pB dC dI dA A) A) args s 0 0 A) 0 0 70 6 [(0, .ref a0), (2, .int a2)] [] L f := by
  obtain ⟨hx, hb, hml, hown, hts, hr, hlocks, hA, hK, hB, hz, hN, hT⟩ := id C
  intro L f a0 a2 hw H locs hP hD hS ls hl
  rw [wp_X0_explainsAll_70] at hw
  refine lv_goto (tgt := 79) hx hb dX0_explainsAll_70 (by decide) ?_
  exact tb_X0_explainsAll_79 C  L f a0 a2 hw H locs hP hD hS ls (lv_sub hl [0, 1] rfl)
set_option maxHeartbeats 4000000 in
set_option maxRecDepth 100000 in
theorem tb_X0_explainsAll_64 {p : Program} {l : Launch} {e : Env} {s : State} {m : MethodId} {below : List Frame} {meth : Method} {c : Code} {args : Array Value} {dC : Nat → ClassId} {dI : Nat → Nat → Nat} {dA : Nat → ClassId} {zz : Nat → Nat} {base : Nat} {A : Nat → Prop} {Q : Int32 → List Nat → pF → Prop} (C : pCx p s m args meth c cX0_explainsAll 6 (some .boolean) RX0 wsX0_explainsAll A dC dI dA zz base) {k4_ : List Nat → pF → Nat → Int32 → Int32 → Prop} (h4_ : ∀ (L : List Nat) (f : pF) (a0 : Nat) (a2 : Int32) (a3 : Int32), k4_ L f a0 a2 a3 → pAt p l e rm_X0_explainsAll s m args below meth c dC dI A (MQ below (va_Qi (fun r (u : List Nat × pF) => Q r u.1 u.2) (pB dC dI dA A) A) args s 0 0 A) 0 0 4 6 [(0, .ref a0), (2, .int a2), (3, .int a3)] [] L f) : ∀ (L : List Nat) (f : pF) (a0 : Nat) (a2 : Int32) (a3 : Int32) (a4 : Int32), wp_X0_explainsAll_64 dA zz Q k4_ L f a0 a2 a3 a4 → pAt p l e rm_X0_explainsAll s m args below meth c dC dI A (MQ below (va_Qi (fun r (u : List Nat × pF) => Q r u.1 u.2) (pB dC dI dA A) A) args s 0 0 A) 0 0 64 6 [(0, .ref a0), (2, .int a2), (3, .int a3), (4, .int a4)] [] L f := by
  obtain ⟨hx, hb, hml, hown, hts, hr, hlocks, hA, hK, hB, hz, hN, hT⟩ := id C
  intro L f a0 a2 a3 a4 hw H locs hP hD hS ls hl
  rw [wp_X0_explainsAll_64] at hw
  refine lv_iload_n hx hb dX0_explainsAll_64 rfl (lv_at hl 1 rfl) ?_
  refine lv_iload hx hb dX0_explainsAll_65 (lv_at hl 3 rfl) ?_
  refine lv_icmp_ne (tgt := 73) hx hb dX0_explainsAll_67 (by decide) (fun c_67 => ?_) (fun c_67 => ?_)
  · have hw := hw.1 c_67
    obtain ⟨v3_73, ev3_73⟩ : ∃ y : Int32, y = a3 + (1 : Int32) := ⟨_, rfl⟩
    have hw := hw v3_73 ev3_73
    refine lv_iinc (v := v3_73) (lv' := [(3, .int v3_73), (0, .ref a0), (2, .int a2), (4, .int a4)]) hx hb dX0_explainsAll_73 hl (k := 2) rfl (by rw [ev3_73]; rfl) (by decide) rfl (fun ls hl => ?_)
    refine lv_goto (tgt := 4) hx hb dX0_explainsAll_76 (by decide) ?_
    exact h4_ L f a0 a2 v3_73 hw H locs hP hD hS ls (lv_sub hl [1, 2, 0] rfl)
  · have hw := hw.2 c_67
    exact tb_X0_explainsAll_70 C  L f a0 a2 hw H locs hP hD hS ls (lv_sub hl [0, 1] rfl)
set_option maxHeartbeats 4000000 in
set_option maxRecDepth 100000 in
theorem tb_X0_explainsAll_18 {p : Program} {l : Launch} {e : Env} {s : State} {m : MethodId} {below : List Frame} {meth : Method} {c : Code} {args : Array Value} {dC : Nat → ClassId} {dI : Nat → Nat → Nat} {dA : Nat → ClassId} {zz : Nat → Nat} {base : Nat} {A : Nat → Prop} {Q : Int32 → List Nat → pF → Prop} (C : pCx p s m args meth c cX0_explainsAll 6 (some .boolean) RX0 wsX0_explainsAll A dC dI dA zz base) {k4_ : List Nat → pF → Nat → Int32 → Int32 → Prop} (h4_ : ∀ (L : List Nat) (f : pF) (a0 : Nat) (a2 : Int32) (a3 : Int32), k4_ L f a0 a2 a3 → pAt p l e rm_X0_explainsAll s m args below meth c dC dI A (MQ below (va_Qi (fun r (u : List Nat × pF) => Q r u.1 u.2) (pB dC dI dA A) A) args s 0 0 A) 0 0 4 6 [(0, .ref a0), (2, .int a2), (3, .int a3)] [] L f) : ∀ (n : Nat) (L : List Nat) (f : pF) (a0 : Nat) (a2 : Int32) (a3 : Int32) (a4 : Int32) (a5 : Int32), wp_X0_explainsAll_18 dA zz Q k4_ n L f a0 a2 a3 a4 a5 → pAt p l e rm_X0_explainsAll s m args below meth c dC dI A (MQ below (va_Qi (fun r (u : List Nat × pF) => Q r u.1 u.2) (pB dC dI dA A) A) args s 0 0 A) 0 0 18 6 [(0, .ref a0), (2, .int a2), (3, .int a3), (4, .int a4), (5, .int a5)] [] L f := by
  obtain ⟨hx, hb, hml, hown, hts, hr, hlocks, hA, hK, hB, hz, hN, hT⟩ := id C
  intro n
  induction n with
  | zero => intro L f a0 a2 a3 a4 a5 hw; exact hw.elim
  | succ n ih =>
    intro L f a0 a2 a3 a4 a5 hw H locs hP hD hS ls hl
    rw [wp_X0_explainsAll_18] at hw
    refine lv_iload hx hb dX0_explainsAll_18 (lv_at hl 4 rfl) ?_
    refine lv_aload_n hx hb dX0_explainsAll_20 rfl (lv_at hl 0 rfl) ?_
    obtain ⟨fs_21, g_21, ⟨hL9, hf9, hn9⟩, hw⟩ := hw
    refine va_get (D := (dC, dI)) (ci := 1) (v := .int g_21) (C := RX0) (T := TX0) (N := 8) hx hb hts iw_X0_explainsAll_RX0 hown hK (p_one hP hL9 hf9) 0 rfl rfl 7 (by decide) (hts _ lk_X0_explainsAll_54) (fun _ h9 => h9) hn9 dX0_explainsAll_21 ?_
    refine lv_icmp_ge (tgt := 64) hx hb dX0_explainsAll_24 (by decide) (fun c_24 => ?_) (fun c_24 => ?_)
    · have hw := hw.1 c_24
      exact tb_X0_explainsAll_64 C h4_ L f a0 a2 a3 a4 hw H locs hP hD hS ls (lv_sub hl [0, 1, 2, 3] rfl)
    · have hw := hw.2 c_24
      refine lv_aload_n hx hb dX0_explainsAll_27 rfl (lv_at hl 0 rfl) ?_
      obtain ⟨fs_28, g_28, ⟨hL9, hf9, hn9⟩, hw⟩ := hw
      refine va_get (D := (dC, dI)) (ci := 1) (v := .ref g_28) (C := RX0) (T := TX0) (N := 8) hx hb hts iw_X0_explainsAll_RX0 hown hK (p_one hP hL9 hf9) 0 rfl rfl 6 (by decide) (hts _ lk_X0_explainsAll_25) (fun _ h9 => h9) hn9 dX0_explainsAll_28 ?_
      refine lv_iload hx hb dX0_explainsAll_31 (lv_at hl 4 rfl) ?_
      obtain ⟨n_33, h_33, ⟨hL9, hf9, hn9⟩, hw⟩ := hw
      refine va_iald hx hb hK (p_one hP hL9 hf9) 0 1 rfl rfl hn9 dX0_explainsAll_33 ?_
      refine lv_topi (fun g_33 eg_33 => ?_)
      rw [← eg_33] at hw
      refine lv_if_eq (tgt := 58) hx hb dX0_explainsAll_34 (by decide) (fun c_34 => ?_) (fun c_34 => ?_)
      · have hw := hw.1 c_34
        exact tb_X0_explainsAll_58 C h4_ ih L f a0 a2 a3 a4 a5 hw H locs hP hD hS ls (lv_sub hl [0, 1, 2, 3, 4] rfl)
      · have hw := hw.2 c_34
        refine lv_aload_n hx hb dX0_explainsAll_37 rfl (lv_at hl 0 rfl) ?_
        obtain ⟨fs_38, g_38, ⟨hL9, hf9, hn9⟩, hw⟩ := hw
        refine va_get (D := (dC, dI)) (ci := 1) (v := .ref g_38) (C := RX0) (T := TX0) (N := 8) hx hb hts iw_X0_explainsAll_RX0 hown hK (p_one hP hL9 hf9) 0 rfl rfl 6 (by decide) (hts _ lk_X0_explainsAll_25) (fun _ h9 => h9) hn9 dX0_explainsAll_38 ?_
        refine lv_iload hx hb dX0_explainsAll_41 (lv_at hl 4 rfl) ?_
        obtain ⟨n_43, h_43, ⟨hL9, hf9, hn9⟩, hw⟩ := hw
        refine va_iald hx hb hK (p_one hP hL9 hf9) 0 1 rfl rfl hn9 dX0_explainsAll_43 ?_
        refine lv_topi (fun g_43 eg_43 => ?_)
        rw [← eg_43] at hw
        refine lv_iload_n hx hb dX0_explainsAll_44 rfl (lv_at hl 1 rfl) ?_
        refine lv_iconst (v := -1) hx hb dX0_explainsAll_45 (by decide) ?_
        refine lv_ixor hx hb dX0_explainsAll_46 ?_
        refine lv_iand hx hb dX0_explainsAll_47 ?_
        refine lv_if_ne (tgt := 58) hx hb dX0_explainsAll_48 (by decide) (fun c_48 => ?_) (fun c_48 => ?_)
        · have hw := hw.1 c_48
          exact tb_X0_explainsAll_58 C h4_ ih L f a0 a2 a3 a4 a5 hw H locs hP hD hS ls (lv_sub hl [0, 1, 2, 3, 4] rfl)
        · have hw := hw.2 c_48
          refine lv_iload_n hx hb dX0_explainsAll_51 rfl (lv_at hl 1 rfl) ?_
          refine lv_iconst (v := 1) hx hb dX0_explainsAll_52 (by decide) ?_
          refine lv_iload hx hb dX0_explainsAll_53 (lv_at hl 4 rfl) ?_
          refine lv_ishl hx hb dX0_explainsAll_55 ?_
          refine lv_ior hx hb dX0_explainsAll_56 ?_
          refine lv_topi (fun v2_57 ev2_57 => ?_)
          have hw := hw v2_57 ev2_57
          refine lv_istore_n (lv' := [(2, .int v2_57), (0, .ref a0), (3, .int a3), (4, .int a4), (5, .int a5)]) hx hb dX0_explainsAll_57 rfl hl (by decide) rfl (fun ls hl => ?_)
          exact tb_X0_explainsAll_58 C h4_ ih L f a0 v2_57 a3 a4 a5 hw H locs hP hD hS ls (lv_sub hl [1, 0, 2, 3, 4] rfl)
set_option maxHeartbeats 4000000 in
set_option maxRecDepth 100000 in
theorem tb_X0_explainsAll_4 {p : Program} {l : Launch} {e : Env} {s : State} {m : MethodId} {below : List Frame} {meth : Method} {c : Code} {args : Array Value} {dC : Nat → ClassId} {dI : Nat → Nat → Nat} {dA : Nat → ClassId} {zz : Nat → Nat} {base : Nat} {A : Nat → Prop} {Q : Int32 → List Nat → pF → Prop} (C : pCx p s m args meth c cX0_explainsAll 6 (some .boolean) RX0 wsX0_explainsAll A dC dI dA zz base) : ∀ (n : Nat) (L : List Nat) (f : pF) (a0 : Nat) (a2 : Int32) (a3 : Int32), wp_X0_explainsAll_4 dA zz Q  n L f a0 a2 a3 → pAt p l e rm_X0_explainsAll s m args below meth c dC dI A (MQ below (va_Qi (fun r (u : List Nat × pF) => Q r u.1 u.2) (pB dC dI dA A) A) args s 0 0 A) 0 0 4 6 [(0, .ref a0), (2, .int a2), (3, .int a3)] [] L f := by
  obtain ⟨hx, hb, hml, hown, hts, hr, hlocks, hA, hK, hB, hz, hN, hT⟩ := id C
  intro n
  induction n with
  | zero => intro L f a0 a2 a3 hw; exact hw.elim
  | succ n ih =>
    intro L f a0 a2 a3 hw H locs hP hD hS ls hl
    rw [wp_X0_explainsAll_4] at hw
    refine lv_iload_n hx hb dX0_explainsAll_4 rfl (lv_at hl 2 rfl) ?_
    refine lv_aload_n hx hb dX0_explainsAll_5 rfl (lv_at hl 0 rfl) ?_
    obtain ⟨fs_6, g_6, ⟨hL9, hf9, hn9⟩, hw⟩ := hw
    refine va_get (D := (dC, dI)) (ci := 1) (v := .int g_6) (C := RX0) (T := TX0) (N := 8) hx hb hts iw_X0_explainsAll_RX0 hown hK (p_one hP hL9 hf9) 0 rfl rfl 7 (by decide) (hts _ lk_X0_explainsAll_54) (fun _ h9 => h9) hn9 dX0_explainsAll_6 ?_
    refine lv_icmp_ge (tgt := 79) hx hb dX0_explainsAll_9 (by decide) (fun c_9 => ?_) (fun c_9 => ?_)
    · have hw := hw.1 c_9
      exact tb_X0_explainsAll_79 C  L f a0 a2 hw H locs hP hD hS ls (lv_sub hl [0, 1] rfl)
    · have hw := hw.2 c_9
      refine lv_iload_n hx hb dX0_explainsAll_12 rfl (lv_at hl 1 rfl) ?_
      refine lv_istore (lv' := [(4, .int a2), (0, .ref a0), (2, .int a2), (3, .int a3)]) hx hb dX0_explainsAll_13 hl (by decide) rfl (fun ls hl => ?_)
      refine lv_iconst (v := 0) hx hb dX0_explainsAll_15 (by decide) ?_
      refine lv_istore (lv' := [(5, .int (0 : Int32)), (4, .int a2), (0, .ref a0), (2, .int a2), (3, .int a3)]) hx hb dX0_explainsAll_16 hl (by decide) rfl (fun ls hl => ?_)
      obtain ⟨n9, hw⟩ := hw
      exact tb_X0_explainsAll_18 C ih n9 L f a0 a2 a3 a2 (0 : Int32) hw H locs hP hD hS ls (lv_sub hl [2, 3, 4, 1, 0] rfl)
set_option maxHeartbeats 4000000 in
set_option maxRecDepth 100000 in
theorem tb_X0_explainsAll_0 {p : Program} {l : Launch} {e : Env} {s : State} {m : MethodId} {below : List Frame} {meth : Method} {c : Code} {args : Array Value} {dC : Nat → ClassId} {dI : Nat → Nat → Nat} {dA : Nat → ClassId} {zz : Nat → Nat} {base : Nat} {A : Nat → Prop} {Q : Int32 → List Nat → pF → Prop} (C : pCx p s m args meth c cX0_explainsAll 6 (some .boolean) RX0 wsX0_explainsAll A dC dI dA zz base) : ∀ (L : List Nat) (f : pF) (a0 : Nat) (a1 : Int32), wp_X0_explainsAll_0 dA zz Q  L f a0 a1 → pAt p l e rm_X0_explainsAll s m args below meth c dC dI A (MQ below (va_Qi (fun r (u : List Nat × pF) => Q r u.1 u.2) (pB dC dI dA A) A) args s 0 0 A) 0 0 0 6 [(0, .ref a0), (1, .int a1)] [] L f := by
  obtain ⟨hx, hb, hml, hown, hts, hr, hlocks, hA, hK, hB, hz, hN, hT⟩ := id C
  intro L f a0 a1 hw H locs hP hD hS ls hl
  rw [wp_X0_explainsAll_0] at hw
  refine lv_iload_n hx hb dX0_explainsAll_0 rfl (lv_at hl 1 rfl) ?_
  refine lv_istore_n (lv' := [(2, .int a1), (0, .ref a0), (1, .int a1)]) hx hb dX0_explainsAll_1 rfl hl (by decide) rfl (fun ls hl => ?_)
  refine lv_iconst (v := 0) hx hb dX0_explainsAll_2 (by decide) ?_
  refine lv_istore_n (lv' := [(3, .int (0 : Int32)), (2, .int a1), (0, .ref a0), (1, .int a1)]) hx hb dX0_explainsAll_3 rfl hl (by decide) rfl (fun ls hl => ?_)
  obtain ⟨n9, hw⟩ := hw
  exact tb_X0_explainsAll_4 C  n9 L f a0 a1 (0 : Int32) hw H locs hP hD hS ls (lv_sub hl [2, 1, 0] rfl)
set_option maxHeartbeats 4000000 in
set_option maxRecDepth 100000 in
theorem c_X0_explainsAll (l : Launch) (dC : Nat → ClassId) (dI : Nat → Nat → Nat) (dA : Nat → ClassId) (zz : Nat → Nat) (base : Nat) (L : List Nat) (f : pF) (sz : Nat) (a0 : Nat) (a1 : Int32) (Q : Int32 → List Nat → pF → Prop) (hw : wp_X0_explainsAll_0 dA zz Q L f a0 a1) : Met l yX0_explainsAll wsX0_explainsAll rm_X0_explainsAll (va_Pc [.ref a0, .int a1] (pPre dC dI dA zz base L f sz)) (va_Qi (fun r (u : List Nat × pF) => Q r u.1 u.2) (pB dC dI dA (va_A (va_pl L f) sz)) (va_A (va_pl L f) sz)) 0 0 (va_A (va_pl L f) sz) := by
  refine Met.ofW (cc := cX0_explainsAll) (maxL := 6) (ret := (some .boolean)) (by decide) rfl ?_
  intro p e s m args below meth c s₁ B hml hv
  obtain ⟨rfl, hsz, hP, hK, hD0, hz, hN, hT⟩ := hv
  subst hsz
  have hl := lv_entry ([.ref a0, .int a1]) (n := 6) (Nat.le_of_ble_eq_true rfl)
  rw [lg_entry_eq]
  generalize (lg_sl ([.ref a0, .int a1]) ++ List.replicate (6 - (lg_sl ([.ref a0, .int a1])).length) Slot.unset).toArray = ls at hl ⊢
  exact tb_X0_explainsAll_0 (Q := Q) (p := p) ⟨B.exec, B.bytes, hml, findClass_of_methodNamed B.named, atoms_spec (ws := wsX0_explainsAll) B.pre, B.returns, B.notSynchronized, fun q h => Or.inr h, hK, pAB hD0 hz, hz, hN, hT⟩ L f a0 a1 hw s.heap [] hP (hD0.self (sz := s.heap.size)) va_S.rf ls (lv_sub hl [0, 1] rfl)
theorem iw_X0_membersAmong_RX0 : ∀ w ∈ u_ws RX0 TX0 8, w ∈ wsX0_membersAmong := by decide +kernel
theorem lk_X0_membersAmong_22 : Cond.fieldLink RX0 22 "TermKeeper$Definitions" "members" "[I" ∈ wsX0_membersAmong := by decide +kernel
theorem lk_X0_membersAmong_54 : Cond.fieldLink RX0 54 "TermKeeper$Definitions" "memberCount" "I" ∈ wsX0_membersAmong := by decide +kernel
abbrev rm_X0_membersAmong : Room := { frames := 0, cells := 0, slots := 0, locals := 0 }
def wp_X0_membersAmong_37 (dA : Nat → ClassId) (zz : Nat → Nat) (Q : Int32 → List Nat → pF → Prop) (k5_ : List Nat → pF → Nat → Int64 → Int32 → Int32 → Prop) (L : List Nat) (f : pF) (a0 : Nat) (a1 : Int64) (a3 : Int32) (a4 : Int32) : Prop :=
    (∀ v4_37 : Int32, v4_37 = a4 + (1 : Int32) →
      (k5_ L f a0 a1 a3 v4_37))
def wp_X0_membersAmong_5 (dA : Nat → ClassId) (zz : Nat → Nat) (Q : Int32 → List Nat → pF → Prop) : Nat → List Nat → pF → Nat → Int64 → Int32 → Int32 → Prop
  | 0, _, _, _, _, _, _ => False
  | n + 1, L, f, a0, a1, a3, a4 =>
    (gI L f 1 a0 7 (fun g_8 =>
      ((g_8 ≤ a4 →
        (Q a3 L f))
       ∧ (¬ g_8 ≤ a4 →
        (gR L f 1 a0 5 (fun g_16 =>
          (aI L f (dA 1) g_16 a4 (fun g_21 =>
            (((lg_cmp ((a1 >>> (Int32.toInt64 g_21 &&& 63)) &&& (1 : Int64)) (0 : Int64)) = 0 →
              (wp_X0_membersAmong_37 dA zz Q (wp_X0_membersAmong_5 dA zz Q  n) L f a0 a1 a3 a4))
             ∧ (¬ (lg_cmp ((a1 >>> (Int32.toInt64 g_21 &&& 63)) &&& (1 : Int64)) (0 : Int64)) = 0 →
              (∀ v3_36 : Int32, v3_36 = (a3 ||| ((1 : Int32) <<< (a4 &&& 31))) →
                (wp_X0_membersAmong_37 dA zz Q (wp_X0_membersAmong_5 dA zz Q  n) L f a0 a1 v3_36 a4))))))))))))
def wp_X0_membersAmong_0 (dA : Nat → ClassId) (zz : Nat → Nat) (Q : Int32 → List Nat → pF → Prop) (L : List Nat) (f : pF) (a0 : Nat) (a1 : Int64) : Prop :=
    (∃ n9 : Nat, wp_X0_membersAmong_5 dA zz Q  n9 L f a0 a1 (0 : Int32) (0 : Int32))
set_option maxHeartbeats 4000000 in
set_option maxRecDepth 100000 in
theorem tb_X0_membersAmong_37 {p : Program} {l : Launch} {e : Env} {s : State} {m : MethodId} {below : List Frame} {meth : Method} {c : Code} {args : Array Value} {dC : Nat → ClassId} {dI : Nat → Nat → Nat} {dA : Nat → ClassId} {zz : Nat → Nat} {base : Nat} {A : Nat → Prop} {Q : Int32 → List Nat → pF → Prop} (C : pCx p s m args meth c cX0_membersAmong 5 (some .int) RX0 wsX0_membersAmong A dC dI dA zz base) {k5_ : List Nat → pF → Nat → Int64 → Int32 → Int32 → Prop} (h5_ : ∀ (L : List Nat) (f : pF) (a0 : Nat) (a1 : Int64) (a3 : Int32) (a4 : Int32), k5_ L f a0 a1 a3 a4 → pAt p l e rm_X0_membersAmong s m args below meth c dC dI A (MQ below (va_Qi (fun r (u : List Nat × pF) => Q r u.1 u.2) (pB dC dI dA A) A) args s 0 0 A) 0 0 5 5 [(0, .ref a0), (1, .long a1), (3, .int a3), (4, .int a4)] [] L f) : ∀ (L : List Nat) (f : pF) (a0 : Nat) (a1 : Int64) (a3 : Int32) (a4 : Int32), wp_X0_membersAmong_37 dA zz Q k5_ L f a0 a1 a3 a4 → pAt p l e rm_X0_membersAmong s m args below meth c dC dI A (MQ below (va_Qi (fun r (u : List Nat × pF) => Q r u.1 u.2) (pB dC dI dA A) A) args s 0 0 A) 0 0 37 5 [(0, .ref a0), (1, .long a1), (3, .int a3), (4, .int a4)] [] L f := by
  obtain ⟨hx, hb, hml, hown, hts, hr, hlocks, hA, hK, hB, hz, hN, hT⟩ := id C
  intro L f a0 a1 a3 a4 hw H locs hP hD hS ls hl
  rw [wp_X0_membersAmong_37] at hw
  obtain ⟨v4_37, ev4_37⟩ : ∃ y : Int32, y = a4 + (1 : Int32) := ⟨_, rfl⟩
  have hw := hw v4_37 ev4_37
  refine lv_iinc (v := v4_37) (lv' := [(4, .int v4_37), (0, .ref a0), (1, .long a1), (3, .int a3)]) hx hb dX0_membersAmong_37 hl (k := 3) rfl (by rw [ev4_37]; rfl) (by decide) rfl (fun ls hl => ?_)
  refine lv_goto (tgt := 5) hx hb dX0_membersAmong_40 (by decide) ?_
  exact h5_ L f a0 a1 a3 v4_37 hw H locs hP hD hS ls (lv_sub hl [1, 2, 3, 0] rfl)
set_option maxHeartbeats 4000000 in
set_option maxRecDepth 100000 in
theorem tb_X0_membersAmong_5 {p : Program} {l : Launch} {e : Env} {s : State} {m : MethodId} {below : List Frame} {meth : Method} {c : Code} {args : Array Value} {dC : Nat → ClassId} {dI : Nat → Nat → Nat} {dA : Nat → ClassId} {zz : Nat → Nat} {base : Nat} {A : Nat → Prop} {Q : Int32 → List Nat → pF → Prop} (C : pCx p s m args meth c cX0_membersAmong 5 (some .int) RX0 wsX0_membersAmong A dC dI dA zz base) : ∀ (n : Nat) (L : List Nat) (f : pF) (a0 : Nat) (a1 : Int64) (a3 : Int32) (a4 : Int32), wp_X0_membersAmong_5 dA zz Q  n L f a0 a1 a3 a4 → pAt p l e rm_X0_membersAmong s m args below meth c dC dI A (MQ below (va_Qi (fun r (u : List Nat × pF) => Q r u.1 u.2) (pB dC dI dA A) A) args s 0 0 A) 0 0 5 5 [(0, .ref a0), (1, .long a1), (3, .int a3), (4, .int a4)] [] L f := by
  obtain ⟨hx, hb, hml, hown, hts, hr, hlocks, hA, hK, hB, hz, hN, hT⟩ := id C
  intro n
  induction n with
  | zero => intro L f a0 a1 a3 a4 hw; exact hw.elim
  | succ n ih =>
    intro L f a0 a1 a3 a4 hw H locs hP hD hS ls hl
    rw [wp_X0_membersAmong_5] at hw
    refine lv_iload hx hb dX0_membersAmong_5 (lv_at hl 3 rfl) ?_
    refine lv_aload_n hx hb dX0_membersAmong_7 rfl (lv_at hl 0 rfl) ?_
    obtain ⟨fs_8, g_8, ⟨hL9, hf9, hn9⟩, hw⟩ := hw
    refine va_get (D := (dC, dI)) (ci := 1) (v := .int g_8) (C := RX0) (T := TX0) (N := 8) hx hb hts iw_X0_membersAmong_RX0 hown hK (p_one hP hL9 hf9) 0 rfl rfl 7 (by decide) (hts _ lk_X0_membersAmong_54) (fun _ h9 => h9) hn9 dX0_membersAmong_8 ?_
    refine lv_icmp_ge (tgt := 43) hx hb dX0_membersAmong_11 (by decide) (fun c_11 => ?_) (fun c_11 => ?_)
    · have hw := hw.1 c_11
      refine lv_iload_n hx hb dX0_membersAmong_43 rfl (lv_at hl 2 rfl) ?_
      exact W.iret (v := a3) hx hb hr (fun t ht hW => ⟨⟨a3, (L, f), rfl, hw, by rw [ht]; exact hP, va_K.moved hW.alike hK, hD⟩, hS.F ht⟩) hS.2.2 dX0_membersAmong_44
    · have hw := hw.2 c_11
      refine lv_lload_n hx hb dX0_membersAmong_14 rfl (lv_at hl 1 rfl) ?_
      refine lv_aload_n hx hb dX0_membersAmong_15 rfl (lv_at hl 0 rfl) ?_
      obtain ⟨fs_16, g_16, ⟨hL9, hf9, hn9⟩, hw⟩ := hw
      refine va_get (D := (dC, dI)) (ci := 1) (v := .ref g_16) (C := RX0) (T := TX0) (N := 8) hx hb hts iw_X0_membersAmong_RX0 hown hK (p_one hP hL9 hf9) 0 rfl rfl 5 (by decide) (hts _ lk_X0_membersAmong_22) (fun _ h9 => h9) hn9 dX0_membersAmong_16 ?_
      refine lv_iload hx hb dX0_membersAmong_19 (lv_at hl 3 rfl) ?_
      obtain ⟨n_21, h_21, ⟨hL9, hf9, hn9⟩, hw⟩ := hw
      refine va_iald hx hb hK (p_one hP hL9 hf9) 0 1 rfl rfl hn9 dX0_membersAmong_21 ?_
      refine lv_topi (fun g_21 eg_21 => ?_)
      rw [← eg_21] at hw
      refine lv_lshr hx hb dX0_membersAmong_22 rfl ?_
      refine lv_lconst (v := 1) hx hb dX0_membersAmong_23 (by decide) ?_
      refine lv_land hx hb dX0_membersAmong_24 ?_
      refine lv_lconst (v := 0) hx hb dX0_membersAmong_25 (by decide) ?_
      refine W.lcmp hx hb dX0_membersAmong_26 ?_
      refine lv_if_eq (tgt := 37) hx hb dX0_membersAmong_27 (by decide) (fun c_27 => ?_) (fun c_27 => ?_)
      · have hw := hw.1 c_27
        exact tb_X0_membersAmong_37 C ih L f a0 a1 a3 a4 hw H locs hP hD hS ls (lv_sub hl [0, 1, 2, 3] rfl)
      · have hw := hw.2 c_27
        refine lv_iload_n hx hb dX0_membersAmong_30 rfl (lv_at hl 2 rfl) ?_
        refine lv_iconst (v := 1) hx hb dX0_membersAmong_31 (by decide) ?_
        refine lv_iload hx hb dX0_membersAmong_32 (lv_at hl 3 rfl) ?_
        refine lv_ishl hx hb dX0_membersAmong_34 ?_
        refine lv_ior hx hb dX0_membersAmong_35 ?_
        refine lv_topi (fun v3_36 ev3_36 => ?_)
        have hw := hw v3_36 ev3_36
        refine lv_istore_n (lv' := [(3, .int v3_36), (0, .ref a0), (1, .long a1), (4, .int a4)]) hx hb dX0_membersAmong_36 rfl hl (by decide) rfl (fun ls hl => ?_)
        exact tb_X0_membersAmong_37 C ih L f a0 a1 v3_36 a4 hw H locs hP hD hS ls (lv_sub hl [1, 2, 0, 3] rfl)
set_option maxHeartbeats 4000000 in
set_option maxRecDepth 100000 in
theorem tb_X0_membersAmong_0 {p : Program} {l : Launch} {e : Env} {s : State} {m : MethodId} {below : List Frame} {meth : Method} {c : Code} {args : Array Value} {dC : Nat → ClassId} {dI : Nat → Nat → Nat} {dA : Nat → ClassId} {zz : Nat → Nat} {base : Nat} {A : Nat → Prop} {Q : Int32 → List Nat → pF → Prop} (C : pCx p s m args meth c cX0_membersAmong 5 (some .int) RX0 wsX0_membersAmong A dC dI dA zz base) : ∀ (L : List Nat) (f : pF) (a0 : Nat) (a1 : Int64), wp_X0_membersAmong_0 dA zz Q  L f a0 a1 → pAt p l e rm_X0_membersAmong s m args below meth c dC dI A (MQ below (va_Qi (fun r (u : List Nat × pF) => Q r u.1 u.2) (pB dC dI dA A) A) args s 0 0 A) 0 0 0 5 [(0, .ref a0), (1, .long a1)] [] L f := by
  obtain ⟨hx, hb, hml, hown, hts, hr, hlocks, hA, hK, hB, hz, hN, hT⟩ := id C
  intro L f a0 a1 hw H locs hP hD hS ls hl
  rw [wp_X0_membersAmong_0] at hw
  refine lv_iconst (v := 0) hx hb dX0_membersAmong_0 (by decide) ?_
  refine lv_istore_n (lv' := [(3, .int (0 : Int32)), (0, .ref a0), (1, .long a1)]) hx hb dX0_membersAmong_1 rfl hl (by decide) rfl (fun ls hl => ?_)
  refine lv_iconst (v := 0) hx hb dX0_membersAmong_2 (by decide) ?_
  refine lv_istore (lv' := [(4, .int (0 : Int32)), (3, .int (0 : Int32)), (0, .ref a0), (1, .long a1)]) hx hb dX0_membersAmong_3 hl (by decide) rfl (fun ls hl => ?_)
  obtain ⟨n9, hw⟩ := hw
  exact tb_X0_membersAmong_5 C  n9 L f a0 a1 (0 : Int32) (0 : Int32) hw H locs hP hD hS ls (lv_sub hl [2, 3, 1, 0] rfl)
set_option maxHeartbeats 4000000 in
set_option maxRecDepth 100000 in
theorem c_X0_membersAmong (l : Launch) (dC : Nat → ClassId) (dI : Nat → Nat → Nat) (dA : Nat → ClassId) (zz : Nat → Nat) (base : Nat) (L : List Nat) (f : pF) (sz : Nat) (a0 : Nat) (a1 : Int64) (Q : Int32 → List Nat → pF → Prop) (hw : wp_X0_membersAmong_0 dA zz Q L f a0 a1) : Met l yX0_membersAmong wsX0_membersAmong rm_X0_membersAmong (va_Pc [.ref a0, .long a1] (pPre dC dI dA zz base L f sz)) (va_Qi (fun r (u : List Nat × pF) => Q r u.1 u.2) (pB dC dI dA (va_A (va_pl L f) sz)) (va_A (va_pl L f) sz)) 0 0 (va_A (va_pl L f) sz) := by
  refine Met.ofW (cc := cX0_membersAmong) (maxL := 5) (ret := (some .int)) (by decide) rfl ?_
  intro p e s m args below meth c s₁ B hml hv
  obtain ⟨rfl, hsz, hP, hK, hD0, hz, hN, hT⟩ := hv
  subst hsz
  have hl := lv_entry ([.ref a0, .long a1]) (n := 5) (Nat.le_of_ble_eq_true rfl)
  rw [lg_entry_eq]
  generalize (lg_sl ([.ref a0, .long a1]) ++ List.replicate (5 - (lg_sl ([.ref a0, .long a1])).length) Slot.unset).toArray = ls at hl ⊢
  exact tb_X0_membersAmong_0 (Q := Q) (p := p) ⟨B.exec, B.bytes, hml, findClass_of_methodNamed B.named, atoms_spec (ws := wsX0_membersAmong) B.pre, B.returns, B.notSynchronized, fun q h => Or.inr h, hK, pAB hD0 hz, hz, hN, hT⟩ L f a0 a1 hw s.heap [] hP (hD0.self (sz := s.heap.size)) va_S.rf ls (lv_sub hl [0, 1] rfl)
theorem iw_X0_gatherMembers_RX0 : ∀ w ∈ u_ws RX0 TX0 8, w ∈ wsX0_gatherMembers := by decide +kernel
theorem lk_X0_gatherMembers_22 : Cond.fieldLink RX0 22 "TermKeeper$Definitions" "members" "[I" ∈ wsX0_gatherMembers := by decide +kernel
theorem lk_X0_gatherMembers_25 : Cond.fieldLink RX0 25 "TermKeeper$Definitions" "needs" "[I" ∈ wsX0_gatherMembers := by decide +kernel
theorem lk_X0_gatherMembers_54 : Cond.fieldLink RX0 54 "TermKeeper$Definitions" "memberCount" "I" ∈ wsX0_gatherMembers := by decide +kernel
theorem lk_X0_gatherMembers_9 : Cond.fieldLink RX0 9 "TermKeeper$Definitions" "bits" "[J" ∈ wsX0_gatherMembers := by decide +kernel
abbrev rm_X0_gatherMembers : Room := { frames := 1, cells := 0, slots := 0, locals := 24 }
def wp_X0_gatherMembers_34 (dA : Nat → ClassId) (zz : Nat → Nat) (Q : Int32 → List Nat → pF → Prop) (k4_ : List Nat → pF → Nat → Int64 → Int32 → Prop) (L : List Nat) (f : pF) (a0 : Nat) (a1 : Int64) (a3 : Int32) : Prop :=
    (∀ v3_34 : Int32, v3_34 = a3 + (1 : Int32) →
      (k4_ L f a0 a1 v3_34))
def wp_X0_gatherMembers_103 (dA : Nat → ClassId) (zz : Nat → Nat) (Q : Int32 → List Nat → pF → Prop) (k58_ : List Nat → pF → Nat → Int64 → Int32 → Prop) (L : List Nat) (f : pF) (a0 : Nat) (a1 : Int64) (a3 : Int32) : Prop :=
    (∀ v3_103 : Int32, v3_103 = a3 + (1 : Int32) →
      (k58_ L f a0 a1 v3_103))
def wp_X0_gatherMembers_111 (dA : Nat → ClassId) (zz : Nat → Nat) (Q : Int32 → List Nat → pF → Prop) : Nat → List Nat → pF → Nat → Int32 → Prop
  | 0, _, _, _, _ => False
  | n + 1, L, f, a0, a3 =>
    (gI L f 1 a0 7 (fun g_113 =>
      ((g_113 ≤ a3 →
        (Q (1 : Int32) L f))
       ∧ (¬ g_113 ≤ a3 →
        (gR L f 1 a0 6 (fun g_120 =>
          (gR L f 1 a0 0 (fun g_126 =>
            (gR L f 1 a0 5 (fun g_130 =>
              (aI L f (dA 1) g_130 a3 (fun g_134 =>
                (aJ L f (dA 2) g_126 g_134 (fun g_135 =>
                  (isO L f 1 a0 ∧
                    (wp_X0_membersAmong_0 dA zz (fun r_136 L_136 f_136 =>
                      (aIs L_136 f_136 (dA 1) g_120 a3 r_136 (fun f_139 =>
                        (∀ v3_140 : Int32, v3_140 = a3 + (1 : Int32) →
                          ((wp_X0_gatherMembers_111 dA zz Q  n) L_136 f_139 a0 v3_140))))) L f a0 g_135))))))))))))))))
def wp_X0_gatherMembers_109 (dA : Nat → ClassId) (zz : Nat → Nat) (Q : Int32 → List Nat → pF → Prop) (L : List Nat) (f : pF) (a0 : Nat) : Prop :=
    (∃ n9 : Nat, wp_X0_gatherMembers_111 dA zz Q  n9 L f a0 (0 : Int32))
def wp_X0_gatherMembers_58 (dA : Nat → ClassId) (zz : Nat → Nat) (Q : Int32 → List Nat → pF → Prop) : Nat → List Nat → pF → Nat → Int64 → Int32 → Prop
  | 0, _, _, _, _, _ => False
  | n + 1, L, f, a0, a1, a3 =>
    (((40 : Int32) ≤ a3 →
      (wp_X0_gatherMembers_109 dA zz Q  L f a0))
     ∧ (¬ (40 : Int32) ≤ a3 →
      (gI L f 1 a0 7 (fun g_65 =>
        (((14 : Int32) ≤ g_65 →
          (wp_X0_gatherMembers_109 dA zz Q  L f a0))
         ∧ (¬ (14 : Int32) ≤ g_65 →
          (((lg_cmp ((a1 >>> (Int32.toInt64 a3 &&& 63)) &&& (1 : Int64)) (0 : Int64)) = 0 →
            (wp_X0_gatherMembers_103 dA zz Q (wp_X0_gatherMembers_58 dA zz Q  n) L f a0 a1 a3))
           ∧ (¬ (lg_cmp ((a1 >>> (Int32.toInt64 a3 &&& 63)) &&& (1 : Int64)) (0 : Int64)) = 0 →
            (gR L f 1 a0 5 (fun g_84 =>
              (gI L f 1 a0 7 (fun g_88 =>
                (aIs L f (dA 1) g_84 g_88 a3 (fun f_92 =>
                  (gI L f_92 1 a0 7 (fun g_95 =>
                    (gP L f_92 1 a0 7 (.int (g_95 + (1 : Int32))) (fun f_100 =>
                      (wp_X0_gatherMembers_103 dA zz Q (wp_X0_gatherMembers_58 dA zz Q  n) L f_100 a0 a1 a3)))))))))))))))))))
def wp_X0_gatherMembers_40 (dA : Nat → ClassId) (zz : Nat → Nat) (Q : Int32 → List Nat → pF → Prop) (L : List Nat) (f : pF) (a0 : Nat) (a1 : Int64) : Prop :=
    (gP L f 1 a0 7 (.int (0 : Int32)) (fun f_42 =>
      (wp_J13_bitCount_95d88_0 (fun r_46 =>
        ((r_46 ≤ (14 : Int32) →
          (∃ n9 : Nat, wp_X0_gatherMembers_58 dA zz Q  n9 L f_42 a0 a1 (0 : Int32)))
         ∧ (¬ r_46 ≤ (14 : Int32) →
          (Q (0 : Int32) L f_42)))) a1)))
def wp_X0_gatherMembers_4 (dA : Nat → ClassId) (zz : Nat → Nat) (Q : Int32 → List Nat → pF → Prop) : Nat → List Nat → pF → Nat → Int64 → Int32 → Prop
  | 0, _, _, _, _, _ => False
  | n + 1, L, f, a0, a1, a3 =>
    (((40 : Int32) ≤ a3 →
      (wp_X0_gatherMembers_40 dA zz Q  L f a0 a1))
     ∧ (¬ (40 : Int32) ≤ a3 →
      (gR L f 1 a0 0 (fun g_11 =>
        (aJ L f (dA 2) g_11 a3 (fun g_15 =>
          (((lg_cmp g_15 (0 : Int64)) = 0 →
            (wp_X0_gatherMembers_34 dA zz Q (wp_X0_gatherMembers_4 dA zz Q  n) L f a0 a1 a3))
           ∧ (¬ (lg_cmp g_15 (0 : Int64)) = 0 →
            (gR L f 1 a0 0 (fun g_23 =>
              (aJ L f (dA 2) g_23 a3 (fun g_27 =>
                (∀ v1_33 : Int64, v1_33 = (a1 ||| (g_27 ||| ((1 : Int64) <<< (Int32.toInt64 a3 &&& 63)))) →
                  (wp_X0_gatherMembers_34 dA zz Q (wp_X0_gatherMembers_4 dA zz Q  n) L f a0 v1_33 a3))))))))))))))
def wp_X0_gatherMembers_0 (dA : Nat → ClassId) (zz : Nat → Nat) (Q : Int32 → List Nat → pF → Prop) (L : List Nat) (f : pF) (a0 : Nat) : Prop :=
    (∃ n9 : Nat, wp_X0_gatherMembers_4 dA zz Q  n9 L f a0 (0 : Int64) (0 : Int32))
set_option maxHeartbeats 4000000 in
set_option maxRecDepth 100000 in
theorem tb_X0_gatherMembers_34 {p : Program} {l : Launch} {e : Env} {s : State} {m : MethodId} {below : List Frame} {meth : Method} {c : Code} {args : Array Value} {dC : Nat → ClassId} {dI : Nat → Nat → Nat} {dA : Nat → ClassId} {zz : Nat → Nat} {base : Nat} {A : Nat → Prop} {Q : Int32 → List Nat → pF → Prop} (C : pCx p s m args meth c cX0_gatherMembers 4 (some .boolean) RX0 wsX0_gatherMembers A dC dI dA zz base) {k4_ : List Nat → pF → Nat → Int64 → Int32 → Prop} (h4_ : ∀ (L : List Nat) (f : pF) (a0 : Nat) (a1 : Int64) (a3 : Int32), k4_ L f a0 a1 a3 → pAt p l e rm_X0_gatherMembers s m args below meth c dC dI A (MQ below (va_Qi (fun r (u : List Nat × pF) => Q r u.1 u.2) (pB dC dI dA A) A) args s 0 0 A) 0 0 4 4 [(0, .ref a0), (1, .long a1), (3, .int a3)] [] L f) : ∀ (L : List Nat) (f : pF) (a0 : Nat) (a1 : Int64) (a3 : Int32), wp_X0_gatherMembers_34 dA zz Q k4_ L f a0 a1 a3 → pAt p l e rm_X0_gatherMembers s m args below meth c dC dI A (MQ below (va_Qi (fun r (u : List Nat × pF) => Q r u.1 u.2) (pB dC dI dA A) A) args s 0 0 A) 0 0 34 4 [(0, .ref a0), (1, .long a1), (3, .int a3)] [] L f := by
  obtain ⟨hx, hb, hml, hown, hts, hr, hlocks, hA, hK, hB, hz, hN, hT⟩ := id C
  intro L f a0 a1 a3 hw H locs hP hD hS ls hl
  rw [wp_X0_gatherMembers_34] at hw
  obtain ⟨v3_34, ev3_34⟩ : ∃ y : Int32, y = a3 + (1 : Int32) := ⟨_, rfl⟩
  have hw := hw v3_34 ev3_34
  refine lv_iinc (v := v3_34) (lv' := [(3, .int v3_34), (0, .ref a0), (1, .long a1)]) hx hb dX0_gatherMembers_34 hl (k := 2) rfl (by rw [ev3_34]; rfl) (by decide) rfl (fun ls hl => ?_)
  refine lv_goto (tgt := 4) hx hb dX0_gatherMembers_37 (by decide) ?_
  exact h4_ L f a0 a1 v3_34 hw H locs hP hD hS ls (lv_sub hl [1, 2, 0] rfl)
set_option maxHeartbeats 4000000 in
set_option maxRecDepth 100000 in
theorem tb_X0_gatherMembers_103 {p : Program} {l : Launch} {e : Env} {s : State} {m : MethodId} {below : List Frame} {meth : Method} {c : Code} {args : Array Value} {dC : Nat → ClassId} {dI : Nat → Nat → Nat} {dA : Nat → ClassId} {zz : Nat → Nat} {base : Nat} {A : Nat → Prop} {Q : Int32 → List Nat → pF → Prop} (C : pCx p s m args meth c cX0_gatherMembers 4 (some .boolean) RX0 wsX0_gatherMembers A dC dI dA zz base) {k58_ : List Nat → pF → Nat → Int64 → Int32 → Prop} (h58_ : ∀ (L : List Nat) (f : pF) (a0 : Nat) (a1 : Int64) (a3 : Int32), k58_ L f a0 a1 a3 → pAt p l e rm_X0_gatherMembers s m args below meth c dC dI A (MQ below (va_Qi (fun r (u : List Nat × pF) => Q r u.1 u.2) (pB dC dI dA A) A) args s 0 0 A) 0 0 58 4 [(0, .ref a0), (1, .long a1), (3, .int a3)] [] L f) : ∀ (L : List Nat) (f : pF) (a0 : Nat) (a1 : Int64) (a3 : Int32), wp_X0_gatherMembers_103 dA zz Q k58_ L f a0 a1 a3 → pAt p l e rm_X0_gatherMembers s m args below meth c dC dI A (MQ below (va_Qi (fun r (u : List Nat × pF) => Q r u.1 u.2) (pB dC dI dA A) A) args s 0 0 A) 0 0 103 4 [(0, .ref a0), (1, .long a1), (3, .int a3)] [] L f := by
  obtain ⟨hx, hb, hml, hown, hts, hr, hlocks, hA, hK, hB, hz, hN, hT⟩ := id C
  intro L f a0 a1 a3 hw H locs hP hD hS ls hl
  rw [wp_X0_gatherMembers_103] at hw
  obtain ⟨v3_103, ev3_103⟩ : ∃ y : Int32, y = a3 + (1 : Int32) := ⟨_, rfl⟩
  have hw := hw v3_103 ev3_103
  refine lv_iinc (v := v3_103) (lv' := [(3, .int v3_103), (0, .ref a0), (1, .long a1)]) hx hb dX0_gatherMembers_103 hl (k := 2) rfl (by rw [ev3_103]; rfl) (by decide) rfl (fun ls hl => ?_)
  refine lv_goto (tgt := 58) hx hb dX0_gatherMembers_106 (by decide) ?_
  exact h58_ L f a0 a1 v3_103 hw H locs hP hD hS ls (lv_sub hl [1, 2, 0] rfl)
set_option maxHeartbeats 4000000 in
set_option maxRecDepth 100000 in
theorem tb_X0_gatherMembers_111 {p : Program} {l : Launch} {e : Env} {s : State} {m : MethodId} {below : List Frame} {meth : Method} {c : Code} {args : Array Value} {dC : Nat → ClassId} {dI : Nat → Nat → Nat} {dA : Nat → ClassId} {zz : Nat → Nat} {base : Nat} {A : Nat → Prop} {Q : Int32 → List Nat → pF → Prop} (C : pCx p s m args meth c cX0_gatherMembers 4 (some .boolean) RX0 wsX0_gatherMembers A dC dI dA zz base) : ∀ (n : Nat) (L : List Nat) (f : pF) (a0 : Nat) (a3 : Int32), wp_X0_gatherMembers_111 dA zz Q  n L f a0 a3 → pAt p l e rm_X0_gatherMembers s m args below meth c dC dI A (MQ below (va_Qi (fun r (u : List Nat × pF) => Q r u.1 u.2) (pB dC dI dA A) A) args s 0 0 A) 0 0 111 4 [(0, .ref a0), (3, .int a3)] [] L f := by
  obtain ⟨hx, hb, hml, hown, hts, hr, hlocks, hA, hK, hB, hz, hN, hT⟩ := id C
  intro n
  induction n with
  | zero => intro L f a0 a3 hw; exact hw.elim
  | succ n ih =>
    intro L f a0 a3 hw H locs hP hD hS ls hl
    rw [wp_X0_gatherMembers_111] at hw
    refine lv_iload_n hx hb dX0_gatherMembers_111 rfl (lv_at hl 1 rfl) ?_
    refine lv_aload_n hx hb dX0_gatherMembers_112 rfl (lv_at hl 0 rfl) ?_
    obtain ⟨fs_113, g_113, ⟨hL9, hf9, hn9⟩, hw⟩ := hw
    refine va_get (D := (dC, dI)) (ci := 1) (v := .int g_113) (C := RX0) (T := TX0) (N := 8) hx hb hts iw_X0_gatherMembers_RX0 hown hK (p_one hP hL9 hf9) 0 rfl rfl 7 (by decide) (hts _ lk_X0_gatherMembers_54) (fun _ h9 => h9) hn9 dX0_gatherMembers_113 ?_
    refine lv_icmp_ge (tgt := 146) hx hb dX0_gatherMembers_116 (by decide) (fun c_116 => ?_) (fun c_116 => ?_)
    · have hw := hw.1 c_116
      refine lv_iconst (v := 1) hx hb dX0_gatherMembers_146 (by decide) ?_
      exact W.zret (v := (1 : Int32)) hx hb hr rfl (fun t ht hW => ⟨⟨(1 : Int32), (L, f), rfl, hw, by rw [ht]; exact hP, va_K.moved hW.alike hK, hD⟩, hS.F ht⟩) hS.2.2 dX0_gatherMembers_147
    · have hw := hw.2 c_116
      refine lv_aload_n hx hb dX0_gatherMembers_119 rfl (lv_at hl 0 rfl) ?_
      obtain ⟨fs_120, g_120, ⟨hL9, hf9, hn9⟩, hw⟩ := hw
      refine va_get (D := (dC, dI)) (ci := 1) (v := .ref g_120) (C := RX0) (T := TX0) (N := 8) hx hb hts iw_X0_gatherMembers_RX0 hown hK (p_one hP hL9 hf9) 0 rfl rfl 6 (by decide) (hts _ lk_X0_gatherMembers_25) (fun _ h9 => h9) hn9 dX0_gatherMembers_120 ?_
      refine lv_iload_n hx hb dX0_gatherMembers_123 rfl (lv_at hl 1 rfl) ?_
      refine lv_aload_n hx hb dX0_gatherMembers_124 rfl (lv_at hl 0 rfl) ?_
      refine lv_aload_n hx hb dX0_gatherMembers_125 rfl (lv_at hl 0 rfl) ?_
      obtain ⟨fs_126, g_126, ⟨hL9, hf9, hn9⟩, hw⟩ := hw
      refine va_get (D := (dC, dI)) (ci := 1) (v := .ref g_126) (C := RX0) (T := TX0) (N := 8) hx hb hts iw_X0_gatherMembers_RX0 hown hK (p_one hP hL9 hf9) 0 rfl rfl 0 (by decide) (hts _ lk_X0_gatherMembers_9) (fun _ h9 => h9) hn9 dX0_gatherMembers_126 ?_
      refine lv_aload_n hx hb dX0_gatherMembers_129 rfl (lv_at hl 0 rfl) ?_
      obtain ⟨fs_130, g_130, ⟨hL9, hf9, hn9⟩, hw⟩ := hw
      refine va_get (D := (dC, dI)) (ci := 1) (v := .ref g_130) (C := RX0) (T := TX0) (N := 8) hx hb hts iw_X0_gatherMembers_RX0 hown hK (p_one hP hL9 hf9) 0 rfl rfl 5 (by decide) (hts _ lk_X0_gatherMembers_22) (fun _ h9 => h9) hn9 dX0_gatherMembers_130 ?_
      refine lv_iload_n hx hb dX0_gatherMembers_133 rfl (lv_at hl 1 rfl) ?_
      obtain ⟨n_134, h_134, ⟨hL9, hf9, hn9⟩, hw⟩ := hw
      refine va_iald hx hb hK (p_one hP hL9 hf9) 0 1 rfl rfl hn9 dX0_gatherMembers_134 ?_
      refine lv_topi (fun g_134 eg_134 => ?_)
      rw [← eg_134] at hw
      obtain ⟨n_135, h_135, ⟨hL9, hf9, hn9⟩, hw⟩ := hw
      refine va_lald hx hb hK (p_one hP hL9 hf9) 0 2 rfl rfl hn9 dX0_gatherMembers_135 ?_
      refine lv_topl (fun g_135 eg_135 => ?_)
      rw [← eg_135] at hw
      obtain ⟨hO9, hw⟩ := hw
      have hFc := p_free hD hS hA
      refine va_calli (va_runV (As := [.long g_135]) (rest := [.int a3, .ref g_120]) ⟨hx, hb, hml, hown, hts⟩ (c_X0_membersAmong l dC dI dA zz base L f H.size a0 g_135 _ hw) (cwV 1 hts gX0_gatherMembers_X0_membersAmong rfl rfl rfl (by decide +kernel) ⟨by decide, by decide⟩) (pPreV [.long g_135] (ci := 1) rfl hO9 hK hP hD hS hB hz hN hT) rfl rfl hl.1 rfl (lv_room (Nat.le_of_ble_eq_true rfl)) dX0_gatherMembers_136 ⟨by decide, by decide⟩) hS (fun q _ h => hFc q h) hFc (fun r_136 u t H1 locs ht hvm hw hB1 hz1 hk1 hS => ?_)
      obtain ⟨L_136, f_136⟩ := u
      obtain ⟨hP, -, hD1⟩ := hB1
      rw [ht] at hP
      have hw := id hw
      have hP : va_P (dC, dI) vwCl (va_pl L_136 f_136) H1 := hP
      have hD : va_D A (va_pl L_136 f_136) := p_gain hD1 hFc
      generalize H1 = H at hP hS ⊢
      obtain ⟨n_139, h_139, ⟨hL9, hf9, hn9⟩, hw⟩ := hw
      obtain ⟨kq9, hkq9⟩ := p_at hL9 hf9
      refine va_iast hx hb hK hP hD hS kq9 1 hkq9 rfl hn9 dX0_gatherMembers_139 (fun H locs hP2 hD2 hS => ?_)
      rw [p_set hD hL9 hf9 hkq9] at hP2 hD2
      obtain ⟨f_139, ef_139⟩ : ∃ y : pF, y = va_up f_136 g_120 (.inl (dA 1, n_139, .inl (upd h_139 (Int32.toNatClampNeg a3) r_136))) := ⟨_, rfl⟩
      rw [← ef_139] at hP2 hD2
      have hw := hw f_139 ef_139
      have hP := hP2
      have hD := hD2
      obtain ⟨v3_140, ev3_140⟩ : ∃ y : Int32, y = a3 + (1 : Int32) := ⟨_, rfl⟩
      have hw := hw v3_140 ev3_140
      refine lv_iinc (v := v3_140) (lv' := [(3, .int v3_140), (0, .ref a0)]) hx hb dX0_gatherMembers_140 hl (k := 1) rfl (by rw [ev3_140]; rfl) (by decide) rfl (fun ls hl => ?_)
      refine lv_goto (tgt := 111) hx hb dX0_gatherMembers_143 (by decide) ?_
      exact ih L_136 f_139 a0 v3_140 hw H locs hP hD hS ls (lv_sub hl [1, 0] rfl)
set_option maxHeartbeats 4000000 in
set_option maxRecDepth 100000 in
theorem tb_X0_gatherMembers_109 {p : Program} {l : Launch} {e : Env} {s : State} {m : MethodId} {below : List Frame} {meth : Method} {c : Code} {args : Array Value} {dC : Nat → ClassId} {dI : Nat → Nat → Nat} {dA : Nat → ClassId} {zz : Nat → Nat} {base : Nat} {A : Nat → Prop} {Q : Int32 → List Nat → pF → Prop} (C : pCx p s m args meth c cX0_gatherMembers 4 (some .boolean) RX0 wsX0_gatherMembers A dC dI dA zz base) : ∀ (L : List Nat) (f : pF) (a0 : Nat), wp_X0_gatherMembers_109 dA zz Q  L f a0 → pAt p l e rm_X0_gatherMembers s m args below meth c dC dI A (MQ below (va_Qi (fun r (u : List Nat × pF) => Q r u.1 u.2) (pB dC dI dA A) A) args s 0 0 A) 0 0 109 4 [(0, .ref a0)] [] L f := by
  obtain ⟨hx, hb, hml, hown, hts, hr, hlocks, hA, hK, hB, hz, hN, hT⟩ := id C
  intro L f a0 hw H locs hP hD hS ls hl
  rw [wp_X0_gatherMembers_109] at hw
  refine lv_iconst (v := 0) hx hb dX0_gatherMembers_109 (by decide) ?_
  refine lv_istore_n (lv' := [(3, .int (0 : Int32)), (0, .ref a0)]) hx hb dX0_gatherMembers_110 rfl hl (by decide) rfl (fun ls hl => ?_)
  obtain ⟨n9, hw⟩ := hw
  exact tb_X0_gatherMembers_111 C  n9 L f a0 (0 : Int32) hw H locs hP hD hS ls (lv_sub hl [1, 0] rfl)
set_option maxHeartbeats 4000000 in
set_option maxRecDepth 100000 in
theorem tb_X0_gatherMembers_58 {p : Program} {l : Launch} {e : Env} {s : State} {m : MethodId} {below : List Frame} {meth : Method} {c : Code} {args : Array Value} {dC : Nat → ClassId} {dI : Nat → Nat → Nat} {dA : Nat → ClassId} {zz : Nat → Nat} {base : Nat} {A : Nat → Prop} {Q : Int32 → List Nat → pF → Prop} (C : pCx p s m args meth c cX0_gatherMembers 4 (some .boolean) RX0 wsX0_gatherMembers A dC dI dA zz base) : ∀ (n : Nat) (L : List Nat) (f : pF) (a0 : Nat) (a1 : Int64) (a3 : Int32), wp_X0_gatherMembers_58 dA zz Q  n L f a0 a1 a3 → pAt p l e rm_X0_gatherMembers s m args below meth c dC dI A (MQ below (va_Qi (fun r (u : List Nat × pF) => Q r u.1 u.2) (pB dC dI dA A) A) args s 0 0 A) 0 0 58 4 [(0, .ref a0), (1, .long a1), (3, .int a3)] [] L f := by
  obtain ⟨hx, hb, hml, hown, hts, hr, hlocks, hA, hK, hB, hz, hN, hT⟩ := id C
  intro n
  induction n with
  | zero => intro L f a0 a1 a3 hw; exact hw.elim
  | succ n ih =>
    intro L f a0 a1 a3 hw H locs hP hD hS ls hl
    rw [wp_X0_gatherMembers_58] at hw
    refine lv_iload_n hx hb dX0_gatherMembers_58 rfl (lv_at hl 2 rfl) ?_
    refine lv_bipush (v := 40) hx hb dX0_gatherMembers_59 (by decide) ?_
    refine lv_icmp_ge (tgt := 109) hx hb dX0_gatherMembers_61 (by decide) (fun c_61 => ?_) (fun c_61 => ?_)
    · have hw := hw.1 c_61
      exact tb_X0_gatherMembers_109 C  L f a0 hw H locs hP hD hS ls (lv_sub hl [0] rfl)
    · have hw := hw.2 c_61
      refine lv_aload_n hx hb dX0_gatherMembers_64 rfl (lv_at hl 0 rfl) ?_
      obtain ⟨fs_65, g_65, ⟨hL9, hf9, hn9⟩, hw⟩ := hw
      refine va_get (D := (dC, dI)) (ci := 1) (v := .int g_65) (C := RX0) (T := TX0) (N := 8) hx hb hts iw_X0_gatherMembers_RX0 hown hK (p_one hP hL9 hf9) 0 rfl rfl 7 (by decide) (hts _ lk_X0_gatherMembers_54) (fun _ h9 => h9) hn9 dX0_gatherMembers_65 ?_
      refine lv_bipush (v := 14) hx hb dX0_gatherMembers_68 (by decide) ?_
      refine lv_icmp_ge (tgt := 109) hx hb dX0_gatherMembers_70 (by decide) (fun c_70 => ?_) (fun c_70 => ?_)
      · have hw := hw.1 c_70
        exact tb_X0_gatherMembers_109 C  L f a0 hw H locs hP hD hS ls (lv_sub hl [0] rfl)
      · have hw := hw.2 c_70
        refine lv_lload_n hx hb dX0_gatherMembers_73 rfl (lv_at hl 1 rfl) ?_
        refine lv_iload_n hx hb dX0_gatherMembers_74 rfl (lv_at hl 2 rfl) ?_
        refine lv_lshr hx hb dX0_gatherMembers_75 rfl ?_
        refine lv_lconst (v := 1) hx hb dX0_gatherMembers_76 (by decide) ?_
        refine lv_land hx hb dX0_gatherMembers_77 ?_
        refine lv_lconst (v := 0) hx hb dX0_gatherMembers_78 (by decide) ?_
        refine W.lcmp hx hb dX0_gatherMembers_79 ?_
        refine lv_if_eq (tgt := 103) hx hb dX0_gatherMembers_80 (by decide) (fun c_80 => ?_) (fun c_80 => ?_)
        · have hw := hw.1 c_80
          exact tb_X0_gatherMembers_103 C ih L f a0 a1 a3 hw H locs hP hD hS ls (lv_sub hl [0, 1, 2] rfl)
        · have hw := hw.2 c_80
          refine lv_aload_n hx hb dX0_gatherMembers_83 rfl (lv_at hl 0 rfl) ?_
          obtain ⟨fs_84, g_84, ⟨hL9, hf9, hn9⟩, hw⟩ := hw
          refine va_get (D := (dC, dI)) (ci := 1) (v := .ref g_84) (C := RX0) (T := TX0) (N := 8) hx hb hts iw_X0_gatherMembers_RX0 hown hK (p_one hP hL9 hf9) 0 rfl rfl 5 (by decide) (hts _ lk_X0_gatherMembers_22) (fun _ h9 => h9) hn9 dX0_gatherMembers_84 ?_
          refine lv_aload_n hx hb dX0_gatherMembers_87 rfl (lv_at hl 0 rfl) ?_
          obtain ⟨fs_88, g_88, ⟨hL9, hf9, hn9⟩, hw⟩ := hw
          refine va_get (D := (dC, dI)) (ci := 1) (v := .int g_88) (C := RX0) (T := TX0) (N := 8) hx hb hts iw_X0_gatherMembers_RX0 hown hK (p_one hP hL9 hf9) 0 rfl rfl 7 (by decide) (hts _ lk_X0_gatherMembers_54) (fun _ h9 => h9) hn9 dX0_gatherMembers_88 ?_
          refine lv_iload_n hx hb dX0_gatherMembers_91 rfl (lv_at hl 2 rfl) ?_
          obtain ⟨n_92, h_92, ⟨hL9, hf9, hn9⟩, hw⟩ := hw
          obtain ⟨kq9, hkq9⟩ := p_at hL9 hf9
          refine va_iast hx hb hK hP hD hS kq9 1 hkq9 rfl hn9 dX0_gatherMembers_92 (fun H locs hP2 hD2 hS => ?_)
          rw [p_set hD hL9 hf9 hkq9] at hP2 hD2
          obtain ⟨f_92, ef_92⟩ : ∃ y : pF, y = va_up f g_84 (.inl (dA 1, n_92, .inl (upd h_92 (Int32.toNatClampNeg g_88) a3))) := ⟨_, rfl⟩
          rw [← ef_92] at hP2 hD2
          have hw := hw f_92 ef_92
          have hP := hP2
          have hD := hD2
          refine lv_aload_n hx hb dX0_gatherMembers_93 rfl (lv_at hl 0 rfl) ?_
          refine lv_dup hx hb dX0_gatherMembers_94 rfl ?_
          obtain ⟨fs_95, g_95, ⟨hL9, hf9, hn9⟩, hw⟩ := hw
          refine va_get (D := (dC, dI)) (ci := 1) (v := .int g_95) (C := RX0) (T := TX0) (N := 8) hx hb hts iw_X0_gatherMembers_RX0 hown hK (p_one hP hL9 hf9) 0 rfl rfl 7 (by decide) (hts _ lk_X0_gatherMembers_54) (fun _ h9 => h9) hn9 dX0_gatherMembers_95 ?_
          refine lv_iconst (v := 1) hx hb dX0_gatherMembers_98 (by decide) ?_
          refine lv_iadd hx hb dX0_gatherMembers_99 ?_
          obtain ⟨fs_100, ⟨hL9, hf9, hn9⟩, hw⟩ := hw
          obtain ⟨kq9, hkq9⟩ := p_at hL9 hf9
          refine va_put (D := (dC, dI)) (ci := 1) (v := .int (g_95 + (1 : Int32))) (C := RX0) (T := TX0) (N := 8) hx hb hts iw_X0_gatherMembers_RX0 tyX0 tyX0_ok nmX0 hown hK hP hD hS kq9 hkq9 rfl 7 (by decide) (hts _ lk_X0_gatherMembers_54) (fun _ h9 => h9) rfl (tyX0_ok 7 (by decide)) rfl rfl hn9 dX0_gatherMembers_100 (fun H locs hP2 hD2 hS => ?_)
          rw [p_set hD hL9 hf9 hkq9] at hP2 hD2
          obtain ⟨f_100, ef_100⟩ : ∃ y : pF, y = va_up f_92 a0 (.inr (1, fs_100.set 7 (.int (g_95 + (1 : Int32))))) := ⟨_, rfl⟩
          rw [← ef_100] at hP2 hD2
          have hw := hw f_100 ef_100
          have hP := hP2
          have hD := hD2
          exact tb_X0_gatherMembers_103 C ih L f_100 a0 a1 a3 hw H locs hP hD hS ls (lv_sub hl [0, 1, 2] rfl)
set_option maxHeartbeats 4000000 in
set_option maxRecDepth 100000 in
theorem tb_X0_gatherMembers_40 {p : Program} {l : Launch} {e : Env} {s : State} {m : MethodId} {below : List Frame} {meth : Method} {c : Code} {args : Array Value} {dC : Nat → ClassId} {dI : Nat → Nat → Nat} {dA : Nat → ClassId} {zz : Nat → Nat} {base : Nat} {A : Nat → Prop} {Q : Int32 → List Nat → pF → Prop} (C : pCx p s m args meth c cX0_gatherMembers 4 (some .boolean) RX0 wsX0_gatherMembers A dC dI dA zz base) : ∀ (L : List Nat) (f : pF) (a0 : Nat) (a1 : Int64), wp_X0_gatherMembers_40 dA zz Q  L f a0 a1 → pAt p l e rm_X0_gatherMembers s m args below meth c dC dI A (MQ below (va_Qi (fun r (u : List Nat × pF) => Q r u.1 u.2) (pB dC dI dA A) A) args s 0 0 A) 0 0 40 4 [(0, .ref a0), (1, .long a1)] [] L f := by
  obtain ⟨hx, hb, hml, hown, hts, hr, hlocks, hA, hK, hB, hz, hN, hT⟩ := id C
  intro L f a0 a1 hw H locs hP hD hS ls hl
  rw [wp_X0_gatherMembers_40] at hw
  refine lv_aload_n hx hb dX0_gatherMembers_40 rfl (lv_at hl 0 rfl) ?_
  refine lv_iconst (v := 0) hx hb dX0_gatherMembers_41 (by decide) ?_
  obtain ⟨fs_42, ⟨hL9, hf9, hn9⟩, hw⟩ := hw
  obtain ⟨kq9, hkq9⟩ := p_at hL9 hf9
  refine va_put (D := (dC, dI)) (ci := 1) (v := .int (0 : Int32)) (C := RX0) (T := TX0) (N := 8) hx hb hts iw_X0_gatherMembers_RX0 tyX0 tyX0_ok nmX0 hown hK hP hD hS kq9 hkq9 rfl 7 (by decide) (hts _ lk_X0_gatherMembers_54) (fun _ h9 => h9) rfl (tyX0_ok 7 (by decide)) rfl rfl hn9 dX0_gatherMembers_42 (fun H locs hP2 hD2 hS => ?_)
  rw [p_set hD hL9 hf9 hkq9] at hP2 hD2
  obtain ⟨f_42, ef_42⟩ : ∃ y : pF, y = va_up f a0 (.inr (1, fs_42.set 7 (.int (0 : Int32)))) := ⟨_, rfl⟩
  rw [← ef_42] at hP2 hD2
  have hw := hw f_42 ef_42
  have hP := hP2
  have hD := hD2
  refine lv_lload_n hx hb dX0_gatherMembers_45 rfl (lv_at hl 1 rfl) ?_
  refine vp_callSi (W.runS (As := [.long a1]) (rest := []) ⟨hx, hb, hml, hown, hts⟩ (c_J13_bitCount_95d88 l a1 _ hw) (va_cwS 1 hts gX0_gatherMembers_J13_bitCount_95d88 rfl rfl rfl (by decide +kernel) ⟨by decide, by decide⟩) preEq rfl rfl hl.1 rfl (lv_room (Nat.le_of_ble_eq_true rfl)) dX0_gatherMembers_46 ⟨by decide, by decide⟩) (fun r_46 hw => ?_)
  refine lv_bipush (v := 14) hx hb dX0_gatherMembers_49 (by decide) ?_
  refine lv_icmp_le (tgt := 56) hx hb dX0_gatherMembers_51 (by decide) (fun c_51 => ?_) (fun c_51 => ?_)
  · have hw := hw.1 c_51
    refine lv_iconst (v := 0) hx hb dX0_gatherMembers_56 (by decide) ?_
    refine lv_istore_n (lv' := [(3, .int (0 : Int32)), (0, .ref a0), (1, .long a1)]) hx hb dX0_gatherMembers_57 rfl hl (by decide) rfl (fun ls hl => ?_)
    obtain ⟨n9, hw⟩ := hw
    exact tb_X0_gatherMembers_58 C  n9 L f_42 a0 a1 (0 : Int32) hw H locs hP hD hS ls (lv_sub hl [1, 2, 0] rfl)
  · have hw := hw.2 c_51
    refine lv_iconst (v := 0) hx hb dX0_gatherMembers_54 (by decide) ?_
    exact W.zret (v := (0 : Int32)) hx hb hr rfl (fun t ht hW => ⟨⟨(0 : Int32), (L, f_42), rfl, hw, by rw [ht]; exact hP, va_K.moved hW.alike hK, hD⟩, hS.F ht⟩) hS.2.2 dX0_gatherMembers_55
set_option maxHeartbeats 4000000 in
set_option maxRecDepth 100000 in
theorem tb_X0_gatherMembers_4 {p : Program} {l : Launch} {e : Env} {s : State} {m : MethodId} {below : List Frame} {meth : Method} {c : Code} {args : Array Value} {dC : Nat → ClassId} {dI : Nat → Nat → Nat} {dA : Nat → ClassId} {zz : Nat → Nat} {base : Nat} {A : Nat → Prop} {Q : Int32 → List Nat → pF → Prop} (C : pCx p s m args meth c cX0_gatherMembers 4 (some .boolean) RX0 wsX0_gatherMembers A dC dI dA zz base) : ∀ (n : Nat) (L : List Nat) (f : pF) (a0 : Nat) (a1 : Int64) (a3 : Int32), wp_X0_gatherMembers_4 dA zz Q  n L f a0 a1 a3 → pAt p l e rm_X0_gatherMembers s m args below meth c dC dI A (MQ below (va_Qi (fun r (u : List Nat × pF) => Q r u.1 u.2) (pB dC dI dA A) A) args s 0 0 A) 0 0 4 4 [(0, .ref a0), (1, .long a1), (3, .int a3)] [] L f := by
  obtain ⟨hx, hb, hml, hown, hts, hr, hlocks, hA, hK, hB, hz, hN, hT⟩ := id C
  intro n
  induction n with
  | zero => intro L f a0 a1 a3 hw; exact hw.elim
  | succ n ih =>
    intro L f a0 a1 a3 hw H locs hP hD hS ls hl
    rw [wp_X0_gatherMembers_4] at hw
    refine lv_iload_n hx hb dX0_gatherMembers_4 rfl (lv_at hl 2 rfl) ?_
    refine lv_bipush (v := 40) hx hb dX0_gatherMembers_5 (by decide) ?_
    refine lv_icmp_ge (tgt := 40) hx hb dX0_gatherMembers_7 (by decide) (fun c_7 => ?_) (fun c_7 => ?_)
    · have hw := hw.1 c_7
      exact tb_X0_gatherMembers_40 C  L f a0 a1 hw H locs hP hD hS ls (lv_sub hl [0, 1] rfl)
    · have hw := hw.2 c_7
      refine lv_aload_n hx hb dX0_gatherMembers_10 rfl (lv_at hl 0 rfl) ?_
      obtain ⟨fs_11, g_11, ⟨hL9, hf9, hn9⟩, hw⟩ := hw
      refine va_get (D := (dC, dI)) (ci := 1) (v := .ref g_11) (C := RX0) (T := TX0) (N := 8) hx hb hts iw_X0_gatherMembers_RX0 hown hK (p_one hP hL9 hf9) 0 rfl rfl 0 (by decide) (hts _ lk_X0_gatherMembers_9) (fun _ h9 => h9) hn9 dX0_gatherMembers_11 ?_
      refine lv_iload_n hx hb dX0_gatherMembers_14 rfl (lv_at hl 2 rfl) ?_
      obtain ⟨n_15, h_15, ⟨hL9, hf9, hn9⟩, hw⟩ := hw
      refine va_lald hx hb hK (p_one hP hL9 hf9) 0 2 rfl rfl hn9 dX0_gatherMembers_15 ?_
      refine lv_topl (fun g_15 eg_15 => ?_)
      rw [← eg_15] at hw
      refine lv_lconst (v := 0) hx hb dX0_gatherMembers_16 (by decide) ?_
      refine W.lcmp hx hb dX0_gatherMembers_17 ?_
      refine lv_if_eq (tgt := 34) hx hb dX0_gatherMembers_18 (by decide) (fun c_18 => ?_) (fun c_18 => ?_)
      · have hw := hw.1 c_18
        exact tb_X0_gatherMembers_34 C ih L f a0 a1 a3 hw H locs hP hD hS ls (lv_sub hl [0, 1, 2] rfl)
      · have hw := hw.2 c_18
        refine lv_lload_n hx hb dX0_gatherMembers_21 rfl (lv_at hl 1 rfl) ?_
        refine lv_aload_n hx hb dX0_gatherMembers_22 rfl (lv_at hl 0 rfl) ?_
        obtain ⟨fs_23, g_23, ⟨hL9, hf9, hn9⟩, hw⟩ := hw
        refine va_get (D := (dC, dI)) (ci := 1) (v := .ref g_23) (C := RX0) (T := TX0) (N := 8) hx hb hts iw_X0_gatherMembers_RX0 hown hK (p_one hP hL9 hf9) 0 rfl rfl 0 (by decide) (hts _ lk_X0_gatherMembers_9) (fun _ h9 => h9) hn9 dX0_gatherMembers_23 ?_
        refine lv_iload_n hx hb dX0_gatherMembers_26 rfl (lv_at hl 2 rfl) ?_
        obtain ⟨n_27, h_27, ⟨hL9, hf9, hn9⟩, hw⟩ := hw
        refine va_lald hx hb hK (p_one hP hL9 hf9) 0 2 rfl rfl hn9 dX0_gatherMembers_27 ?_
        refine lv_topl (fun g_27 eg_27 => ?_)
        rw [← eg_27] at hw
        refine lv_lconst (v := 1) hx hb dX0_gatherMembers_28 (by decide) ?_
        refine lv_iload_n hx hb dX0_gatherMembers_29 rfl (lv_at hl 2 rfl) ?_
        refine lv_lshl hx hb dX0_gatherMembers_30 rfl ?_
        refine lv_lor hx hb dX0_gatherMembers_31 ?_
        refine lv_lor hx hb dX0_gatherMembers_32 ?_
        refine lv_topl (fun v1_33 ev1_33 => ?_)
        have hw := hw v1_33 ev1_33
        refine lv_lstore_n (lv' := [(1, .long v1_33), (0, .ref a0), (3, .int a3)]) hx hb dX0_gatherMembers_33 rfl hl (by decide) rfl (fun ls hl => ?_)
        exact tb_X0_gatherMembers_34 C ih L f a0 v1_33 a3 hw H locs hP hD hS ls (lv_sub hl [1, 0, 2] rfl)
set_option maxHeartbeats 4000000 in
set_option maxRecDepth 100000 in
theorem tb_X0_gatherMembers_0 {p : Program} {l : Launch} {e : Env} {s : State} {m : MethodId} {below : List Frame} {meth : Method} {c : Code} {args : Array Value} {dC : Nat → ClassId} {dI : Nat → Nat → Nat} {dA : Nat → ClassId} {zz : Nat → Nat} {base : Nat} {A : Nat → Prop} {Q : Int32 → List Nat → pF → Prop} (C : pCx p s m args meth c cX0_gatherMembers 4 (some .boolean) RX0 wsX0_gatherMembers A dC dI dA zz base) : ∀ (L : List Nat) (f : pF) (a0 : Nat), wp_X0_gatherMembers_0 dA zz Q  L f a0 → pAt p l e rm_X0_gatherMembers s m args below meth c dC dI A (MQ below (va_Qi (fun r (u : List Nat × pF) => Q r u.1 u.2) (pB dC dI dA A) A) args s 0 0 A) 0 0 0 4 [(0, .ref a0)] [] L f := by
  obtain ⟨hx, hb, hml, hown, hts, hr, hlocks, hA, hK, hB, hz, hN, hT⟩ := id C
  intro L f a0 hw H locs hP hD hS ls hl
  rw [wp_X0_gatherMembers_0] at hw
  refine lv_lconst (v := 0) hx hb dX0_gatherMembers_0 (by decide) ?_
  refine lv_lstore_n (lv' := [(1, .long (0 : Int64)), (0, .ref a0)]) hx hb dX0_gatherMembers_1 rfl hl (by decide) rfl (fun ls hl => ?_)
  refine lv_iconst (v := 0) hx hb dX0_gatherMembers_2 (by decide) ?_
  refine lv_istore_n (lv' := [(3, .int (0 : Int32)), (1, .long (0 : Int64)), (0, .ref a0)]) hx hb dX0_gatherMembers_3 rfl hl (by decide) rfl (fun ls hl => ?_)
  obtain ⟨n9, hw⟩ := hw
  exact tb_X0_gatherMembers_4 C  n9 L f a0 (0 : Int64) (0 : Int32) hw H locs hP hD hS ls (lv_sub hl [2, 1, 0] rfl)
set_option maxHeartbeats 4000000 in
set_option maxRecDepth 100000 in
theorem c_X0_gatherMembers (l : Launch) (dC : Nat → ClassId) (dI : Nat → Nat → Nat) (dA : Nat → ClassId) (zz : Nat → Nat) (base : Nat) (L : List Nat) (f : pF) (sz : Nat) (a0 : Nat) (Q : Int32 → List Nat → pF → Prop) (hw : wp_X0_gatherMembers_0 dA zz Q L f a0) : Met l yX0_gatherMembers wsX0_gatherMembers rm_X0_gatherMembers (va_Pc [.ref a0] (pPre dC dI dA zz base L f sz)) (va_Qi (fun r (u : List Nat × pF) => Q r u.1 u.2) (pB dC dI dA (va_A (va_pl L f) sz)) (va_A (va_pl L f) sz)) 0 0 (va_A (va_pl L f) sz) := by
  refine Met.ofW (cc := cX0_gatherMembers) (maxL := 4) (ret := (some .boolean)) (by decide) rfl ?_
  intro p e s m args below meth c s₁ B hml hv
  obtain ⟨rfl, hsz, hP, hK, hD0, hz, hN, hT⟩ := hv
  subst hsz
  have hl := lv_entry ([.ref a0]) (n := 4) (Nat.le_of_ble_eq_true rfl)
  rw [lg_entry_eq]
  generalize (lg_sl ([.ref a0]) ++ List.replicate (4 - (lg_sl ([.ref a0])).length) Slot.unset).toArray = ls at hl ⊢
  exact tb_X0_gatherMembers_0 (Q := Q) (p := p) ⟨B.exec, B.bytes, hml, findClass_of_methodNamed B.named, atoms_spec (ws := wsX0_gatherMembers) B.pre, B.returns, B.notSynchronized, fun q h => Or.inr h, hK, pAB hD0 hz, hz, hN, hT⟩ L f a0 hw s.heap [] hP (hD0.self (sz := s.heap.size)) va_S.rf ls (lv_sub hl [0] rfl)
theorem iw_X0_findFewest_RX0 : ∀ w ∈ u_ws RX0 TX0 8, w ∈ wsX0_findFewest := by decide +kernel
theorem lk_X0_findFewest_22 : Cond.fieldLink RX0 22 "TermKeeper$Definitions" "members" "[I" ∈ wsX0_findFewest := by decide +kernel
theorem lk_X0_findFewest_54 : Cond.fieldLink RX0 54 "TermKeeper$Definitions" "memberCount" "I" ∈ wsX0_findFewest := by decide +kernel
theorem lk_X0_findFewest_32 : Cond.constantLong RX0 32 (-1) ∈ wsX0_findFewest := by decide +kernel
abbrev rm_X0_findFewest : Room := { frames := 2, cells := 0, slots := 0, locals := 47 }
def wp_X0_findFewest_53 (dA : Nat → ClassId) (zz : Nat → Nat) (Q : Int64 → List Nat → pF → Prop) (k22_ : List Nat → pF → Nat → Int32 → Int32 → Prop) (L : List Nat) (f : pF) (a0 : Nat) (a1 : Int32) (a2 : Int32) : Prop :=
    (∀ v2_53 : Int32, v2_53 = a2 + (1 : Int32) →
      (k22_ L f a0 a1 v2_53))
def wp_X0_findFewest_94 (dA : Nat → ClassId) (zz : Nat → Nat) (Q : Int64 → List Nat → pF → Prop) (k64_ : List Nat → pF → Nat → Int32 → Int64 → Int32 → Prop) (L : List Nat) (f : pF) (a0 : Nat) (a1 : Int32) (a2 : Int64) (a4 : Int32) : Prop :=
    (∀ v4_94 : Int32, v4_94 = a4 + (1 : Int32) →
      (k64_ L f a0 a1 a2 v4_94))
def wp_X0_findFewest_64 (dA : Nat → ClassId) (zz : Nat → Nat) (Q : Int64 → List Nat → pF → Prop) : Nat → List Nat → pF → Nat → Int32 → Int64 → Int32 → Prop
  | 0, _, _, _, _, _, _ => False
  | n + 1, L, f, a0, a1, a2, a4 =>
    (gI L f 1 a0 7 (fun g_67 =>
      ((g_67 ≤ a4 →
        (Q a2 L f))
       ∧ (¬ g_67 ≤ a4 →
        ((((a1 >>> (a4 &&& 31)) &&& (1 : Int32)) = 0 →
          (wp_X0_findFewest_94 dA zz Q (wp_X0_findFewest_64 dA zz Q  n) L f a0 a1 a2 a4))
         ∧ (¬ ((a1 >>> (a4 &&& 31)) &&& (1 : Int32)) = 0 →
          (gR L f 1 a0 5 (fun g_85 =>
            (aI L f (dA 1) g_85 a4 (fun g_90 =>
              (∀ v2_93 : Int64, v2_93 = (a2 ||| ((1 : Int64) <<< (Int32.toInt64 g_90 &&& 63))) →
                (wp_X0_findFewest_94 dA zz Q (wp_X0_findFewest_64 dA zz Q  n) L f a0 a1 v2_93 a4))))))))))))
def wp_X0_findFewest_59 (dA : Nat → ClassId) (zz : Nat → Nat) (Q : Int64 → List Nat → pF → Prop) (L : List Nat) (f : pF) (a0 : Nat) (a1 : Int32) : Prop :=
    (∃ n9 : Nat, wp_X0_findFewest_64 dA zz Q  n9 L f a0 a1 (0 : Int64) (0 : Int32))
def wp_X0_findFewest_22 (dA : Nat → ClassId) (zz : Nat → Nat) (Q : Int64 → List Nat → pF → Prop) : Nat → List Nat → pF → Nat → Int32 → Int32 → Prop
  | 0, _, _, _, _, _ => False
  | n + 1, L, f, a0, a1, a2 =>
    (gI L f 1 a0 7 (fun g_25 =>
      ((((1 : Int32) <<< (g_25 &&& 31)) ≤ a2 →
        (wp_X0_findFewest_59 dA zz Q  L f a0 a1))
       ∧ (¬ ((1 : Int32) <<< (g_25 &&& 31)) ≤ a2 →
        (wp_J6_bitCount_0f7a4_0 (fun r_33 =>
          (wp_J6_bitCount_0f7a4_0 (fun r_37 =>
            ((r_37 ≤ r_33 →
              (wp_X0_findFewest_53 dA zz Q (wp_X0_findFewest_22 dA zz Q  n) L f a0 a1 a2))
             ∧ (¬ r_37 ≤ r_33 →
              (isO L f 1 a0 ∧
                (wp_X0_explainsAll_0 dA zz (fun r_45 L_45 f_45 =>
                  ((r_45 = 0 →
                    (wp_X0_findFewest_53 dA zz Q (wp_X0_findFewest_22 dA zz Q  n) L_45 f_45 a0 a1 a2))
                   ∧ (¬ r_45 = 0 →
                    (wp_X0_findFewest_53 dA zz Q (wp_X0_findFewest_22 dA zz Q  n) L_45 f_45 a0 a2 a2)))) L f a0 a2))))) a1)) a2)))))
def wp_X0_findFewest_0 (dA : Nat → ClassId) (zz : Nat → Nat) (Q : Int64 → List Nat → pF → Prop) (L : List Nat) (f : pF) (a0 : Nat) : Prop :=
    (isO L f 1 a0 ∧
      (wp_X0_gatherMembers_0 dA zz (fun r_1 L_1 f_1 =>
        ((¬ r_1 = 0 →
          (gI L_1 f_1 1 a0 7 (fun g_13 =>
            (∀ v1_19 : Int32, v1_19 = (((1 : Int32) <<< (g_13 &&& 31)) - (1 : Int32)) →
              (∃ n9 : Nat, wp_X0_findFewest_22 dA zz Q  n9 L_1 f_1 a0 v1_19 (0 : Int32))))))
         ∧ (r_1 = 0 →
          (Q (-1 : Int64) L_1 f_1)))) L f a0 ))
set_option maxHeartbeats 4000000 in
set_option maxRecDepth 100000 in
theorem tb_X0_findFewest_53 {p : Program} {l : Launch} {e : Env} {s : State} {m : MethodId} {below : List Frame} {meth : Method} {c : Code} {args : Array Value} {dC : Nat → ClassId} {dI : Nat → Nat → Nat} {dA : Nat → ClassId} {zz : Nat → Nat} {base : Nat} {A : Nat → Prop} {Q : Int64 → List Nat → pF → Prop} (C : pCx p s m args meth c cX0_findFewest 5 (some .long) RX0 wsX0_findFewest A dC dI dA zz base) {k22_ : List Nat → pF → Nat → Int32 → Int32 → Prop} (h22_ : ∀ (L : List Nat) (f : pF) (a0 : Nat) (a1 : Int32) (a2 : Int32), k22_ L f a0 a1 a2 → pAt p l e rm_X0_findFewest s m args below meth c dC dI A (MQ below (va_Ql (fun r (u : List Nat × pF) => Q r u.1 u.2) (pB dC dI dA A) A) args s 0 0 A) 0 0 22 5 [(0, .ref a0), (1, .int a1), (2, .int a2)] [] L f) : ∀ (L : List Nat) (f : pF) (a0 : Nat) (a1 : Int32) (a2 : Int32), wp_X0_findFewest_53 dA zz Q k22_ L f a0 a1 a2 → pAt p l e rm_X0_findFewest s m args below meth c dC dI A (MQ below (va_Ql (fun r (u : List Nat × pF) => Q r u.1 u.2) (pB dC dI dA A) A) args s 0 0 A) 0 0 53 5 [(0, .ref a0), (1, .int a1), (2, .int a2)] [] L f := by
  obtain ⟨hx, hb, hml, hown, hts, hr, hlocks, hA, hK, hB, hz, hN, hT⟩ := id C
  intro L f a0 a1 a2 hw H locs hP hD hS ls hl
  rw [wp_X0_findFewest_53] at hw
  obtain ⟨v2_53, ev2_53⟩ : ∃ y : Int32, y = a2 + (1 : Int32) := ⟨_, rfl⟩
  have hw := hw v2_53 ev2_53
  refine lv_iinc (v := v2_53) (lv' := [(2, .int v2_53), (0, .ref a0), (1, .int a1)]) hx hb dX0_findFewest_53 hl (k := 2) rfl (by rw [ev2_53]; rfl) (by decide) rfl (fun ls hl => ?_)
  refine lv_goto (tgt := 22) hx hb dX0_findFewest_56 (by decide) ?_
  exact h22_ L f a0 a1 v2_53 hw H locs hP hD hS ls (lv_sub hl [1, 2, 0] rfl)
set_option maxHeartbeats 4000000 in
set_option maxRecDepth 100000 in
theorem tb_X0_findFewest_94 {p : Program} {l : Launch} {e : Env} {s : State} {m : MethodId} {below : List Frame} {meth : Method} {c : Code} {args : Array Value} {dC : Nat → ClassId} {dI : Nat → Nat → Nat} {dA : Nat → ClassId} {zz : Nat → Nat} {base : Nat} {A : Nat → Prop} {Q : Int64 → List Nat → pF → Prop} (C : pCx p s m args meth c cX0_findFewest 5 (some .long) RX0 wsX0_findFewest A dC dI dA zz base) {k64_ : List Nat → pF → Nat → Int32 → Int64 → Int32 → Prop} (h64_ : ∀ (L : List Nat) (f : pF) (a0 : Nat) (a1 : Int32) (a2 : Int64) (a4 : Int32), k64_ L f a0 a1 a2 a4 → pAt p l e rm_X0_findFewest s m args below meth c dC dI A (MQ below (va_Ql (fun r (u : List Nat × pF) => Q r u.1 u.2) (pB dC dI dA A) A) args s 0 0 A) 0 0 64 5 [(0, .ref a0), (1, .int a1), (2, .long a2), (4, .int a4)] [] L f) : ∀ (L : List Nat) (f : pF) (a0 : Nat) (a1 : Int32) (a2 : Int64) (a4 : Int32), wp_X0_findFewest_94 dA zz Q k64_ L f a0 a1 a2 a4 → pAt p l e rm_X0_findFewest s m args below meth c dC dI A (MQ below (va_Ql (fun r (u : List Nat × pF) => Q r u.1 u.2) (pB dC dI dA A) A) args s 0 0 A) 0 0 94 5 [(0, .ref a0), (1, .int a1), (2, .long a2), (4, .int a4)] [] L f := by
  obtain ⟨hx, hb, hml, hown, hts, hr, hlocks, hA, hK, hB, hz, hN, hT⟩ := id C
  intro L f a0 a1 a2 a4 hw H locs hP hD hS ls hl
  rw [wp_X0_findFewest_94] at hw
  obtain ⟨v4_94, ev4_94⟩ : ∃ y : Int32, y = a4 + (1 : Int32) := ⟨_, rfl⟩
  have hw := hw v4_94 ev4_94
  refine lv_iinc (v := v4_94) (lv' := [(4, .int v4_94), (0, .ref a0), (1, .int a1), (2, .long a2)]) hx hb dX0_findFewest_94 hl (k := 3) rfl (by rw [ev4_94]; rfl) (by decide) rfl (fun ls hl => ?_)
  refine lv_goto (tgt := 64) hx hb dX0_findFewest_97 (by decide) ?_
  exact h64_ L f a0 a1 a2 v4_94 hw H locs hP hD hS ls (lv_sub hl [1, 2, 3, 0] rfl)
set_option maxHeartbeats 4000000 in
set_option maxRecDepth 100000 in
theorem tb_X0_findFewest_64 {p : Program} {l : Launch} {e : Env} {s : State} {m : MethodId} {below : List Frame} {meth : Method} {c : Code} {args : Array Value} {dC : Nat → ClassId} {dI : Nat → Nat → Nat} {dA : Nat → ClassId} {zz : Nat → Nat} {base : Nat} {A : Nat → Prop} {Q : Int64 → List Nat → pF → Prop} (C : pCx p s m args meth c cX0_findFewest 5 (some .long) RX0 wsX0_findFewest A dC dI dA zz base) : ∀ (n : Nat) (L : List Nat) (f : pF) (a0 : Nat) (a1 : Int32) (a2 : Int64) (a4 : Int32), wp_X0_findFewest_64 dA zz Q  n L f a0 a1 a2 a4 → pAt p l e rm_X0_findFewest s m args below meth c dC dI A (MQ below (va_Ql (fun r (u : List Nat × pF) => Q r u.1 u.2) (pB dC dI dA A) A) args s 0 0 A) 0 0 64 5 [(0, .ref a0), (1, .int a1), (2, .long a2), (4, .int a4)] [] L f := by
  obtain ⟨hx, hb, hml, hown, hts, hr, hlocks, hA, hK, hB, hz, hN, hT⟩ := id C
  intro n
  induction n with
  | zero => intro L f a0 a1 a2 a4 hw; exact hw.elim
  | succ n ih =>
    intro L f a0 a1 a2 a4 hw H locs hP hD hS ls hl
    rw [wp_X0_findFewest_64] at hw
    refine lv_iload hx hb dX0_findFewest_64 (lv_at hl 3 rfl) ?_
    refine lv_aload_n hx hb dX0_findFewest_66 rfl (lv_at hl 0 rfl) ?_
    obtain ⟨fs_67, g_67, ⟨hL9, hf9, hn9⟩, hw⟩ := hw
    refine va_get (D := (dC, dI)) (ci := 1) (v := .int g_67) (C := RX0) (T := TX0) (N := 8) hx hb hts iw_X0_findFewest_RX0 hown hK (p_one hP hL9 hf9) 0 rfl rfl 7 (by decide) (hts _ lk_X0_findFewest_54) (fun _ h9 => h9) hn9 dX0_findFewest_67 ?_
    refine lv_icmp_ge (tgt := 100) hx hb dX0_findFewest_70 (by decide) (fun c_70 => ?_) (fun c_70 => ?_)
    · have hw := hw.1 c_70
      refine lv_lload_n hx hb dX0_findFewest_100 rfl (lv_at hl 2 rfl) ?_
      exact W.lret (v := a2) hx hb hr (fun t ht hW => ⟨⟨a2, (L, f), rfl, hw, by rw [ht]; exact hP, va_K.moved hW.alike hK, hD⟩, hS.F ht⟩) hS.2.2 dX0_findFewest_101
    · have hw := hw.2 c_70
      refine lv_iload_n hx hb dX0_findFewest_73 rfl (lv_at hl 1 rfl) ?_
      refine lv_iload hx hb dX0_findFewest_74 (lv_at hl 3 rfl) ?_
      refine lv_ishr hx hb dX0_findFewest_76 ?_
      refine lv_iconst (v := 1) hx hb dX0_findFewest_77 (by decide) ?_
      refine lv_iand hx hb dX0_findFewest_78 ?_
      refine lv_if_eq (tgt := 94) hx hb dX0_findFewest_79 (by decide) (fun c_79 => ?_) (fun c_79 => ?_)
      · have hw := hw.1 c_79
        exact tb_X0_findFewest_94 C ih L f a0 a1 a2 a4 hw H locs hP hD hS ls (lv_sub hl [0, 1, 2, 3] rfl)
      · have hw := hw.2 c_79
        refine lv_lload_n hx hb dX0_findFewest_82 rfl (lv_at hl 2 rfl) ?_
        refine lv_lconst (v := 1) hx hb dX0_findFewest_83 (by decide) ?_
        refine lv_aload_n hx hb dX0_findFewest_84 rfl (lv_at hl 0 rfl) ?_
        obtain ⟨fs_85, g_85, ⟨hL9, hf9, hn9⟩, hw⟩ := hw
        refine va_get (D := (dC, dI)) (ci := 1) (v := .ref g_85) (C := RX0) (T := TX0) (N := 8) hx hb hts iw_X0_findFewest_RX0 hown hK (p_one hP hL9 hf9) 0 rfl rfl 5 (by decide) (hts _ lk_X0_findFewest_22) (fun _ h9 => h9) hn9 dX0_findFewest_85 ?_
        refine lv_iload hx hb dX0_findFewest_88 (lv_at hl 3 rfl) ?_
        obtain ⟨n_90, h_90, ⟨hL9, hf9, hn9⟩, hw⟩ := hw
        refine va_iald hx hb hK (p_one hP hL9 hf9) 0 1 rfl rfl hn9 dX0_findFewest_90 ?_
        refine lv_topi (fun g_90 eg_90 => ?_)
        rw [← eg_90] at hw
        refine lv_lshl hx hb dX0_findFewest_91 rfl ?_
        refine lv_lor hx hb dX0_findFewest_92 ?_
        refine lv_topl (fun v2_93 ev2_93 => ?_)
        have hw := hw v2_93 ev2_93
        refine lv_lstore_n (lv' := [(2, .long v2_93), (0, .ref a0), (1, .int a1), (4, .int a4)]) hx hb dX0_findFewest_93 rfl hl (by decide) rfl (fun ls hl => ?_)
        exact tb_X0_findFewest_94 C ih L f a0 a1 v2_93 a4 hw H locs hP hD hS ls (lv_sub hl [1, 2, 0, 3] rfl)
set_option maxHeartbeats 4000000 in
set_option maxRecDepth 100000 in
theorem tb_X0_findFewest_59 {p : Program} {l : Launch} {e : Env} {s : State} {m : MethodId} {below : List Frame} {meth : Method} {c : Code} {args : Array Value} {dC : Nat → ClassId} {dI : Nat → Nat → Nat} {dA : Nat → ClassId} {zz : Nat → Nat} {base : Nat} {A : Nat → Prop} {Q : Int64 → List Nat → pF → Prop} (C : pCx p s m args meth c cX0_findFewest 5 (some .long) RX0 wsX0_findFewest A dC dI dA zz base) : ∀ (L : List Nat) (f : pF) (a0 : Nat) (a1 : Int32), wp_X0_findFewest_59 dA zz Q  L f a0 a1 → pAt p l e rm_X0_findFewest s m args below meth c dC dI A (MQ below (va_Ql (fun r (u : List Nat × pF) => Q r u.1 u.2) (pB dC dI dA A) A) args s 0 0 A) 0 0 59 5 [(0, .ref a0), (1, .int a1)] [] L f := by
  obtain ⟨hx, hb, hml, hown, hts, hr, hlocks, hA, hK, hB, hz, hN, hT⟩ := id C
  intro L f a0 a1 hw H locs hP hD hS ls hl
  rw [wp_X0_findFewest_59] at hw
  refine lv_lconst (v := 0) hx hb dX0_findFewest_59 (by decide) ?_
  refine lv_lstore_n (lv' := [(2, .long (0 : Int64)), (0, .ref a0), (1, .int a1)]) hx hb dX0_findFewest_60 rfl hl (by decide) rfl (fun ls hl => ?_)
  refine lv_iconst (v := 0) hx hb dX0_findFewest_61 (by decide) ?_
  refine lv_istore (lv' := [(4, .int (0 : Int32)), (2, .long (0 : Int64)), (0, .ref a0), (1, .int a1)]) hx hb dX0_findFewest_62 hl (by decide) rfl (fun ls hl => ?_)
  obtain ⟨n9, hw⟩ := hw
  exact tb_X0_findFewest_64 C  n9 L f a0 a1 (0 : Int64) (0 : Int32) hw H locs hP hD hS ls (lv_sub hl [2, 3, 1, 0] rfl)
set_option maxHeartbeats 4000000 in
set_option maxRecDepth 100000 in
theorem tb_X0_findFewest_22 {p : Program} {l : Launch} {e : Env} {s : State} {m : MethodId} {below : List Frame} {meth : Method} {c : Code} {args : Array Value} {dC : Nat → ClassId} {dI : Nat → Nat → Nat} {dA : Nat → ClassId} {zz : Nat → Nat} {base : Nat} {A : Nat → Prop} {Q : Int64 → List Nat → pF → Prop} (C : pCx p s m args meth c cX0_findFewest 5 (some .long) RX0 wsX0_findFewest A dC dI dA zz base) : ∀ (n : Nat) (L : List Nat) (f : pF) (a0 : Nat) (a1 : Int32) (a2 : Int32), wp_X0_findFewest_22 dA zz Q  n L f a0 a1 a2 → pAt p l e rm_X0_findFewest s m args below meth c dC dI A (MQ below (va_Ql (fun r (u : List Nat × pF) => Q r u.1 u.2) (pB dC dI dA A) A) args s 0 0 A) 0 0 22 5 [(0, .ref a0), (1, .int a1), (2, .int a2)] [] L f := by
  obtain ⟨hx, hb, hml, hown, hts, hr, hlocks, hA, hK, hB, hz, hN, hT⟩ := id C
  intro n
  induction n with
  | zero => intro L f a0 a1 a2 hw; exact hw.elim
  | succ n ih =>
    intro L f a0 a1 a2 hw H locs hP hD hS ls hl
    rw [wp_X0_findFewest_22] at hw
    refine lv_iload_n hx hb dX0_findFewest_22 rfl (lv_at hl 2 rfl) ?_
    refine lv_iconst (v := 1) hx hb dX0_findFewest_23 (by decide) ?_
    refine lv_aload_n hx hb dX0_findFewest_24 rfl (lv_at hl 0 rfl) ?_
    obtain ⟨fs_25, g_25, ⟨hL9, hf9, hn9⟩, hw⟩ := hw
    refine va_get (D := (dC, dI)) (ci := 1) (v := .int g_25) (C := RX0) (T := TX0) (N := 8) hx hb hts iw_X0_findFewest_RX0 hown hK (p_one hP hL9 hf9) 0 rfl rfl 7 (by decide) (hts _ lk_X0_findFewest_54) (fun _ h9 => h9) hn9 dX0_findFewest_25 ?_
    refine lv_ishl hx hb dX0_findFewest_28 ?_
    refine lv_icmp_ge (tgt := 59) hx hb dX0_findFewest_29 (by decide) (fun c_29 => ?_) (fun c_29 => ?_)
    · have hw := hw.1 c_29
      exact tb_X0_findFewest_59 C  L f a0 a1 hw H locs hP hD hS ls (lv_sub hl [0, 1] rfl)
    · have hw := hw.2 c_29
      refine lv_iload_n hx hb dX0_findFewest_32 rfl (lv_at hl 2 rfl) ?_
      refine vp_callSi (W.runS (As := [.int a2]) (rest := []) ⟨hx, hb, hml, hown, hts⟩ (c_J6_bitCount_0f7a4 l a2 _ hw) (va_cwS 1 hts gX0_findFewest_J6_bitCount_0f7a4 rfl rfl rfl (by decide +kernel) ⟨by decide, by decide⟩) preEq rfl rfl hl.1 rfl (lv_room (Nat.le_of_ble_eq_true rfl)) dX0_findFewest_33 ⟨by decide, by decide⟩) (fun r_33 hw => ?_)
      refine lv_iload_n hx hb dX0_findFewest_36 rfl (lv_at hl 1 rfl) ?_
      refine vp_callSi (W.runS (As := [.int a1]) (rest := [.int r_33]) ⟨hx, hb, hml, hown, hts⟩ (c_J6_bitCount_0f7a4 l a1 _ hw) (va_cwS 1 hts gX0_findFewest_J6_bitCount_0f7a4 rfl rfl rfl (by decide +kernel) ⟨by decide, by decide⟩) preEq rfl rfl hl.1 rfl (lv_room (Nat.le_of_ble_eq_true rfl)) dX0_findFewest_37 ⟨by decide, by decide⟩) (fun r_37 hw => ?_)
      refine lv_icmp_ge (tgt := 53) hx hb dX0_findFewest_40 (by decide) (fun c_40 => ?_) (fun c_40 => ?_)
      · have hw := hw.1 c_40
        exact tb_X0_findFewest_53 C ih L f a0 a1 a2 hw H locs hP hD hS ls (lv_sub hl [0, 1, 2] rfl)
      · have hw := hw.2 c_40
        refine lv_aload_n hx hb dX0_findFewest_43 rfl (lv_at hl 0 rfl) ?_
        refine lv_iload_n hx hb dX0_findFewest_44 rfl (lv_at hl 2 rfl) ?_
        obtain ⟨hO9, hw⟩ := hw
        have hFc := p_free hD hS hA
        refine va_calli (va_runV (As := [.int a2]) (rest := []) ⟨hx, hb, hml, hown, hts⟩ (c_X0_explainsAll l dC dI dA zz base L f H.size a0 a2 _ hw) (cwV 1 hts gX0_findFewest_X0_explainsAll rfl rfl rfl (by decide +kernel) ⟨by decide, by decide⟩) (pPreV [.int a2] (ci := 1) rfl hO9 hK hP hD hS hB hz hN hT) rfl rfl hl.1 rfl (lv_room (Nat.le_of_ble_eq_true rfl)) dX0_findFewest_45 ⟨by decide, by decide⟩) hS (fun q _ h => hFc q h) hFc (fun r_45 u t H1 locs ht hvm hw hB1 hz1 hk1 hS => ?_)
        obtain ⟨L_45, f_45⟩ := u
        obtain ⟨hP, -, hD1⟩ := hB1
        rw [ht] at hP
        have hw := id hw
        have hP : va_P (dC, dI) vwCl (va_pl L_45 f_45) H1 := hP
        have hD : va_D A (va_pl L_45 f_45) := p_gain hD1 hFc
        generalize H1 = H at hP hS ⊢
        refine lv_if_eq (tgt := 53) hx hb dX0_findFewest_48 (by decide) (fun c_48 => ?_) (fun c_48 => ?_)
        · have hw := hw.1 c_48
          exact tb_X0_findFewest_53 C ih L_45 f_45 a0 a1 a2 hw H locs hP hD hS ls (lv_sub hl [0, 1, 2] rfl)
        · have hw := hw.2 c_48
          refine lv_iload_n hx hb dX0_findFewest_51 rfl (lv_at hl 2 rfl) ?_
          refine lv_istore_n (lv' := [(1, .int a2), (0, .ref a0), (2, .int a2)]) hx hb dX0_findFewest_52 rfl hl (by decide) rfl (fun ls hl => ?_)
          exact tb_X0_findFewest_53 C ih L_45 f_45 a0 a2 a2 hw H locs hP hD hS ls (lv_sub hl [1, 0, 2] rfl)
set_option maxHeartbeats 4000000 in
set_option maxRecDepth 100000 in
theorem tb_X0_findFewest_0 {p : Program} {l : Launch} {e : Env} {s : State} {m : MethodId} {below : List Frame} {meth : Method} {c : Code} {args : Array Value} {dC : Nat → ClassId} {dI : Nat → Nat → Nat} {dA : Nat → ClassId} {zz : Nat → Nat} {base : Nat} {A : Nat → Prop} {Q : Int64 → List Nat → pF → Prop} (C : pCx p s m args meth c cX0_findFewest 5 (some .long) RX0 wsX0_findFewest A dC dI dA zz base) : ∀ (L : List Nat) (f : pF) (a0 : Nat), wp_X0_findFewest_0 dA zz Q  L f a0 → pAt p l e rm_X0_findFewest s m args below meth c dC dI A (MQ below (va_Ql (fun r (u : List Nat × pF) => Q r u.1 u.2) (pB dC dI dA A) A) args s 0 0 A) 0 0 0 5 [(0, .ref a0)] [] L f := by
  obtain ⟨hx, hb, hml, hown, hts, hr, hlocks, hA, hK, hB, hz, hN, hT⟩ := id C
  intro L f a0 hw H locs hP hD hS ls hl
  rw [wp_X0_findFewest_0] at hw
  refine lv_aload_n hx hb dX0_findFewest_0 rfl (lv_at hl 0 rfl) ?_
  obtain ⟨hO9, hw⟩ := hw
  have hFc := p_free hD hS hA
  refine va_calli (va_runV (As := []) (rest := []) ⟨hx, hb, hml, hown, hts⟩ (c_X0_gatherMembers l dC dI dA zz base L f H.size a0  _ hw) (cwV 0 hts gX0_findFewest_X0_gatherMembers rfl rfl rfl (by decide +kernel) ⟨by decide, by decide⟩) (pPreV [] (ci := 1) rfl hO9 hK hP hD hS hB hz hN hT) rfl rfl hl.1 rfl (lv_room (Nat.le_of_ble_eq_true rfl)) dX0_findFewest_1 ⟨by decide, by decide⟩) hS (fun q _ h => hFc q h) hFc (fun r_1 u t H1 locs ht hvm hw hB1 hz1 hk1 hS => ?_)
  obtain ⟨L_1, f_1⟩ := u
  obtain ⟨hP, -, hD1⟩ := hB1
  rw [ht] at hP
  have hw := id hw
  have hP : va_P (dC, dI) vwCl (va_pl L_1 f_1) H1 := hP
  have hD : va_D A (va_pl L_1 f_1) := p_gain hD1 hFc
  generalize H1 = H at hP hS ⊢
  refine lv_if_ne (tgt := 11) hx hb dX0_findFewest_4 (by decide) (fun c_4 => ?_) (fun c_4 => ?_)
  · have hw := hw.1 c_4
    refine lv_iconst (v := 1) hx hb dX0_findFewest_11 (by decide) ?_
    refine lv_aload_n hx hb dX0_findFewest_12 rfl (lv_at hl 0 rfl) ?_
    obtain ⟨fs_13, g_13, ⟨hL9, hf9, hn9⟩, hw⟩ := hw
    refine va_get (D := (dC, dI)) (ci := 1) (v := .int g_13) (C := RX0) (T := TX0) (N := 8) hx hb hts iw_X0_findFewest_RX0 hown hK (p_one hP hL9 hf9) 0 rfl rfl 7 (by decide) (hts _ lk_X0_findFewest_54) (fun _ h9 => h9) hn9 dX0_findFewest_13 ?_
    refine lv_ishl hx hb dX0_findFewest_16 ?_
    refine lv_iconst (v := 1) hx hb dX0_findFewest_17 (by decide) ?_
    refine lv_isub hx hb dX0_findFewest_18 ?_
    refine lv_topi (fun v1_19 ev1_19 => ?_)
    have hw := hw v1_19 ev1_19
    refine lv_istore_n (lv' := [(1, .int v1_19), (0, .ref a0)]) hx hb dX0_findFewest_19 rfl hl (by decide) rfl (fun ls hl => ?_)
    refine lv_iconst (v := 0) hx hb dX0_findFewest_20 (by decide) ?_
    refine lv_istore_n (lv' := [(2, .int (0 : Int32)), (1, .int v1_19), (0, .ref a0)]) hx hb dX0_findFewest_21 rfl hl (by decide) rfl (fun ls hl => ?_)
    obtain ⟨n9, hw⟩ := hw
    exact tb_X0_findFewest_22 C  n9 L_1 f_1 a0 v1_19 (0 : Int32) hw H locs hP hD hS ls (lv_sub hl [2, 1, 0] rfl)
  · have hw := hw.2 c_4
    refine lv_ldc2 (v := -1) hx hb hown (hts _ lk_X0_findFewest_32) dX0_findFewest_7 ?_
    exact W.lret (v := (-1 : Int64)) hx hb hr (fun t ht hW => ⟨⟨(-1 : Int64), (L_1, f_1), rfl, hw, by rw [ht]; exact hP, va_K.moved hW.alike hK, hD⟩, hS.F ht⟩) hS.2.2 dX0_findFewest_10
set_option maxHeartbeats 4000000 in
set_option maxRecDepth 100000 in
theorem c_X0_findFewest (l : Launch) (dC : Nat → ClassId) (dI : Nat → Nat → Nat) (dA : Nat → ClassId) (zz : Nat → Nat) (base : Nat) (L : List Nat) (f : pF) (sz : Nat) (a0 : Nat) (Q : Int64 → List Nat → pF → Prop) (hw : wp_X0_findFewest_0 dA zz Q L f a0) : Met l yX0_findFewest wsX0_findFewest rm_X0_findFewest (va_Pc [.ref a0] (pPre dC dI dA zz base L f sz)) (va_Ql (fun r (u : List Nat × pF) => Q r u.1 u.2) (pB dC dI dA (va_A (va_pl L f) sz)) (va_A (va_pl L f) sz)) 0 0 (va_A (va_pl L f) sz) := by
  refine Met.ofW (cc := cX0_findFewest) (maxL := 5) (ret := (some .long)) (by decide) rfl ?_
  intro p e s m args below meth c s₁ B hml hv
  obtain ⟨rfl, hsz, hP, hK, hD0, hz, hN, hT⟩ := hv
  subst hsz
  have hl := lv_entry ([.ref a0]) (n := 5) (Nat.le_of_ble_eq_true rfl)
  rw [lg_entry_eq]
  generalize (lg_sl ([.ref a0]) ++ List.replicate (5 - (lg_sl ([.ref a0])).length) Slot.unset).toArray = ls at hl ⊢
  exact tb_X0_findFewest_0 (Q := Q) (p := p) ⟨B.exec, B.bytes, hml, findClass_of_methodNamed B.named, atoms_spec (ws := wsX0_findFewest) B.pre, B.returns, B.notSynchronized, fun q h => Or.inr h, hK, pAB hD0 hz, hz, hN, hT⟩ L f a0 hw s.heap [] hP (hD0.self (sz := s.heap.size)) va_S.rf ls (lv_sub hl [0] rfl)
