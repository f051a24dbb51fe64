theorem iw_X8_init_RX0 : ∀ w ∈ u_ws RX0 TX0 8, w ∈ wsX8_init := by decide +kernel
theorem iw_X8_init_RX1 : ∀ w ∈ u_ws RX1 TX1 3, w ∈ wsX8_init := by decide +kernel
theorem iw_X8_init_RX2 : ∀ w ∈ u_ws RX2 TX2 3, w ∈ wsX8_init := by decide +kernel
theorem iw_X8_init_RX4 : ∀ w ∈ u_ws RX4 TX4 2, w ∈ wsX8_init := by decide +kernel
theorem iw_X8_init_RX6 : ∀ w ∈ u_ws RX6 TX6 13, w ∈ wsX8_init := by decide +kernel
theorem iw_X8_init_RX8 : ∀ w ∈ u_ws RX8 TX8 6, w ∈ wsX8_init := by decide +kernel
theorem lk_X8_init_22 : Cond.classLink RX8 22 RX1 ∈ wsX8_init := by decide +kernel
theorem lk_X8_init_29 : Cond.classLink RX8 29 RX0 ∈ wsX8_init := by decide +kernel
theorem lk_X8_init_36 : Cond.classLink RX8 36 RX6 ∈ wsX8_init := by decide +kernel
theorem lk_X8_init_45 : Cond.classLink RX8 45 RX2 ∈ wsX8_init := by decide +kernel
theorem lk_X8_init_7 : Cond.classLink RX8 7 RX4 ∈ wsX8_init := by decide +kernel
theorem lk_X8_init_14 : Cond.fieldLink RX8 14 "TermKeeper" "waiting" "LTermKeeper$Row;" ∈ wsX8_init := by decide +kernel
theorem lk_X8_init_18 : Cond.fieldLink RX8 18 "TermKeeper" "texts" "[LTermKeeper$Row;" ∈ wsX8_init := by decide +kernel
theorem lk_X8_init_25 : Cond.fieldLink RX8 25 "TermKeeper" "glossary" "LTermKeeper$Glossary;" ∈ wsX8_init := by decide +kernel
theorem lk_X8_init_32 : Cond.fieldLink RX8 32 "TermKeeper" "definitions" "LTermKeeper$Definitions;" ∈ wsX8_init := by decide +kernel
theorem lk_X8_init_41 : Cond.fieldLink RX8 41 "TermKeeper" "found" "LTermKeeper$Uses;" ∈ wsX8_init := by decide +kernel
theorem lk_X8_init_50 : Cond.fieldLink RX8 50 "TermKeeper" "mender" "LTermKeeper$Mender;" ∈ wsX8_init := by decide +kernel
theorem li_X8_init_RX0 : Cond.instantiable RX0 8 ∈ wsX8_init := by decide +kernel
theorem li_X8_init_RX1 : Cond.instantiable RX1 3 ∈ wsX8_init := by decide +kernel
theorem li_X8_init_RX2 : Cond.instantiable RX2 3 ∈ wsX8_init := by decide +kernel
theorem li_X8_init_RX4 : Cond.instantiable RX4 2 ∈ wsX8_init := by decide +kernel
theorem li_X8_init_RX6 : Cond.instantiable RX6 13 ∈ wsX8_init := by decide +kernel
theorem lim_X8_init_X0_init : Cond.instanceMethod yX0_init ∈ wsX8_init := by decide +kernel
theorem lim_X8_init_X1_init : Cond.instanceMethod yX1_init ∈ wsX8_init := by decide +kernel
theorem lim_X8_init_X2_init : Cond.instanceMethod yX2_init ∈ wsX8_init := by decide +kernel
theorem lim_X8_init_X4_init : Cond.instanceMethod yX4_init ∈ wsX8_init := by decide +kernel
theorem lim_X8_init_X6_init : Cond.instanceMethod yX6_init ∈ wsX8_init := by decide +kernel
theorem lo1_X8_init : Cond.instanceMethod objectInit ∈ wsX8_init := by decide +kernel
theorem lo2_X8_init : Cond.code objectInit ⟨#[0xb1]⟩ 1 none ∈ wsX8_init := by decide +kernel
theorem lm_X8_init_1 : Cond.methodLink RX8 1 objectInit ∈ wsX8_init := by decide +kernel
theorem lm_X8_init_11 : Cond.methodLink RX8 11 yX4_init ∈ wsX8_init := by decide +kernel
theorem lm_X8_init_38 : Cond.methodLink RX8 38 yX6_init ∈ wsX8_init := by decide +kernel
theorem lm_X8_init_47 : Cond.methodLink RX8 47 yX2_init ∈ wsX8_init := by decide +kernel
theorem lz_X8_init_RX0 : Cond.initialized RX0 ∈ wsX8_init := by decide +kernel
theorem lz_X8_init_RX1 : Cond.initialized RX1 ∈ wsX8_init := by decide +kernel
theorem lz_X8_init_RX2 : Cond.initialized RX2 ∈ wsX8_init := by decide +kernel
theorem lz_X8_init_RX4 : Cond.initialized RX4 ∈ wsX8_init := by decide +kernel
theorem lz_X8_init_RX6 : Cond.initialized RX6 ∈ wsX8_init := by decide +kernel
abbrev rm_X8_init : Room := { frames := 5, cells := 45, slots := 9020, locals := 92 }
def wp_X8_init_0 (dA : Nat → ClassId) (zz : Nat → Nat) (Q : List Nat → pF → Prop) (L : List Nat) (f : pF) (a0 : Nat) : Prop :=
    (nO zz L f (.inr (5, [.null, .int 0])) (fun q_5 L_5 f_5 =>
      (wp_X4_init_0 dA zz (fun L_11_1 f_11_1 =>
        (gP L_11_1 f_11_1 9 a0 0 (.ref q_5) (fun f_14 =>
          (nO zz L_11_1 f_14 (.inl (dA 3, Int32.toNatClampNeg (8 : Int32), .inr (.inr (.inr (.inr (fun _ => none)))))) (fun q_20 L_20 f_20 =>
            (gP L_20 f_20 9 a0 1 (.ref q_20) (fun f_23 =>
              (gR L_20 f_23 9 a0 1 (fun g_35 =>
                (nO zz L_20 f_23 (.inr (5, [.null, .int 0])) (fun q_39 L_39 f_39 =>
                  (wp_X4_init_0 dA zz (fun L_46_1 f_46_1 =>
                    (isO L_46_1 f_46_1 5 q_39 ∧
                      (aRs L_46_1 f_46_1 (dA 3) g_35 (0 : Int32) q_39 (fun f_49 =>
                        (gR L_46_1 f_49 9 a0 1 (fun g_35_1 =>
                          (nO zz L_46_1 f_49 (.inr (5, [.null, .int 0])) (fun q_39_1 L_39_1 f_39_1 =>
                            (wp_X4_init_0 dA zz (fun L_46_3 f_46_3 =>
                              (isO L_46_3 f_46_3 5 q_39_1 ∧
                                (aRs L_46_3 f_46_3 (dA 3) g_35_1 (1 : Int32) q_39_1 (fun f_49_1 =>
                                  (gR L_46_3 f_49_1 9 a0 1 (fun g_35_2 =>
                                    (nO zz L_46_3 f_49_1 (.inr (5, [.null, .int 0])) (fun q_39_2 L_39_2 f_39_2 =>
                                      (wp_X4_init_0 dA zz (fun L_46_5 f_46_5 =>
                                        (isO L_46_5 f_46_5 5 q_39_2 ∧
                                          (aRs L_46_5 f_46_5 (dA 3) g_35_2 (2 : Int32) q_39_2 (fun f_49_2 =>
                                            (gR L_46_5 f_49_2 9 a0 1 (fun g_35_3 =>
                                              (nO zz L_46_5 f_49_2 (.inr (5, [.null, .int 0])) (fun q_39_3 L_39_3 f_39_3 =>
                                                (wp_X4_init_0 dA zz (fun L_46_7 f_46_7 =>
                                                  (isO L_46_7 f_46_7 5 q_39_3 ∧
                                                    (aRs L_46_7 f_46_7 (dA 3) g_35_3 (3 : Int32) q_39_3 (fun f_49_3 =>
                                                      (gR L_46_7 f_49_3 9 a0 1 (fun g_35_4 =>
                                                        (nO zz L_46_7 f_49_3 (.inr (5, [.null, .int 0])) (fun q_39_4 L_39_4 f_39_4 =>
                                                          (wp_X4_init_0 dA zz (fun L_46_9 f_46_9 =>
                                                            (isO L_46_9 f_46_9 5 q_39_4 ∧
                                                              (aRs L_46_9 f_46_9 (dA 3) g_35_4 (4 : Int32) q_39_4 (fun f_49_4 =>
                                                                (gR L_46_9 f_49_4 9 a0 1 (fun g_35_5 =>
                                                                  (nO zz L_46_9 f_49_4 (.inr (5, [.null, .int 0])) (fun q_39_5 L_39_5 f_39_5 =>
                                                                    (wp_X4_init_0 dA zz (fun L_46_11 f_46_11 =>
                                                                      (isO L_46_11 f_46_11 5 q_39_5 ∧
                                                                        (aRs L_46_11 f_46_11 (dA 3) g_35_5 (5 : Int32) q_39_5 (fun f_49_5 =>
                                                                          (gR L_46_11 f_49_5 9 a0 1 (fun g_35_6 =>
                                                                            (nO zz L_46_11 f_49_5 (.inr (5, [.null, .int 0])) (fun q_39_6 L_39_6 f_39_6 =>
                                                                              (wp_X4_init_0 dA zz (fun L_46_13 f_46_13 =>
                                                                                (isO L_46_13 f_46_13 5 q_39_6 ∧
                                                                                  (aRs L_46_13 f_46_13 (dA 3) g_35_6 (6 : Int32) q_39_6 (fun f_49_6 =>
                                                                                    (gR L_46_13 f_49_6 9 a0 1 (fun g_35_7 =>
                                                                                      (nO zz L_46_13 f_49_6 (.inr (5, [.null, .int 0])) (fun q_39_7 L_39_7 f_39_7 =>
                                                                                        (wp_X4_init_0 dA zz (fun L_46_15 f_46_15 =>
                                                                                          (isO L_46_15 f_46_15 5 q_39_7 ∧
                                                                                            (aRs L_46_15 f_46_15 (dA 3) g_35_7 (7 : Int32) q_39_7 (fun f_49_7 =>
                                                                                              (nO zz L_46_15 f_49_7 (.inr (2, [.null, .null, .null])) (fun q_57 L_57 f_57 =>
                                                                                                (wp_X1_init_0 dA zz (fun L_61_1 f_61_1 =>
                                                                                                  (gP L_61_1 f_61_1 9 a0 2 (.ref q_57) (fun f_64 =>
                                                                                                    (nO zz L_61_1 f_64 (.inr (1, [.null, .long 0, .null, .null, .int 0, .null, .null, .int 0])) (fun q_68 L_68 f_68 =>
                                                                                                      (wp_X0_init_0 dA zz (fun L_72_1 f_72_1 =>
                                                                                                        (gP L_72_1 f_72_1 9 a0 3 (.ref q_68) (fun f_75 =>
                                                                                                          (nO zz L_72_1 f_75 (.inr (7, [.null, .null, .null, .null, .null, .null, .null, .null, .null, .int 0, .long 0, .long 0, .long 0])) (fun q_79 L_79 f_79 =>
                                                                                                            (gR L_79 f_79 9 a0 2 (fun g_84 =>
                                                                                                              (gR L_79 f_79 9 a0 3 (fun g_88 =>
                                                                                                                (wp_X6_init_0 dA zz (fun L_91_1 f_91_1 =>
                                                                                                                  (gP L_91_1 f_91_1 9 a0 4 (.ref q_79) (fun f_94 =>
                                                                                                                    (nO zz L_91_1 f_94 (.inr (3, [.null, .null, .int 0])) (fun q_98 L_98 f_98 =>
                                                                                                                      (gR L_98 f_98 9 a0 2 (fun g_103 =>
                                                                                                                        (wp_X2_init_0 dA zz (fun L_106_1 f_106_1 =>
                                                                                                                          (gP L_106_1 f_106_1 9 a0 5 (.ref q_98) (fun f_109 =>
                                                                                                                            (Q L_106_1 f_109)))) L_98 f_98 q_98 g_103)))))))) L_79 f_79 q_79 g_84 g_88)))))))))) L_68 f_68 q_68 )))))) L_57 f_57 q_57 ))))))) L_39_7 f_39_7 q_39_7 (600 : Int32)))))))))) L_39_6 f_39_6 q_39_6 (600 : Int32)))))))))) L_39_5 f_39_5 q_39_5 (600 : Int32)))))))))) L_39_4 f_39_4 q_39_4 (600 : Int32)))))))))) L_39_3 f_39_3 q_39_3 (600 : Int32)))))))))) L_39_2 f_39_2 q_39_2 (600 : Int32)))))))))) L_39_1 f_39_1 q_39_1 (600 : Int32)))))))))) L_39 f_39 q_39 (600 : Int32))))))))))))) L_5 f_5 q_5 (40 : Int32))))
set_option maxHeartbeats 4000000 in
set_option maxRecDepth 100000 in
theorem tb_X8_init_0 {p : Program} {l : Launch} {e : Env} {s : State} {m : MethodId} {below : List Frame} {meth : Method} {c : Code} {args : Array Value} {dC : Nat → ClassId} {dI : Nat → Nat → Nat} {dA : Nat → ClassId} {zz : Nat → Nat} {base : Nat} {A : Nat → Prop} {Q : List Nat → pF → Prop} (C : pCx p s m args meth c cX8_init 2 none RX8 wsX8_init A dC dI dA zz base ∧ meth.name = "<init>") : ∀ (L : List Nat) (f : pF) (a0 : Nat), wp_X8_init_0 dA zz Q  L f a0 → pAt p l e rm_X8_init s m args below meth c dC dI A (MQ below (va_Qv (fun (u : List Nat × pF) => Q u.1 u.2) (pB dC dI dA A) A) args s 45 9020 A) 0 0 0 2 [(0, .ref a0)] [] L f := by
  obtain ⟨⟨hx, hb, hml, hown, hts, hr, hlocks, hA, hK, hB, hz, hN, hT⟩, hin⟩ := id C
  intro L f a0 hw H locs hP hD hS ls hl
  rw [wp_X8_init_0] at hw
  refine lv_aload_n hx hb dX8_init_0 rfl (lv_at hl 0 rfl) ?_
  refine W.objInit hx hb hown (hts _ lm_X8_init_1) (hts _ lo1_X8_init) (hts _ lo2_X8_init) rfl (by rw [hml]; exact hl.1) rfl dX8_init_1 (Nat.le_of_ble_eq_true rfl) (Nat.le_of_ble_eq_true rfl) ?_
  refine W.eq (g2 := F0 m 4 ls []) rfl ?_
  refine lv_aload_n hx hb dX8_init_4 rfl (lv_at hl 0 rfl) ?_
  refine va_new (ci := 5) (fs := [.null, .int 0]) (C := RX4) (T := TX4) (N := 2) hx hb hts iw_X8_init_RX4 tyX4 tyX4_ok hown (hts _ lk_X8_init_7) (hts _ li_X8_init_RX4) (hts _ lz_X8_init_RX4) hK hP hD hS hA rfl (fun j hj => by rcases (show j = 0 ∨ j = 1 by omega) with rfl | rfl <;> rfl) (by decide) (by decide) dX8_init_5 (fun q_5 H hP2 hD2 hS => ?_)
  have hq9 := p_fresh hD2
  have hz9 := p_nz hB hT hD2
  rw [va_pl_push hq9] at hP2 hD2
  obtain ⟨L_5, eL_5⟩ : ∃ y : List Nat, y = L ++ [q_5] := ⟨_, rfl⟩
  obtain ⟨f_5, ef_5⟩ : ∃ y : pF, y = va_up f q_5 (.inr (5, [.null, .int 0])) := ⟨_, rfl⟩
  have hw := hw q_5 hq9 hz9 L_5 f_5 eL_5 ef_5
  have hP : va_P (dC, dI) vwCl (va_pl L_5 f_5) H := by rw [eL_5, ef_5]; exact hP2
  have hD : va_D A (va_pl L_5 f_5) := by rw [eL_5, ef_5]; exact hD2
  refine lv_dup hx hb dX8_init_8 rfl ?_
  refine lv_bipush (v := 40) hx hb dX8_init_9 (by decide) ?_
  have hFc := p_free hD hS hA
  refine va_callv (va_runI (As := [.int (40 : Int32)]) (rest := [.ref q_5, .ref a0]) ⟨hx, hb, hml, hown, hts⟩ (c_X4_init l dC dI dA zz base L_5 f_5 H.size q_5 (40 : Int32) _ hw) (cwI 1 hts gX8_init_X4_init rfl rfl rfl (hts _ lz_X8_init_RX4) (hts _ lm_X8_init_11) (hts _ lim_X8_init_X4_init) rfl (by decide +kernel) ⟨by decide, by decide⟩) (pPreS [.ref q_5, .int (40 : Int32)] hK hP hD hS hB hz hN hT) rfl rfl hl.1 rfl (lv_room (Nat.le_of_ble_eq_true rfl)) dX8_init_11 ⟨by decide, by decide⟩) hS (fun q _ h => hFc q h) hFc (fun u t H1 locs ht hvm hw hB1 hz1 hk1 hS => ?_)
  obtain ⟨L_11_1, f_11_1⟩ := u
  obtain ⟨hP, -, hD1⟩ := hB1
  rw [ht] at hP
  have hw := id hw
  have hP : va_P (dC, dI) vwCl (va_pl L_11_1 f_11_1) H1 := hP
  have hD : va_D A (va_pl L_11_1 f_11_1) := p_gain hD1 hFc
  generalize H1 = H at hP hS ⊢
  refine W.widen (k := 2) (n := 602) (by decide) (by decide) ?_
  obtain ⟨fs_14, ⟨hL9, hf9, hn9⟩, hw⟩ := hw
  obtain ⟨kq9, hkq9⟩ := p_at hL9 hf9
  refine va_putF (D := (dC, dI)) (ci := 9) (v := .ref q_5) (C := RX8) (T := TX8) (N := 6) hx hb hts iw_X8_init_RX8 tyX8 tyX8_ok nmX8 hown hK hP hD hS kq9 hkq9 rfl 0 (by decide) (hts _ lk_X8_init_14) (fun _ h9 => h9) rfl hin rfl (tyX8_ok 0 (by decide)) rfl rfl hn9 dX8_init_14 (fun H locs hP2 hD2 hS => ?_)
  rw [p_set hD hL9 hf9 hkq9] at hP2 hD2
  obtain ⟨f_14, ef_14⟩ : ∃ y : pF, y = va_up f_11_1 a0 (.inr (9, fs_14.set 0 (.ref q_5))) := ⟨_, rfl⟩
  rw [← ef_14] at hP2 hD2
  have hw := hw f_14 ef_14
  have hP := hP2
  have hD := hD2
  refine lv_aload_n hx hb dX8_init_17 rfl (lv_at hl 0 rfl) ?_
  refine lv_bipush (v := 8) hx hb dX8_init_18 (by decide) ?_
  refine va_newq hx hb hown (hts _ lk_X8_init_7) hN.2.2.2.2.2.2.2.2.1 hK hP hD hS hA (by decide) rfl (by decide) (by decide) (by decide) dX8_init_20 (fun q_20 cA9 H hK9 hP2 hD2 hS => ?_)
  have hcA : cA9 = dA 3 := p_cA hK9 (t := 3) rfl
  subst hcA
  have hq9 := p_fresh hD2
  have hz9 := p_nz hB hT hD2
  rw [va_pl_push hq9] at hP2 hD2
  obtain ⟨L_20, eL_20⟩ : ∃ y : List Nat, y = L_11_1 ++ [q_20] := ⟨_, rfl⟩
  obtain ⟨f_20, ef_20⟩ : ∃ y : pF, y = va_up f_14 q_20 (.inl (dA 3, Int32.toNatClampNeg (8 : Int32), .inr (.inr (.inr (.inr (fun _ => none)))))) := ⟨_, rfl⟩
  have hw := hw q_20 hq9 hz9 L_20 f_20 eL_20 ef_20
  have hP : va_P (dC, dI) vwCl (va_pl L_20 f_20) H := by rw [eL_20, ef_20]; exact hP2
  have hD : va_D A (va_pl L_20 f_20) := by rw [eL_20, ef_20]; exact hD2
  refine W.widen (k := 3) (n := 610) (by decide) (by decide) ?_
  obtain ⟨fs_23, ⟨hL9, hf9, hn9⟩, hw⟩ := hw
  obtain ⟨kq9, hkq9⟩ := p_at hL9 hf9
  refine va_putF (D := (dC, dI)) (ci := 9) (v := .ref q_20) (C := RX8) (T := TX8) (N := 6) hx hb hts iw_X8_init_RX8 tyX8 tyX8_ok nmX8 hown hK hP hD hS kq9 hkq9 rfl 1 (by decide) (hts _ lk_X8_init_18) (fun _ h9 => h9) rfl hin rfl (tyX8_ok 1 (by decide)) rfl rfl hn9 dX8_init_23 (fun H locs hP2 hD2 hS => ?_)
  rw [p_set hD hL9 hf9 hkq9] at hP2 hD2
  obtain ⟨f_23, ef_23⟩ : ∃ y : pF, y = va_up f_20 a0 (.inr (9, fs_23.set 1 (.ref q_20))) := ⟨_, rfl⟩
  rw [← ef_23] at hP2 hD2
  have hw := hw f_23 ef_23
  have hP := hP2
  have hD := hD2
  refine lv_iconst (v := 0) hx hb dX8_init_26 (by decide) ?_
  refine lv_istore_n (lv' := [(1, .int (0 : Int32)), (0, .ref a0)]) hx hb dX8_init_27 rfl hl (by decide) rfl (fun ls hl => ?_)
  refine lv_iload_n hx hb dX8_init_28 rfl (lv_at hl 0 rfl) ?_
  refine lv_bipush (v := 8) hx hb dX8_init_29 (by decide) ?_
  refine lv_icmp_ge (tgt := 56) hx hb dX8_init_31 (by decide) (fun c9 => absurd c9 (by decide)) (fun _ => ?_)
  refine lv_aload_n hx hb dX8_init_34 rfl (lv_at hl 1 rfl) ?_
  obtain ⟨fs_35, g_35, ⟨hL9, hf9, hn9⟩, hw⟩ := hw
  refine va_get (D := (dC, dI)) (ci := 9) (v := .ref g_35) (C := RX8) (T := TX8) (N := 6) hx hb hts iw_X8_init_RX8 hown hK (p_one hP hL9 hf9) 0 rfl rfl 1 (by decide) (hts _ lk_X8_init_18) (fun _ h9 => h9) hn9 dX8_init_35 ?_
  refine lv_iload_n hx hb dX8_init_38 rfl (lv_at hl 0 rfl) ?_
  refine va_new (ci := 5) (fs := [.null, .int 0]) (C := RX4) (T := TX4) (N := 2) hx hb hts iw_X8_init_RX4 tyX4 tyX4_ok hown (hts _ lk_X8_init_7) (hts _ li_X8_init_RX4) (hts _ lz_X8_init_RX4) hK hP hD hS hA rfl (fun j hj => by rcases (show j = 0 ∨ j = 1 by omega) with rfl | rfl <;> rfl) (by decide) (by decide) dX8_init_39 (fun q_39 H hP2 hD2 hS => ?_)
  have hq9 := p_fresh hD2
  have hz9 := p_nz hB hT hD2
  rw [va_pl_push hq9] at hP2 hD2
  obtain ⟨L_39, eL_39⟩ : ∃ y : List Nat, y = L_20 ++ [q_39] := ⟨_, rfl⟩
  obtain ⟨f_39, ef_39⟩ : ∃ y : pF, y = va_up f_23 q_39 (.inr (5, [.null, .int 0])) := ⟨_, rfl⟩
  have hw := hw q_39 hq9 hz9 L_39 f_39 eL_39 ef_39
  have hP : va_P (dC, dI) vwCl (va_pl L_39 f_39) H := by rw [eL_39, ef_39]; exact hP2
  have hD : va_D A (va_pl L_39 f_39) := by rw [eL_39, ef_39]; exact hD2
  refine lv_dup hx hb dX8_init_42 rfl ?_
  refine lv_sipush (v := 600) hx hb dX8_init_43 (by decide) ?_
  have hFc := p_free hD hS hA
  refine va_callv (va_runI (As := [.int (600 : Int32)]) (rest := [.ref q_39, .int (0 : Int32), .ref g_35]) ⟨hx, hb, hml, hown, hts⟩ (c_X4_init l dC dI dA zz base L_39 f_39 H.size q_39 (600 : Int32) _ hw) (cwI 1 hts gX8_init_X4_init rfl rfl rfl (hts _ lz_X8_init_RX4) (hts _ lm_X8_init_11) (hts _ lim_X8_init_X4_init) rfl (by decide +kernel) ⟨by decide, by decide⟩) (pPreS [.ref q_39, .int (600 : Int32)] hK hP hD hS hB hz hN hT) rfl rfl hl.1 rfl (lv_room (Nat.le_of_ble_eq_true rfl)) dX8_init_46 ⟨by decide, by decide⟩) hS (fun q _ h => hFc q h) hFc (fun u t H1 locs ht hvm hw hB1 hz1 hk1 hS => ?_)
  obtain ⟨L_46_1, f_46_1⟩ := u
  obtain ⟨hP, -, hD1⟩ := hB1
  rw [ht] at hP
  have hw := id hw
  have hP : va_P (dC, dI) vwCl (va_pl L_46_1 f_46_1) H1 := hP
  have hD : va_D A (va_pl L_46_1 f_46_1) := p_gain hD1 hFc
  generalize H1 = H at hP hS ⊢
  refine W.widen (k := 5) (n := 1212) (by decide) (by decide) ?_
  obtain ⟨hO9, hw⟩ := hw
  obtain ⟨hV9, vs9, hv9⟩ := hO9
  obtain ⟨j9, hj9⟩ := p_at hV9 hv9
  obtain ⟨n_49, h_49, ⟨hL9, hf9, hn9⟩, hw⟩ := hw
  obtain ⟨kq9, hkq9⟩ := p_at hL9 hf9
  refine va_astq hx hb hK hP hD hS kq9 3 j9 5 hkq9 rfl hj9 rfl hn9 dX8_init_49 (fun H locs hP2 hD2 hS => ?_)
  rw [p_set hD hL9 hf9 hkq9] at hP2 hD2
  obtain ⟨f_49, ef_49⟩ : ∃ y : pF, y = va_up f_46_1 g_35 (.inl (dA 3, n_49, .inr (.inr (.inr (.inr (va_up h_49 (Int32.toNatClampNeg (0 : Int32)) (some q_39))))))) := ⟨_, rfl⟩
  rw [← ef_49] at hP2 hD2
  have hw := hw f_49 ef_49
  have hP := hP2
  have hD := hD2
  refine lv_iinc (v := 1) (lv' := [(1, .int (1 : Int32)), (0, .ref a0)]) hx hb dX8_init_50 hl (k := 0) rfl (by decide) (by decide) rfl (fun ls hl => ?_)
  refine lv_goto (tgt := 28) hx hb dX8_init_53 (by decide) ?_
  refine lv_iload_n hx hb dX8_init_28 rfl (lv_at hl 0 rfl) ?_
  refine lv_bipush (v := 8) hx hb dX8_init_29 (by decide) ?_
  refine lv_icmp_ge (tgt := 56) hx hb dX8_init_31 (by decide) (fun c9 => absurd c9 (by decide)) (fun _ => ?_)
  refine lv_aload_n hx hb dX8_init_34 rfl (lv_at hl 1 rfl) ?_
  obtain ⟨fs_35_1, g_35_1, ⟨hL9, hf9, hn9⟩, hw⟩ := hw
  refine va_get (D := (dC, dI)) (ci := 9) (v := .ref g_35_1) (C := RX8) (T := TX8) (N := 6) hx hb hts iw_X8_init_RX8 hown hK (p_one hP hL9 hf9) 0 rfl rfl 1 (by decide) (hts _ lk_X8_init_18) (fun _ h9 => h9) hn9 dX8_init_35 ?_
  refine lv_iload_n hx hb dX8_init_38 rfl (lv_at hl 0 rfl) ?_
  refine va_new (ci := 5) (fs := [.null, .int 0]) (C := RX4) (T := TX4) (N := 2) hx hb hts iw_X8_init_RX4 tyX4 tyX4_ok hown (hts _ lk_X8_init_7) (hts _ li_X8_init_RX4) (hts _ lz_X8_init_RX4) hK hP hD hS hA rfl (fun j hj => by rcases (show j = 0 ∨ j = 1 by omega) with rfl | rfl <;> rfl) (by decide) (by decide) dX8_init_39 (fun q_39_1 H hP2 hD2 hS => ?_)
  have hq9 := p_fresh hD2
  have hz9 := p_nz hB hT hD2
  rw [va_pl_push hq9] at hP2 hD2
  obtain ⟨L_39_1, eL_39_1⟩ : ∃ y : List Nat, y = L_46_1 ++ [q_39_1] := ⟨_, rfl⟩
  obtain ⟨f_39_1, ef_39_1⟩ : ∃ y : pF, y = va_up f_49 q_39_1 (.inr (5, [.null, .int 0])) := ⟨_, rfl⟩
  have hw := hw q_39_1 hq9 hz9 L_39_1 f_39_1 eL_39_1 ef_39_1
  have hP : va_P (dC, dI) vwCl (va_pl L_39_1 f_39_1) H := by rw [eL_39_1, ef_39_1]; exact hP2
  have hD : va_D A (va_pl L_39_1 f_39_1) := by rw [eL_39_1, ef_39_1]; exact hD2
  refine lv_dup hx hb dX8_init_42 rfl ?_
  refine lv_sipush (v := 600) hx hb dX8_init_43 (by decide) ?_
  have hFc := p_free hD hS hA
  refine va_callv (va_runI (As := [.int (600 : Int32)]) (rest := [.ref q_39_1, .int (1 : Int32), .ref g_35_1]) ⟨hx, hb, hml, hown, hts⟩ (c_X4_init l dC dI dA zz base L_39_1 f_39_1 H.size q_39_1 (600 : Int32) _ hw) (cwI 1 hts gX8_init_X4_init rfl rfl rfl (hts _ lz_X8_init_RX4) (hts _ lm_X8_init_11) (hts _ lim_X8_init_X4_init) rfl (by decide +kernel) ⟨by decide, by decide⟩) (pPreS [.ref q_39_1, .int (600 : Int32)] hK hP hD hS hB hz hN hT) rfl rfl hl.1 rfl (lv_room (Nat.le_of_ble_eq_true rfl)) dX8_init_46 ⟨by decide, by decide⟩) hS (fun q _ h => hFc q h) hFc (fun u t H1 locs ht hvm hw hB1 hz1 hk1 hS => ?_)
  obtain ⟨L_46_3, f_46_3⟩ := u
  obtain ⟨hP, -, hD1⟩ := hB1
  rw [ht] at hP
  have hw := id hw
  have hP : va_P (dC, dI) vwCl (va_pl L_46_3 f_46_3) H1 := hP
  have hD : va_D A (va_pl L_46_3 f_46_3) := p_gain hD1 hFc
  generalize H1 = H at hP hS ⊢
  refine W.widen (k := 7) (n := 1814) (by decide) (by decide) ?_
  obtain ⟨hO9, hw⟩ := hw
  obtain ⟨hV9, vs9, hv9⟩ := hO9
  obtain ⟨j9, hj9⟩ := p_at hV9 hv9
  obtain ⟨n_49_1, h_49_1, ⟨hL9, hf9, hn9⟩, hw⟩ := hw
  obtain ⟨kq9, hkq9⟩ := p_at hL9 hf9
  refine va_astq hx hb hK hP hD hS kq9 3 j9 5 hkq9 rfl hj9 rfl hn9 dX8_init_49 (fun H locs hP2 hD2 hS => ?_)
  rw [p_set hD hL9 hf9 hkq9] at hP2 hD2
  obtain ⟨f_49_1, ef_49_1⟩ : ∃ y : pF, y = va_up f_46_3 g_35_1 (.inl (dA 3, n_49_1, .inr (.inr (.inr (.inr (va_up h_49_1 (Int32.toNatClampNeg (1 : Int32)) (some q_39_1))))))) := ⟨_, rfl⟩
  rw [← ef_49_1] at hP2 hD2
  have hw := hw f_49_1 ef_49_1
  have hP := hP2
  have hD := hD2
  refine lv_iinc (v := 2) (lv' := [(1, .int (2 : Int32)), (0, .ref a0)]) hx hb dX8_init_50 hl (k := 0) rfl (by decide) (by decide) rfl (fun ls hl => ?_)
  refine lv_goto (tgt := 28) hx hb dX8_init_53 (by decide) ?_
  refine lv_iload_n hx hb dX8_init_28 rfl (lv_at hl 0 rfl) ?_
  refine lv_bipush (v := 8) hx hb dX8_init_29 (by decide) ?_
  refine lv_icmp_ge (tgt := 56) hx hb dX8_init_31 (by decide) (fun c9 => absurd c9 (by decide)) (fun _ => ?_)
  refine lv_aload_n hx hb dX8_init_34 rfl (lv_at hl 1 rfl) ?_
  obtain ⟨fs_35_2, g_35_2, ⟨hL9, hf9, hn9⟩, hw⟩ := hw
  refine va_get (D := (dC, dI)) (ci := 9) (v := .ref g_35_2) (C := RX8) (T := TX8) (N := 6) hx hb hts iw_X8_init_RX8 hown hK (p_one hP hL9 hf9) 0 rfl rfl 1 (by decide) (hts _ lk_X8_init_18) (fun _ h9 => h9) hn9 dX8_init_35 ?_
  refine lv_iload_n hx hb dX8_init_38 rfl (lv_at hl 0 rfl) ?_
  refine va_new (ci := 5) (fs := [.null, .int 0]) (C := RX4) (T := TX4) (N := 2) hx hb hts iw_X8_init_RX4 tyX4 tyX4_ok hown (hts _ lk_X8_init_7) (hts _ li_X8_init_RX4) (hts _ lz_X8_init_RX4) hK hP hD hS hA rfl (fun j hj => by rcases (show j = 0 ∨ j = 1 by omega) with rfl | rfl <;> rfl) (by decide) (by decide) dX8_init_39 (fun q_39_2 H hP2 hD2 hS => ?_)
  have hq9 := p_fresh hD2
  have hz9 := p_nz hB hT hD2
  rw [va_pl_push hq9] at hP2 hD2
  obtain ⟨L_39_2, eL_39_2⟩ : ∃ y : List Nat, y = L_46_3 ++ [q_39_2] := ⟨_, rfl⟩
  obtain ⟨f_39_2, ef_39_2⟩ : ∃ y : pF, y = va_up f_49_1 q_39_2 (.inr (5, [.null, .int 0])) := ⟨_, rfl⟩
  have hw := hw q_39_2 hq9 hz9 L_39_2 f_39_2 eL_39_2 ef_39_2
  have hP : va_P (dC, dI) vwCl (va_pl L_39_2 f_39_2) H := by rw [eL_39_2, ef_39_2]; exact hP2
  have hD : va_D A (va_pl L_39_2 f_39_2) := by rw [eL_39_2, ef_39_2]; exact hD2
  refine lv_dup hx hb dX8_init_42 rfl ?_
  refine lv_sipush (v := 600) hx hb dX8_init_43 (by decide) ?_
  have hFc := p_free hD hS hA
  refine va_callv (va_runI (As := [.int (600 : Int32)]) (rest := [.ref q_39_2, .int (2 : Int32), .ref g_35_2]) ⟨hx, hb, hml, hown, hts⟩ (c_X4_init l dC dI dA zz base L_39_2 f_39_2 H.size q_39_2 (600 : Int32) _ hw) (cwI 1 hts gX8_init_X4_init rfl rfl rfl (hts _ lz_X8_init_RX4) (hts _ lm_X8_init_11) (hts _ lim_X8_init_X4_init) rfl (by decide +kernel) ⟨by decide, by decide⟩) (pPreS [.ref q_39_2, .int (600 : Int32)] hK hP hD hS hB hz hN hT) rfl rfl hl.1 rfl (lv_room (Nat.le_of_ble_eq_true rfl)) dX8_init_46 ⟨by decide, by decide⟩) hS (fun q _ h => hFc q h) hFc (fun u t H1 locs ht hvm hw hB1 hz1 hk1 hS => ?_)
  obtain ⟨L_46_5, f_46_5⟩ := u
  obtain ⟨hP, -, hD1⟩ := hB1
  rw [ht] at hP
  have hw := id hw
  have hP : va_P (dC, dI) vwCl (va_pl L_46_5 f_46_5) H1 := hP
  have hD : va_D A (va_pl L_46_5 f_46_5) := p_gain hD1 hFc
  generalize H1 = H at hP hS ⊢
  refine W.widen (k := 9) (n := 2416) (by decide) (by decide) ?_
  obtain ⟨hO9, hw⟩ := hw
  obtain ⟨hV9, vs9, hv9⟩ := hO9
  obtain ⟨j9, hj9⟩ := p_at hV9 hv9
  obtain ⟨n_49_2, h_49_2, ⟨hL9, hf9, hn9⟩, hw⟩ := hw
  obtain ⟨kq9, hkq9⟩ := p_at hL9 hf9
  refine va_astq hx hb hK hP hD hS kq9 3 j9 5 hkq9 rfl hj9 rfl hn9 dX8_init_49 (fun H locs hP2 hD2 hS => ?_)
  rw [p_set hD hL9 hf9 hkq9] at hP2 hD2
  obtain ⟨f_49_2, ef_49_2⟩ : ∃ y : pF, y = va_up f_46_5 g_35_2 (.inl (dA 3, n_49_2, .inr (.inr (.inr (.inr (va_up h_49_2 (Int32.toNatClampNeg (2 : Int32)) (some q_39_2))))))) := ⟨_, rfl⟩
  rw [← ef_49_2] at hP2 hD2
  have hw := hw f_49_2 ef_49_2
  have hP := hP2
  have hD := hD2
  refine lv_iinc (v := 3) (lv' := [(1, .int (3 : Int32)), (0, .ref a0)]) hx hb dX8_init_50 hl (k := 0) rfl (by decide) (by decide) rfl (fun ls hl => ?_)
  refine lv_goto (tgt := 28) hx hb dX8_init_53 (by decide) ?_
  refine lv_iload_n hx hb dX8_init_28 rfl (lv_at hl 0 rfl) ?_
  refine lv_bipush (v := 8) hx hb dX8_init_29 (by decide) ?_
  refine lv_icmp_ge (tgt := 56) hx hb dX8_init_31 (by decide) (fun c9 => absurd c9 (by decide)) (fun _ => ?_)
  refine lv_aload_n hx hb dX8_init_34 rfl (lv_at hl 1 rfl) ?_
  obtain ⟨fs_35_3, g_35_3, ⟨hL9, hf9, hn9⟩, hw⟩ := hw
  refine va_get (D := (dC, dI)) (ci := 9) (v := .ref g_35_3) (C := RX8) (T := TX8) (N := 6) hx hb hts iw_X8_init_RX8 hown hK (p_one hP hL9 hf9) 0 rfl rfl 1 (by decide) (hts _ lk_X8_init_18) (fun _ h9 => h9) hn9 dX8_init_35 ?_
  refine lv_iload_n hx hb dX8_init_38 rfl (lv_at hl 0 rfl) ?_
  refine va_new (ci := 5) (fs := [.null, .int 0]) (C := RX4) (T := TX4) (N := 2) hx hb hts iw_X8_init_RX4 tyX4 tyX4_ok hown (hts _ lk_X8_init_7) (hts _ li_X8_init_RX4) (hts _ lz_X8_init_RX4) hK hP hD hS hA rfl (fun j hj => by rcases (show j = 0 ∨ j = 1 by omega) with rfl | rfl <;> rfl) (by decide) (by decide) dX8_init_39 (fun q_39_3 H hP2 hD2 hS => ?_)
  have hq9 := p_fresh hD2
  have hz9 := p_nz hB hT hD2
  rw [va_pl_push hq9] at hP2 hD2
  obtain ⟨L_39_3, eL_39_3⟩ : ∃ y : List Nat, y = L_46_5 ++ [q_39_3] := ⟨_, rfl⟩
  obtain ⟨f_39_3, ef_39_3⟩ : ∃ y : pF, y = va_up f_49_2 q_39_3 (.inr (5, [.null, .int 0])) := ⟨_, rfl⟩
  have hw := hw q_39_3 hq9 hz9 L_39_3 f_39_3 eL_39_3 ef_39_3
  have hP : va_P (dC, dI) vwCl (va_pl L_39_3 f_39_3) H := by rw [eL_39_3, ef_39_3]; exact hP2
  have hD : va_D A (va_pl L_39_3 f_39_3) := by rw [eL_39_3, ef_39_3]; exact hD2
  refine lv_dup hx hb dX8_init_42 rfl ?_
  refine lv_sipush (v := 600) hx hb dX8_init_43 (by decide) ?_
  have hFc := p_free hD hS hA
  refine va_callv (va_runI (As := [.int (600 : Int32)]) (rest := [.ref q_39_3, .int (3 : Int32), .ref g_35_3]) ⟨hx, hb, hml, hown, hts⟩ (c_X4_init l dC dI dA zz base L_39_3 f_39_3 H.size q_39_3 (600 : Int32) _ hw) (cwI 1 hts gX8_init_X4_init rfl rfl rfl (hts _ lz_X8_init_RX4) (hts _ lm_X8_init_11) (hts _ lim_X8_init_X4_init) rfl (by decide +kernel) ⟨by decide, by decide⟩) (pPreS [.ref q_39_3, .int (600 : Int32)] hK hP hD hS hB hz hN hT) rfl rfl hl.1 rfl (lv_room (Nat.le_of_ble_eq_true rfl)) dX8_init_46 ⟨by decide, by decide⟩) hS (fun q _ h => hFc q h) hFc (fun u t H1 locs ht hvm hw hB1 hz1 hk1 hS => ?_)
  obtain ⟨L_46_7, f_46_7⟩ := u
  obtain ⟨hP, -, hD1⟩ := hB1
  rw [ht] at hP
  have hw := id hw
  have hP : va_P (dC, dI) vwCl (va_pl L_46_7 f_46_7) H1 := hP
  have hD : va_D A (va_pl L_46_7 f_46_7) := p_gain hD1 hFc
  generalize H1 = H at hP hS ⊢
  refine W.widen (k := 11) (n := 3018) (by decide) (by decide) ?_
  obtain ⟨hO9, hw⟩ := hw
  obtain ⟨hV9, vs9, hv9⟩ := hO9
  obtain ⟨j9, hj9⟩ := p_at hV9 hv9
  obtain ⟨n_49_3, h_49_3, ⟨hL9, hf9, hn9⟩, hw⟩ := hw
  obtain ⟨kq9, hkq9⟩ := p_at hL9 hf9
  refine va_astq hx hb hK hP hD hS kq9 3 j9 5 hkq9 rfl hj9 rfl hn9 dX8_init_49 (fun H locs hP2 hD2 hS => ?_)
  rw [p_set hD hL9 hf9 hkq9] at hP2 hD2
  obtain ⟨f_49_3, ef_49_3⟩ : ∃ y : pF, y = va_up f_46_7 g_35_3 (.inl (dA 3, n_49_3, .inr (.inr (.inr (.inr (va_up h_49_3 (Int32.toNatClampNeg (3 : Int32)) (some q_39_3))))))) := ⟨_, rfl⟩
  rw [← ef_49_3] at hP2 hD2
  have hw := hw f_49_3 ef_49_3
  have hP := hP2
  have hD := hD2
  refine lv_iinc (v := 4) (lv' := [(1, .int (4 : Int32)), (0, .ref a0)]) hx hb dX8_init_50 hl (k := 0) rfl (by decide) (by decide) rfl (fun ls hl => ?_)
  refine lv_goto (tgt := 28) hx hb dX8_init_53 (by decide) ?_
  refine lv_iload_n hx hb dX8_init_28 rfl (lv_at hl 0 rfl) ?_
  refine lv_bipush (v := 8) hx hb dX8_init_29 (by decide) ?_
  refine lv_icmp_ge (tgt := 56) hx hb dX8_init_31 (by decide) (fun c9 => absurd c9 (by decide)) (fun _ => ?_)
  refine lv_aload_n hx hb dX8_init_34 rfl (lv_at hl 1 rfl) ?_
  obtain ⟨fs_35_4, g_35_4, ⟨hL9, hf9, hn9⟩, hw⟩ := hw
  refine va_get (D := (dC, dI)) (ci := 9) (v := .ref g_35_4) (C := RX8) (T := TX8) (N := 6) hx hb hts iw_X8_init_RX8 hown hK (p_one hP hL9 hf9) 0 rfl rfl 1 (by decide) (hts _ lk_X8_init_18) (fun _ h9 => h9) hn9 dX8_init_35 ?_
  refine lv_iload_n hx hb dX8_init_38 rfl (lv_at hl 0 rfl) ?_
  refine va_new (ci := 5) (fs := [.null, .int 0]) (C := RX4) (T := TX4) (N := 2) hx hb hts iw_X8_init_RX4 tyX4 tyX4_ok hown (hts _ lk_X8_init_7) (hts _ li_X8_init_RX4) (hts _ lz_X8_init_RX4) hK hP hD hS hA rfl (fun j hj => by rcases (show j = 0 ∨ j = 1 by omega) with rfl | rfl <;> rfl) (by decide) (by decide) dX8_init_39 (fun q_39_4 H hP2 hD2 hS => ?_)
  have hq9 := p_fresh hD2
  have hz9 := p_nz hB hT hD2
  rw [va_pl_push hq9] at hP2 hD2
  obtain ⟨L_39_4, eL_39_4⟩ : ∃ y : List Nat, y = L_46_7 ++ [q_39_4] := ⟨_, rfl⟩
  obtain ⟨f_39_4, ef_39_4⟩ : ∃ y : pF, y = va_up f_49_3 q_39_4 (.inr (5, [.null, .int 0])) := ⟨_, rfl⟩
  have hw := hw q_39_4 hq9 hz9 L_39_4 f_39_4 eL_39_4 ef_39_4
  have hP : va_P (dC, dI) vwCl (va_pl L_39_4 f_39_4) H := by rw [eL_39_4, ef_39_4]; exact hP2
  have hD : va_D A (va_pl L_39_4 f_39_4) := by rw [eL_39_4, ef_39_4]; exact hD2
  refine lv_dup hx hb dX8_init_42 rfl ?_
  refine lv_sipush (v := 600) hx hb dX8_init_43 (by decide) ?_
  have hFc := p_free hD hS hA
  refine va_callv (va_runI (As := [.int (600 : Int32)]) (rest := [.ref q_39_4, .int (4 : Int32), .ref g_35_4]) ⟨hx, hb, hml, hown, hts⟩ (c_X4_init l dC dI dA zz base L_39_4 f_39_4 H.size q_39_4 (600 : Int32) _ hw) (cwI 1 hts gX8_init_X4_init rfl rfl rfl (hts _ lz_X8_init_RX4) (hts _ lm_X8_init_11) (hts _ lim_X8_init_X4_init) rfl (by decide +kernel) ⟨by decide, by decide⟩) (pPreS [.ref q_39_4, .int (600 : Int32)] hK hP hD hS hB hz hN hT) rfl rfl hl.1 rfl (lv_room (Nat.le_of_ble_eq_true rfl)) dX8_init_46 ⟨by decide, by decide⟩) hS (fun q _ h => hFc q h) hFc (fun u t H1 locs ht hvm hw hB1 hz1 hk1 hS => ?_)
  obtain ⟨L_46_9, f_46_9⟩ := u
  obtain ⟨hP, -, hD1⟩ := hB1
  rw [ht] at hP
  have hw := id hw
  have hP : va_P (dC, dI) vwCl (va_pl L_46_9 f_46_9) H1 := hP
  have hD : va_D A (va_pl L_46_9 f_46_9) := p_gain hD1 hFc
  generalize H1 = H at hP hS ⊢
  refine W.widen (k := 13) (n := 3620) (by decide) (by decide) ?_
  obtain ⟨hO9, hw⟩ := hw
  obtain ⟨hV9, vs9, hv9⟩ := hO9
  obtain ⟨j9, hj9⟩ := p_at hV9 hv9
  obtain ⟨n_49_4, h_49_4, ⟨hL9, hf9, hn9⟩, hw⟩ := hw
  obtain ⟨kq9, hkq9⟩ := p_at hL9 hf9
  refine va_astq hx hb hK hP hD hS kq9 3 j9 5 hkq9 rfl hj9 rfl hn9 dX8_init_49 (fun H locs hP2 hD2 hS => ?_)
  rw [p_set hD hL9 hf9 hkq9] at hP2 hD2
  obtain ⟨f_49_4, ef_49_4⟩ : ∃ y : pF, y = va_up f_46_9 g_35_4 (.inl (dA 3, n_49_4, .inr (.inr (.inr (.inr (va_up h_49_4 (Int32.toNatClampNeg (4 : Int32)) (some q_39_4))))))) := ⟨_, rfl⟩
  rw [← ef_49_4] at hP2 hD2
  have hw := hw f_49_4 ef_49_4
  have hP := hP2
  have hD := hD2
  refine lv_iinc (v := 5) (lv' := [(1, .int (5 : Int32)), (0, .ref a0)]) hx hb dX8_init_50 hl (k := 0) rfl (by decide) (by decide) rfl (fun ls hl => ?_)
  refine lv_goto (tgt := 28) hx hb dX8_init_53 (by decide) ?_
  refine lv_iload_n hx hb dX8_init_28 rfl (lv_at hl 0 rfl) ?_
  refine lv_bipush (v := 8) hx hb dX8_init_29 (by decide) ?_
  refine lv_icmp_ge (tgt := 56) hx hb dX8_init_31 (by decide) (fun c9 => absurd c9 (by decide)) (fun _ => ?_)
  refine lv_aload_n hx hb dX8_init_34 rfl (lv_at hl 1 rfl) ?_
  obtain ⟨fs_35_5, g_35_5, ⟨hL9, hf9, hn9⟩, hw⟩ := hw
  refine va_get (D := (dC, dI)) (ci := 9) (v := .ref g_35_5) (C := RX8) (T := TX8) (N := 6) hx hb hts iw_X8_init_RX8 hown hK (p_one hP hL9 hf9) 0 rfl rfl 1 (by decide) (hts _ lk_X8_init_18) (fun _ h9 => h9) hn9 dX8_init_35 ?_
  refine lv_iload_n hx hb dX8_init_38 rfl (lv_at hl 0 rfl) ?_
  refine va_new (ci := 5) (fs := [.null, .int 0]) (C := RX4) (T := TX4) (N := 2) hx hb hts iw_X8_init_RX4 tyX4 tyX4_ok hown (hts _ lk_X8_init_7) (hts _ li_X8_init_RX4) (hts _ lz_X8_init_RX4) hK hP hD hS hA rfl (fun j hj => by rcases (show j = 0 ∨ j = 1 by omega) with rfl | rfl <;> rfl) (by decide) (by decide) dX8_init_39 (fun q_39_5 H hP2 hD2 hS => ?_)
  have hq9 := p_fresh hD2
  have hz9 := p_nz hB hT hD2
  rw [va_pl_push hq9] at hP2 hD2
  obtain ⟨L_39_5, eL_39_5⟩ : ∃ y : List Nat, y = L_46_9 ++ [q_39_5] := ⟨_, rfl⟩
  obtain ⟨f_39_5, ef_39_5⟩ : ∃ y : pF, y = va_up f_49_4 q_39_5 (.inr (5, [.null, .int 0])) := ⟨_, rfl⟩
  have hw := hw q_39_5 hq9 hz9 L_39_5 f_39_5 eL_39_5 ef_39_5
  have hP : va_P (dC, dI) vwCl (va_pl L_39_5 f_39_5) H := by rw [eL_39_5, ef_39_5]; exact hP2
  have hD : va_D A (va_pl L_39_5 f_39_5) := by rw [eL_39_5, ef_39_5]; exact hD2
  refine lv_dup hx hb dX8_init_42 rfl ?_
  refine lv_sipush (v := 600) hx hb dX8_init_43 (by decide) ?_
  have hFc := p_free hD hS hA
  refine va_callv (va_runI (As := [.int (600 : Int32)]) (rest := [.ref q_39_5, .int (5 : Int32), .ref g_35_5]) ⟨hx, hb, hml, hown, hts⟩ (c_X4_init l dC dI dA zz base L_39_5 f_39_5 H.size q_39_5 (600 : Int32) _ hw) (cwI 1 hts gX8_init_X4_init rfl rfl rfl (hts _ lz_X8_init_RX4) (hts _ lm_X8_init_11) (hts _ lim_X8_init_X4_init) rfl (by decide +kernel) ⟨by decide, by decide⟩) (pPreS [.ref q_39_5, .int (600 : Int32)] hK hP hD hS hB hz hN hT) rfl rfl hl.1 rfl (lv_room (Nat.le_of_ble_eq_true rfl)) dX8_init_46 ⟨by decide, by decide⟩) hS (fun q _ h => hFc q h) hFc (fun u t H1 locs ht hvm hw hB1 hz1 hk1 hS => ?_)
  obtain ⟨L_46_11, f_46_11⟩ := u
  obtain ⟨hP, -, hD1⟩ := hB1
  rw [ht] at hP
  have hw := id hw
  have hP : va_P (dC, dI) vwCl (va_pl L_46_11 f_46_11) H1 := hP
  have hD : va_D A (va_pl L_46_11 f_46_11) := p_gain hD1 hFc
  generalize H1 = H at hP hS ⊢
  refine W.widen (k := 15) (n := 4222) (by decide) (by decide) ?_
  obtain ⟨hO9, hw⟩ := hw
  obtain ⟨hV9, vs9, hv9⟩ := hO9
  obtain ⟨j9, hj9⟩ := p_at hV9 hv9
  obtain ⟨n_49_5, h_49_5, ⟨hL9, hf9, hn9⟩, hw⟩ := hw
  obtain ⟨kq9, hkq9⟩ := p_at hL9 hf9
  refine va_astq hx hb hK hP hD hS kq9 3 j9 5 hkq9 rfl hj9 rfl hn9 dX8_init_49 (fun H locs hP2 hD2 hS => ?_)
  rw [p_set hD hL9 hf9 hkq9] at hP2 hD2
  obtain ⟨f_49_5, ef_49_5⟩ : ∃ y : pF, y = va_up f_46_11 g_35_5 (.inl (dA 3, n_49_5, .inr (.inr (.inr (.inr (va_up h_49_5 (Int32.toNatClampNeg (5 : Int32)) (some q_39_5))))))) := ⟨_, rfl⟩
  rw [← ef_49_5] at hP2 hD2
  have hw := hw f_49_5 ef_49_5
  have hP := hP2
  have hD := hD2
  refine lv_iinc (v := 6) (lv' := [(1, .int (6 : Int32)), (0, .ref a0)]) hx hb dX8_init_50 hl (k := 0) rfl (by decide) (by decide) rfl (fun ls hl => ?_)
  refine lv_goto (tgt := 28) hx hb dX8_init_53 (by decide) ?_
  refine lv_iload_n hx hb dX8_init_28 rfl (lv_at hl 0 rfl) ?_
  refine lv_bipush (v := 8) hx hb dX8_init_29 (by decide) ?_
  refine lv_icmp_ge (tgt := 56) hx hb dX8_init_31 (by decide) (fun c9 => absurd c9 (by decide)) (fun _ => ?_)
  refine lv_aload_n hx hb dX8_init_34 rfl (lv_at hl 1 rfl) ?_
  obtain ⟨fs_35_6, g_35_6, ⟨hL9, hf9, hn9⟩, hw⟩ := hw
  refine va_get (D := (dC, dI)) (ci := 9) (v := .ref g_35_6) (C := RX8) (T := TX8) (N := 6) hx hb hts iw_X8_init_RX8 hown hK (p_one hP hL9 hf9) 0 rfl rfl 1 (by decide) (hts _ lk_X8_init_18) (fun _ h9 => h9) hn9 dX8_init_35 ?_
  refine lv_iload_n hx hb dX8_init_38 rfl (lv_at hl 0 rfl) ?_
  refine va_new (ci := 5) (fs := [.null, .int 0]) (C := RX4) (T := TX4) (N := 2) hx hb hts iw_X8_init_RX4 tyX4 tyX4_ok hown (hts _ lk_X8_init_7) (hts _ li_X8_init_RX4) (hts _ lz_X8_init_RX4) hK hP hD hS hA rfl (fun j hj => by rcases (show j = 0 ∨ j = 1 by omega) with rfl | rfl <;> rfl) (by decide) (by decide) dX8_init_39 (fun q_39_6 H hP2 hD2 hS => ?_)
  have hq9 := p_fresh hD2
  have hz9 := p_nz hB hT hD2
  rw [va_pl_push hq9] at hP2 hD2
  obtain ⟨L_39_6, eL_39_6⟩ : ∃ y : List Nat, y = L_46_11 ++ [q_39_6] := ⟨_, rfl⟩
  obtain ⟨f_39_6, ef_39_6⟩ : ∃ y : pF, y = va_up f_49_5 q_39_6 (.inr (5, [.null, .int 0])) := ⟨_, rfl⟩
  have hw := hw q_39_6 hq9 hz9 L_39_6 f_39_6 eL_39_6 ef_39_6
  have hP : va_P (dC, dI) vwCl (va_pl L_39_6 f_39_6) H := by rw [eL_39_6, ef_39_6]; exact hP2
  have hD : va_D A (va_pl L_39_6 f_39_6) := by rw [eL_39_6, ef_39_6]; exact hD2
  refine lv_dup hx hb dX8_init_42 rfl ?_
  refine lv_sipush (v := 600) hx hb dX8_init_43 (by decide) ?_
  have hFc := p_free hD hS hA
  refine va_callv (va_runI (As := [.int (600 : Int32)]) (rest := [.ref q_39_6, .int (6 : Int32), .ref g_35_6]) ⟨hx, hb, hml, hown, hts⟩ (c_X4_init l dC dI dA zz base L_39_6 f_39_6 H.size q_39_6 (600 : Int32) _ hw) (cwI 1 hts gX8_init_X4_init rfl rfl rfl (hts _ lz_X8_init_RX4) (hts _ lm_X8_init_11) (hts _ lim_X8_init_X4_init) rfl (by decide +kernel) ⟨by decide, by decide⟩) (pPreS [.ref q_39_6, .int (600 : Int32)] hK hP hD hS hB hz hN hT) rfl rfl hl.1 rfl (lv_room (Nat.le_of_ble_eq_true rfl)) dX8_init_46 ⟨by decide, by decide⟩) hS (fun q _ h => hFc q h) hFc (fun u t H1 locs ht hvm hw hB1 hz1 hk1 hS => ?_)
  obtain ⟨L_46_13, f_46_13⟩ := u
  obtain ⟨hP, -, hD1⟩ := hB1
  rw [ht] at hP
  have hw := id hw
  have hP : va_P (dC, dI) vwCl (va_pl L_46_13 f_46_13) H1 := hP
  have hD : va_D A (va_pl L_46_13 f_46_13) := p_gain hD1 hFc
  generalize H1 = H at hP hS ⊢
  refine W.widen (k := 17) (n := 4824) (by decide) (by decide) ?_
  obtain ⟨hO9, hw⟩ := hw
  obtain ⟨hV9, vs9, hv9⟩ := hO9
  obtain ⟨j9, hj9⟩ := p_at hV9 hv9
  obtain ⟨n_49_6, h_49_6, ⟨hL9, hf9, hn9⟩, hw⟩ := hw
  obtain ⟨kq9, hkq9⟩ := p_at hL9 hf9
  refine va_astq hx hb hK hP hD hS kq9 3 j9 5 hkq9 rfl hj9 rfl hn9 dX8_init_49 (fun H locs hP2 hD2 hS => ?_)
  rw [p_set hD hL9 hf9 hkq9] at hP2 hD2
  obtain ⟨f_49_6, ef_49_6⟩ : ∃ y : pF, y = va_up f_46_13 g_35_6 (.inl (dA 3, n_49_6, .inr (.inr (.inr (.inr (va_up h_49_6 (Int32.toNatClampNeg (6 : Int32)) (some q_39_6))))))) := ⟨_, rfl⟩
  rw [← ef_49_6] at hP2 hD2
  have hw := hw f_49_6 ef_49_6
  have hP := hP2
  have hD := hD2
  refine lv_iinc (v := 7) (lv' := [(1, .int (7 : Int32)), (0, .ref a0)]) hx hb dX8_init_50 hl (k := 0) rfl (by decide) (by decide) rfl (fun ls hl => ?_)
  refine lv_goto (tgt := 28) hx hb dX8_init_53 (by decide) ?_
  refine lv_iload_n hx hb dX8_init_28 rfl (lv_at hl 0 rfl) ?_
  refine lv_bipush (v := 8) hx hb dX8_init_29 (by decide) ?_
  refine lv_icmp_ge (tgt := 56) hx hb dX8_init_31 (by decide) (fun c9 => absurd c9 (by decide)) (fun _ => ?_)
  refine lv_aload_n hx hb dX8_init_34 rfl (lv_at hl 1 rfl) ?_
  obtain ⟨fs_35_7, g_35_7, ⟨hL9, hf9, hn9⟩, hw⟩ := hw
  refine va_get (D := (dC, dI)) (ci := 9) (v := .ref g_35_7) (C := RX8) (T := TX8) (N := 6) hx hb hts iw_X8_init_RX8 hown hK (p_one hP hL9 hf9) 0 rfl rfl 1 (by decide) (hts _ lk_X8_init_18) (fun _ h9 => h9) hn9 dX8_init_35 ?_
  refine lv_iload_n hx hb dX8_init_38 rfl (lv_at hl 0 rfl) ?_
  refine va_new (ci := 5) (fs := [.null, .int 0]) (C := RX4) (T := TX4) (N := 2) hx hb hts iw_X8_init_RX4 tyX4 tyX4_ok hown (hts _ lk_X8_init_7) (hts _ li_X8_init_RX4) (hts _ lz_X8_init_RX4) hK hP hD hS hA rfl (fun j hj => by rcases (show j = 0 ∨ j = 1 by omega) with rfl | rfl <;> rfl) (by decide) (by decide) dX8_init_39 (fun q_39_7 H hP2 hD2 hS => ?_)
  have hq9 := p_fresh hD2
  have hz9 := p_nz hB hT hD2
  rw [va_pl_push hq9] at hP2 hD2
  obtain ⟨L_39_7, eL_39_7⟩ : ∃ y : List Nat, y = L_46_13 ++ [q_39_7] := ⟨_, rfl⟩
  obtain ⟨f_39_7, ef_39_7⟩ : ∃ y : pF, y = va_up f_49_6 q_39_7 (.inr (5, [.null, .int 0])) := ⟨_, rfl⟩
  have hw := hw q_39_7 hq9 hz9 L_39_7 f_39_7 eL_39_7 ef_39_7
  have hP : va_P (dC, dI) vwCl (va_pl L_39_7 f_39_7) H := by rw [eL_39_7, ef_39_7]; exact hP2
  have hD : va_D A (va_pl L_39_7 f_39_7) := by rw [eL_39_7, ef_39_7]; exact hD2
  refine lv_dup hx hb dX8_init_42 rfl ?_
  refine lv_sipush (v := 600) hx hb dX8_init_43 (by decide) ?_
  have hFc := p_free hD hS hA
  refine va_callv (va_runI (As := [.int (600 : Int32)]) (rest := [.ref q_39_7, .int (7 : Int32), .ref g_35_7]) ⟨hx, hb, hml, hown, hts⟩ (c_X4_init l dC dI dA zz base L_39_7 f_39_7 H.size q_39_7 (600 : Int32) _ hw) (cwI 1 hts gX8_init_X4_init rfl rfl rfl (hts _ lz_X8_init_RX4) (hts _ lm_X8_init_11) (hts _ lim_X8_init_X4_init) rfl (by decide +kernel) ⟨by decide, by decide⟩) (pPreS [.ref q_39_7, .int (600 : Int32)] hK hP hD hS hB hz hN hT) rfl rfl hl.1 rfl (lv_room (Nat.le_of_ble_eq_true rfl)) dX8_init_46 ⟨by decide, by decide⟩) hS (fun q _ h => hFc q h) hFc (fun u t H1 locs ht hvm hw hB1 hz1 hk1 hS => ?_)
  obtain ⟨L_46_15, f_46_15⟩ := u
  obtain ⟨hP, -, hD1⟩ := hB1
  rw [ht] at hP
  have hw := id hw
  have hP : va_P (dC, dI) vwCl (va_pl L_46_15 f_46_15) H1 := hP
  have hD : va_D A (va_pl L_46_15 f_46_15) := p_gain hD1 hFc
  generalize H1 = H at hP hS ⊢
  refine W.widen (k := 19) (n := 5426) (by decide) (by decide) ?_
  obtain ⟨hO9, hw⟩ := hw
  obtain ⟨hV9, vs9, hv9⟩ := hO9
  obtain ⟨j9, hj9⟩ := p_at hV9 hv9
  obtain ⟨n_49_7, h_49_7, ⟨hL9, hf9, hn9⟩, hw⟩ := hw
  obtain ⟨kq9, hkq9⟩ := p_at hL9 hf9
  refine va_astq hx hb hK hP hD hS kq9 3 j9 5 hkq9 rfl hj9 rfl hn9 dX8_init_49 (fun H locs hP2 hD2 hS => ?_)
  rw [p_set hD hL9 hf9 hkq9] at hP2 hD2
  obtain ⟨f_49_7, ef_49_7⟩ : ∃ y : pF, y = va_up f_46_15 g_35_7 (.inl (dA 3, n_49_7, .inr (.inr (.inr (.inr (va_up h_49_7 (Int32.toNatClampNeg (7 : Int32)) (some q_39_7))))))) := ⟨_, rfl⟩
  rw [← ef_49_7] at hP2 hD2
  have hw := hw f_49_7 ef_49_7
  have hP := hP2
  have hD := hD2
  refine lv_iinc (v := 8) (lv' := [(1, .int (8 : Int32)), (0, .ref a0)]) hx hb dX8_init_50 hl (k := 0) rfl (by decide) (by decide) rfl (fun ls hl => ?_)
  refine lv_goto (tgt := 28) hx hb dX8_init_53 (by decide) ?_
  refine lv_iload_n hx hb dX8_init_28 rfl (lv_at hl 0 rfl) ?_
  refine lv_bipush (v := 8) hx hb dX8_init_29 (by decide) ?_
  refine lv_icmp_ge (tgt := 56) hx hb dX8_init_31 (by decide) (fun _ => ?_) (fun c9 => absurd (by decide) c9)
  refine lv_aload_n hx hb dX8_init_56 rfl (lv_at hl 1 rfl) ?_
  refine va_new (ci := 2) (fs := [.null, .null, .null]) (C := RX1) (T := TX1) (N := 3) hx hb hts iw_X8_init_RX1 tyX1 tyX1_ok hown (hts _ lk_X8_init_22) (hts _ li_X8_init_RX1) (hts _ lz_X8_init_RX1) hK hP hD hS hA rfl (fun j hj => by rcases (show j = 0 ∨ j = 1 ∨ j = 2 by omega) with rfl | rfl | rfl <;> rfl) (by decide) (by decide) dX8_init_57 (fun q_57 H hP2 hD2 hS => ?_)
  have hq9 := p_fresh hD2
  have hz9 := p_nz hB hT hD2
  rw [va_pl_push hq9] at hP2 hD2
  obtain ⟨L_57, eL_57⟩ : ∃ y : List Nat, y = L_46_15 ++ [q_57] := ⟨_, rfl⟩
  obtain ⟨f_57, ef_57⟩ : ∃ y : pF, y = va_up f_49_7 q_57 (.inr (2, [.null, .null, .null])) := ⟨_, rfl⟩
  have hw := hw q_57 hq9 hz9 L_57 f_57 eL_57 ef_57
  have hP : va_P (dC, dI) vwCl (va_pl L_57 f_57) H := by rw [eL_57, ef_57]; exact hP2
  have hD : va_D A (va_pl L_57 f_57) := by rw [eL_57, ef_57]; exact hD2
  refine lv_dup hx hb dX8_init_60 rfl ?_
  have hFc := p_free hD hS hA
  refine va_callv (va_runIN (As := []) (rest := [.ref q_57, .ref a0]) ⟨hx, hb, hml, hown, hts⟩ (c_X1_init l dC dI dA zz base L_57 f_57 H.size q_57  _ hw) ⟨va_cnB 0 hts gX8_init_X1_init_n24 rfl rfl rfl hN.2.2.2.2.1 (hts _ lz_X8_init_RX1) (by decide +kernel) ⟨by decide, by decide⟩, rfl, hts _ lim_X8_init_X1_init⟩ (pPreS [.ref q_57] hK hP hD hS hB hz hN hT) rfl rfl hl.1 rfl (lv_room (Nat.le_of_ble_eq_true rfl)) dX8_init_61 ⟨by decide, by decide⟩) hS (fun q _ h => hFc q h) hFc (fun u t H1 locs ht hvm hw hB1 hz1 hk1 hS => ?_)
  obtain ⟨L_61_1, f_61_1⟩ := u
  obtain ⟨hP, -, hD1⟩ := hB1
  rw [ht] at hP
  have hw := id hw
  have hP : va_P (dC, dI) vwCl (va_pl L_61_1 f_61_1) H1 := hP
  have hD : va_D A (va_pl L_61_1 f_61_1) := p_gain hD1 hFc
  generalize H1 = H at hP hS ⊢
  refine W.widen (k := 23) (n := 5438) (by decide) (by decide) ?_
  obtain ⟨fs_64, ⟨hL9, hf9, hn9⟩, hw⟩ := hw
  obtain ⟨kq9, hkq9⟩ := p_at hL9 hf9
  refine va_putF (D := (dC, dI)) (ci := 9) (v := .ref q_57) (C := RX8) (T := TX8) (N := 6) hx hb hts iw_X8_init_RX8 tyX8 tyX8_ok nmX8 hown hK hP hD hS kq9 hkq9 rfl 2 (by decide) (hts _ lk_X8_init_25) (fun _ h9 => h9) rfl hin rfl (tyX8_ok 2 (by decide)) rfl rfl hn9 dX8_init_64 (fun H locs hP2 hD2 hS => ?_)
  rw [p_set hD hL9 hf9 hkq9] at hP2 hD2
  obtain ⟨f_64, ef_64⟩ : ∃ y : pF, y = va_up f_61_1 a0 (.inr (9, fs_64.set 2 (.ref q_57))) := ⟨_, rfl⟩
  rw [← ef_64] at hP2 hD2
  have hw := hw f_64 ef_64
  have hP := hP2
  have hD := hD2
  refine lv_aload_n hx hb dX8_init_67 rfl (lv_at hl 1 rfl) ?_
  refine va_new (ci := 1) (fs := [.null, .long 0, .null, .null, .int 0, .null, .null, .int 0]) (C := RX0) (T := TX0) (N := 8) hx hb hts iw_X8_init_RX0 tyX0 tyX0_ok hown (hts _ lk_X8_init_29) (hts _ li_X8_init_RX0) (hts _ lz_X8_init_RX0) hK hP hD hS hA rfl (fun j hj => by rcases (show j = 0 ∨ j = 1 ∨ j = 2 ∨ j = 3 ∨ j = 4 ∨ j = 5 ∨ j = 6 ∨ j = 7 by omega) with rfl | rfl | rfl | rfl | rfl | rfl | rfl | rfl <;> rfl) (by decide) (by decide) dX8_init_68 (fun q_68 H hP2 hD2 hS => ?_)
  have hq9 := p_fresh hD2
  have hz9 := p_nz hB hT hD2
  rw [va_pl_push hq9] at hP2 hD2
  obtain ⟨L_68, eL_68⟩ : ∃ y : List Nat, y = L_61_1 ++ [q_68] := ⟨_, rfl⟩
  obtain ⟨f_68, ef_68⟩ : ∃ y : pF, y = va_up f_64 q_68 (.inr (1, [.null, .long 0, .null, .null, .int 0, .null, .null, .int 0])) := ⟨_, rfl⟩
  have hw := hw q_68 hq9 hz9 L_68 f_68 eL_68 ef_68
  have hP : va_P (dC, dI) vwCl (va_pl L_68 f_68) H := by rw [eL_68, ef_68]; exact hP2
  have hD : va_D A (va_pl L_68 f_68) := by rw [eL_68, ef_68]; exact hD2
  refine lv_dup hx hb dX8_init_71 rfl ?_
  have hFc := p_free hD hS hA
  refine va_callv (va_runIN (As := []) (rest := [.ref q_68, .ref a0]) ⟨hx, hb, hml, hown, hts⟩ (c_X0_init l dC dI dA zz base L_68 f_68 H.size q_68  _ hw) ⟨va_cnB 0 hts gX8_init_X0_init_n31 rfl rfl rfl hN.2.2.2.2.2.1 (hts _ lz_X8_init_RX0) (by decide +kernel) ⟨by decide, by decide⟩, rfl, hts _ lim_X8_init_X0_init⟩ (pPreS [.ref q_68] hK hP hD hS hB hz hN hT) rfl rfl hl.1 rfl (lv_room (Nat.le_of_ble_eq_true rfl)) dX8_init_72 ⟨by decide, by decide⟩) hS (fun q _ h => hFc q h) hFc (fun u t H1 locs ht hvm hw hB1 hz1 hk1 hS => ?_)
  obtain ⟨L_72_1, f_72_1⟩ := u
  obtain ⟨hP, -, hD1⟩ := hB1
  rw [ht] at hP
  have hw := id hw
  have hP : va_P (dC, dI) vwCl (va_pl L_72_1 f_72_1) H1 := hP
  have hD : va_D A (va_pl L_72_1 f_72_1) := p_gain hD1 hFc
  generalize H1 = H at hP hS ⊢
  refine W.widen (k := 29) (n := 5594) (by decide) (by decide) ?_
  obtain ⟨fs_75, ⟨hL9, hf9, hn9⟩, hw⟩ := hw
  obtain ⟨kq9, hkq9⟩ := p_at hL9 hf9
  refine va_putF (D := (dC, dI)) (ci := 9) (v := .ref q_68) (C := RX8) (T := TX8) (N := 6) hx hb hts iw_X8_init_RX8 tyX8 tyX8_ok nmX8 hown hK hP hD hS kq9 hkq9 rfl 3 (by decide) (hts _ lk_X8_init_32) (fun _ h9 => h9) rfl hin rfl (tyX8_ok 3 (by decide)) rfl rfl hn9 dX8_init_75 (fun H locs hP2 hD2 hS => ?_)
  rw [p_set hD hL9 hf9 hkq9] at hP2 hD2
  obtain ⟨f_75, ef_75⟩ : ∃ y : pF, y = va_up f_72_1 a0 (.inr (9, fs_75.set 3 (.ref q_68))) := ⟨_, rfl⟩
  rw [← ef_75] at hP2 hD2
  have hw := hw f_75 ef_75
  have hP := hP2
  have hD := hD2
  refine lv_aload_n hx hb dX8_init_78 rfl (lv_at hl 1 rfl) ?_
  refine va_new (ci := 7) (fs := [.null, .null, .null, .null, .null, .null, .null, .null, .null, .int 0, .long 0, .long 0, .long 0]) (C := RX6) (T := TX6) (N := 13) hx hb hts iw_X8_init_RX6 tyX6 tyX6_ok hown (hts _ lk_X8_init_36) (hts _ li_X8_init_RX6) (hts _ lz_X8_init_RX6) hK hP hD hS hA rfl (fun j hj => by rcases (show j = 0 ∨ j = 1 ∨ j = 2 ∨ j = 3 ∨ j = 4 ∨ j = 5 ∨ j = 6 ∨ j = 7 ∨ j = 8 ∨ j = 9 ∨ j = 10 ∨ j = 11 ∨ j = 12 by omega) with rfl | rfl | rfl | rfl | rfl | rfl | rfl | rfl | rfl | rfl | rfl | rfl | rfl <;> rfl) (by decide) (by decide) dX8_init_79 (fun q_79 H hP2 hD2 hS => ?_)
  have hq9 := p_fresh hD2
  have hz9 := p_nz hB hT hD2
  rw [va_pl_push hq9] at hP2 hD2
  obtain ⟨L_79, eL_79⟩ : ∃ y : List Nat, y = L_72_1 ++ [q_79] := ⟨_, rfl⟩
  obtain ⟨f_79, ef_79⟩ : ∃ y : pF, y = va_up f_75 q_79 (.inr (7, [.null, .null, .null, .null, .null, .null, .null, .null, .null, .int 0, .long 0, .long 0, .long 0])) := ⟨_, rfl⟩
  have hw := hw q_79 hq9 hz9 L_79 f_79 eL_79 ef_79
  have hP : va_P (dC, dI) vwCl (va_pl L_79 f_79) H := by rw [eL_79, ef_79]; exact hP2
  have hD : va_D A (va_pl L_79 f_79) := by rw [eL_79, ef_79]; exact hD2
  refine lv_dup hx hb dX8_init_82 rfl ?_
  refine lv_aload_n hx hb dX8_init_83 rfl (lv_at hl 1 rfl) ?_
  obtain ⟨fs_84, g_84, ⟨hL9, hf9, hn9⟩, hw⟩ := hw
  refine va_get (D := (dC, dI)) (ci := 9) (v := .ref g_84) (C := RX8) (T := TX8) (N := 6) hx hb hts iw_X8_init_RX8 hown hK (p_one hP hL9 hf9) 0 rfl rfl 2 (by decide) (hts _ lk_X8_init_25) (fun _ h9 => h9) hn9 dX8_init_84 ?_
  refine lv_aload_n hx hb dX8_init_87 rfl (lv_at hl 1 rfl) ?_
  obtain ⟨fs_88, g_88, ⟨hL9, hf9, hn9⟩, hw⟩ := hw
  refine va_get (D := (dC, dI)) (ci := 9) (v := .ref g_88) (C := RX8) (T := TX8) (N := 6) hx hb hts iw_X8_init_RX8 hown hK (p_one hP hL9 hf9) 0 rfl rfl 3 (by decide) (hts _ lk_X8_init_32) (fun _ h9 => h9) hn9 dX8_init_88 ?_
  have hFc := p_free hD hS hA
  refine va_callv (va_runI (As := [.ref g_84, .ref g_88]) (rest := [.ref q_79, .ref a0]) ⟨hx, hb, hml, hown, hts⟩ (c_X6_init l dC dI dA zz base L_79 f_79 H.size q_79 g_84 g_88 _ hw) (cwI 2 hts gX8_init_X6_init rfl rfl rfl (hts _ lz_X8_init_RX6) (hts _ lm_X8_init_38) (hts _ lim_X8_init_X6_init) rfl (by decide +kernel) ⟨by decide, by decide⟩) (pPreS [.ref q_79, .ref g_84, .ref g_88] hK hP hD hS hB hz hN hT) rfl rfl hl.1 rfl (lv_room (Nat.le_of_ble_eq_true rfl)) dX8_init_91 ⟨by decide, by decide⟩) hS (fun q _ h => hFc q h) hFc (fun u t H1 locs ht hvm hw hB1 hz1 hk1 hS => ?_)
  obtain ⟨L_91_1, f_91_1⟩ := u
  obtain ⟨hP, -, hD1⟩ := hB1
  rw [ht] at hP
  have hw := id hw
  have hP : va_P (dC, dI) vwCl (va_pl L_91_1 f_91_1) H1 := hP
  have hD : va_D A (va_pl L_91_1 f_91_1) := p_gain hD1 hFc
  generalize H1 = H at hP hS ⊢
  refine W.widen (k := 42) (n := 8415) (by decide) (by decide) ?_
  obtain ⟨fs_94, ⟨hL9, hf9, hn9⟩, hw⟩ := hw
  obtain ⟨kq9, hkq9⟩ := p_at hL9 hf9
  refine va_putF (D := (dC, dI)) (ci := 9) (v := .ref q_79) (C := RX8) (T := TX8) (N := 6) hx hb hts iw_X8_init_RX8 tyX8 tyX8_ok nmX8 hown hK hP hD hS kq9 hkq9 rfl 4 (by decide) (hts _ lk_X8_init_41) (fun _ h9 => h9) rfl hin rfl (tyX8_ok 4 (by decide)) rfl rfl hn9 dX8_init_94 (fun H locs hP2 hD2 hS => ?_)
  rw [p_set hD hL9 hf9 hkq9] at hP2 hD2
  obtain ⟨f_94, ef_94⟩ : ∃ y : pF, y = va_up f_91_1 a0 (.inr (9, fs_94.set 4 (.ref q_79))) := ⟨_, rfl⟩
  rw [← ef_94] at hP2 hD2
  have hw := hw f_94 ef_94
  have hP := hP2
  have hD := hD2
  refine lv_aload_n hx hb dX8_init_97 rfl (lv_at hl 1 rfl) ?_
  refine va_new (ci := 3) (fs := [.null, .null, .int 0]) (C := RX2) (T := TX2) (N := 3) hx hb hts iw_X8_init_RX2 tyX2 tyX2_ok hown (hts _ lk_X8_init_45) (hts _ li_X8_init_RX2) (hts _ lz_X8_init_RX2) hK hP hD hS hA rfl (fun j hj => by rcases (show j = 0 ∨ j = 1 ∨ j = 2 by omega) with rfl | rfl | rfl <;> rfl) (by decide) (by decide) dX8_init_98 (fun q_98 H hP2 hD2 hS => ?_)
  have hq9 := p_fresh hD2
  have hz9 := p_nz hB hT hD2
  rw [va_pl_push hq9] at hP2 hD2
  obtain ⟨L_98, eL_98⟩ : ∃ y : List Nat, y = L_91_1 ++ [q_98] := ⟨_, rfl⟩
  obtain ⟨f_98, ef_98⟩ : ∃ y : pF, y = va_up f_94 q_98 (.inr (3, [.null, .null, .int 0])) := ⟨_, rfl⟩
  have hw := hw q_98 hq9 hz9 L_98 f_98 eL_98 ef_98
  have hP : va_P (dC, dI) vwCl (va_pl L_98 f_98) H := by rw [eL_98, ef_98]; exact hP2
  have hD : va_D A (va_pl L_98 f_98) := by rw [eL_98, ef_98]; exact hD2
  refine lv_dup hx hb dX8_init_101 rfl ?_
  refine lv_aload_n hx hb dX8_init_102 rfl (lv_at hl 1 rfl) ?_
  obtain ⟨fs_103, g_103, ⟨hL9, hf9, hn9⟩, hw⟩ := hw
  refine va_get (D := (dC, dI)) (ci := 9) (v := .ref g_103) (C := RX8) (T := TX8) (N := 6) hx hb hts iw_X8_init_RX8 hown hK (p_one hP hL9 hf9) 0 rfl rfl 2 (by decide) (hts _ lk_X8_init_25) (fun _ h9 => h9) hn9 dX8_init_103 ?_
  have hFc := p_free hD hS hA
  refine va_callv (va_runI (As := [.ref g_103]) (rest := [.ref q_98, .ref a0]) ⟨hx, hb, hml, hown, hts⟩ (c_X2_init l dC dI dA zz base L_98 f_98 H.size q_98 g_103 _ hw) (cwI 1 hts gX8_init_X2_init rfl rfl rfl (hts _ lz_X8_init_RX2) (hts _ lm_X8_init_47) (hts _ lim_X8_init_X2_init) rfl (by decide +kernel) ⟨by decide, by decide⟩) (pPreS [.ref q_98, .ref g_103] hK hP hD hS hB hz hN hT) rfl rfl hl.1 rfl (lv_room (Nat.le_of_ble_eq_true rfl)) dX8_init_106 ⟨by decide, by decide⟩) hS (fun q _ h => hFc q h) hFc (fun u t H1 locs ht hvm hw hB1 hz1 hk1 hS => ?_)
  obtain ⟨L_106_1, f_106_1⟩ := u
  obtain ⟨hP, -, hD1⟩ := hB1
  rw [ht] at hP
  have hw := id hw
  have hP : va_P (dC, dI) vwCl (va_pl L_106_1 f_106_1) H1 := hP
  have hD : va_D A (va_pl L_106_1 f_106_1) := p_gain hD1 hFc
  generalize H1 = H at hP hS ⊢
  refine W.widen (k := 45) (n := 9020) (by decide) (by decide) ?_
  obtain ⟨fs_109, ⟨hL9, hf9, hn9⟩, hw⟩ := hw
  obtain ⟨kq9, hkq9⟩ := p_at hL9 hf9
  refine va_putF (D := (dC, dI)) (ci := 9) (v := .ref q_98) (C := RX8) (T := TX8) (N := 6) hx hb hts iw_X8_init_RX8 tyX8 tyX8_ok nmX8 hown hK hP hD hS kq9 hkq9 rfl 5 (by decide) (hts _ lk_X8_init_50) (fun _ h9 => h9) rfl hin rfl (tyX8_ok 5 (by decide)) rfl rfl hn9 dX8_init_109 (fun H locs hP2 hD2 hS => ?_)
  rw [p_set hD hL9 hf9 hkq9] at hP2 hD2
  obtain ⟨f_109, ef_109⟩ : ∃ y : pF, y = va_up f_106_1 a0 (.inr (9, fs_109.set 5 (.ref q_98))) := ⟨_, rfl⟩
  rw [← ef_109] at hP2 hD2
  have hw := hw f_109 ef_109
  have hP := hP2
  have hD := hD2
  exact W.vret hx hb hr (fun t ht hW => ⟨⟨(L_106_1, f_109), rfl, hw, by rw [ht]; exact hP, va_K.moved hW.alike hK, hD⟩, hS.F ht⟩) hS.2.2 dX8_init_112
set_option maxHeartbeats 4000000 in
set_option maxRecDepth 100000 in
theorem c_X8_init (l : Launch) (dC : Nat → ClassId) (dI : Nat → Nat → Nat) (dA : Nat → ClassId) (zz : Nat → Nat) (base : Nat) (L : List Nat) (f : pF) (sz : Nat) (a0 : Nat) (Q : List Nat → pF → Prop) (hw : wp_X8_init_0 dA zz Q L f a0) : Met l yX8_init wsX8_init rm_X8_init (va_Pc [.ref a0] (pPre dC dI dA zz base L f sz)) (va_Qv (fun (u : List Nat × pF) => Q u.1 u.2) (pB dC dI dA (va_A (va_pl L f) sz)) (va_A (va_pl L f) sz)) 45 9020 (va_A (va_pl L f) sz) := by
  refine Met.ofW (cc := cX8_init) (maxL := 2) (ret := none) (by decide) rfl ?_
  intro p e s m args below meth c s₁ B hml hv
  obtain ⟨rfl, hsz, hP, hK, hD0, hz, hN, hT⟩ := hv
  subst hsz
  have hl := lv_entry ([.ref a0]) (n := 2) (Nat.le_of_ble_eq_true rfl)
  rw [lg_entry_eq]
  generalize (lg_sl ([.ref a0]) ++ List.replicate (2 - (lg_sl ([.ref a0])).length) Slot.unset).toArray = ls at hl ⊢
  exact tb_X8_init_0 (Q := Q) (p := p) ⟨⟨B.exec, B.bytes, hml, findClass_of_methodNamed B.named, atoms_spec (ws := wsX8_init) B.pre, B.returns, B.notSynchronized, fun q h => Or.inr h, hK, pAB hD0 hz, hz, hN, hT⟩, (name_of_methodNamed B.named B.method).1⟩ L f a0 hw s.heap [] hP (hD0.self (sz := s.heap.size)) va_S.rf ls (lv_sub hl [0] rfl)
