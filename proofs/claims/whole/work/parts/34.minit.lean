theorem iw_X9_init_RX9 : ∀ w ∈ u_ws RX9 TX9 38, w ∈ wsX9_init := by decide +kernel
theorem la_X9_init_boolean : Cond.arrayClass .boolean ∈ wsX9_init := by decide +kernel
theorem la_X9_init_int : Cond.arrayClass .int ∈ wsX9_init := by decide +kernel
theorem la_X9_init_long : Cond.arrayClass .long ∈ wsX9_init := by decide +kernel
theorem lk_X9_init_102 : Cond.fieldLink RX9 102 "TermKeeperModel" "usedOther" "[J" ∈ wsX9_init := by decide +kernel
theorem lk_X9_init_13 : Cond.fieldLink RX9 13 "TermKeeperModel" "ending" "[I" ∈ wsX9_init := by decide +kernel
theorem lk_X9_init_16 : Cond.fieldLink RX9 16 "TermKeeperModel" "endingSize" "[I" ∈ wsX9_init := by decide +kernel
theorem lk_X9_init_19 : Cond.fieldLink RX9 19 "TermKeeperModel" "letters" "[I" ∈ wsX9_init := by decide +kernel
theorem lk_X9_init_22 : Cond.fieldLink RX9 22 "TermKeeperModel" "sizes" "[I" ∈ wsX9_init := by decide +kernel
theorem lk_X9_init_25 : Cond.fieldLink RX9 25 "TermKeeperModel" "words" "[I" ∈ wsX9_init := by decide +kernel
theorem lk_X9_init_28 : Cond.fieldLink RX9 28 "TermKeeperModel" "thingOf" "[I" ∈ wsX9_init := by decide +kernel
theorem lk_X9_init_31 : Cond.fieldLink RX9 31 "TermKeeperModel" "kindOf" "[I" ∈ wsX9_init := by decide +kernel
theorem lk_X9_init_34 : Cond.fieldLink RX9 34 "TermKeeperModel" "classesOf" "[I" ∈ wsX9_init := by decide +kernel
theorem lk_X9_init_37 : Cond.fieldLink RX9 37 "TermKeeperModel" "neighbour" "[I" ∈ wsX9_init := by decide +kernel
theorem lk_X9_init_40 : Cond.fieldLink RX9 40 "TermKeeperModel" "neighbourSize" "[I" ∈ wsX9_init := by decide +kernel
theorem lk_X9_init_43 : Cond.fieldLink RX9 43 "TermKeeperModel" "neighbours" "[I" ∈ wsX9_init := by decide +kernel
theorem lk_X9_init_46 : Cond.fieldLink RX9 46 "TermKeeperModel" "definitions" "[J" ∈ wsX9_init := by decide +kernel
theorem lk_X9_init_50 : Cond.fieldLink RX9 50 "TermKeeperModel" "isKnown" "[Z" ∈ wsX9_init := by decide +kernel
theorem lk_X9_init_54 : Cond.fieldLink RX9 54 "TermKeeperModel" "text" "[I" ∈ wsX9_init := by decide +kernel
theorem lk_X9_init_57 : Cond.fieldLink RX9 57 "TermKeeperModel" "size" "[I" ∈ wsX9_init := by decide +kernel
theorem lk_X9_init_60 : Cond.fieldLink RX9 60 "TermKeeperModel" "begin" "[I" ∈ wsX9_init := by decide +kernel
theorem lk_X9_init_63 : Cond.fieldLink RX9 63 "TermKeeperModel" "end" "[I" ∈ wsX9_init := by decide +kernel
theorem lk_X9_init_66 : Cond.fieldLink RX9 66 "TermKeeperModel" "sentence" "[I" ∈ wsX9_init := by decide +kernel
theorem lk_X9_init_69 : Cond.fieldLink RX9 69 "TermKeeperModel" "useFrom" "[I" ∈ wsX9_init := by decide +kernel
theorem lk_X9_init_7 : Cond.fieldLink RX9 7 "TermKeeperModel" "wait" "[I" ∈ wsX9_init := by decide +kernel
theorem lk_X9_init_72 : Cond.fieldLink RX9 72 "TermKeeperModel" "useTo" "[I" ∈ wsX9_init := by decide +kernel
theorem lk_X9_init_75 : Cond.fieldLink RX9 75 "TermKeeperModel" "useTerm" "[I" ∈ wsX9_init := by decide +kernel
theorem lk_X9_init_78 : Cond.fieldLink RX9 78 "TermKeeperModel" "useEnding" "[I" ∈ wsX9_init := by decide +kernel
theorem lk_X9_init_81 : Cond.fieldLink RX9 81 "TermKeeperModel" "useFinding" "[I" ∈ wsX9_init := by decide +kernel
theorem lk_X9_init_84 : Cond.fieldLink RX9 84 "TermKeeperModel" "laid" "[I" ∈ wsX9_init := by decide +kernel
theorem lk_X9_init_87 : Cond.fieldLink RX9 87 "TermKeeperModel" "tail" "[I" ∈ wsX9_init := by decide +kernel
theorem lk_X9_init_90 : Cond.fieldLink RX9 90 "TermKeeperModel" "back" "[J" ∈ wsX9_init := by decide +kernel
theorem lk_X9_init_93 : Cond.fieldLink RX9 93 "TermKeeperModel" "ringRow" "[I" ∈ wsX9_init := by decide +kernel
theorem lk_X9_init_96 : Cond.fieldLink RX9 96 "TermKeeperModel" "matter" "[I" ∈ wsX9_init := by decide +kernel
theorem lk_X9_init_99 : Cond.fieldLink RX9 99 "TermKeeperModel" "used" "[J" ∈ wsX9_init := by decide +kernel
theorem lo1_X9_init : Cond.instanceMethod objectInit ∈ wsX9_init := by decide +kernel
theorem lo2_X9_init : Cond.code objectInit ⟨#[0xb1]⟩ 1 none ∈ wsX9_init := by decide +kernel
theorem lm_X9_init_1 : Cond.methodLink RX9 1 objectInit ∈ wsX9_init := by decide +kernel
abbrev rm_X9_init : Room := { frames := 1, cells := 31, slots := 14985, locals := 12 }
def wp_X9_init_0 (dA : Nat → ClassId) (zz : Nat → Nat) (Q : List Nat → pF → Prop) (L : List Nat) (f : pF) (a0 : Nat) : Prop :=
    (nO zz L f (.inl (dA 1, Int32.toNatClampNeg (40 : Int32), .inl (fun _ => 0))) (fun q_7 L_7 f_7 =>
      (gP L_7 f_7 10 a0 2 (.ref q_7) (fun f_9 =>
        (nO zz L_7 f_9 (.inl (dA 1, Int32.toNatClampNeg (24 : Int32), .inl (fun _ => 0))) (fun q_15 L_15 f_15 =>
          (gP L_15 f_15 10 a0 6 (.ref q_15) (fun f_17 =>
            (nO zz L_15 f_17 (.inl (dA 1, Int32.toNatClampNeg (6 : Int32), .inl (fun _ => 0))) (fun q_23 L_23 f_23 =>
              (gP L_23 f_23 10 a0 7 (.ref q_23) (fun f_25 =>
                (nO zz L_23 f_25 (.inl (dA 1, Int32.toNatClampNeg (2160 : Int32), .inl (fun _ => 0))) (fun q_32 L_32 f_32 =>
                  (gP L_32 f_32 10 a0 8 (.ref q_32) (fun f_34 =>
                    (nO zz L_32 f_34 (.inl (dA 1, Int32.toNatClampNeg (180 : Int32), .inl (fun _ => 0))) (fun q_41 L_41 f_41 =>
                      (gP L_41 f_41 10 a0 9 (.ref q_41) (fun f_43 =>
                        (nO zz L_41 f_43 (.inl (dA 1, Int32.toNatClampNeg (60 : Int32), .inl (fun _ => 0))) (fun q_49 L_49 f_49 =>
                          (gP L_49 f_49 10 a0 10 (.ref q_49) (fun f_51 =>
                            (nO zz L_49 f_51 (.inl (dA 1, Int32.toNatClampNeg (60 : Int32), .inl (fun _ => 0))) (fun q_57 L_57 f_57 =>
                              (gP L_57 f_57 10 a0 11 (.ref q_57) (fun f_59 =>
                                (nO zz L_57 f_59 (.inl (dA 1, Int32.toNatClampNeg (60 : Int32), .inl (fun _ => 0))) (fun q_65 L_65 f_65 =>
                                  (gP L_65 f_65 10 a0 12 (.ref q_65) (fun f_67 =>
                                    (nO zz L_65 f_67 (.inl (dA 1, Int32.toNatClampNeg (60 : Int32), .inl (fun _ => 0))) (fun q_73 L_73 f_73 =>
                                      (gP L_73 f_73 10 a0 13 (.ref q_73) (fun f_75 =>
                                        (nO zz L_73 f_75 (.inl (dA 1, Int32.toNatClampNeg (3840 : Int32), .inl (fun _ => 0))) (fun q_82 L_82 f_82 =>
                                          (gP L_82 f_82 10 a0 14 (.ref q_82) (fun f_84 =>
                                            (nO zz L_82 f_84 (.inl (dA 1, Int32.toNatClampNeg (320 : Int32), .inl (fun _ => 0))) (fun q_91 L_91 f_91 =>
                                              (gP L_91 f_91 10 a0 15 (.ref q_91) (fun f_93 =>
                                                (nO zz L_91 f_93 (.inl (dA 1, Int32.toNatClampNeg (40 : Int32), .inl (fun _ => 0))) (fun q_99 L_99 f_99 =>
                                                  (gP L_99 f_99 10 a0 16 (.ref q_99) (fun f_101 =>
                                                    (nO zz L_99 f_101 (.inl (dA 2, Int32.toNatClampNeg (40 : Int32), .inr (.inl (fun _ => 0)))) (fun q_107 L_107 f_107 =>
                                                      (gP L_107 f_107 10 a0 17 (.ref q_107) (fun f_109 =>
                                                        (nO zz L_107 f_109 (.inl (dA 5, Int32.toNatClampNeg (40 : Int32), .inl (fun _ => 0))) (fun q_115 L_115 f_115 =>
                                                          (gP L_115 f_115 10 a0 18 (.ref q_115) (fun f_117 =>
                                                            (nO zz L_115 f_117 (.inl (dA 1, Int32.toNatClampNeg (4800 : Int32), .inl (fun _ => 0))) (fun q_124 L_124 f_124 =>
                                                              (gP L_124 f_124 10 a0 19 (.ref q_124) (fun f_126 =>
                                                                (nO zz L_124 f_126 (.inl (dA 1, Int32.toNatClampNeg (8 : Int32), .inl (fun _ => 0))) (fun q_132 L_132 f_132 =>
                                                                  (gP L_132 f_132 10 a0 20 (.ref q_132) (fun f_134 =>
                                                                    (nO zz L_132 f_134 (.inl (dA 1, Int32.toNatClampNeg (301 : Int32), .inl (fun _ => 0))) (fun q_141 L_141 f_141 =>
                                                                      (gP L_141 f_141 10 a0 22 (.ref q_141) (fun f_143 =>
                                                                        (nO zz L_141 f_143 (.inl (dA 1, Int32.toNatClampNeg (301 : Int32), .inl (fun _ => 0))) (fun q_150 L_150 f_150 =>
                                                                          (gP L_150 f_150 10 a0 23 (.ref q_150) (fun f_152 =>
                                                                            (nO zz L_150 f_152 (.inl (dA 1, Int32.toNatClampNeg (301 : Int32), .inl (fun _ => 0))) (fun q_159 L_159 f_159 =>
                                                                              (gP L_159 f_159 10 a0 24 (.ref q_159) (fun f_161 =>
                                                                                (nO zz L_159 f_161 (.inl (dA 1, Int32.toNatClampNeg (301 : Int32), .inl (fun _ => 0))) (fun q_168 L_168 f_168 =>
                                                                                  (gP L_168 f_168 10 a0 26 (.ref q_168) (fun f_170 =>
                                                                                    (nO zz L_168 f_170 (.inl (dA 1, Int32.toNatClampNeg (301 : Int32), .inl (fun _ => 0))) (fun q_177 L_177 f_177 =>
                                                                                      (gP L_177 f_177 10 a0 27 (.ref q_177) (fun f_179 =>
                                                                                        (nO zz L_177 f_179 (.inl (dA 1, Int32.toNatClampNeg (301 : Int32), .inl (fun _ => 0))) (fun q_186 L_186 f_186 =>
                                                                                          (gP L_186 f_186 10 a0 28 (.ref q_186) (fun f_188 =>
                                                                                            (nO zz L_186 f_188 (.inl (dA 1, Int32.toNatClampNeg (301 : Int32), .inl (fun _ => 0))) (fun q_195 L_195 f_195 =>
                                                                                              (gP L_195 f_195 10 a0 29 (.ref q_195) (fun f_197 =>
                                                                                                (nO zz L_195 f_197 (.inl (dA 1, Int32.toNatClampNeg (301 : Int32), .inl (fun _ => 0))) (fun q_204 L_204 f_204 =>
                                                                                                  (gP L_204 f_204 10 a0 30 (.ref q_204) (fun f_206 =>
                                                                                                    (nO zz L_204 f_206 (.inl (dA 1, Int32.toNatClampNeg (64 : Int32), .inl (fun _ => 0))) (fun q_212 L_212 f_212 =>
                                                                                                      (gP L_212 f_212 10 a0 31 (.ref q_212) (fun f_214 =>
                                                                                                        (nO zz L_212 f_214 (.inl (dA 1, Int32.toNatClampNeg (600 : Int32), .inl (fun _ => 0))) (fun q_221 L_221 f_221 =>
                                                                                                          (gP L_221 f_221 10 a0 32 (.ref q_221) (fun f_223 =>
                                                                                                            (nO zz L_221 f_223 (.inl (dA 2, Int32.toNatClampNeg (41 : Int32), .inr (.inl (fun _ => 0)))) (fun q_229 L_229 f_229 =>
                                                                                                              (gP L_229 f_229 10 a0 33 (.ref q_229) (fun f_231 =>
                                                                                                                (nO zz L_229 f_231 (.inl (dA 1, Int32.toNatClampNeg (40 : Int32), .inl (fun _ => 0))) (fun q_237 L_237 f_237 =>
                                                                                                                  (gP L_237 f_237 10 a0 34 (.ref q_237) (fun f_239 =>
                                                                                                                    (nO zz L_237 f_239 (.inl (dA 1, Int32.toNatClampNeg (14 : Int32), .inl (fun _ => 0))) (fun q_245 L_245 f_245 =>
                                                                                                                      (gP L_245 f_245 10 a0 35 (.ref q_245) (fun f_247 =>
                                                                                                                        (nO zz L_245 f_247 (.inl (dA 2, Int32.toNatClampNeg (40 : Int32), .inr (.inl (fun _ => 0)))) (fun q_253 L_253 f_253 =>
                                                                                                                          (gP L_253 f_253 10 a0 36 (.ref q_253) (fun f_255 =>
                                                                                                                            (nO zz L_253 f_255 (.inl (dA 2, Int32.toNatClampNeg (40 : Int32), .inr (.inl (fun _ => 0)))) (fun q_261 L_261 f_261 =>
                                                                                                                              (gP L_261 f_261 10 a0 37 (.ref q_261) (fun f_263 =>
                                                                                                                                (Q L_261 f_263)))))))))))))))))))))))))))))))))))))))))))))))))))))))))))))))))))))))))))))))))))))))))))))))))))))))))))))))))))))))))))))
set_option maxHeartbeats 4000000 in
set_option maxRecDepth 100000 in
theorem tb_X9_init_0 {p : Program} {l : Launch} {e : Env} {s : State} {m : MethodId} {below : List Frame} {meth : Method} {c : Code} {args : Array Value} {dC : Nat → ClassId} {dI : Nat → Nat → Nat} {dA : Nat → ClassId} {zz : Nat → Nat} {base : Nat} {A : Nat → Prop} {Q : List Nat → pF → Prop} (C : pCx p s m args meth c cX9_init 1 none RX9 wsX9_init A dC dI dA zz base ∧ meth.name = "<init>") : ∀ (L : List Nat) (f : pF) (a0 : Nat), wp_X9_init_0 dA zz Q  L f a0 → pAt p l e rm_X9_init s m args below meth c dC dI A (MQ below (va_Qv (fun (u : List Nat × pF) => Q u.1 u.2) (pB dC dI dA A) A) args s 31 14985 A) 0 0 0 1 [(0, .ref a0)] [] L f := by
  obtain ⟨⟨hx, hb, hml, hown, hts, hr, hlocks, hA, hK, hB, hz, hN, hT⟩, hin⟩ := id C
  intro L f a0 hw H locs hP hD hS ls hl
  rw [wp_X9_init_0] at hw
  refine lv_aload_n hx hb dX9_init_0 rfl (lv_at hl 0 rfl) ?_
  refine W.objInit hx hb hown (hts _ lm_X9_init_1) (hts _ lo1_X9_init) (hts _ lo2_X9_init) rfl (by rw [hml]; exact hl.1) rfl dX9_init_1 (Nat.le_of_ble_eq_true rfl) (Nat.le_of_ble_eq_true rfl) ?_
  refine W.eq (g2 := F0 m 4 ls []) rfl ?_
  refine lv_aload_n hx hb dX9_init_4 rfl (lv_at hl 0 rfl) ?_
  refine lv_bipush (v := 40) hx hb dX9_init_5 (by decide) ?_
  refine va_newa (atype := .int) (ty := .int) hx hb (hts _ la_X9_init_int) rfl hK hP hD hS hA (a0 := (Int32.toNatClampNeg (40 : Int32), .inl (fun _ => 0))) (fun _ => rfl) (by decide) rfl (by decide) (by decide) (by decide) dX9_init_7 (fun q_7 cA9 H hK9 hP2 hD2 hS => ?_)
  have hcA : cA9 = dA 1 := p_cA hK9 (t := 1) rfl
  subst hcA
  have hq9 := p_fresh hD2
  have hz9 := p_nz hB hT hD2
  rw [va_pl_push hq9] at hP2 hD2
  obtain ⟨L_7, eL_7⟩ : ∃ y : List Nat, y = L ++ [q_7] := ⟨_, rfl⟩
  obtain ⟨f_7, ef_7⟩ : ∃ y : pF, y = va_up f q_7 (.inl (dA 1, Int32.toNatClampNeg (40 : Int32), .inl (fun _ => 0))) := ⟨_, rfl⟩
  have hw := hw q_7 hq9 hz9 L_7 f_7 eL_7 ef_7
  have hP : va_P (dC, dI) vwCl (va_pl L_7 f_7) H := by rw [eL_7, ef_7]; exact hP2
  have hD : va_D A (va_pl L_7 f_7) := by rw [eL_7, ef_7]; exact hD2
  refine W.widen (k := 1) (n := 40) (by decide) (by decide) ?_
  obtain ⟨fs_9, ⟨hL9, hf9, hn9⟩, hw⟩ := hw
  obtain ⟨kq9, hkq9⟩ := p_at hL9 hf9
  refine va_putF (D := (dC, dI)) (ci := 10) (v := .ref q_7) (C := RX9) (T := TX9) (N := 38) hx hb hts iw_X9_init_RX9 tyX9 tyX9_ok nmX9 hown hK hP hD hS kq9 hkq9 rfl 2 (by decide) (hts _ lk_X9_init_7) (fun _ h9 => h9) rfl hin rfl (tyX9_ok 2 (by decide)) rfl rfl hn9 dX9_init_9 (fun H locs hP2 hD2 hS => ?_)
  rw [p_set hD hL9 hf9 hkq9] at hP2 hD2
  obtain ⟨f_9, ef_9⟩ : ∃ y : pF, y = va_up f_7 a0 (.inr (10, fs_9.set 2 (.ref q_7))) := ⟨_, rfl⟩
  rw [← ef_9] at hP2 hD2
  have hw := hw f_9 ef_9
  have hP := hP2
  have hD := hD2
  refine lv_aload_n hx hb dX9_init_12 rfl (lv_at hl 0 rfl) ?_
  refine lv_bipush (v := 24) hx hb dX9_init_13 (by decide) ?_
  refine va_newa (atype := .int) (ty := .int) hx hb (hts _ la_X9_init_int) rfl hK hP hD hS hA (a0 := (Int32.toNatClampNeg (24 : Int32), .inl (fun _ => 0))) (fun _ => rfl) (by decide) rfl (by decide) (by decide) (by decide) dX9_init_15 (fun q_15 cA9 H hK9 hP2 hD2 hS => ?_)
  have hcA : cA9 = dA 1 := p_cA hK9 (t := 1) rfl
  subst hcA
  have hq9 := p_fresh hD2
  have hz9 := p_nz hB hT hD2
  rw [va_pl_push hq9] at hP2 hD2
  obtain ⟨L_15, eL_15⟩ : ∃ y : List Nat, y = L_7 ++ [q_15] := ⟨_, rfl⟩
  obtain ⟨f_15, ef_15⟩ : ∃ y : pF, y = va_up f_9 q_15 (.inl (dA 1, Int32.toNatClampNeg (24 : Int32), .inl (fun _ => 0))) := ⟨_, rfl⟩
  have hw := hw q_15 hq9 hz9 L_15 f_15 eL_15 ef_15
  have hP : va_P (dC, dI) vwCl (va_pl L_15 f_15) H := by rw [eL_15, ef_15]; exact hP2
  have hD : va_D A (va_pl L_15 f_15) := by rw [eL_15, ef_15]; exact hD2
  refine W.widen (k := 2) (n := 64) (by decide) (by decide) ?_
  obtain ⟨fs_17, ⟨hL9, hf9, hn9⟩, hw⟩ := hw
  obtain ⟨kq9, hkq9⟩ := p_at hL9 hf9
  refine va_putF (D := (dC, dI)) (ci := 10) (v := .ref q_15) (C := RX9) (T := TX9) (N := 38) hx hb hts iw_X9_init_RX9 tyX9 tyX9_ok nmX9 hown hK hP hD hS kq9 hkq9 rfl 6 (by decide) (hts _ lk_X9_init_13) (fun _ h9 => h9) rfl hin rfl (tyX9_ok 6 (by decide)) rfl rfl hn9 dX9_init_17 (fun H locs hP2 hD2 hS => ?_)
  rw [p_set hD hL9 hf9 hkq9] at hP2 hD2
  obtain ⟨f_17, ef_17⟩ : ∃ y : pF, y = va_up f_15 a0 (.inr (10, fs_17.set 6 (.ref q_15))) := ⟨_, rfl⟩
  rw [← ef_17] at hP2 hD2
  have hw := hw f_17 ef_17
  have hP := hP2
  have hD := hD2
  refine lv_aload_n hx hb dX9_init_20 rfl (lv_at hl 0 rfl) ?_
  refine lv_bipush (v := 6) hx hb dX9_init_21 (by decide) ?_
  refine va_newa (atype := .int) (ty := .int) hx hb (hts _ la_X9_init_int) rfl hK hP hD hS hA (a0 := (Int32.toNatClampNeg (6 : Int32), .inl (fun _ => 0))) (fun _ => rfl) (by decide) rfl (by decide) (by decide) (by decide) dX9_init_23 (fun q_23 cA9 H hK9 hP2 hD2 hS => ?_)
  have hcA : cA9 = dA 1 := p_cA hK9 (t := 1) rfl
  subst hcA
  have hq9 := p_fresh hD2
  have hz9 := p_nz hB hT hD2
  rw [va_pl_push hq9] at hP2 hD2
  obtain ⟨L_23, eL_23⟩ : ∃ y : List Nat, y = L_15 ++ [q_23] := ⟨_, rfl⟩
  obtain ⟨f_23, ef_23⟩ : ∃ y : pF, y = va_up f_17 q_23 (.inl (dA 1, Int32.toNatClampNeg (6 : Int32), .inl (fun _ => 0))) := ⟨_, rfl⟩
  have hw := hw q_23 hq9 hz9 L_23 f_23 eL_23 ef_23
  have hP : va_P (dC, dI) vwCl (va_pl L_23 f_23) H := by rw [eL_23, ef_23]; exact hP2
  have hD : va_D A (va_pl L_23 f_23) := by rw [eL_23, ef_23]; exact hD2
  refine W.widen (k := 3) (n := 70) (by decide) (by decide) ?_
  obtain ⟨fs_25, ⟨hL9, hf9, hn9⟩, hw⟩ := hw
  obtain ⟨kq9, hkq9⟩ := p_at hL9 hf9
  refine va_putF (D := (dC, dI)) (ci := 10) (v := .ref q_23) (C := RX9) (T := TX9) (N := 38) hx hb hts iw_X9_init_RX9 tyX9 tyX9_ok nmX9 hown hK hP hD hS kq9 hkq9 rfl 7 (by decide) (hts _ lk_X9_init_16) (fun _ h9 => h9) rfl hin rfl (tyX9_ok 7 (by decide)) rfl rfl hn9 dX9_init_25 (fun H locs hP2 hD2 hS => ?_)
  rw [p_set hD hL9 hf9 hkq9] at hP2 hD2
  obtain ⟨f_25, ef_25⟩ : ∃ y : pF, y = va_up f_23 a0 (.inr (10, fs_25.set 7 (.ref q_23))) := ⟨_, rfl⟩
  rw [← ef_25] at hP2 hD2
  have hw := hw f_25 ef_25
  have hP := hP2
  have hD := hD2
  refine lv_aload_n hx hb dX9_init_28 rfl (lv_at hl 0 rfl) ?_
  refine lv_sipush (v := 2160) hx hb dX9_init_29 (by decide) ?_
  refine va_newa (atype := .int) (ty := .int) hx hb (hts _ la_X9_init_int) rfl hK hP hD hS hA (a0 := (Int32.toNatClampNeg (2160 : Int32), .inl (fun _ => 0))) (fun _ => rfl) (by decide) rfl (by decide) (by decide) (by decide) dX9_init_32 (fun q_32 cA9 H hK9 hP2 hD2 hS => ?_)
  have hcA : cA9 = dA 1 := p_cA hK9 (t := 1) rfl
  subst hcA
  have hq9 := p_fresh hD2
  have hz9 := p_nz hB hT hD2
  rw [va_pl_push hq9] at hP2 hD2
  obtain ⟨L_32, eL_32⟩ : ∃ y : List Nat, y = L_23 ++ [q_32] := ⟨_, rfl⟩
  obtain ⟨f_32, ef_32⟩ : ∃ y : pF, y = va_up f_25 q_32 (.inl (dA 1, Int32.toNatClampNeg (2160 : Int32), .inl (fun _ => 0))) := ⟨_, rfl⟩
  have hw := hw q_32 hq9 hz9 L_32 f_32 eL_32 ef_32
  have hP : va_P (dC, dI) vwCl (va_pl L_32 f_32) H := by rw [eL_32, ef_32]; exact hP2
  have hD : va_D A (va_pl L_32 f_32) := by rw [eL_32, ef_32]; exact hD2
  refine W.widen (k := 4) (n := 2230) (by decide) (by decide) ?_
  obtain ⟨fs_34, ⟨hL9, hf9, hn9⟩, hw⟩ := hw
  obtain ⟨kq9, hkq9⟩ := p_at hL9 hf9
  refine va_putF (D := (dC, dI)) (ci := 10) (v := .ref q_32) (C := RX9) (T := TX9) (N := 38) hx hb hts iw_X9_init_RX9 tyX9 tyX9_ok nmX9 hown hK hP hD hS kq9 hkq9 rfl 8 (by decide) (hts _ lk_X9_init_19) (fun _ h9 => h9) rfl hin rfl (tyX9_ok 8 (by decide)) rfl rfl hn9 dX9_init_34 (fun H locs hP2 hD2 hS => ?_)
  rw [p_set hD hL9 hf9 hkq9] at hP2 hD2
  obtain ⟨f_34, ef_34⟩ : ∃ y : pF, y = va_up f_32 a0 (.inr (10, fs_34.set 8 (.ref q_32))) := ⟨_, rfl⟩
  rw [← ef_34] at hP2 hD2
  have hw := hw f_34 ef_34
  have hP := hP2
  have hD := hD2
  refine lv_aload_n hx hb dX9_init_37 rfl (lv_at hl 0 rfl) ?_
  refine lv_sipush (v := 180) hx hb dX9_init_38 (by decide) ?_
  refine va_newa (atype := .int) (ty := .int) hx hb (hts _ la_X9_init_int) rfl hK hP hD hS hA (a0 := (Int32.toNatClampNeg (180 : Int32), .inl (fun _ => 0))) (fun _ => rfl) (by decide) rfl (by decide) (by decide) (by decide) dX9_init_41 (fun q_41 cA9 H hK9 hP2 hD2 hS => ?_)
  have hcA : cA9 = dA 1 := p_cA hK9 (t := 1) rfl
  subst hcA
  have hq9 := p_fresh hD2
  have hz9 := p_nz hB hT hD2
  rw [va_pl_push hq9] at hP2 hD2
  obtain ⟨L_41, eL_41⟩ : ∃ y : List Nat, y = L_32 ++ [q_41] := ⟨_, rfl⟩
  obtain ⟨f_41, ef_41⟩ : ∃ y : pF, y = va_up f_34 q_41 (.inl (dA 1, Int32.toNatClampNeg (180 : Int32), .inl (fun _ => 0))) := ⟨_, rfl⟩
  have hw := hw q_41 hq9 hz9 L_41 f_41 eL_41 ef_41
  have hP : va_P (dC, dI) vwCl (va_pl L_41 f_41) H := by rw [eL_41, ef_41]; exact hP2
  have hD : va_D A (va_pl L_41 f_41) := by rw [eL_41, ef_41]; exact hD2
  refine W.widen (k := 5) (n := 2410) (by decide) (by decide) ?_
  obtain ⟨fs_43, ⟨hL9, hf9, hn9⟩, hw⟩ := hw
  obtain ⟨kq9, hkq9⟩ := p_at hL9 hf9
  refine va_putF (D := (dC, dI)) (ci := 10) (v := .ref q_41) (C := RX9) (T := TX9) (N := 38) hx hb hts iw_X9_init_RX9 tyX9 tyX9_ok nmX9 hown hK hP hD hS kq9 hkq9 rfl 9 (by decide) (hts _ lk_X9_init_22) (fun _ h9 => h9) rfl hin rfl (tyX9_ok 9 (by decide)) rfl rfl hn9 dX9_init_43 (fun H locs hP2 hD2 hS => ?_)
  rw [p_set hD hL9 hf9 hkq9] at hP2 hD2
  obtain ⟨f_43, ef_43⟩ : ∃ y : pF, y = va_up f_41 a0 (.inr (10, fs_43.set 9 (.ref q_41))) := ⟨_, rfl⟩
  rw [← ef_43] at hP2 hD2
  have hw := hw f_43 ef_43
  have hP := hP2
  have hD := hD2
  refine lv_aload_n hx hb dX9_init_46 rfl (lv_at hl 0 rfl) ?_
  refine lv_bipush (v := 60) hx hb dX9_init_47 (by decide) ?_
  refine va_newa (atype := .int) (ty := .int) hx hb (hts _ la_X9_init_int) rfl hK hP hD hS hA (a0 := (Int32.toNatClampNeg (60 : Int32), .inl (fun _ => 0))) (fun _ => rfl) (by decide) rfl (by decide) (by decide) (by decide) dX9_init_49 (fun q_49 cA9 H hK9 hP2 hD2 hS => ?_)
  have hcA : cA9 = dA 1 := p_cA hK9 (t := 1) rfl
  subst hcA
  have hq9 := p_fresh hD2
  have hz9 := p_nz hB hT hD2
  rw [va_pl_push hq9] at hP2 hD2
  obtain ⟨L_49, eL_49⟩ : ∃ y : List Nat, y = L_41 ++ [q_49] := ⟨_, rfl⟩
  obtain ⟨f_49, ef_49⟩ : ∃ y : pF, y = va_up f_43 q_49 (.inl (dA 1, Int32.toNatClampNeg (60 : Int32), .inl (fun _ => 0))) := ⟨_, rfl⟩
  have hw := hw q_49 hq9 hz9 L_49 f_49 eL_49 ef_49
  have hP : va_P (dC, dI) vwCl (va_pl L_49 f_49) H := by rw [eL_49, ef_49]; exact hP2
  have hD : va_D A (va_pl L_49 f_49) := by rw [eL_49, ef_49]; exact hD2
  refine W.widen (k := 6) (n := 2470) (by decide) (by decide) ?_
  obtain ⟨fs_51, ⟨hL9, hf9, hn9⟩, hw⟩ := hw
  obtain ⟨kq9, hkq9⟩ := p_at hL9 hf9
  refine va_putF (D := (dC, dI)) (ci := 10) (v := .ref q_49) (C := RX9) (T := TX9) (N := 38) hx hb hts iw_X9_init_RX9 tyX9 tyX9_ok nmX9 hown hK hP hD hS kq9 hkq9 rfl 10 (by decide) (hts _ lk_X9_init_25) (fun _ h9 => h9) rfl hin rfl (tyX9_ok 10 (by decide)) rfl rfl hn9 dX9_init_51 (fun H locs hP2 hD2 hS => ?_)
  rw [p_set hD hL9 hf9 hkq9] at hP2 hD2
  obtain ⟨f_51, ef_51⟩ : ∃ y : pF, y = va_up f_49 a0 (.inr (10, fs_51.set 10 (.ref q_49))) := ⟨_, rfl⟩
  rw [← ef_51] at hP2 hD2
  have hw := hw f_51 ef_51
  have hP := hP2
  have hD := hD2
  refine lv_aload_n hx hb dX9_init_54 rfl (lv_at hl 0 rfl) ?_
  refine lv_bipush (v := 60) hx hb dX9_init_55 (by decide) ?_
  refine va_newa (atype := .int) (ty := .int) hx hb (hts _ la_X9_init_int) rfl hK hP hD hS hA (a0 := (Int32.toNatClampNeg (60 : Int32), .inl (fun _ => 0))) (fun _ => rfl) (by decide) rfl (by decide) (by decide) (by decide) dX9_init_57 (fun q_57 cA9 H hK9 hP2 hD2 hS => ?_)
  have hcA : cA9 = dA 1 := p_cA hK9 (t := 1) rfl
  subst hcA
  have hq9 := p_fresh hD2
  have hz9 := p_nz hB hT hD2
  rw [va_pl_push hq9] at hP2 hD2
  obtain ⟨L_57, eL_57⟩ : ∃ y : List Nat, y = L_49 ++ [q_57] := ⟨_, rfl⟩
  obtain ⟨f_57, ef_57⟩ : ∃ y : pF, y = va_up f_51 q_57 (.inl (dA 1, Int32.toNatClampNeg (60 : Int32), .inl (fun _ => 0))) := ⟨_, rfl⟩
  have hw := hw q_57 hq9 hz9 L_57 f_57 eL_57 ef_57
  have hP : va_P (dC, dI) vwCl (va_pl L_57 f_57) H := by rw [eL_57, ef_57]; exact hP2
  have hD : va_D A (va_pl L_57 f_57) := by rw [eL_57, ef_57]; exact hD2
  refine W.widen (k := 7) (n := 2530) (by decide) (by decide) ?_
  obtain ⟨fs_59, ⟨hL9, hf9, hn9⟩, hw⟩ := hw
  obtain ⟨kq9, hkq9⟩ := p_at hL9 hf9
  refine va_putF (D := (dC, dI)) (ci := 10) (v := .ref q_57) (C := RX9) (T := TX9) (N := 38) hx hb hts iw_X9_init_RX9 tyX9 tyX9_ok nmX9 hown hK hP hD hS kq9 hkq9 rfl 11 (by decide) (hts _ lk_X9_init_28) (fun _ h9 => h9) rfl hin rfl (tyX9_ok 11 (by decide)) rfl rfl hn9 dX9_init_59 (fun H locs hP2 hD2 hS => ?_)
  rw [p_set hD hL9 hf9 hkq9] at hP2 hD2
  obtain ⟨f_59, ef_59⟩ : ∃ y : pF, y = va_up f_57 a0 (.inr (10, fs_59.set 11 (.ref q_57))) := ⟨_, rfl⟩
  rw [← ef_59] at hP2 hD2
  have hw := hw f_59 ef_59
  have hP := hP2
  have hD := hD2
  refine lv_aload_n hx hb dX9_init_62 rfl (lv_at hl 0 rfl) ?_
  refine lv_bipush (v := 60) hx hb dX9_init_63 (by decide) ?_
  refine va_newa (atype := .int) (ty := .int) hx hb (hts _ la_X9_init_int) rfl hK hP hD hS hA (a0 := (Int32.toNatClampNeg (60 : Int32), .inl (fun _ => 0))) (fun _ => rfl) (by decide) rfl (by decide) (by decide) (by decide) dX9_init_65 (fun q_65 cA9 H hK9 hP2 hD2 hS => ?_)
  have hcA : cA9 = dA 1 := p_cA hK9 (t := 1) rfl
  subst hcA
  have hq9 := p_fresh hD2
  have hz9 := p_nz hB hT hD2
  rw [va_pl_push hq9] at hP2 hD2
  obtain ⟨L_65, eL_65⟩ : ∃ y : List Nat, y = L_57 ++ [q_65] := ⟨_, rfl⟩
  obtain ⟨f_65, ef_65⟩ : ∃ y : pF, y = va_up f_59 q_65 (.inl (dA 1, Int32.toNatClampNeg (60 : Int32), .inl (fun _ => 0))) := ⟨_, rfl⟩
  have hw := hw q_65 hq9 hz9 L_65 f_65 eL_65 ef_65
  have hP : va_P (dC, dI) vwCl (va_pl L_65 f_65) H := by rw [eL_65, ef_65]; exact hP2
  have hD : va_D A (va_pl L_65 f_65) := by rw [eL_65, ef_65]; exact hD2
  refine W.widen (k := 8) (n := 2590) (by decide) (by decide) ?_
  obtain ⟨fs_67, ⟨hL9, hf9, hn9⟩, hw⟩ := hw
  obtain ⟨kq9, hkq9⟩ := p_at hL9 hf9
  refine va_putF (D := (dC, dI)) (ci := 10) (v := .ref q_65) (C := RX9) (T := TX9) (N := 38) hx hb hts iw_X9_init_RX9 tyX9 tyX9_ok nmX9 hown hK hP hD hS kq9 hkq9 rfl 12 (by decide) (hts _ lk_X9_init_31) (fun _ h9 => h9) rfl hin rfl (tyX9_ok 12 (by decide)) rfl rfl hn9 dX9_init_67 (fun H locs hP2 hD2 hS => ?_)
  rw [p_set hD hL9 hf9 hkq9] at hP2 hD2
  obtain ⟨f_67, ef_67⟩ : ∃ y : pF, y = va_up f_65 a0 (.inr (10, fs_67.set 12 (.ref q_65))) := ⟨_, rfl⟩
  rw [← ef_67] at hP2 hD2
  have hw := hw f_67 ef_67
  have hP := hP2
  have hD := hD2
  refine lv_aload_n hx hb dX9_init_70 rfl (lv_at hl 0 rfl) ?_
  refine lv_bipush (v := 60) hx hb dX9_init_71 (by decide) ?_
  refine va_newa (atype := .int) (ty := .int) hx hb (hts _ la_X9_init_int) rfl hK hP hD hS hA (a0 := (Int32.toNatClampNeg (60 : Int32), .inl (fun _ => 0))) (fun _ => rfl) (by decide) rfl (by decide) (by decide) (by decide) dX9_init_73 (fun q_73 cA9 H hK9 hP2 hD2 hS => ?_)
  have hcA : cA9 = dA 1 := p_cA hK9 (t := 1) rfl
  subst hcA
  have hq9 := p_fresh hD2
  have hz9 := p_nz hB hT hD2
  rw [va_pl_push hq9] at hP2 hD2
  obtain ⟨L_73, eL_73⟩ : ∃ y : List Nat, y = L_65 ++ [q_73] := ⟨_, rfl⟩
  obtain ⟨f_73, ef_73⟩ : ∃ y : pF, y = va_up f_67 q_73 (.inl (dA 1, Int32.toNatClampNeg (60 : Int32), .inl (fun _ => 0))) := ⟨_, rfl⟩
  have hw := hw q_73 hq9 hz9 L_73 f_73 eL_73 ef_73
  have hP : va_P (dC, dI) vwCl (va_pl L_73 f_73) H := by rw [eL_73, ef_73]; exact hP2
  have hD : va_D A (va_pl L_73 f_73) := by rw [eL_73, ef_73]; exact hD2
  refine W.widen (k := 9) (n := 2650) (by decide) (by decide) ?_
  obtain ⟨fs_75, ⟨hL9, hf9, hn9⟩, hw⟩ := hw
  obtain ⟨kq9, hkq9⟩ := p_at hL9 hf9
  refine va_putF (D := (dC, dI)) (ci := 10) (v := .ref q_73) (C := RX9) (T := TX9) (N := 38) hx hb hts iw_X9_init_RX9 tyX9 tyX9_ok nmX9 hown hK hP hD hS kq9 hkq9 rfl 13 (by decide) (hts _ lk_X9_init_34) (fun _ h9 => h9) rfl hin rfl (tyX9_ok 13 (by decide)) rfl rfl hn9 dX9_init_75 (fun H locs hP2 hD2 hS => ?_)
  rw [p_set hD hL9 hf9 hkq9] at hP2 hD2
  obtain ⟨f_75, ef_75⟩ : ∃ y : pF, y = va_up f_73 a0 (.inr (10, fs_75.set 13 (.ref q_73))) := ⟨_, rfl⟩
  rw [← ef_75] at hP2 hD2
  have hw := hw f_75 ef_75
  have hP := hP2
  have hD := hD2
  refine lv_aload_n hx hb dX9_init_78 rfl (lv_at hl 0 rfl) ?_
  refine lv_sipush (v := 3840) hx hb dX9_init_79 (by decide) ?_
  refine va_newa (atype := .int) (ty := .int) hx hb (hts _ la_X9_init_int) rfl hK hP hD hS hA (a0 := (Int32.toNatClampNeg (3840 : Int32), .inl (fun _ => 0))) (fun _ => rfl) (by decide) rfl (by decide) (by decide) (by decide) dX9_init_82 (fun q_82 cA9 H hK9 hP2 hD2 hS => ?_)
  have hcA : cA9 = dA 1 := p_cA hK9 (t := 1) rfl
  subst hcA
  have hq9 := p_fresh hD2
  have hz9 := p_nz hB hT hD2
  rw [va_pl_push hq9] at hP2 hD2
  obtain ⟨L_82, eL_82⟩ : ∃ y : List Nat, y = L_73 ++ [q_82] := ⟨_, rfl⟩
  obtain ⟨f_82, ef_82⟩ : ∃ y : pF, y = va_up f_75 q_82 (.inl (dA 1, Int32.toNatClampNeg (3840 : Int32), .inl (fun _ => 0))) := ⟨_, rfl⟩
  have hw := hw q_82 hq9 hz9 L_82 f_82 eL_82 ef_82
  have hP : va_P (dC, dI) vwCl (va_pl L_82 f_82) H := by rw [eL_82, ef_82]; exact hP2
  have hD : va_D A (va_pl L_82 f_82) := by rw [eL_82, ef_82]; exact hD2
  refine W.widen (k := 10) (n := 6490) (by decide) (by decide) ?_
  obtain ⟨fs_84, ⟨hL9, hf9, hn9⟩, hw⟩ := hw
  obtain ⟨kq9, hkq9⟩ := p_at hL9 hf9
  refine va_putF (D := (dC, dI)) (ci := 10) (v := .ref q_82) (C := RX9) (T := TX9) (N := 38) hx hb hts iw_X9_init_RX9 tyX9 tyX9_ok nmX9 hown hK hP hD hS kq9 hkq9 rfl 14 (by decide) (hts _ lk_X9_init_37) (fun _ h9 => h9) rfl hin rfl (tyX9_ok 14 (by decide)) rfl rfl hn9 dX9_init_84 (fun H locs hP2 hD2 hS => ?_)
  rw [p_set hD hL9 hf9 hkq9] at hP2 hD2
  obtain ⟨f_84, ef_84⟩ : ∃ y : pF, y = va_up f_82 a0 (.inr (10, fs_84.set 14 (.ref q_82))) := ⟨_, rfl⟩
  rw [← ef_84] at hP2 hD2
  have hw := hw f_84 ef_84
  have hP := hP2
  have hD := hD2
  refine lv_aload_n hx hb dX9_init_87 rfl (lv_at hl 0 rfl) ?_
  refine lv_sipush (v := 320) hx hb dX9_init_88 (by decide) ?_
  refine va_newa (atype := .int) (ty := .int) hx hb (hts _ la_X9_init_int) rfl hK hP hD hS hA (a0 := (Int32.toNatClampNeg (320 : Int32), .inl (fun _ => 0))) (fun _ => rfl) (by decide) rfl (by decide) (by decide) (by decide) dX9_init_91 (fun q_91 cA9 H hK9 hP2 hD2 hS => ?_)
  have hcA : cA9 = dA 1 := p_cA hK9 (t := 1) rfl
  subst hcA
  have hq9 := p_fresh hD2
  have hz9 := p_nz hB hT hD2
  rw [va_pl_push hq9] at hP2 hD2
  obtain ⟨L_91, eL_91⟩ : ∃ y : List Nat, y = L_82 ++ [q_91] := ⟨_, rfl⟩
  obtain ⟨f_91, ef_91⟩ : ∃ y : pF, y = va_up f_84 q_91 (.inl (dA 1, Int32.toNatClampNeg (320 : Int32), .inl (fun _ => 0))) := ⟨_, rfl⟩
  have hw := hw q_91 hq9 hz9 L_91 f_91 eL_91 ef_91
  have hP : va_P (dC, dI) vwCl (va_pl L_91 f_91) H := by rw [eL_91, ef_91]; exact hP2
  have hD : va_D A (va_pl L_91 f_91) := by rw [eL_91, ef_91]; exact hD2
  refine W.widen (k := 11) (n := 6810) (by decide) (by decide) ?_
  obtain ⟨fs_93, ⟨hL9, hf9, hn9⟩, hw⟩ := hw
  obtain ⟨kq9, hkq9⟩ := p_at hL9 hf9
  refine va_putF (D := (dC, dI)) (ci := 10) (v := .ref q_91) (C := RX9) (T := TX9) (N := 38) hx hb hts iw_X9_init_RX9 tyX9 tyX9_ok nmX9 hown hK hP hD hS kq9 hkq9 rfl 15 (by decide) (hts _ lk_X9_init_40) (fun _ h9 => h9) rfl hin rfl (tyX9_ok 15 (by decide)) rfl rfl hn9 dX9_init_93 (fun H locs hP2 hD2 hS => ?_)
  rw [p_set hD hL9 hf9 hkq9] at hP2 hD2
  obtain ⟨f_93, ef_93⟩ : ∃ y : pF, y = va_up f_91 a0 (.inr (10, fs_93.set 15 (.ref q_91))) := ⟨_, rfl⟩
  rw [← ef_93] at hP2 hD2
  have hw := hw f_93 ef_93
  have hP := hP2
  have hD := hD2
  refine lv_aload_n hx hb dX9_init_96 rfl (lv_at hl 0 rfl) ?_
  refine lv_bipush (v := 40) hx hb dX9_init_97 (by decide) ?_
  refine va_newa (atype := .int) (ty := .int) hx hb (hts _ la_X9_init_int) rfl hK hP hD hS hA (a0 := (Int32.toNatClampNeg (40 : Int32), .inl (fun _ => 0))) (fun _ => rfl) (by decide) rfl (by decide) (by decide) (by decide) dX9_init_99 (fun q_99 cA9 H hK9 hP2 hD2 hS => ?_)
  have hcA : cA9 = dA 1 := p_cA hK9 (t := 1) rfl
  subst hcA
  have hq9 := p_fresh hD2
  have hz9 := p_nz hB hT hD2
  rw [va_pl_push hq9] at hP2 hD2
  obtain ⟨L_99, eL_99⟩ : ∃ y : List Nat, y = L_91 ++ [q_99] := ⟨_, rfl⟩
  obtain ⟨f_99, ef_99⟩ : ∃ y : pF, y = va_up f_93 q_99 (.inl (dA 1, Int32.toNatClampNeg (40 : Int32), .inl (fun _ => 0))) := ⟨_, rfl⟩
  have hw := hw q_99 hq9 hz9 L_99 f_99 eL_99 ef_99
  have hP : va_P (dC, dI) vwCl (va_pl L_99 f_99) H := by rw [eL_99, ef_99]; exact hP2
  have hD : va_D A (va_pl L_99 f_99) := by rw [eL_99, ef_99]; exact hD2
  refine W.widen (k := 12) (n := 6850) (by decide) (by decide) ?_
  obtain ⟨fs_101, ⟨hL9, hf9, hn9⟩, hw⟩ := hw
  obtain ⟨kq9, hkq9⟩ := p_at hL9 hf9
  refine va_putF (D := (dC, dI)) (ci := 10) (v := .ref q_99) (C := RX9) (T := TX9) (N := 38) hx hb hts iw_X9_init_RX9 tyX9 tyX9_ok nmX9 hown hK hP hD hS kq9 hkq9 rfl 16 (by decide) (hts _ lk_X9_init_43) (fun _ h9 => h9) rfl hin rfl (tyX9_ok 16 (by decide)) rfl rfl hn9 dX9_init_101 (fun H locs hP2 hD2 hS => ?_)
  rw [p_set hD hL9 hf9 hkq9] at hP2 hD2
  obtain ⟨f_101, ef_101⟩ : ∃ y : pF, y = va_up f_99 a0 (.inr (10, fs_101.set 16 (.ref q_99))) := ⟨_, rfl⟩
  rw [← ef_101] at hP2 hD2
  have hw := hw f_101 ef_101
  have hP := hP2
  have hD := hD2
  refine lv_aload_n hx hb dX9_init_104 rfl (lv_at hl 0 rfl) ?_
  refine lv_bipush (v := 40) hx hb dX9_init_105 (by decide) ?_
  refine va_newa (atype := .long) (ty := .long) hx hb (hts _ la_X9_init_long) rfl hK hP hD hS hA (a0 := (Int32.toNatClampNeg (40 : Int32), .inr (.inl (fun _ => 0)))) (fun _ => rfl) (by decide) rfl (by decide) (by decide) (by decide) dX9_init_107 (fun q_107 cA9 H hK9 hP2 hD2 hS => ?_)
  have hcA : cA9 = dA 2 := p_cA hK9 (t := 2) rfl
  subst hcA
  have hq9 := p_fresh hD2
  have hz9 := p_nz hB hT hD2
  rw [va_pl_push hq9] at hP2 hD2
  obtain ⟨L_107, eL_107⟩ : ∃ y : List Nat, y = L_99 ++ [q_107] := ⟨_, rfl⟩
  obtain ⟨f_107, ef_107⟩ : ∃ y : pF, y = va_up f_101 q_107 (.inl (dA 2, Int32.toNatClampNeg (40 : Int32), .inr (.inl (fun _ => 0)))) := ⟨_, rfl⟩
  have hw := hw q_107 hq9 hz9 L_107 f_107 eL_107 ef_107
  have hP : va_P (dC, dI) vwCl (va_pl L_107 f_107) H := by rw [eL_107, ef_107]; exact hP2
  have hD : va_D A (va_pl L_107 f_107) := by rw [eL_107, ef_107]; exact hD2
  refine W.widen (k := 13) (n := 6890) (by decide) (by decide) ?_
  obtain ⟨fs_109, ⟨hL9, hf9, hn9⟩, hw⟩ := hw
  obtain ⟨kq9, hkq9⟩ := p_at hL9 hf9
  refine va_putF (D := (dC, dI)) (ci := 10) (v := .ref q_107) (C := RX9) (T := TX9) (N := 38) hx hb hts iw_X9_init_RX9 tyX9 tyX9_ok nmX9 hown hK hP hD hS kq9 hkq9 rfl 17 (by decide) (hts _ lk_X9_init_46) (fun _ h9 => h9) rfl hin rfl (tyX9_ok 17 (by decide)) rfl rfl hn9 dX9_init_109 (fun H locs hP2 hD2 hS => ?_)
  rw [p_set hD hL9 hf9 hkq9] at hP2 hD2
  obtain ⟨f_109, ef_109⟩ : ∃ y : pF, y = va_up f_107 a0 (.inr (10, fs_109.set 17 (.ref q_107))) := ⟨_, rfl⟩
  rw [← ef_109] at hP2 hD2
  have hw := hw f_109 ef_109
  have hP := hP2
  have hD := hD2
  refine lv_aload_n hx hb dX9_init_112 rfl (lv_at hl 0 rfl) ?_
  refine lv_bipush (v := 40) hx hb dX9_init_113 (by decide) ?_
  refine va_newa (atype := .boolean) (ty := .boolean) hx hb (hts _ la_X9_init_boolean) rfl hK hP hD hS hA (a0 := (Int32.toNatClampNeg (40 : Int32), .inl (fun _ => 0))) (fun _ => rfl) (by decide) rfl (by decide) (by decide) (by decide) dX9_init_115 (fun q_115 cA9 H hK9 hP2 hD2 hS => ?_)
  have hcA : cA9 = dA 5 := p_cA hK9 (t := 5) rfl
  subst hcA
  have hq9 := p_fresh hD2
  have hz9 := p_nz hB hT hD2
  rw [va_pl_push hq9] at hP2 hD2
  obtain ⟨L_115, eL_115⟩ : ∃ y : List Nat, y = L_107 ++ [q_115] := ⟨_, rfl⟩
  obtain ⟨f_115, ef_115⟩ : ∃ y : pF, y = va_up f_109 q_115 (.inl (dA 5, Int32.toNatClampNeg (40 : Int32), .inl (fun _ => 0))) := ⟨_, rfl⟩
  have hw := hw q_115 hq9 hz9 L_115 f_115 eL_115 ef_115
  have hP : va_P (dC, dI) vwCl (va_pl L_115 f_115) H := by rw [eL_115, ef_115]; exact hP2
  have hD : va_D A (va_pl L_115 f_115) := by rw [eL_115, ef_115]; exact hD2
  refine W.widen (k := 14) (n := 6930) (by decide) (by decide) ?_
  obtain ⟨fs_117, ⟨hL9, hf9, hn9⟩, hw⟩ := hw
  obtain ⟨kq9, hkq9⟩ := p_at hL9 hf9
  refine va_putF (D := (dC, dI)) (ci := 10) (v := .ref q_115) (C := RX9) (T := TX9) (N := 38) hx hb hts iw_X9_init_RX9 tyX9 tyX9_ok nmX9 hown hK hP hD hS kq9 hkq9 rfl 18 (by decide) (hts _ lk_X9_init_50) (fun _ h9 => h9) rfl hin rfl (tyX9_ok 18 (by decide)) rfl rfl hn9 dX9_init_117 (fun H locs hP2 hD2 hS => ?_)
  rw [p_set hD hL9 hf9 hkq9] at hP2 hD2
  obtain ⟨f_117, ef_117⟩ : ∃ y : pF, y = va_up f_115 a0 (.inr (10, fs_117.set 18 (.ref q_115))) := ⟨_, rfl⟩
  rw [← ef_117] at hP2 hD2
  have hw := hw f_117 ef_117
  have hP := hP2
  have hD := hD2
  refine lv_aload_n hx hb dX9_init_120 rfl (lv_at hl 0 rfl) ?_
  refine lv_sipush (v := 4800) hx hb dX9_init_121 (by decide) ?_
  refine va_newa (atype := .int) (ty := .int) hx hb (hts _ la_X9_init_int) rfl hK hP hD hS hA (a0 := (Int32.toNatClampNeg (4800 : Int32), .inl (fun _ => 0))) (fun _ => rfl) (by decide) rfl (by decide) (by decide) (by decide) dX9_init_124 (fun q_124 cA9 H hK9 hP2 hD2 hS => ?_)
  have hcA : cA9 = dA 1 := p_cA hK9 (t := 1) rfl
  subst hcA
  have hq9 := p_fresh hD2
  have hz9 := p_nz hB hT hD2
  rw [va_pl_push hq9] at hP2 hD2
  obtain ⟨L_124, eL_124⟩ : ∃ y : List Nat, y = L_115 ++ [q_124] := ⟨_, rfl⟩
  obtain ⟨f_124, ef_124⟩ : ∃ y : pF, y = va_up f_117 q_124 (.inl (dA 1, Int32.toNatClampNeg (4800 : Int32), .inl (fun _ => 0))) := ⟨_, rfl⟩
  have hw := hw q_124 hq9 hz9 L_124 f_124 eL_124 ef_124
  have hP : va_P (dC, dI) vwCl (va_pl L_124 f_124) H := by rw [eL_124, ef_124]; exact hP2
  have hD : va_D A (va_pl L_124 f_124) := by rw [eL_124, ef_124]; exact hD2
  refine W.widen (k := 15) (n := 11730) (by decide) (by decide) ?_
  obtain ⟨fs_126, ⟨hL9, hf9, hn9⟩, hw⟩ := hw
  obtain ⟨kq9, hkq9⟩ := p_at hL9 hf9
  refine va_putF (D := (dC, dI)) (ci := 10) (v := .ref q_124) (C := RX9) (T := TX9) (N := 38) hx hb hts iw_X9_init_RX9 tyX9 tyX9_ok nmX9 hown hK hP hD hS kq9 hkq9 rfl 19 (by decide) (hts _ lk_X9_init_54) (fun _ h9 => h9) rfl hin rfl (tyX9_ok 19 (by decide)) rfl rfl hn9 dX9_init_126 (fun H locs hP2 hD2 hS => ?_)
  rw [p_set hD hL9 hf9 hkq9] at hP2 hD2
  obtain ⟨f_126, ef_126⟩ : ∃ y : pF, y = va_up f_124 a0 (.inr (10, fs_126.set 19 (.ref q_124))) := ⟨_, rfl⟩
  rw [← ef_126] at hP2 hD2
  have hw := hw f_126 ef_126
  have hP := hP2
  have hD := hD2
  refine lv_aload_n hx hb dX9_init_129 rfl (lv_at hl 0 rfl) ?_
  refine lv_bipush (v := 8) hx hb dX9_init_130 (by decide) ?_
  refine va_newa (atype := .int) (ty := .int) hx hb (hts _ la_X9_init_int) rfl hK hP hD hS hA (a0 := (Int32.toNatClampNeg (8 : Int32), .inl (fun _ => 0))) (fun _ => rfl) (by decide) rfl (by decide) (by decide) (by decide) dX9_init_132 (fun q_132 cA9 H hK9 hP2 hD2 hS => ?_)
  have hcA : cA9 = dA 1 := p_cA hK9 (t := 1) rfl
  subst hcA
  have hq9 := p_fresh hD2
  have hz9 := p_nz hB hT hD2
  rw [va_pl_push hq9] at hP2 hD2
  obtain ⟨L_132, eL_132⟩ : ∃ y : List Nat, y = L_124 ++ [q_132] := ⟨_, rfl⟩
  obtain ⟨f_132, ef_132⟩ : ∃ y : pF, y = va_up f_126 q_132 (.inl (dA 1, Int32.toNatClampNeg (8 : Int32), .inl (fun _ => 0))) := ⟨_, rfl⟩
  have hw := hw q_132 hq9 hz9 L_132 f_132 eL_132 ef_132
  have hP : va_P (dC, dI) vwCl (va_pl L_132 f_132) H := by rw [eL_132, ef_132]; exact hP2
  have hD : va_D A (va_pl L_132 f_132) := by rw [eL_132, ef_132]; exact hD2
  refine W.widen (k := 16) (n := 11738) (by decide) (by decide) ?_
  obtain ⟨fs_134, ⟨hL9, hf9, hn9⟩, hw⟩ := hw
  obtain ⟨kq9, hkq9⟩ := p_at hL9 hf9
  refine va_putF (D := (dC, dI)) (ci := 10) (v := .ref q_132) (C := RX9) (T := TX9) (N := 38) hx hb hts iw_X9_init_RX9 tyX9 tyX9_ok nmX9 hown hK hP hD hS kq9 hkq9 rfl 20 (by decide) (hts _ lk_X9_init_57) (fun _ h9 => h9) rfl hin rfl (tyX9_ok 20 (by decide)) rfl rfl hn9 dX9_init_134 (fun H locs hP2 hD2 hS => ?_)
  rw [p_set hD hL9 hf9 hkq9] at hP2 hD2
  obtain ⟨f_134, ef_134⟩ : ∃ y : pF, y = va_up f_132 a0 (.inr (10, fs_134.set 20 (.ref q_132))) := ⟨_, rfl⟩
  rw [← ef_134] at hP2 hD2
  have hw := hw f_134 ef_134
  have hP := hP2
  have hD := hD2
  refine lv_aload_n hx hb dX9_init_137 rfl (lv_at hl 0 rfl) ?_
  refine lv_sipush (v := 301) hx hb dX9_init_138 (by decide) ?_
  refine va_newa (atype := .int) (ty := .int) hx hb (hts _ la_X9_init_int) rfl hK hP hD hS hA (a0 := (Int32.toNatClampNeg (301 : Int32), .inl (fun _ => 0))) (fun _ => rfl) (by decide) rfl (by decide) (by decide) (by decide) dX9_init_141 (fun q_141 cA9 H hK9 hP2 hD2 hS => ?_)
  have hcA : cA9 = dA 1 := p_cA hK9 (t := 1) rfl
  subst hcA
  have hq9 := p_fresh hD2
  have hz9 := p_nz hB hT hD2
  rw [va_pl_push hq9] at hP2 hD2
  obtain ⟨L_141, eL_141⟩ : ∃ y : List Nat, y = L_132 ++ [q_141] := ⟨_, rfl⟩
  obtain ⟨f_141, ef_141⟩ : ∃ y : pF, y = va_up f_134 q_141 (.inl (dA 1, Int32.toNatClampNeg (301 : Int32), .inl (fun _ => 0))) := ⟨_, rfl⟩
  have hw := hw q_141 hq9 hz9 L_141 f_141 eL_141 ef_141
  have hP : va_P (dC, dI) vwCl (va_pl L_141 f_141) H := by rw [eL_141, ef_141]; exact hP2
  have hD : va_D A (va_pl L_141 f_141) := by rw [eL_141, ef_141]; exact hD2
  refine W.widen (k := 17) (n := 12039) (by decide) (by decide) ?_
  obtain ⟨fs_143, ⟨hL9, hf9, hn9⟩, hw⟩ := hw
  obtain ⟨kq9, hkq9⟩ := p_at hL9 hf9
  refine va_putF (D := (dC, dI)) (ci := 10) (v := .ref q_141) (C := RX9) (T := TX9) (N := 38) hx hb hts iw_X9_init_RX9 tyX9 tyX9_ok nmX9 hown hK hP hD hS kq9 hkq9 rfl 22 (by decide) (hts _ lk_X9_init_60) (fun _ h9 => h9) rfl hin rfl (tyX9_ok 22 (by decide)) rfl rfl hn9 dX9_init_143 (fun H locs hP2 hD2 hS => ?_)
  rw [p_set hD hL9 hf9 hkq9] at hP2 hD2
  obtain ⟨f_143, ef_143⟩ : ∃ y : pF, y = va_up f_141 a0 (.inr (10, fs_143.set 22 (.ref q_141))) := ⟨_, rfl⟩
  rw [← ef_143] at hP2 hD2
  have hw := hw f_143 ef_143
  have hP := hP2
  have hD := hD2
  refine lv_aload_n hx hb dX9_init_146 rfl (lv_at hl 0 rfl) ?_
  refine lv_sipush (v := 301) hx hb dX9_init_147 (by decide) ?_
  refine va_newa (atype := .int) (ty := .int) hx hb (hts _ la_X9_init_int) rfl hK hP hD hS hA (a0 := (Int32.toNatClampNeg (301 : Int32), .inl (fun _ => 0))) (fun _ => rfl) (by decide) rfl (by decide) (by decide) (by decide) dX9_init_150 (fun q_150 cA9 H hK9 hP2 hD2 hS => ?_)
  have hcA : cA9 = dA 1 := p_cA hK9 (t := 1) rfl
  subst hcA
  have hq9 := p_fresh hD2
  have hz9 := p_nz hB hT hD2
  rw [va_pl_push hq9] at hP2 hD2
  obtain ⟨L_150, eL_150⟩ : ∃ y : List Nat, y = L_141 ++ [q_150] := ⟨_, rfl⟩
  obtain ⟨f_150, ef_150⟩ : ∃ y : pF, y = va_up f_143 q_150 (.inl (dA 1, Int32.toNatClampNeg (301 : Int32), .inl (fun _ => 0))) := ⟨_, rfl⟩
  have hw := hw q_150 hq9 hz9 L_150 f_150 eL_150 ef_150
  have hP : va_P (dC, dI) vwCl (va_pl L_150 f_150) H := by rw [eL_150, ef_150]; exact hP2
  have hD : va_D A (va_pl L_150 f_150) := by rw [eL_150, ef_150]; exact hD2
  refine W.widen (k := 18) (n := 12340) (by decide) (by decide) ?_
  obtain ⟨fs_152, ⟨hL9, hf9, hn9⟩, hw⟩ := hw
  obtain ⟨kq9, hkq9⟩ := p_at hL9 hf9
  refine va_putF (D := (dC, dI)) (ci := 10) (v := .ref q_150) (C := RX9) (T := TX9) (N := 38) hx hb hts iw_X9_init_RX9 tyX9 tyX9_ok nmX9 hown hK hP hD hS kq9 hkq9 rfl 23 (by decide) (hts _ lk_X9_init_63) (fun _ h9 => h9) rfl hin rfl (tyX9_ok 23 (by decide)) rfl rfl hn9 dX9_init_152 (fun H locs hP2 hD2 hS => ?_)
  rw [p_set hD hL9 hf9 hkq9] at hP2 hD2
  obtain ⟨f_152, ef_152⟩ : ∃ y : pF, y = va_up f_150 a0 (.inr (10, fs_152.set 23 (.ref q_150))) := ⟨_, rfl⟩
  rw [← ef_152] at hP2 hD2
  have hw := hw f_152 ef_152
  have hP := hP2
  have hD := hD2
  refine lv_aload_n hx hb dX9_init_155 rfl (lv_at hl 0 rfl) ?_
  refine lv_sipush (v := 301) hx hb dX9_init_156 (by decide) ?_
  refine va_newa (atype := .int) (ty := .int) hx hb (hts _ la_X9_init_int) rfl hK hP hD hS hA (a0 := (Int32.toNatClampNeg (301 : Int32), .inl (fun _ => 0))) (fun _ => rfl) (by decide) rfl (by decide) (by decide) (by decide) dX9_init_159 (fun q_159 cA9 H hK9 hP2 hD2 hS => ?_)
  have hcA : cA9 = dA 1 := p_cA hK9 (t := 1) rfl
  subst hcA
  have hq9 := p_fresh hD2
  have hz9 := p_nz hB hT hD2
  rw [va_pl_push hq9] at hP2 hD2
  obtain ⟨L_159, eL_159⟩ : ∃ y : List Nat, y = L_150 ++ [q_159] := ⟨_, rfl⟩
  obtain ⟨f_159, ef_159⟩ : ∃ y : pF, y = va_up f_152 q_159 (.inl (dA 1, Int32.toNatClampNeg (301 : Int32), .inl (fun _ => 0))) := ⟨_, rfl⟩
  have hw := hw q_159 hq9 hz9 L_159 f_159 eL_159 ef_159
  have hP : va_P (dC, dI) vwCl (va_pl L_159 f_159) H := by rw [eL_159, ef_159]; exact hP2
  have hD : va_D A (va_pl L_159 f_159) := by rw [eL_159, ef_159]; exact hD2
  refine W.widen (k := 19) (n := 12641) (by decide) (by decide) ?_
  obtain ⟨fs_161, ⟨hL9, hf9, hn9⟩, hw⟩ := hw
  obtain ⟨kq9, hkq9⟩ := p_at hL9 hf9
  refine va_putF (D := (dC, dI)) (ci := 10) (v := .ref q_159) (C := RX9) (T := TX9) (N := 38) hx hb hts iw_X9_init_RX9 tyX9 tyX9_ok nmX9 hown hK hP hD hS kq9 hkq9 rfl 24 (by decide) (hts _ lk_X9_init_66) (fun _ h9 => h9) rfl hin rfl (tyX9_ok 24 (by decide)) rfl rfl hn9 dX9_init_161 (fun H locs hP2 hD2 hS => ?_)
  rw [p_set hD hL9 hf9 hkq9] at hP2 hD2
  obtain ⟨f_161, ef_161⟩ : ∃ y : pF, y = va_up f_159 a0 (.inr (10, fs_161.set 24 (.ref q_159))) := ⟨_, rfl⟩
  rw [← ef_161] at hP2 hD2
  have hw := hw f_161 ef_161
  have hP := hP2
  have hD := hD2
  refine lv_aload_n hx hb dX9_init_164 rfl (lv_at hl 0 rfl) ?_
  refine lv_sipush (v := 301) hx hb dX9_init_165 (by decide) ?_
  refine va_newa (atype := .int) (ty := .int) hx hb (hts _ la_X9_init_int) rfl hK hP hD hS hA (a0 := (Int32.toNatClampNeg (301 : Int32), .inl (fun _ => 0))) (fun _ => rfl) (by decide) rfl (by decide) (by decide) (by decide) dX9_init_168 (fun q_168 cA9 H hK9 hP2 hD2 hS => ?_)
  have hcA : cA9 = dA 1 := p_cA hK9 (t := 1) rfl
  subst hcA
  have hq9 := p_fresh hD2
  have hz9 := p_nz hB hT hD2
  rw [va_pl_push hq9] at hP2 hD2
  obtain ⟨L_168, eL_168⟩ : ∃ y : List Nat, y = L_159 ++ [q_168] := ⟨_, rfl⟩
  obtain ⟨f_168, ef_168⟩ : ∃ y : pF, y = va_up f_161 q_168 (.inl (dA 1, Int32.toNatClampNeg (301 : Int32), .inl (fun _ => 0))) := ⟨_, rfl⟩
  have hw := hw q_168 hq9 hz9 L_168 f_168 eL_168 ef_168
  have hP : va_P (dC, dI) vwCl (va_pl L_168 f_168) H := by rw [eL_168, ef_168]; exact hP2
  have hD : va_D A (va_pl L_168 f_168) := by rw [eL_168, ef_168]; exact hD2
  refine W.widen (k := 20) (n := 12942) (by decide) (by decide) ?_
  obtain ⟨fs_170, ⟨hL9, hf9, hn9⟩, hw⟩ := hw
  obtain ⟨kq9, hkq9⟩ := p_at hL9 hf9
  refine va_putF (D := (dC, dI)) (ci := 10) (v := .ref q_168) (C := RX9) (T := TX9) (N := 38) hx hb hts iw_X9_init_RX9 tyX9 tyX9_ok nmX9 hown hK hP hD hS kq9 hkq9 rfl 26 (by decide) (hts _ lk_X9_init_69) (fun _ h9 => h9) rfl hin rfl (tyX9_ok 26 (by decide)) rfl rfl hn9 dX9_init_170 (fun H locs hP2 hD2 hS => ?_)
  rw [p_set hD hL9 hf9 hkq9] at hP2 hD2
  obtain ⟨f_170, ef_170⟩ : ∃ y : pF, y = va_up f_168 a0 (.inr (10, fs_170.set 26 (.ref q_168))) := ⟨_, rfl⟩
  rw [← ef_170] at hP2 hD2
  have hw := hw f_170 ef_170
  have hP := hP2
  have hD := hD2
  refine lv_aload_n hx hb dX9_init_173 rfl (lv_at hl 0 rfl) ?_
  refine lv_sipush (v := 301) hx hb dX9_init_174 (by decide) ?_
  refine va_newa (atype := .int) (ty := .int) hx hb (hts _ la_X9_init_int) rfl hK hP hD hS hA (a0 := (Int32.toNatClampNeg (301 : Int32), .inl (fun _ => 0))) (fun _ => rfl) (by decide) rfl (by decide) (by decide) (by decide) dX9_init_177 (fun q_177 cA9 H hK9 hP2 hD2 hS => ?_)
  have hcA : cA9 = dA 1 := p_cA hK9 (t := 1) rfl
  subst hcA
  have hq9 := p_fresh hD2
  have hz9 := p_nz hB hT hD2
  rw [va_pl_push hq9] at hP2 hD2
  obtain ⟨L_177, eL_177⟩ : ∃ y : List Nat, y = L_168 ++ [q_177] := ⟨_, rfl⟩
  obtain ⟨f_177, ef_177⟩ : ∃ y : pF, y = va_up f_170 q_177 (.inl (dA 1, Int32.toNatClampNeg (301 : Int32), .inl (fun _ => 0))) := ⟨_, rfl⟩
  have hw := hw q_177 hq9 hz9 L_177 f_177 eL_177 ef_177
  have hP : va_P (dC, dI) vwCl (va_pl L_177 f_177) H := by rw [eL_177, ef_177]; exact hP2
  have hD : va_D A (va_pl L_177 f_177) := by rw [eL_177, ef_177]; exact hD2
  refine W.widen (k := 21) (n := 13243) (by decide) (by decide) ?_
  obtain ⟨fs_179, ⟨hL9, hf9, hn9⟩, hw⟩ := hw
  obtain ⟨kq9, hkq9⟩ := p_at hL9 hf9
  refine va_putF (D := (dC, dI)) (ci := 10) (v := .ref q_177) (C := RX9) (T := TX9) (N := 38) hx hb hts iw_X9_init_RX9 tyX9 tyX9_ok nmX9 hown hK hP hD hS kq9 hkq9 rfl 27 (by decide) (hts _ lk_X9_init_72) (fun _ h9 => h9) rfl hin rfl (tyX9_ok 27 (by decide)) rfl rfl hn9 dX9_init_179 (fun H locs hP2 hD2 hS => ?_)
  rw [p_set hD hL9 hf9 hkq9] at hP2 hD2
  obtain ⟨f_179, ef_179⟩ : ∃ y : pF, y = va_up f_177 a0 (.inr (10, fs_179.set 27 (.ref q_177))) := ⟨_, rfl⟩
  rw [← ef_179] at hP2 hD2
  have hw := hw f_179 ef_179
  have hP := hP2
  have hD := hD2
  refine lv_aload_n hx hb dX9_init_182 rfl (lv_at hl 0 rfl) ?_
  refine lv_sipush (v := 301) hx hb dX9_init_183 (by decide) ?_
  refine va_newa (atype := .int) (ty := .int) hx hb (hts _ la_X9_init_int) rfl hK hP hD hS hA (a0 := (Int32.toNatClampNeg (301 : Int32), .inl (fun _ => 0))) (fun _ => rfl) (by decide) rfl (by decide) (by decide) (by decide) dX9_init_186 (fun q_186 cA9 H hK9 hP2 hD2 hS => ?_)
  have hcA : cA9 = dA 1 := p_cA hK9 (t := 1) rfl
  subst hcA
  have hq9 := p_fresh hD2
  have hz9 := p_nz hB hT hD2
  rw [va_pl_push hq9] at hP2 hD2
  obtain ⟨L_186, eL_186⟩ : ∃ y : List Nat, y = L_177 ++ [q_186] := ⟨_, rfl⟩
  obtain ⟨f_186, ef_186⟩ : ∃ y : pF, y = va_up f_179 q_186 (.inl (dA 1, Int32.toNatClampNeg (301 : Int32), .inl (fun _ => 0))) := ⟨_, rfl⟩
  have hw := hw q_186 hq9 hz9 L_186 f_186 eL_186 ef_186
  have hP : va_P (dC, dI) vwCl (va_pl L_186 f_186) H := by rw [eL_186, ef_186]; exact hP2
  have hD : va_D A (va_pl L_186 f_186) := by rw [eL_186, ef_186]; exact hD2
  refine W.widen (k := 22) (n := 13544) (by decide) (by decide) ?_
  obtain ⟨fs_188, ⟨hL9, hf9, hn9⟩, hw⟩ := hw
  obtain ⟨kq9, hkq9⟩ := p_at hL9 hf9
  refine va_putF (D := (dC, dI)) (ci := 10) (v := .ref q_186) (C := RX9) (T := TX9) (N := 38) hx hb hts iw_X9_init_RX9 tyX9 tyX9_ok nmX9 hown hK hP hD hS kq9 hkq9 rfl 28 (by decide) (hts _ lk_X9_init_75) (fun _ h9 => h9) rfl hin rfl (tyX9_ok 28 (by decide)) rfl rfl hn9 dX9_init_188 (fun H locs hP2 hD2 hS => ?_)
  rw [p_set hD hL9 hf9 hkq9] at hP2 hD2
  obtain ⟨f_188, ef_188⟩ : ∃ y : pF, y = va_up f_186 a0 (.inr (10, fs_188.set 28 (.ref q_186))) := ⟨_, rfl⟩
  rw [← ef_188] at hP2 hD2
  have hw := hw f_188 ef_188
  have hP := hP2
  have hD := hD2
  refine lv_aload_n hx hb dX9_init_191 rfl (lv_at hl 0 rfl) ?_
  refine lv_sipush (v := 301) hx hb dX9_init_192 (by decide) ?_
  refine va_newa (atype := .int) (ty := .int) hx hb (hts _ la_X9_init_int) rfl hK hP hD hS hA (a0 := (Int32.toNatClampNeg (301 : Int32), .inl (fun _ => 0))) (fun _ => rfl) (by decide) rfl (by decide) (by decide) (by decide) dX9_init_195 (fun q_195 cA9 H hK9 hP2 hD2 hS => ?_)
  have hcA : cA9 = dA 1 := p_cA hK9 (t := 1) rfl
  subst hcA
  have hq9 := p_fresh hD2
  have hz9 := p_nz hB hT hD2
  rw [va_pl_push hq9] at hP2 hD2
  obtain ⟨L_195, eL_195⟩ : ∃ y : List Nat, y = L_186 ++ [q_195] := ⟨_, rfl⟩
  obtain ⟨f_195, ef_195⟩ : ∃ y : pF, y = va_up f_188 q_195 (.inl (dA 1, Int32.toNatClampNeg (301 : Int32), .inl (fun _ => 0))) := ⟨_, rfl⟩
  have hw := hw q_195 hq9 hz9 L_195 f_195 eL_195 ef_195
  have hP : va_P (dC, dI) vwCl (va_pl L_195 f_195) H := by rw [eL_195, ef_195]; exact hP2
  have hD : va_D A (va_pl L_195 f_195) := by rw [eL_195, ef_195]; exact hD2
  refine W.widen (k := 23) (n := 13845) (by decide) (by decide) ?_
  obtain ⟨fs_197, ⟨hL9, hf9, hn9⟩, hw⟩ := hw
  obtain ⟨kq9, hkq9⟩ := p_at hL9 hf9
  refine va_putF (D := (dC, dI)) (ci := 10) (v := .ref q_195) (C := RX9) (T := TX9) (N := 38) hx hb hts iw_X9_init_RX9 tyX9 tyX9_ok nmX9 hown hK hP hD hS kq9 hkq9 rfl 29 (by decide) (hts _ lk_X9_init_78) (fun _ h9 => h9) rfl hin rfl (tyX9_ok 29 (by decide)) rfl rfl hn9 dX9_init_197 (fun H locs hP2 hD2 hS => ?_)
  rw [p_set hD hL9 hf9 hkq9] at hP2 hD2
  obtain ⟨f_197, ef_197⟩ : ∃ y : pF, y = va_up f_195 a0 (.inr (10, fs_197.set 29 (.ref q_195))) := ⟨_, rfl⟩
  rw [← ef_197] at hP2 hD2
  have hw := hw f_197 ef_197
  have hP := hP2
  have hD := hD2
  refine lv_aload_n hx hb dX9_init_200 rfl (lv_at hl 0 rfl) ?_
  refine lv_sipush (v := 301) hx hb dX9_init_201 (by decide) ?_
  refine va_newa (atype := .int) (ty := .int) hx hb (hts _ la_X9_init_int) rfl hK hP hD hS hA (a0 := (Int32.toNatClampNeg (301 : Int32), .inl (fun _ => 0))) (fun _ => rfl) (by decide) rfl (by decide) (by decide) (by decide) dX9_init_204 (fun q_204 cA9 H hK9 hP2 hD2 hS => ?_)
  have hcA : cA9 = dA 1 := p_cA hK9 (t := 1) rfl
  subst hcA
  have hq9 := p_fresh hD2
  have hz9 := p_nz hB hT hD2
  rw [va_pl_push hq9] at hP2 hD2
  obtain ⟨L_204, eL_204⟩ : ∃ y : List Nat, y = L_195 ++ [q_204] := ⟨_, rfl⟩
  obtain ⟨f_204, ef_204⟩ : ∃ y : pF, y = va_up f_197 q_204 (.inl (dA 1, Int32.toNatClampNeg (301 : Int32), .inl (fun _ => 0))) := ⟨_, rfl⟩
  have hw := hw q_204 hq9 hz9 L_204 f_204 eL_204 ef_204
  have hP : va_P (dC, dI) vwCl (va_pl L_204 f_204) H := by rw [eL_204, ef_204]; exact hP2
  have hD : va_D A (va_pl L_204 f_204) := by rw [eL_204, ef_204]; exact hD2
  refine W.widen (k := 24) (n := 14146) (by decide) (by decide) ?_
  obtain ⟨fs_206, ⟨hL9, hf9, hn9⟩, hw⟩ := hw
  obtain ⟨kq9, hkq9⟩ := p_at hL9 hf9
  refine va_putF (D := (dC, dI)) (ci := 10) (v := .ref q_204) (C := RX9) (T := TX9) (N := 38) hx hb hts iw_X9_init_RX9 tyX9 tyX9_ok nmX9 hown hK hP hD hS kq9 hkq9 rfl 30 (by decide) (hts _ lk_X9_init_81) (fun _ h9 => h9) rfl hin rfl (tyX9_ok 30 (by decide)) rfl rfl hn9 dX9_init_206 (fun H locs hP2 hD2 hS => ?_)
  rw [p_set hD hL9 hf9 hkq9] at hP2 hD2
  obtain ⟨f_206, ef_206⟩ : ∃ y : pF, y = va_up f_204 a0 (.inr (10, fs_206.set 30 (.ref q_204))) := ⟨_, rfl⟩
  rw [← ef_206] at hP2 hD2
  have hw := hw f_206 ef_206
  have hP := hP2
  have hD := hD2
  refine lv_aload_n hx hb dX9_init_209 rfl (lv_at hl 0 rfl) ?_
  refine lv_bipush (v := 64) hx hb dX9_init_210 (by decide) ?_
  refine va_newa (atype := .int) (ty := .int) hx hb (hts _ la_X9_init_int) rfl hK hP hD hS hA (a0 := (Int32.toNatClampNeg (64 : Int32), .inl (fun _ => 0))) (fun _ => rfl) (by decide) rfl (by decide) (by decide) (by decide) dX9_init_212 (fun q_212 cA9 H hK9 hP2 hD2 hS => ?_)
  have hcA : cA9 = dA 1 := p_cA hK9 (t := 1) rfl
  subst hcA
  have hq9 := p_fresh hD2
  have hz9 := p_nz hB hT hD2
  rw [va_pl_push hq9] at hP2 hD2
  obtain ⟨L_212, eL_212⟩ : ∃ y : List Nat, y = L_204 ++ [q_212] := ⟨_, rfl⟩
  obtain ⟨f_212, ef_212⟩ : ∃ y : pF, y = va_up f_206 q_212 (.inl (dA 1, Int32.toNatClampNeg (64 : Int32), .inl (fun _ => 0))) := ⟨_, rfl⟩
  have hw := hw q_212 hq9 hz9 L_212 f_212 eL_212 ef_212
  have hP : va_P (dC, dI) vwCl (va_pl L_212 f_212) H := by rw [eL_212, ef_212]; exact hP2
  have hD : va_D A (va_pl L_212 f_212) := by rw [eL_212, ef_212]; exact hD2
  refine W.widen (k := 25) (n := 14210) (by decide) (by decide) ?_
  obtain ⟨fs_214, ⟨hL9, hf9, hn9⟩, hw⟩ := hw
  obtain ⟨kq9, hkq9⟩ := p_at hL9 hf9
  refine va_putF (D := (dC, dI)) (ci := 10) (v := .ref q_212) (C := RX9) (T := TX9) (N := 38) hx hb hts iw_X9_init_RX9 tyX9 tyX9_ok nmX9 hown hK hP hD hS kq9 hkq9 rfl 31 (by decide) (hts _ lk_X9_init_84) (fun _ h9 => h9) rfl hin rfl (tyX9_ok 31 (by decide)) rfl rfl hn9 dX9_init_214 (fun H locs hP2 hD2 hS => ?_)
  rw [p_set hD hL9 hf9 hkq9] at hP2 hD2
  obtain ⟨f_214, ef_214⟩ : ∃ y : pF, y = va_up f_212 a0 (.inr (10, fs_214.set 31 (.ref q_212))) := ⟨_, rfl⟩
  rw [← ef_214] at hP2 hD2
  have hw := hw f_214 ef_214
  have hP := hP2
  have hD := hD2
  refine lv_aload_n hx hb dX9_init_217 rfl (lv_at hl 0 rfl) ?_
  refine lv_sipush (v := 600) hx hb dX9_init_218 (by decide) ?_
  refine va_newa (atype := .int) (ty := .int) hx hb (hts _ la_X9_init_int) rfl hK hP hD hS hA (a0 := (Int32.toNatClampNeg (600 : Int32), .inl (fun _ => 0))) (fun _ => rfl) (by decide) rfl (by decide) (by decide) (by decide) dX9_init_221 (fun q_221 cA9 H hK9 hP2 hD2 hS => ?_)
  have hcA : cA9 = dA 1 := p_cA hK9 (t := 1) rfl
  subst hcA
  have hq9 := p_fresh hD2
  have hz9 := p_nz hB hT hD2
  rw [va_pl_push hq9] at hP2 hD2
  obtain ⟨L_221, eL_221⟩ : ∃ y : List Nat, y = L_212 ++ [q_221] := ⟨_, rfl⟩
  obtain ⟨f_221, ef_221⟩ : ∃ y : pF, y = va_up f_214 q_221 (.inl (dA 1, Int32.toNatClampNeg (600 : Int32), .inl (fun _ => 0))) := ⟨_, rfl⟩
  have hw := hw q_221 hq9 hz9 L_221 f_221 eL_221 ef_221
  have hP : va_P (dC, dI) vwCl (va_pl L_221 f_221) H := by rw [eL_221, ef_221]; exact hP2
  have hD : va_D A (va_pl L_221 f_221) := by rw [eL_221, ef_221]; exact hD2
  refine W.widen (k := 26) (n := 14810) (by decide) (by decide) ?_
  obtain ⟨fs_223, ⟨hL9, hf9, hn9⟩, hw⟩ := hw
  obtain ⟨kq9, hkq9⟩ := p_at hL9 hf9
  refine va_putF (D := (dC, dI)) (ci := 10) (v := .ref q_221) (C := RX9) (T := TX9) (N := 38) hx hb hts iw_X9_init_RX9 tyX9 tyX9_ok nmX9 hown hK hP hD hS kq9 hkq9 rfl 32 (by decide) (hts _ lk_X9_init_87) (fun _ h9 => h9) rfl hin rfl (tyX9_ok 32 (by decide)) rfl rfl hn9 dX9_init_223 (fun H locs hP2 hD2 hS => ?_)
  rw [p_set hD hL9 hf9 hkq9] at hP2 hD2
  obtain ⟨f_223, ef_223⟩ : ∃ y : pF, y = va_up f_221 a0 (.inr (10, fs_223.set 32 (.ref q_221))) := ⟨_, rfl⟩
  rw [← ef_223] at hP2 hD2
  have hw := hw f_223 ef_223
  have hP := hP2
  have hD := hD2
  refine lv_aload_n hx hb dX9_init_226 rfl (lv_at hl 0 rfl) ?_
  refine lv_bipush (v := 41) hx hb dX9_init_227 (by decide) ?_
  refine va_newa (atype := .long) (ty := .long) hx hb (hts _ la_X9_init_long) rfl hK hP hD hS hA (a0 := (Int32.toNatClampNeg (41 : Int32), .inr (.inl (fun _ => 0)))) (fun _ => rfl) (by decide) rfl (by decide) (by decide) (by decide) dX9_init_229 (fun q_229 cA9 H hK9 hP2 hD2 hS => ?_)
  have hcA : cA9 = dA 2 := p_cA hK9 (t := 2) rfl
  subst hcA
  have hq9 := p_fresh hD2
  have hz9 := p_nz hB hT hD2
  rw [va_pl_push hq9] at hP2 hD2
  obtain ⟨L_229, eL_229⟩ : ∃ y : List Nat, y = L_221 ++ [q_229] := ⟨_, rfl⟩
  obtain ⟨f_229, ef_229⟩ : ∃ y : pF, y = va_up f_223 q_229 (.inl (dA 2, Int32.toNatClampNeg (41 : Int32), .inr (.inl (fun _ => 0)))) := ⟨_, rfl⟩
  have hw := hw q_229 hq9 hz9 L_229 f_229 eL_229 ef_229
  have hP : va_P (dC, dI) vwCl (va_pl L_229 f_229) H := by rw [eL_229, ef_229]; exact hP2
  have hD : va_D A (va_pl L_229 f_229) := by rw [eL_229, ef_229]; exact hD2
  refine W.widen (k := 27) (n := 14851) (by decide) (by decide) ?_
  obtain ⟨fs_231, ⟨hL9, hf9, hn9⟩, hw⟩ := hw
  obtain ⟨kq9, hkq9⟩ := p_at hL9 hf9
  refine va_putF (D := (dC, dI)) (ci := 10) (v := .ref q_229) (C := RX9) (T := TX9) (N := 38) hx hb hts iw_X9_init_RX9 tyX9 tyX9_ok nmX9 hown hK hP hD hS kq9 hkq9 rfl 33 (by decide) (hts _ lk_X9_init_90) (fun _ h9 => h9) rfl hin rfl (tyX9_ok 33 (by decide)) rfl rfl hn9 dX9_init_231 (fun H locs hP2 hD2 hS => ?_)
  rw [p_set hD hL9 hf9 hkq9] at hP2 hD2
  obtain ⟨f_231, ef_231⟩ : ∃ y : pF, y = va_up f_229 a0 (.inr (10, fs_231.set 33 (.ref q_229))) := ⟨_, rfl⟩
  rw [← ef_231] at hP2 hD2
  have hw := hw f_231 ef_231
  have hP := hP2
  have hD := hD2
  refine lv_aload_n hx hb dX9_init_234 rfl (lv_at hl 0 rfl) ?_
  refine lv_bipush (v := 40) hx hb dX9_init_235 (by decide) ?_
  refine va_newa (atype := .int) (ty := .int) hx hb (hts _ la_X9_init_int) rfl hK hP hD hS hA (a0 := (Int32.toNatClampNeg (40 : Int32), .inl (fun _ => 0))) (fun _ => rfl) (by decide) rfl (by decide) (by decide) (by decide) dX9_init_237 (fun q_237 cA9 H hK9 hP2 hD2 hS => ?_)
  have hcA : cA9 = dA 1 := p_cA hK9 (t := 1) rfl
  subst hcA
  have hq9 := p_fresh hD2
  have hz9 := p_nz hB hT hD2
  rw [va_pl_push hq9] at hP2 hD2
  obtain ⟨L_237, eL_237⟩ : ∃ y : List Nat, y = L_229 ++ [q_237] := ⟨_, rfl⟩
  obtain ⟨f_237, ef_237⟩ : ∃ y : pF, y = va_up f_231 q_237 (.inl (dA 1, Int32.toNatClampNeg (40 : Int32), .inl (fun _ => 0))) := ⟨_, rfl⟩
  have hw := hw q_237 hq9 hz9 L_237 f_237 eL_237 ef_237
  have hP : va_P (dC, dI) vwCl (va_pl L_237 f_237) H := by rw [eL_237, ef_237]; exact hP2
  have hD : va_D A (va_pl L_237 f_237) := by rw [eL_237, ef_237]; exact hD2
  refine W.widen (k := 28) (n := 14891) (by decide) (by decide) ?_
  obtain ⟨fs_239, ⟨hL9, hf9, hn9⟩, hw⟩ := hw
  obtain ⟨kq9, hkq9⟩ := p_at hL9 hf9
  refine va_putF (D := (dC, dI)) (ci := 10) (v := .ref q_237) (C := RX9) (T := TX9) (N := 38) hx hb hts iw_X9_init_RX9 tyX9 tyX9_ok nmX9 hown hK hP hD hS kq9 hkq9 rfl 34 (by decide) (hts _ lk_X9_init_93) (fun _ h9 => h9) rfl hin rfl (tyX9_ok 34 (by decide)) rfl rfl hn9 dX9_init_239 (fun H locs hP2 hD2 hS => ?_)
  rw [p_set hD hL9 hf9 hkq9] at hP2 hD2
  obtain ⟨f_239, ef_239⟩ : ∃ y : pF, y = va_up f_237 a0 (.inr (10, fs_239.set 34 (.ref q_237))) := ⟨_, rfl⟩
  rw [← ef_239] at hP2 hD2
  have hw := hw f_239 ef_239
  have hP := hP2
  have hD := hD2
  refine lv_aload_n hx hb dX9_init_242 rfl (lv_at hl 0 rfl) ?_
  refine lv_bipush (v := 14) hx hb dX9_init_243 (by decide) ?_
  refine va_newa (atype := .int) (ty := .int) hx hb (hts _ la_X9_init_int) rfl hK hP hD hS hA (a0 := (Int32.toNatClampNeg (14 : Int32), .inl (fun _ => 0))) (fun _ => rfl) (by decide) rfl (by decide) (by decide) (by decide) dX9_init_245 (fun q_245 cA9 H hK9 hP2 hD2 hS => ?_)
  have hcA : cA9 = dA 1 := p_cA hK9 (t := 1) rfl
  subst hcA
  have hq9 := p_fresh hD2
  have hz9 := p_nz hB hT hD2
  rw [va_pl_push hq9] at hP2 hD2
  obtain ⟨L_245, eL_245⟩ : ∃ y : List Nat, y = L_237 ++ [q_245] := ⟨_, rfl⟩
  obtain ⟨f_245, ef_245⟩ : ∃ y : pF, y = va_up f_239 q_245 (.inl (dA 1, Int32.toNatClampNeg (14 : Int32), .inl (fun _ => 0))) := ⟨_, rfl⟩
  have hw := hw q_245 hq9 hz9 L_245 f_245 eL_245 ef_245
  have hP : va_P (dC, dI) vwCl (va_pl L_245 f_245) H := by rw [eL_245, ef_245]; exact hP2
  have hD : va_D A (va_pl L_245 f_245) := by rw [eL_245, ef_245]; exact hD2
  refine W.widen (k := 29) (n := 14905) (by decide) (by decide) ?_
  obtain ⟨fs_247, ⟨hL9, hf9, hn9⟩, hw⟩ := hw
  obtain ⟨kq9, hkq9⟩ := p_at hL9 hf9
  refine va_putF (D := (dC, dI)) (ci := 10) (v := .ref q_245) (C := RX9) (T := TX9) (N := 38) hx hb hts iw_X9_init_RX9 tyX9 tyX9_ok nmX9 hown hK hP hD hS kq9 hkq9 rfl 35 (by decide) (hts _ lk_X9_init_96) (fun _ h9 => h9) rfl hin rfl (tyX9_ok 35 (by decide)) rfl rfl hn9 dX9_init_247 (fun H locs hP2 hD2 hS => ?_)
  rw [p_set hD hL9 hf9 hkq9] at hP2 hD2
  obtain ⟨f_247, ef_247⟩ : ∃ y : pF, y = va_up f_245 a0 (.inr (10, fs_247.set 35 (.ref q_245))) := ⟨_, rfl⟩
  rw [← ef_247] at hP2 hD2
  have hw := hw f_247 ef_247
  have hP := hP2
  have hD := hD2
  refine lv_aload_n hx hb dX9_init_250 rfl (lv_at hl 0 rfl) ?_
  refine lv_bipush (v := 40) hx hb dX9_init_251 (by decide) ?_
  refine va_newa (atype := .long) (ty := .long) hx hb (hts _ la_X9_init_long) rfl hK hP hD hS hA (a0 := (Int32.toNatClampNeg (40 : Int32), .inr (.inl (fun _ => 0)))) (fun _ => rfl) (by decide) rfl (by decide) (by decide) (by decide) dX9_init_253 (fun q_253 cA9 H hK9 hP2 hD2 hS => ?_)
  have hcA : cA9 = dA 2 := p_cA hK9 (t := 2) rfl
  subst hcA
  have hq9 := p_fresh hD2
  have hz9 := p_nz hB hT hD2
  rw [va_pl_push hq9] at hP2 hD2
  obtain ⟨L_253, eL_253⟩ : ∃ y : List Nat, y = L_245 ++ [q_253] := ⟨_, rfl⟩
  obtain ⟨f_253, ef_253⟩ : ∃ y : pF, y = va_up f_247 q_253 (.inl (dA 2, Int32.toNatClampNeg (40 : Int32), .inr (.inl (fun _ => 0)))) := ⟨_, rfl⟩
  have hw := hw q_253 hq9 hz9 L_253 f_253 eL_253 ef_253
  have hP : va_P (dC, dI) vwCl (va_pl L_253 f_253) H := by rw [eL_253, ef_253]; exact hP2
  have hD : va_D A (va_pl L_253 f_253) := by rw [eL_253, ef_253]; exact hD2
  refine W.widen (k := 30) (n := 14945) (by decide) (by decide) ?_
  obtain ⟨fs_255, ⟨hL9, hf9, hn9⟩, hw⟩ := hw
  obtain ⟨kq9, hkq9⟩ := p_at hL9 hf9
  refine va_putF (D := (dC, dI)) (ci := 10) (v := .ref q_253) (C := RX9) (T := TX9) (N := 38) hx hb hts iw_X9_init_RX9 tyX9 tyX9_ok nmX9 hown hK hP hD hS kq9 hkq9 rfl 36 (by decide) (hts _ lk_X9_init_99) (fun _ h9 => h9) rfl hin rfl (tyX9_ok 36 (by decide)) rfl rfl hn9 dX9_init_255 (fun H locs hP2 hD2 hS => ?_)
  rw [p_set hD hL9 hf9 hkq9] at hP2 hD2
  obtain ⟨f_255, ef_255⟩ : ∃ y : pF, y = va_up f_253 a0 (.inr (10, fs_255.set 36 (.ref q_253))) := ⟨_, rfl⟩
  rw [← ef_255] at hP2 hD2
  have hw := hw f_255 ef_255
  have hP := hP2
  have hD := hD2
  refine lv_aload_n hx hb dX9_init_258 rfl (lv_at hl 0 rfl) ?_
  refine lv_bipush (v := 40) hx hb dX9_init_259 (by decide) ?_
  refine va_newa (atype := .long) (ty := .long) hx hb (hts _ la_X9_init_long) rfl hK hP hD hS hA (a0 := (Int32.toNatClampNeg (40 : Int32), .inr (.inl (fun _ => 0)))) (fun _ => rfl) (by decide) rfl (by decide) (by decide) (by decide) dX9_init_261 (fun q_261 cA9 H hK9 hP2 hD2 hS => ?_)
  have hcA : cA9 = dA 2 := p_cA hK9 (t := 2) rfl
  subst hcA
  have hq9 := p_fresh hD2
  have hz9 := p_nz hB hT hD2
  rw [va_pl_push hq9] at hP2 hD2
  obtain ⟨L_261, eL_261⟩ : ∃ y : List Nat, y = L_253 ++ [q_261] := ⟨_, rfl⟩
  obtain ⟨f_261, ef_261⟩ : ∃ y : pF, y = va_up f_255 q_261 (.inl (dA 2, Int32.toNatClampNeg (40 : Int32), .inr (.inl (fun _ => 0)))) := ⟨_, rfl⟩
  have hw := hw q_261 hq9 hz9 L_261 f_261 eL_261 ef_261
  have hP : va_P (dC, dI) vwCl (va_pl L_261 f_261) H := by rw [eL_261, ef_261]; exact hP2
  have hD : va_D A (va_pl L_261 f_261) := by rw [eL_261, ef_261]; exact hD2
  refine W.widen (k := 31) (n := 14985) (by decide) (by decide) ?_
  obtain ⟨fs_263, ⟨hL9, hf9, hn9⟩, hw⟩ := hw
  obtain ⟨kq9, hkq9⟩ := p_at hL9 hf9
  refine va_putF (D := (dC, dI)) (ci := 10) (v := .ref q_261) (C := RX9) (T := TX9) (N := 38) hx hb hts iw_X9_init_RX9 tyX9 tyX9_ok nmX9 hown hK hP hD hS kq9 hkq9 rfl 37 (by decide) (hts _ lk_X9_init_102) (fun _ h9 => h9) rfl hin rfl (tyX9_ok 37 (by decide)) rfl rfl hn9 dX9_init_263 (fun H locs hP2 hD2 hS => ?_)
  rw [p_set hD hL9 hf9 hkq9] at hP2 hD2
  obtain ⟨f_263, ef_263⟩ : ∃ y : pF, y = va_up f_261 a0 (.inr (10, fs_263.set 37 (.ref q_261))) := ⟨_, rfl⟩
  rw [← ef_263] at hP2 hD2
  have hw := hw f_263 ef_263
  have hP := hP2
  have hD := hD2
  exact W.vret hx hb hr (fun t ht hW => ⟨⟨(L_261, f_263), rfl, hw, by rw [ht]; exact hP, va_K.moved hW.alike hK, hD⟩, hS.F ht⟩) hS.2.2 dX9_init_266
set_option maxHeartbeats 4000000 in
set_option maxRecDepth 100000 in
theorem c_X9_init (l : Launch) (dC : Nat → ClassId) (dI : Nat → Nat → Nat) (dA : Nat → ClassId) (zz : Nat → Nat) (base : Nat) (L : List Nat) (f : pF) (sz : Nat) (a0 : Nat) (Q : List Nat → pF → Prop) (hw : wp_X9_init_0 dA zz Q L f a0) : Met l yX9_init wsX9_init rm_X9_init (va_Pc [.ref a0] (pPre dC dI dA zz base L f sz)) (va_Qv (fun (u : List Nat × pF) => Q u.1 u.2) (pB dC dI dA (va_A (va_pl L f) sz)) (va_A (va_pl L f) sz)) 31 14985 (va_A (va_pl L f) sz) := by
  refine Met.ofW (cc := cX9_init) (maxL := 1) (ret := none) (by decide) rfl ?_
  intro p e s m args below meth c s₁ B hml hv
  obtain ⟨rfl, hsz, hP, hK, hD0, hz, hN, hT⟩ := hv
  subst hsz
  have hl := lv_entry ([.ref a0]) (n := 1) (Nat.le_of_ble_eq_true rfl)
  rw [lg_entry_eq]
  generalize (lg_sl ([.ref a0]) ++ List.replicate (1 - (lg_sl ([.ref a0])).length) Slot.unset).toArray = ls at hl ⊢
  exact tb_X9_init_0 (Q := Q) (p := p) ⟨⟨B.exec, B.bytes, hml, findClass_of_methodNamed B.named, atoms_spec (ws := wsX9_init) B.pre, B.returns, B.notSynchronized, fun q h => Or.inr h, hK, pAB hD0 hz, hz, hN, hT⟩, (name_of_methodNamed B.named B.method).1⟩ L f a0 hw s.heap [] hP (hD0.self (sz := s.heap.size)) va_S.rf ls (lv_sub hl [0] rfl)
