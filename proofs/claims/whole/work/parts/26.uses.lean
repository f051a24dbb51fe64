theorem iw_X7_init_RX7 : ∀ w ∈ u_ws RX7 TX7 8, w ∈ wsX7_init := by decide +kernel
theorem la_X7_init_int : Cond.arrayClass .int ∈ wsX7_init := by decide +kernel
theorem la_X7_init_long : Cond.arrayClass .long ∈ wsX7_init := by decide +kernel
theorem lk_X7_init_11 : Cond.fieldLink RX7 11 "TermKeeper$Words" "begins" "[I" ∈ wsX7_init := by decide +kernel
theorem lk_X7_init_15 : Cond.fieldLink RX7 15 "TermKeeper$Words" "ends" "[I" ∈ wsX7_init := by decide +kernel
theorem lk_X7_init_18 : Cond.fieldLink RX7 18 "TermKeeper$Words" "sentences" "[I" ∈ wsX7_init := by decide +kernel
theorem lk_X7_init_21 : Cond.fieldLink RX7 21 "TermKeeper$Words" "near" "[J" ∈ wsX7_init := by decide +kernel
theorem lk_X7_init_25 : Cond.fieldLink RX7 25 "TermKeeper$Words" "tally" "[I" ∈ wsX7_init := by decide +kernel
theorem lk_X7_init_28 : Cond.fieldLink RX7 28 "TermKeeper$Words" "glossary" "LTermKeeper$Glossary;" ∈ wsX7_init := by decide +kernel
theorem lo1_X7_init : Cond.instanceMethod objectInit ∈ wsX7_init := by decide +kernel
theorem lo2_X7_init : Cond.code objectInit ⟨#[0xb1]⟩ 1 none ∈ wsX7_init := by decide +kernel
theorem lm_X7_init_3 : Cond.methodLink RX7 3 objectInit ∈ wsX7_init := by decide +kernel
abbrev rm_X7_init : Room := { frames := 1, cells := 5, slots := 1240, locals := 12 }
def wp_X7_init_0 (dA : Nat → ClassId) (zz : Nat → Nat) (Q : List Nat → pF → Prop) (L : List Nat) (f : pF) (a0 : Nat) (a1 : Nat) : Prop :=
    (nO zz L f (.inl (dA 1, Int32.toNatClampNeg (300 : Int32), .inl (fun _ => 0))) (fun q_8 L_8 f_8 =>
      (gP L_8 f_8 8 a0 1 (.ref q_8) (fun f_10 =>
        (nO zz L_8 f_10 (.inl (dA 1, Int32.toNatClampNeg (300 : Int32), .inl (fun _ => 0))) (fun q_17 L_17 f_17 =>
          (gP L_17 f_17 8 a0 2 (.ref q_17) (fun f_19 =>
            (nO zz L_17 f_19 (.inl (dA 1, Int32.toNatClampNeg (300 : Int32), .inl (fun _ => 0))) (fun q_26 L_26 f_26 =>
              (gP L_26 f_26 8 a0 3 (.ref q_26) (fun f_28 =>
                (nO zz L_26 f_28 (.inl (dA 2, Int32.toNatClampNeg (300 : Int32), .inr (.inl (fun _ => 0)))) (fun q_35 L_35 f_35 =>
                  (gP L_35 f_35 8 a0 4 (.ref q_35) (fun f_37 =>
                    (nO zz L_35 f_37 (.inl (dA 1, Int32.toNatClampNeg (40 : Int32), .inl (fun _ => 0))) (fun q_43 L_43 f_43 =>
                      (gP L_43 f_43 8 a0 5 (.ref q_43) (fun f_45 =>
                        (gP L_43 f_45 8 a0 0 (.ref a1) (fun f_50 =>
                          (Q L_43 f_50)))))))))))))))))))))))
set_option maxHeartbeats 4000000 in
set_option maxRecDepth 100000 in
theorem tb_X7_init_0 {p : Program} {l : Launch} {e : Env} {s : State} {m : MethodId} {below : List Frame} {meth : Method} {c : Code} {args : Array Value} {dC : Nat → ClassId} {dI : Nat → Nat → Nat} {dA : Nat → ClassId} {zz : Nat → Nat} {base : Nat} {A : Nat → Prop} {Q : List Nat → pF → Prop} (C : pCx p s m args meth c cX7_init 2 none RX7 wsX7_init A dC dI dA zz base ∧ meth.name = "<init>") : ∀ (L : List Nat) (f : pF) (a0 : Nat) (a1 : Nat), wp_X7_init_0 dA zz Q  L f a0 a1 → pAt p l e rm_X7_init s m args below meth c dC dI A (MQ below (va_Qv (fun (u : List Nat × pF) => Q u.1 u.2) (pB dC dI dA A) A) args s 5 1240 A) 0 0 0 2 [(0, .ref a0), (1, .ref a1)] [] L f := by
  obtain ⟨⟨hx, hb, hml, hown, hts, hr, hlocks, hA, hK, hB, hz, hN, hT⟩, hin⟩ := id C
  intro L f a0 a1 hw H locs hP hD hS ls hl
  rw [wp_X7_init_0] at hw
  refine lv_aload_n hx hb dX7_init_0 rfl (lv_at hl 0 rfl) ?_
  refine W.objInit hx hb hown (hts _ lm_X7_init_3) (hts _ lo1_X7_init) (hts _ lo2_X7_init) rfl (by rw [hml]; exact hl.1) rfl dX7_init_1 (Nat.le_of_ble_eq_true rfl) (Nat.le_of_ble_eq_true rfl) ?_
  refine W.eq (g2 := F0 m 4 ls []) rfl ?_
  refine lv_aload_n hx hb dX7_init_4 rfl (lv_at hl 0 rfl) ?_
  refine lv_sipush (v := 300) hx hb dX7_init_5 (by decide) ?_
  refine va_newa (atype := .int) (ty := .int) hx hb (hts _ la_X7_init_int) rfl hK hP hD hS hA (a0 := (Int32.toNatClampNeg (300 : Int32), .inl (fun _ => 0))) (fun _ => rfl) (by decide) rfl (by decide) (by decide) (by decide) dX7_init_8 (fun q_8 cA9 H hK9 hP2 hD2 hS => ?_)
  have hcA : cA9 = dA 1 := p_cA hK9 (t := 1) rfl
  subst hcA
  have hq9 := p_fresh hD2
  have hz9 := p_nz hB hT hD2
  rw [va_pl_push hq9] at hP2 hD2
  obtain ⟨L_8, eL_8⟩ : ∃ y : List Nat, y = L ++ [q_8] := ⟨_, rfl⟩
  obtain ⟨f_8, ef_8⟩ : ∃ y : pF, y = va_up f q_8 (.inl (dA 1, Int32.toNatClampNeg (300 : Int32), .inl (fun _ => 0))) := ⟨_, rfl⟩
  have hw := hw q_8 hq9 hz9 L_8 f_8 eL_8 ef_8
  have hP : va_P (dC, dI) vwCl (va_pl L_8 f_8) H := by rw [eL_8, ef_8]; exact hP2
  have hD : va_D A (va_pl L_8 f_8) := by rw [eL_8, ef_8]; exact hD2
  refine W.widen (k := 1) (n := 300) (by decide) (by decide) ?_
  obtain ⟨fs_10, ⟨hL9, hf9, hn9⟩, hw⟩ := hw
  obtain ⟨kq9, hkq9⟩ := p_at hL9 hf9
  refine va_putF (D := (dC, dI)) (ci := 8) (v := .ref q_8) (C := RX7) (T := TX7) (N := 8) hx hb hts iw_X7_init_RX7 tyX7 tyX7_ok nmX7 hown hK hP hD hS kq9 hkq9 rfl 1 (by decide) (hts _ lk_X7_init_11) (fun _ h9 => h9) rfl hin rfl (tyX7_ok 1 (by decide)) rfl rfl hn9 dX7_init_10 (fun H locs hP2 hD2 hS => ?_)
  rw [p_set hD hL9 hf9 hkq9] at hP2 hD2
  obtain ⟨f_10, ef_10⟩ : ∃ y : pF, y = va_up f_8 a0 (.inr (8, fs_10.set 1 (.ref q_8))) := ⟨_, rfl⟩
  rw [← ef_10] at hP2 hD2
  have hw := hw f_10 ef_10
  have hP := hP2
  have hD := hD2
  refine lv_aload_n hx hb dX7_init_13 rfl (lv_at hl 0 rfl) ?_
  refine lv_sipush (v := 300) hx hb dX7_init_14 (by decide) ?_
  refine va_newa (atype := .int) (ty := .int) hx hb (hts _ la_X7_init_int) rfl hK hP hD hS hA (a0 := (Int32.toNatClampNeg (300 : Int32), .inl (fun _ => 0))) (fun _ => rfl) (by decide) rfl (by decide) (by decide) (by decide) dX7_init_17 (fun q_17 cA9 H hK9 hP2 hD2 hS => ?_)
  have hcA : cA9 = dA 1 := p_cA hK9 (t := 1) rfl
  subst hcA
  have hq9 := p_fresh hD2
  have hz9 := p_nz hB hT hD2
  rw [va_pl_push hq9] at hP2 hD2
  obtain ⟨L_17, eL_17⟩ : ∃ y : List Nat, y = L_8 ++ [q_17] := ⟨_, rfl⟩
  obtain ⟨f_17, ef_17⟩ : ∃ y : pF, y = va_up f_10 q_17 (.inl (dA 1, Int32.toNatClampNeg (300 : Int32), .inl (fun _ => 0))) := ⟨_, rfl⟩
  have hw := hw q_17 hq9 hz9 L_17 f_17 eL_17 ef_17
  have hP : va_P (dC, dI) vwCl (va_pl L_17 f_17) H := by rw [eL_17, ef_17]; exact hP2
  have hD : va_D A (va_pl L_17 f_17) := by rw [eL_17, ef_17]; exact hD2
  refine W.widen (k := 2) (n := 600) (by decide) (by decide) ?_
  obtain ⟨fs_19, ⟨hL9, hf9, hn9⟩, hw⟩ := hw
  obtain ⟨kq9, hkq9⟩ := p_at hL9 hf9
  refine va_putF (D := (dC, dI)) (ci := 8) (v := .ref q_17) (C := RX7) (T := TX7) (N := 8) hx hb hts iw_X7_init_RX7 tyX7 tyX7_ok nmX7 hown hK hP hD hS kq9 hkq9 rfl 2 (by decide) (hts _ lk_X7_init_15) (fun _ h9 => h9) rfl hin rfl (tyX7_ok 2 (by decide)) rfl rfl hn9 dX7_init_19 (fun H locs hP2 hD2 hS => ?_)
  rw [p_set hD hL9 hf9 hkq9] at hP2 hD2
  obtain ⟨f_19, ef_19⟩ : ∃ y : pF, y = va_up f_17 a0 (.inr (8, fs_19.set 2 (.ref q_17))) := ⟨_, rfl⟩
  rw [← ef_19] at hP2 hD2
  have hw := hw f_19 ef_19
  have hP := hP2
  have hD := hD2
  refine lv_aload_n hx hb dX7_init_22 rfl (lv_at hl 0 rfl) ?_
  refine lv_sipush (v := 300) hx hb dX7_init_23 (by decide) ?_
  refine va_newa (atype := .int) (ty := .int) hx hb (hts _ la_X7_init_int) rfl hK hP hD hS hA (a0 := (Int32.toNatClampNeg (300 : Int32), .inl (fun _ => 0))) (fun _ => rfl) (by decide) rfl (by decide) (by decide) (by decide) dX7_init_26 (fun q_26 cA9 H hK9 hP2 hD2 hS => ?_)
  have hcA : cA9 = dA 1 := p_cA hK9 (t := 1) rfl
  subst hcA
  have hq9 := p_fresh hD2
  have hz9 := p_nz hB hT hD2
  rw [va_pl_push hq9] at hP2 hD2
  obtain ⟨L_26, eL_26⟩ : ∃ y : List Nat, y = L_17 ++ [q_26] := ⟨_, rfl⟩
  obtain ⟨f_26, ef_26⟩ : ∃ y : pF, y = va_up f_19 q_26 (.inl (dA 1, Int32.toNatClampNeg (300 : Int32), .inl (fun _ => 0))) := ⟨_, rfl⟩
  have hw := hw q_26 hq9 hz9 L_26 f_26 eL_26 ef_26
  have hP : va_P (dC, dI) vwCl (va_pl L_26 f_26) H := by rw [eL_26, ef_26]; exact hP2
  have hD : va_D A (va_pl L_26 f_26) := by rw [eL_26, ef_26]; exact hD2
  refine W.widen (k := 3) (n := 900) (by decide) (by decide) ?_
  obtain ⟨fs_28, ⟨hL9, hf9, hn9⟩, hw⟩ := hw
  obtain ⟨kq9, hkq9⟩ := p_at hL9 hf9
  refine va_putF (D := (dC, dI)) (ci := 8) (v := .ref q_26) (C := RX7) (T := TX7) (N := 8) hx hb hts iw_X7_init_RX7 tyX7 tyX7_ok nmX7 hown hK hP hD hS kq9 hkq9 rfl 3 (by decide) (hts _ lk_X7_init_18) (fun _ h9 => h9) rfl hin rfl (tyX7_ok 3 (by decide)) rfl rfl hn9 dX7_init_28 (fun H locs hP2 hD2 hS => ?_)
  rw [p_set hD hL9 hf9 hkq9] at hP2 hD2
  obtain ⟨f_28, ef_28⟩ : ∃ y : pF, y = va_up f_26 a0 (.inr (8, fs_28.set 3 (.ref q_26))) := ⟨_, rfl⟩
  rw [← ef_28] at hP2 hD2
  have hw := hw f_28 ef_28
  have hP := hP2
  have hD := hD2
  refine lv_aload_n hx hb dX7_init_31 rfl (lv_at hl 0 rfl) ?_
  refine lv_sipush (v := 300) hx hb dX7_init_32 (by decide) ?_
  refine va_newa (atype := .long) (ty := .long) hx hb (hts _ la_X7_init_long) rfl hK hP hD hS hA (a0 := (Int32.toNatClampNeg (300 : Int32), .inr (.inl (fun _ => 0)))) (fun _ => rfl) (by decide) rfl (by decide) (by decide) (by decide) dX7_init_35 (fun q_35 cA9 H hK9 hP2 hD2 hS => ?_)
  have hcA : cA9 = dA 2 := p_cA hK9 (t := 2) rfl
  subst hcA
  have hq9 := p_fresh hD2
  have hz9 := p_nz hB hT hD2
  rw [va_pl_push hq9] at hP2 hD2
  obtain ⟨L_35, eL_35⟩ : ∃ y : List Nat, y = L_26 ++ [q_35] := ⟨_, rfl⟩
  obtain ⟨f_35, ef_35⟩ : ∃ y : pF, y = va_up f_28 q_35 (.inl (dA 2, Int32.toNatClampNeg (300 : Int32), .inr (.inl (fun _ => 0)))) := ⟨_, rfl⟩
  have hw := hw q_35 hq9 hz9 L_35 f_35 eL_35 ef_35
  have hP : va_P (dC, dI) vwCl (va_pl L_35 f_35) H := by rw [eL_35, ef_35]; exact hP2
  have hD : va_D A (va_pl L_35 f_35) := by rw [eL_35, ef_35]; exact hD2
  refine W.widen (k := 4) (n := 1200) (by decide) (by decide) ?_
  obtain ⟨fs_37, ⟨hL9, hf9, hn9⟩, hw⟩ := hw
  obtain ⟨kq9, hkq9⟩ := p_at hL9 hf9
  refine va_putF (D := (dC, dI)) (ci := 8) (v := .ref q_35) (C := RX7) (T := TX7) (N := 8) hx hb hts iw_X7_init_RX7 tyX7 tyX7_ok nmX7 hown hK hP hD hS kq9 hkq9 rfl 4 (by decide) (hts _ lk_X7_init_21) (fun _ h9 => h9) rfl hin rfl (tyX7_ok 4 (by decide)) rfl rfl hn9 dX7_init_37 (fun H locs hP2 hD2 hS => ?_)
  rw [p_set hD hL9 hf9 hkq9] at hP2 hD2
  obtain ⟨f_37, ef_37⟩ : ∃ y : pF, y = va_up f_35 a0 (.inr (8, fs_37.set 4 (.ref q_35))) := ⟨_, rfl⟩
  rw [← ef_37] at hP2 hD2
  have hw := hw f_37 ef_37
  have hP := hP2
  have hD := hD2
  refine lv_aload_n hx hb dX7_init_40 rfl (lv_at hl 0 rfl) ?_
  refine lv_bipush (v := 40) hx hb dX7_init_41 (by decide) ?_
  refine va_newa (atype := .int) (ty := .int) hx hb (hts _ la_X7_init_int) rfl hK hP hD hS hA (a0 := (Int32.toNatClampNeg (40 : Int32), .inl (fun _ => 0))) (fun _ => rfl) (by decide) rfl (by decide) (by decide) (by decide) dX7_init_43 (fun q_43 cA9 H hK9 hP2 hD2 hS => ?_)
  have hcA : cA9 = dA 1 := p_cA hK9 (t := 1) rfl
  subst hcA
  have hq9 := p_fresh hD2
  have hz9 := p_nz hB hT hD2
  rw [va_pl_push hq9] at hP2 hD2
  obtain ⟨L_43, eL_43⟩ : ∃ y : List Nat, y = L_35 ++ [q_43] := ⟨_, rfl⟩
  obtain ⟨f_43, ef_43⟩ : ∃ y : pF, y = va_up f_37 q_43 (.inl (dA 1, Int32.toNatClampNeg (40 : Int32), .inl (fun _ => 0))) := ⟨_, rfl⟩
  have hw := hw q_43 hq9 hz9 L_43 f_43 eL_43 ef_43
  have hP : va_P (dC, dI) vwCl (va_pl L_43 f_43) H := by rw [eL_43, ef_43]; exact hP2
  have hD : va_D A (va_pl L_43 f_43) := by rw [eL_43, ef_43]; exact hD2
  refine W.widen (k := 5) (n := 1240) (by decide) (by decide) ?_
  obtain ⟨fs_45, ⟨hL9, hf9, hn9⟩, hw⟩ := hw
  obtain ⟨kq9, hkq9⟩ := p_at hL9 hf9
  refine va_putF (D := (dC, dI)) (ci := 8) (v := .ref q_43) (C := RX7) (T := TX7) (N := 8) hx hb hts iw_X7_init_RX7 tyX7 tyX7_ok nmX7 hown hK hP hD hS kq9 hkq9 rfl 5 (by decide) (hts _ lk_X7_init_25) (fun _ h9 => h9) rfl hin rfl (tyX7_ok 5 (by decide)) rfl rfl hn9 dX7_init_45 (fun H locs hP2 hD2 hS => ?_)
  rw [p_set hD hL9 hf9 hkq9] at hP2 hD2
  obtain ⟨f_45, ef_45⟩ : ∃ y : pF, y = va_up f_43 a0 (.inr (8, fs_45.set 5 (.ref q_43))) := ⟨_, rfl⟩
  rw [← ef_45] at hP2 hD2
  have hw := hw f_45 ef_45
  have hP := hP2
  have hD := hD2
  refine lv_aload_n hx hb dX7_init_48 rfl (lv_at hl 0 rfl) ?_
  refine lv_aload_n hx hb dX7_init_49 rfl (lv_at hl 1 rfl) ?_
  obtain ⟨fs_50, ⟨hL9, hf9, hn9⟩, hw⟩ := hw
  obtain ⟨kq9, hkq9⟩ := p_at hL9 hf9
  refine va_putF (D := (dC, dI)) (ci := 8) (v := .ref a1) (C := RX7) (T := TX7) (N := 8) hx hb hts iw_X7_init_RX7 tyX7 tyX7_ok nmX7 hown hK hP hD hS kq9 hkq9 rfl 0 (by decide) (hts _ lk_X7_init_28) (fun _ h9 => h9) rfl hin rfl (tyX7_ok 0 (by decide)) rfl rfl hn9 dX7_init_50 (fun H locs hP2 hD2 hS => ?_)
  rw [p_set hD hL9 hf9 hkq9] at hP2 hD2
  obtain ⟨f_50, ef_50⟩ : ∃ y : pF, y = va_up f_45 a0 (.inr (8, fs_50.set 0 (.ref a1))) := ⟨_, rfl⟩
  rw [← ef_50] at hP2 hD2
  have hw := hw f_50 ef_50
  have hP := hP2
  have hD := hD2
  exact W.vret hx hb hr (fun t ht hW => ⟨⟨(L_43, f_50), rfl, hw, by rw [ht]; exact hP, va_K.moved hW.alike hK, hD⟩, hS.F ht⟩) hS.2.2 dX7_init_53
set_option maxHeartbeats 4000000 in
set_option maxRecDepth 100000 in
theorem c_X7_init (l : Launch) (dC : Nat → ClassId) (dI : Nat → Nat → Nat) (dA : Nat → ClassId) (zz : Nat → Nat) (base : Nat) (L : List Nat) (f : pF) (sz : Nat) (a0 : Nat) (a1 : Nat) (Q : List Nat → pF → Prop) (hw : wp_X7_init_0 dA zz Q L f a0 a1) : Met l yX7_init wsX7_init rm_X7_init (va_Pc [.ref a0, .ref a1] (pPre dC dI dA zz base L f sz)) (va_Qv (fun (u : List Nat × pF) => Q u.1 u.2) (pB dC dI dA (va_A (va_pl L f) sz)) (va_A (va_pl L f) sz)) 5 1240 (va_A (va_pl L f) sz) := by
  refine Met.ofW (cc := cX7_init) (maxL := 2) (ret := none) (by decide) rfl ?_
  intro p e s m args below meth c s₁ B hml hv
  obtain ⟨rfl, hsz, hP, hK, hD0, hz, hN, hT⟩ := hv
  subst hsz
  have hl := lv_entry ([.ref a0, .ref a1]) (n := 2) (Nat.le_of_ble_eq_true rfl)
  rw [lg_entry_eq]
  generalize (lg_sl ([.ref a0, .ref a1]) ++ List.replicate (2 - (lg_sl ([.ref a0, .ref a1])).length) Slot.unset).toArray = ls at hl ⊢
  exact tb_X7_init_0 (Q := Q) (p := p) ⟨⟨B.exec, B.bytes, hml, findClass_of_methodNamed B.named, atoms_spec (ws := wsX7_init) B.pre, B.returns, B.notSynchronized, fun q h => Or.inr h, hK, pAB hD0 hz, hz, hN, hT⟩, (name_of_methodNamed B.named B.method).1⟩ L f a0 a1 hw s.heap [] hP (hD0.self (sz := s.heap.size)) va_S.rf ls (lv_sub hl [0, 1] rfl)
theorem iw_X7_size_RX7 : ∀ w ∈ u_ws RX7 TX7 8, w ∈ wsX7_size := by decide +kernel
theorem lk_X7_size_32 : Cond.fieldLink RX7 32 "TermKeeper$Words" "size" "I" ∈ wsX7_size := by decide +kernel
abbrev rm_X7_size : Room := { frames := 0, cells := 0, slots := 0, locals := 0 }
def wp_X7_size_0 (dA : Nat → ClassId) (zz : Nat → Nat) (Q : Int32 → List Nat → pF → Prop) (L : List Nat) (f : pF) (a0 : Nat) : Prop :=
    (gI L f 8 a0 6 (fun g_1 =>
      (Q g_1 L f)))
set_option maxHeartbeats 4000000 in
set_option maxRecDepth 100000 in
theorem tb_X7_size_0 {p : Program} {l : Launch} {e : Env} {s : State} {m : MethodId} {below : List Frame} {meth : Method} {c : Code} {args : Array Value} {dC : Nat → ClassId} {dI : Nat → Nat → Nat} {dA : Nat → ClassId} {zz : Nat → Nat} {base : Nat} {A : Nat → Prop} {Q : Int32 → List Nat → pF → Prop} (C : pCx p s m args meth c cX7_size 1 (some .int) RX7 wsX7_size A dC dI dA zz base) : ∀ (L : List Nat) (f : pF) (a0 : Nat), wp_X7_size_0 dA zz Q  L f a0 → pAt p l e rm_X7_size s m args below meth c dC dI A (MQ below (va_Qi (fun r (u : List Nat × pF) => Q r u.1 u.2) (pB dC dI dA A) A) args s 0 0 A) 0 0 0 1 [(0, .ref a0)] [] L f := by
  obtain ⟨hx, hb, hml, hown, hts, hr, hlocks, hA, hK, hB, hz, hN, hT⟩ := id C
  intro L f a0 hw H locs hP hD hS ls hl
  rw [wp_X7_size_0] at hw
  refine lv_aload_n hx hb dX7_size_0 rfl (lv_at hl 0 rfl) ?_
  obtain ⟨fs_1, g_1, ⟨hL9, hf9, hn9⟩, hw⟩ := hw
  refine va_get (D := (dC, dI)) (ci := 8) (v := .int g_1) (C := RX7) (T := TX7) (N := 8) hx hb hts iw_X7_size_RX7 hown hK (p_one hP hL9 hf9) 0 rfl rfl 6 (by decide) (hts _ lk_X7_size_32) (fun _ h9 => h9) hn9 dX7_size_1 ?_
  exact W.iret (v := g_1) hx hb hr (fun t ht hW => ⟨⟨g_1, (L, f), rfl, hw, by rw [ht]; exact hP, va_K.moved hW.alike hK, hD⟩, hS.F ht⟩) hS.2.2 dX7_size_4
set_option maxHeartbeats 4000000 in
set_option maxRecDepth 100000 in
theorem c_X7_size (l : Launch) (dC : Nat → ClassId) (dI : Nat → Nat → Nat) (dA : Nat → ClassId) (zz : Nat → Nat) (base : Nat) (L : List Nat) (f : pF) (sz : Nat) (a0 : Nat) (Q : Int32 → List Nat → pF → Prop) (hw : wp_X7_size_0 dA zz Q L f a0) : Met l yX7_size wsX7_size rm_X7_size (va_Pc [.ref a0] (pPre dC dI dA zz base L f sz)) (va_Qi (fun r (u : List Nat × pF) => Q r u.1 u.2) (pB dC dI dA (va_A (va_pl L f) sz)) (va_A (va_pl L f) sz)) 0 0 (va_A (va_pl L f) sz) := by
  refine Met.ofW (cc := cX7_size) (maxL := 1) (ret := (some .int)) (by decide) rfl ?_
  intro p e s m args below meth c s₁ B hml hv
  obtain ⟨rfl, hsz, hP, hK, hD0, hz, hN, hT⟩ := hv
  subst hsz
  have hl := lv_entry ([.ref a0]) (n := 1) (Nat.le_of_ble_eq_true rfl)
  rw [lg_entry_eq]
  generalize (lg_sl ([.ref a0]) ++ List.replicate (1 - (lg_sl ([.ref a0])).length) Slot.unset).toArray = ls at hl ⊢
  exact tb_X7_size_0 (Q := Q) (p := p) ⟨B.exec, B.bytes, hml, findClass_of_methodNamed B.named, atoms_spec (ws := wsX7_size) B.pre, B.returns, B.notSynchronized, fun q h => Or.inr h, hK, pAB hD0 hz, hz, hN, hT⟩ L f a0 hw s.heap [] hP (hD0.self (sz := s.heap.size)) va_S.rf ls (lv_sub hl [0] rfl)
theorem iw_X7_beginOf_RX7 : ∀ w ∈ u_ws RX7 TX7 8, w ∈ wsX7_beginOf := by decide +kernel
theorem lk_X7_beginOf_11 : Cond.fieldLink RX7 11 "TermKeeper$Words" "begins" "[I" ∈ wsX7_beginOf := by decide +kernel
theorem lk_X7_beginOf_32 : Cond.fieldLink RX7 32 "TermKeeper$Words" "size" "I" ∈ wsX7_beginOf := by decide +kernel
abbrev rm_X7_beginOf : Room := { frames := 0, cells := 0, slots := 0, locals := 0 }
def wp_X7_beginOf_0 (dA : Nat → ClassId) (zz : Nat → Nat) (Q : Int32 → List Nat → pF → Prop) (L : List Nat) (f : pF) (a0 : Nat) (a1 : Int32) : Prop :=
    ((a1 < 0 →
      (Q (-1 : Int32) L f))
     ∧ (¬ a1 < 0 →
      (gI L f 8 a0 6 (fun g_6 =>
        ((g_6 ≤ a1 →
          (Q (-1 : Int32) L f))
         ∧ (¬ g_6 ≤ a1 →
          (gR L f 8 a0 1 (fun g_13 =>
            (aI L f (dA 1) g_13 a1 (fun g_17 =>
              (Q g_17 L f)))))))))))
set_option maxHeartbeats 4000000 in
set_option maxRecDepth 100000 in
theorem tb_X7_beginOf_0 {p : Program} {l : Launch} {e : Env} {s : State} {m : MethodId} {below : List Frame} {meth : Method} {c : Code} {args : Array Value} {dC : Nat → ClassId} {dI : Nat → Nat → Nat} {dA : Nat → ClassId} {zz : Nat → Nat} {base : Nat} {A : Nat → Prop} {Q : Int32 → List Nat → pF → Prop} (C : pCx p s m args meth c cX7_beginOf 2 (some .int) RX7 wsX7_beginOf A dC dI dA zz base) : ∀ (L : List Nat) (f : pF) (a0 : Nat) (a1 : Int32), wp_X7_beginOf_0 dA zz Q  L f a0 a1 → pAt p l e rm_X7_beginOf s m args below meth c dC dI A (MQ below (va_Qi (fun r (u : List Nat × pF) => Q r u.1 u.2) (pB dC dI dA A) A) args s 0 0 A) 0 0 0 2 [(0, .ref a0), (1, .int a1)] [] L f := by
  obtain ⟨hx, hb, hml, hown, hts, hr, hlocks, hA, hK, hB, hz, hN, hT⟩ := id C
  intro L f a0 a1 hw H locs hP hD hS ls hl
  rw [wp_X7_beginOf_0] at hw
  refine lv_iload_n hx hb dX7_beginOf_0 rfl (lv_at hl 1 rfl) ?_
  refine lv_if_lt (tgt := 21) hx hb dX7_beginOf_1 (by decide) (fun c_1 => ?_) (fun c_1 => ?_)
  · have hw := hw.1 c_1
    refine lv_iconst (v := -1) hx hb dX7_beginOf_21 (by decide) ?_
    exact W.iret (v := (-1 : Int32)) hx hb hr (fun t ht hW => ⟨⟨(-1 : Int32), (L, f), rfl, hw, by rw [ht]; exact hP, va_K.moved hW.alike hK, hD⟩, hS.F ht⟩) hS.2.2 dX7_beginOf_22
  · have hw := hw.2 c_1
    refine lv_iload_n hx hb dX7_beginOf_4 rfl (lv_at hl 1 rfl) ?_
    refine lv_aload_n hx hb dX7_beginOf_5 rfl (lv_at hl 0 rfl) ?_
    obtain ⟨fs_6, g_6, ⟨hL9, hf9, hn9⟩, hw⟩ := hw
    refine va_get (D := (dC, dI)) (ci := 8) (v := .int g_6) (C := RX7) (T := TX7) (N := 8) hx hb hts iw_X7_beginOf_RX7 hown hK (p_one hP hL9 hf9) 0 rfl rfl 6 (by decide) (hts _ lk_X7_beginOf_32) (fun _ h9 => h9) hn9 dX7_beginOf_6 ?_
    refine lv_icmp_ge (tgt := 21) hx hb dX7_beginOf_9 (by decide) (fun c_9 => ?_) (fun c_9 => ?_)
    · have hw := hw.1 c_9
      refine lv_iconst (v := -1) hx hb dX7_beginOf_21 (by decide) ?_
      exact W.iret (v := (-1 : Int32)) hx hb hr (fun t ht hW => ⟨⟨(-1 : Int32), (L, f), rfl, hw, by rw [ht]; exact hP, va_K.moved hW.alike hK, hD⟩, hS.F ht⟩) hS.2.2 dX7_beginOf_22
    · have hw := hw.2 c_9
      refine lv_aload_n hx hb dX7_beginOf_12 rfl (lv_at hl 0 rfl) ?_
      obtain ⟨fs_13, g_13, ⟨hL9, hf9, hn9⟩, hw⟩ := hw
      refine va_get (D := (dC, dI)) (ci := 8) (v := .ref g_13) (C := RX7) (T := TX7) (N := 8) hx hb hts iw_X7_beginOf_RX7 hown hK (p_one hP hL9 hf9) 0 rfl rfl 1 (by decide) (hts _ lk_X7_beginOf_11) (fun _ h9 => h9) hn9 dX7_beginOf_13 ?_
      refine lv_iload_n hx hb dX7_beginOf_16 rfl (lv_at hl 1 rfl) ?_
      obtain ⟨n_17, h_17, ⟨hL9, hf9, hn9⟩, hw⟩ := hw
      refine va_iald hx hb hK (p_one hP hL9 hf9) 0 1 rfl rfl hn9 dX7_beginOf_17 ?_
      refine lv_topi (fun g_17 eg_17 => ?_)
      rw [← eg_17] at hw
      refine lv_goto (tgt := 22) hx hb dX7_beginOf_18 (by decide) ?_
      exact W.iret (v := g_17) hx hb hr (fun t ht hW => ⟨⟨g_17, (L, f), rfl, hw, by rw [ht]; exact hP, va_K.moved hW.alike hK, hD⟩, hS.F ht⟩) hS.2.2 dX7_beginOf_22
set_option maxHeartbeats 4000000 in
set_option maxRecDepth 100000 in
theorem c_X7_beginOf (l : Launch) (dC : Nat → ClassId) (dI : Nat → Nat → Nat) (dA : Nat → ClassId) (zz : Nat → Nat) (base : Nat) (L : List Nat) (f : pF) (sz : Nat) (a0 : Nat) (a1 : Int32) (Q : Int32 → List Nat → pF → Prop) (hw : wp_X7_beginOf_0 dA zz Q L f a0 a1) : Met l yX7_beginOf wsX7_beginOf rm_X7_beginOf (va_Pc [.ref a0, .int a1] (pPre dC dI dA zz base L f sz)) (va_Qi (fun r (u : List Nat × pF) => Q r u.1 u.2) (pB dC dI dA (va_A (va_pl L f) sz)) (va_A (va_pl L f) sz)) 0 0 (va_A (va_pl L f) sz) := by
  refine Met.ofW (cc := cX7_beginOf) (maxL := 2) (ret := (some .int)) (by decide) rfl ?_
  intro p e s m args below meth c s₁ B hml hv
  obtain ⟨rfl, hsz, hP, hK, hD0, hz, hN, hT⟩ := hv
  subst hsz
  have hl := lv_entry ([.ref a0, .int a1]) (n := 2) (Nat.le_of_ble_eq_true rfl)
  rw [lg_entry_eq]
  generalize (lg_sl ([.ref a0, .int a1]) ++ List.replicate (2 - (lg_sl ([.ref a0, .int a1])).length) Slot.unset).toArray = ls at hl ⊢
  exact tb_X7_beginOf_0 (Q := Q) (p := p) ⟨B.exec, B.bytes, hml, findClass_of_methodNamed B.named, atoms_spec (ws := wsX7_beginOf) B.pre, B.returns, B.notSynchronized, fun q h => Or.inr h, hK, pAB hD0 hz, hz, hN, hT⟩ L f a0 a1 hw s.heap [] hP (hD0.self (sz := s.heap.size)) va_S.rf ls (lv_sub hl [0, 1] rfl)
theorem iw_X7_endOf_RX7 : ∀ w ∈ u_ws RX7 TX7 8, w ∈ wsX7_endOf := by decide +kernel
theorem lk_X7_endOf_15 : Cond.fieldLink RX7 15 "TermKeeper$Words" "ends" "[I" ∈ wsX7_endOf := by decide +kernel
theorem lk_X7_endOf_32 : Cond.fieldLink RX7 32 "TermKeeper$Words" "size" "I" ∈ wsX7_endOf := by decide +kernel
abbrev rm_X7_endOf : Room := { frames := 0, cells := 0, slots := 0, locals := 0 }
def wp_X7_endOf_0 (dA : Nat → ClassId) (zz : Nat → Nat) (Q : Int32 → List Nat → pF → Prop) (L : List Nat) (f : pF) (a0 : Nat) (a1 : Int32) : Prop :=
    ((a1 < 0 →
      (Q (-1 : Int32) L f))
     ∧ (¬ a1 < 0 →
      (gI L f 8 a0 6 (fun g_6 =>
        ((g_6 ≤ a1 →
          (Q (-1 : Int32) L f))
         ∧ (¬ g_6 ≤ a1 →
          (gR L f 8 a0 2 (fun g_13 =>
            (aI L f (dA 1) g_13 a1 (fun g_17 =>
              (Q g_17 L f)))))))))))
set_option maxHeartbeats 4000000 in
set_option maxRecDepth 100000 in
theorem tb_X7_endOf_0 {p : Program} {l : Launch} {e : Env} {s : State} {m : MethodId} {below : List Frame} {meth : Method} {c : Code} {args : Array Value} {dC : Nat → ClassId} {dI : Nat → Nat → Nat} {dA : Nat → ClassId} {zz : Nat → Nat} {base : Nat} {A : Nat → Prop} {Q : Int32 → List Nat → pF → Prop} (C : pCx p s m args meth c cX7_endOf 2 (some .int) RX7 wsX7_endOf A dC dI dA zz base) : ∀ (L : List Nat) (f : pF) (a0 : Nat) (a1 : Int32), wp_X7_endOf_0 dA zz Q  L f a0 a1 → pAt p l e rm_X7_endOf s m args below meth c dC dI A (MQ below (va_Qi (fun r (u : List Nat × pF) => Q r u.1 u.2) (pB dC dI dA A) A) args s 0 0 A) 0 0 0 2 [(0, .ref a0), (1, .int a1)] [] L f := by
  obtain ⟨hx, hb, hml, hown, hts, hr, hlocks, hA, hK, hB, hz, hN, hT⟩ := id C
  intro L f a0 a1 hw H locs hP hD hS ls hl
  rw [wp_X7_endOf_0] at hw
  refine lv_iload_n hx hb dX7_endOf_0 rfl (lv_at hl 1 rfl) ?_
  refine lv_if_lt (tgt := 21) hx hb dX7_endOf_1 (by decide) (fun c_1 => ?_) (fun c_1 => ?_)
  · have hw := hw.1 c_1
    refine lv_iconst (v := -1) hx hb dX7_endOf_21 (by decide) ?_
    exact W.iret (v := (-1 : Int32)) hx hb hr (fun t ht hW => ⟨⟨(-1 : Int32), (L, f), rfl, hw, by rw [ht]; exact hP, va_K.moved hW.alike hK, hD⟩, hS.F ht⟩) hS.2.2 dX7_endOf_22
  · have hw := hw.2 c_1
    refine lv_iload_n hx hb dX7_endOf_4 rfl (lv_at hl 1 rfl) ?_
    refine lv_aload_n hx hb dX7_endOf_5 rfl (lv_at hl 0 rfl) ?_
    obtain ⟨fs_6, g_6, ⟨hL9, hf9, hn9⟩, hw⟩ := hw
    refine va_get (D := (dC, dI)) (ci := 8) (v := .int g_6) (C := RX7) (T := TX7) (N := 8) hx hb hts iw_X7_endOf_RX7 hown hK (p_one hP hL9 hf9) 0 rfl rfl 6 (by decide) (hts _ lk_X7_endOf_32) (fun _ h9 => h9) hn9 dX7_endOf_6 ?_
    refine lv_icmp_ge (tgt := 21) hx hb dX7_endOf_9 (by decide) (fun c_9 => ?_) (fun c_9 => ?_)
    · have hw := hw.1 c_9
      refine lv_iconst (v := -1) hx hb dX7_endOf_21 (by decide) ?_
      exact W.iret (v := (-1 : Int32)) hx hb hr (fun t ht hW => ⟨⟨(-1 : Int32), (L, f), rfl, hw, by rw [ht]; exact hP, va_K.moved hW.alike hK, hD⟩, hS.F ht⟩) hS.2.2 dX7_endOf_22
    · have hw := hw.2 c_9
      refine lv_aload_n hx hb dX7_endOf_12 rfl (lv_at hl 0 rfl) ?_
      obtain ⟨fs_13, g_13, ⟨hL9, hf9, hn9⟩, hw⟩ := hw
      refine va_get (D := (dC, dI)) (ci := 8) (v := .ref g_13) (C := RX7) (T := TX7) (N := 8) hx hb hts iw_X7_endOf_RX7 hown hK (p_one hP hL9 hf9) 0 rfl rfl 2 (by decide) (hts _ lk_X7_endOf_15) (fun _ h9 => h9) hn9 dX7_endOf_13 ?_
      refine lv_iload_n hx hb dX7_endOf_16 rfl (lv_at hl 1 rfl) ?_
      obtain ⟨n_17, h_17, ⟨hL9, hf9, hn9⟩, hw⟩ := hw
      refine va_iald hx hb hK (p_one hP hL9 hf9) 0 1 rfl rfl hn9 dX7_endOf_17 ?_
      refine lv_topi (fun g_17 eg_17 => ?_)
      rw [← eg_17] at hw
      refine lv_goto (tgt := 22) hx hb dX7_endOf_18 (by decide) ?_
      exact W.iret (v := g_17) hx hb hr (fun t ht hW => ⟨⟨g_17, (L, f), rfl, hw, by rw [ht]; exact hP, va_K.moved hW.alike hK, hD⟩, hS.F ht⟩) hS.2.2 dX7_endOf_22
set_option maxHeartbeats 4000000 in
set_option maxRecDepth 100000 in
theorem c_X7_endOf (l : Launch) (dC : Nat → ClassId) (dI : Nat → Nat → Nat) (dA : Nat → ClassId) (zz : Nat → Nat) (base : Nat) (L : List Nat) (f : pF) (sz : Nat) (a0 : Nat) (a1 : Int32) (Q : Int32 → List Nat → pF → Prop) (hw : wp_X7_endOf_0 dA zz Q L f a0 a1) : Met l yX7_endOf wsX7_endOf rm_X7_endOf (va_Pc [.ref a0, .int a1] (pPre dC dI dA zz base L f sz)) (va_Qi (fun r (u : List Nat × pF) => Q r u.1 u.2) (pB dC dI dA (va_A (va_pl L f) sz)) (va_A (va_pl L f) sz)) 0 0 (va_A (va_pl L f) sz) := by
  refine Met.ofW (cc := cX7_endOf) (maxL := 2) (ret := (some .int)) (by decide) rfl ?_
  intro p e s m args below meth c s₁ B hml hv
  obtain ⟨rfl, hsz, hP, hK, hD0, hz, hN, hT⟩ := hv
  subst hsz
  have hl := lv_entry ([.ref a0, .int a1]) (n := 2) (Nat.le_of_ble_eq_true rfl)
  rw [lg_entry_eq]
  generalize (lg_sl ([.ref a0, .int a1]) ++ List.replicate (2 - (lg_sl ([.ref a0, .int a1])).length) Slot.unset).toArray = ls at hl ⊢
  exact tb_X7_endOf_0 (Q := Q) (p := p) ⟨B.exec, B.bytes, hml, findClass_of_methodNamed B.named, atoms_spec (ws := wsX7_endOf) B.pre, B.returns, B.notSynchronized, fun q h => Or.inr h, hK, pAB hD0 hz, hz, hN, hT⟩ L f a0 a1 hw s.heap [] hP (hD0.self (sz := s.heap.size)) va_S.rf ls (lv_sub hl [0, 1] rfl)
theorem iw_X7_keepWord_RX7 : ∀ w ∈ u_ws RX7 TX7 8, w ∈ wsX7_keepWord := by decide +kernel
theorem lk_X7_keepWord_11 : Cond.fieldLink RX7 11 "TermKeeper$Words" "begins" "[I" ∈ wsX7_keepWord := by decide +kernel
theorem lk_X7_keepWord_15 : Cond.fieldLink RX7 15 "TermKeeper$Words" "ends" "[I" ∈ wsX7_keepWord := by decide +kernel
theorem lk_X7_keepWord_18 : Cond.fieldLink RX7 18 "TermKeeper$Words" "sentences" "[I" ∈ wsX7_keepWord := by decide +kernel
theorem lk_X7_keepWord_32 : Cond.fieldLink RX7 32 "TermKeeper$Words" "size" "I" ∈ wsX7_keepWord := by decide +kernel
abbrev rm_X7_keepWord : Room := { frames := 0, cells := 0, slots := 0, locals := 0 }
def wp_X7_keepWord_0 (dA : Nat → ClassId) (zz : Nat → Nat) (Q : List Nat → pF → Prop) (L : List Nat) (f : pF) (a0 : Nat) (a1 : Int32) (a2 : Int32) (a3 : Int32) : Prop :=
    (gI L f 8 a0 6 (fun g_1 =>
      (((300 : Int32) ≤ g_1 →
        (Q L f))
       ∧ (¬ (300 : Int32) ≤ g_1 →
        (gR L f 8 a0 1 (fun g_11 =>
          (gI L f 8 a0 6 (fun g_15 =>
            (aIs L f (dA 1) g_11 g_15 a1 (fun f_19 =>
              (gR L f_19 8 a0 2 (fun g_21 =>
                (gI L f_19 8 a0 6 (fun g_25 =>
                  (aIs L f_19 (dA 1) g_21 g_25 a2 (fun f_29 =>
                    (gR L f_29 8 a0 3 (fun g_31 =>
                      (gI L f_29 8 a0 6 (fun g_35 =>
                        (aIs L f_29 (dA 1) g_31 g_35 a3 (fun f_39 =>
                          (gI L f_39 8 a0 6 (fun g_42 =>
                            (gP L f_39 8 a0 6 (.int (g_42 + (1 : Int32))) (fun f_47 =>
                              (Q L f_47)))))))))))))))))))))))))))
set_option maxHeartbeats 4000000 in
set_option maxRecDepth 100000 in
theorem tb_X7_keepWord_0 {p : Program} {l : Launch} {e : Env} {s : State} {m : MethodId} {below : List Frame} {meth : Method} {c : Code} {args : Array Value} {dC : Nat → ClassId} {dI : Nat → Nat → Nat} {dA : Nat → ClassId} {zz : Nat → Nat} {base : Nat} {A : Nat → Prop} {Q : List Nat → pF → Prop} (C : pCx p s m args meth c cX7_keepWord 4 none RX7 wsX7_keepWord A dC dI dA zz base) : ∀ (L : List Nat) (f : pF) (a0 : Nat) (a1 : Int32) (a2 : Int32) (a3 : Int32), wp_X7_keepWord_0 dA zz Q  L f a0 a1 a2 a3 → pAt p l e rm_X7_keepWord s m args below meth c dC dI A (MQ below (va_Qv (fun (u : List Nat × pF) => Q u.1 u.2) (pB dC dI dA A) A) args s 0 0 A) 0 0 0 4 [(0, .ref a0), (1, .int a1), (2, .int a2), (3, .int a3)] [] L f := by
  obtain ⟨hx, hb, hml, hown, hts, hr, hlocks, hA, hK, hB, hz, hN, hT⟩ := id C
  intro L f a0 a1 a2 a3 hw H locs hP hD hS ls hl
  rw [wp_X7_keepWord_0] at hw
  refine lv_aload_n hx hb dX7_keepWord_0 rfl (lv_at hl 0 rfl) ?_
  obtain ⟨fs_1, g_1, ⟨hL9, hf9, hn9⟩, hw⟩ := hw
  refine va_get (D := (dC, dI)) (ci := 8) (v := .int g_1) (C := RX7) (T := TX7) (N := 8) hx hb hts iw_X7_keepWord_RX7 hown hK (p_one hP hL9 hf9) 0 rfl rfl 6 (by decide) (hts _ lk_X7_keepWord_32) (fun _ h9 => h9) hn9 dX7_keepWord_1 ?_
  refine lv_sipush (v := 300) hx hb dX7_keepWord_4 (by decide) ?_
  refine lv_icmp_ge (tgt := 50) hx hb dX7_keepWord_7 (by decide) (fun c_7 => ?_) (fun c_7 => ?_)
  · have hw := hw.1 c_7
    exact W.vret hx hb hr (fun t ht hW => ⟨⟨(L, f), rfl, hw, by rw [ht]; exact hP, va_K.moved hW.alike hK, hD⟩, hS.F ht⟩) hS.2.2 dX7_keepWord_50
  · have hw := hw.2 c_7
    refine lv_aload_n hx hb dX7_keepWord_10 rfl (lv_at hl 0 rfl) ?_
    obtain ⟨fs_11, g_11, ⟨hL9, hf9, hn9⟩, hw⟩ := hw
    refine va_get (D := (dC, dI)) (ci := 8) (v := .ref g_11) (C := RX7) (T := TX7) (N := 8) hx hb hts iw_X7_keepWord_RX7 hown hK (p_one hP hL9 hf9) 0 rfl rfl 1 (by decide) (hts _ lk_X7_keepWord_11) (fun _ h9 => h9) hn9 dX7_keepWord_11 ?_
    refine lv_aload_n hx hb dX7_keepWord_14 rfl (lv_at hl 0 rfl) ?_
    obtain ⟨fs_15, g_15, ⟨hL9, hf9, hn9⟩, hw⟩ := hw
    refine va_get (D := (dC, dI)) (ci := 8) (v := .int g_15) (C := RX7) (T := TX7) (N := 8) hx hb hts iw_X7_keepWord_RX7 hown hK (p_one hP hL9 hf9) 0 rfl rfl 6 (by decide) (hts _ lk_X7_keepWord_32) (fun _ h9 => h9) hn9 dX7_keepWord_15 ?_
    refine lv_iload_n hx hb dX7_keepWord_18 rfl (lv_at hl 1 rfl) ?_
    obtain ⟨n_19, h_19, ⟨hL9, hf9, hn9⟩, hw⟩ := hw
    obtain ⟨kq9, hkq9⟩ := p_at hL9 hf9
    refine va_iast hx hb hK hP hD hS kq9 1 hkq9 rfl hn9 dX7_keepWord_19 (fun H locs hP2 hD2 hS => ?_)
    rw [p_set hD hL9 hf9 hkq9] at hP2 hD2
    obtain ⟨f_19, ef_19⟩ : ∃ y : pF, y = va_up f g_11 (.inl (dA 1, n_19, .inl (upd h_19 (Int32.toNatClampNeg g_15) a1))) := ⟨_, rfl⟩
    rw [← ef_19] at hP2 hD2
    have hw := hw f_19 ef_19
    have hP := hP2
    have hD := hD2
    refine lv_aload_n hx hb dX7_keepWord_20 rfl (lv_at hl 0 rfl) ?_
    obtain ⟨fs_21, g_21, ⟨hL9, hf9, hn9⟩, hw⟩ := hw
    refine va_get (D := (dC, dI)) (ci := 8) (v := .ref g_21) (C := RX7) (T := TX7) (N := 8) hx hb hts iw_X7_keepWord_RX7 hown hK (p_one hP hL9 hf9) 0 rfl rfl 2 (by decide) (hts _ lk_X7_keepWord_15) (fun _ h9 => h9) hn9 dX7_keepWord_21 ?_
    refine lv_aload_n hx hb dX7_keepWord_24 rfl (lv_at hl 0 rfl) ?_
    obtain ⟨fs_25, g_25, ⟨hL9, hf9, hn9⟩, hw⟩ := hw
    refine va_get (D := (dC, dI)) (ci := 8) (v := .int g_25) (C := RX7) (T := TX7) (N := 8) hx hb hts iw_X7_keepWord_RX7 hown hK (p_one hP hL9 hf9) 0 rfl rfl 6 (by decide) (hts _ lk_X7_keepWord_32) (fun _ h9 => h9) hn9 dX7_keepWord_25 ?_
    refine lv_iload_n hx hb dX7_keepWord_28 rfl (lv_at hl 2 rfl) ?_
    obtain ⟨n_29, h_29, ⟨hL9, hf9, hn9⟩, hw⟩ := hw
    obtain ⟨kq9, hkq9⟩ := p_at hL9 hf9
    refine va_iast hx hb hK hP hD hS kq9 1 hkq9 rfl hn9 dX7_keepWord_29 (fun H locs hP2 hD2 hS => ?_)
    rw [p_set hD hL9 hf9 hkq9] at hP2 hD2
    obtain ⟨f_29, ef_29⟩ : ∃ y : pF, y = va_up f_19 g_21 (.inl (dA 1, n_29, .inl (upd h_29 (Int32.toNatClampNeg g_25) a2))) := ⟨_, rfl⟩
    rw [← ef_29] at hP2 hD2
    have hw := hw f_29 ef_29
    have hP := hP2
    have hD := hD2
    refine lv_aload_n hx hb dX7_keepWord_30 rfl (lv_at hl 0 rfl) ?_
    obtain ⟨fs_31, g_31, ⟨hL9, hf9, hn9⟩, hw⟩ := hw
    refine va_get (D := (dC, dI)) (ci := 8) (v := .ref g_31) (C := RX7) (T := TX7) (N := 8) hx hb hts iw_X7_keepWord_RX7 hown hK (p_one hP hL9 hf9) 0 rfl rfl 3 (by decide) (hts _ lk_X7_keepWord_18) (fun _ h9 => h9) hn9 dX7_keepWord_31 ?_
    refine lv_aload_n hx hb dX7_keepWord_34 rfl (lv_at hl 0 rfl) ?_
    obtain ⟨fs_35, g_35, ⟨hL9, hf9, hn9⟩, hw⟩ := hw
    refine va_get (D := (dC, dI)) (ci := 8) (v := .int g_35) (C := RX7) (T := TX7) (N := 8) hx hb hts iw_X7_keepWord_RX7 hown hK (p_one hP hL9 hf9) 0 rfl rfl 6 (by decide) (hts _ lk_X7_keepWord_32) (fun _ h9 => h9) hn9 dX7_keepWord_35 ?_
    refine lv_iload_n hx hb dX7_keepWord_38 rfl (lv_at hl 3 rfl) ?_
    obtain ⟨n_39, h_39, ⟨hL9, hf9, hn9⟩, hw⟩ := hw
    obtain ⟨kq9, hkq9⟩ := p_at hL9 hf9
    refine va_iast hx hb hK hP hD hS kq9 1 hkq9 rfl hn9 dX7_keepWord_39 (fun H locs hP2 hD2 hS => ?_)
    rw [p_set hD hL9 hf9 hkq9] at hP2 hD2
    obtain ⟨f_39, ef_39⟩ : ∃ y : pF, y = va_up f_29 g_31 (.inl (dA 1, n_39, .inl (upd h_39 (Int32.toNatClampNeg g_35) a3))) := ⟨_, rfl⟩
    rw [← ef_39] at hP2 hD2
    have hw := hw f_39 ef_39
    have hP := hP2
    have hD := hD2
    refine lv_aload_n hx hb dX7_keepWord_40 rfl (lv_at hl 0 rfl) ?_
    refine lv_dup hx hb dX7_keepWord_41 rfl ?_
    obtain ⟨fs_42, g_42, ⟨hL9, hf9, hn9⟩, hw⟩ := hw
    refine va_get (D := (dC, dI)) (ci := 8) (v := .int g_42) (C := RX7) (T := TX7) (N := 8) hx hb hts iw_X7_keepWord_RX7 hown hK (p_one hP hL9 hf9) 0 rfl rfl 6 (by decide) (hts _ lk_X7_keepWord_32) (fun _ h9 => h9) hn9 dX7_keepWord_42 ?_
    refine lv_iconst (v := 1) hx hb dX7_keepWord_45 (by decide) ?_
    refine lv_iadd hx hb dX7_keepWord_46 ?_
    obtain ⟨fs_47, ⟨hL9, hf9, hn9⟩, hw⟩ := hw
    obtain ⟨kq9, hkq9⟩ := p_at hL9 hf9
    refine va_put (D := (dC, dI)) (ci := 8) (v := .int (g_42 + (1 : Int32))) (C := RX7) (T := TX7) (N := 8) hx hb hts iw_X7_keepWord_RX7 tyX7 tyX7_ok nmX7 hown hK hP hD hS kq9 hkq9 rfl 6 (by decide) (hts _ lk_X7_keepWord_32) (fun _ h9 => h9) rfl (tyX7_ok 6 (by decide)) rfl rfl hn9 dX7_keepWord_47 (fun H locs hP2 hD2 hS => ?_)
    rw [p_set hD hL9 hf9 hkq9] at hP2 hD2
    obtain ⟨f_47, ef_47⟩ : ∃ y : pF, y = va_up f_39 a0 (.inr (8, fs_47.set 6 (.int (g_42 + (1 : Int32))))) := ⟨_, rfl⟩
    rw [← ef_47] at hP2 hD2
    have hw := hw f_47 ef_47
    have hP := hP2
    have hD := hD2
    exact W.vret hx hb hr (fun t ht hW => ⟨⟨(L, f_47), rfl, hw, by rw [ht]; exact hP, va_K.moved hW.alike hK, hD⟩, hS.F ht⟩) hS.2.2 dX7_keepWord_50
set_option maxHeartbeats 4000000 in
set_option maxRecDepth 100000 in
theorem c_X7_keepWord (l : Launch) (dC : Nat → ClassId) (dI : Nat → Nat → Nat) (dA : Nat → ClassId) (zz : Nat → Nat) (base : Nat) (L : List Nat) (f : pF) (sz : Nat) (a0 : Nat) (a1 : Int32) (a2 : Int32) (a3 : Int32) (Q : List Nat → pF → Prop) (hw : wp_X7_keepWord_0 dA zz Q L f a0 a1 a2 a3) : Met l yX7_keepWord wsX7_keepWord rm_X7_keepWord (va_Pc [.ref a0, .int a1, .int a2, .int a3] (pPre dC dI dA zz base L f sz)) (va_Qv (fun (u : List Nat × pF) => Q u.1 u.2) (pB dC dI dA (va_A (va_pl L f) sz)) (va_A (va_pl L f) sz)) 0 0 (va_A (va_pl L f) sz) := by
  refine Met.ofW (cc := cX7_keepWord) (maxL := 4) (ret := none) (by decide) rfl ?_
  intro p e s m args below meth c s₁ B hml hv
  obtain ⟨rfl, hsz, hP, hK, hD0, hz, hN, hT⟩ := hv
  subst hsz
  have hl := lv_entry ([.ref a0, .int a1, .int a2, .int a3]) (n := 4) (Nat.le_of_ble_eq_true rfl)
  rw [lg_entry_eq]
  generalize (lg_sl ([.ref a0, .int a1, .int a2, .int a3]) ++ List.replicate (4 - (lg_sl ([.ref a0, .int a1, .int a2, .int a3])).length) Slot.unset).toArray = ls at hl ⊢
  exact tb_X7_keepWord_0 (Q := Q) (p := p) ⟨B.exec, B.bytes, hml, findClass_of_methodNamed B.named, atoms_spec (ws := wsX7_keepWord) B.pre, B.returns, B.notSynchronized, fun q h => Or.inr h, hK, pAB hD0 hz, hz, hN, hT⟩ L f a0 a1 a2 a3 hw s.heap [] hP (hD0.self (sz := s.heap.size)) va_S.rf ls (lv_sub hl [0, 1, 2, 3] rfl)
theorem iw_X7_read_RX7 : ∀ w ∈ u_ws RX7 TX7 8, w ∈ wsX7_read := by decide +kernel
theorem lk_X7_read_11 : Cond.fieldLink RX7 11 "TermKeeper$Words" "begins" "[I" ∈ wsX7_read := by decide +kernel
theorem lk_X7_read_15 : Cond.fieldLink RX7 15 "TermKeeper$Words" "ends" "[I" ∈ wsX7_read := by decide +kernel
theorem lk_X7_read_21 : Cond.fieldLink RX7 21 "TermKeeper$Words" "near" "[J" ∈ wsX7_read := by decide +kernel
theorem lk_X7_read_28 : Cond.fieldLink RX7 28 "TermKeeper$Words" "glossary" "LTermKeeper$Glossary;" ∈ wsX7_read := by decide +kernel
theorem lk_X7_read_32 : Cond.fieldLink RX7 32 "TermKeeper$Words" "size" "I" ∈ wsX7_read := by decide +kernel
theorem lk_X7_read_36 : Cond.fieldLink RX7 36 "TermKeeper$Words" "talliedSentence" "I" ∈ wsX7_read := by decide +kernel
theorem lt_X7_read_X8_endsSentence : Cond.static yX8_endsSentence ∈ wsX7_read := by decide +kernel
theorem lz_X7_read_RX8 : Cond.initialized RX8 ∈ wsX7_read := by decide +kernel
abbrev rm_X7_read : Room := { frames := 4, cells := 0, slots := 0, locals := 96 }
def wp_X7_read_88 (dA : Nat → ClassId) (zz : Nat → Nat) (Q : List Nat → pF → Prop) (k17_ : List Nat → pF → Nat → Nat → Int32 → Int32 → Int32 → Prop) (L : List Nat) (f : pF) (a0 : Nat) (a1 : Nat) (a2 : Int32) (a3 : Int32) (a4 : Int32) : Prop :=
    (∀ v4_88 : Int32, v4_88 = a4 + (1 : Int32) →
      (k17_ L f a0 a1 a2 a3 v4_88))
def wp_X7_read_49 (dA : Nat → ClassId) (zz : Nat → Nat) (Q : List Nat → pF → Prop) (k17_ : List Nat → pF → Nat → Nat → Int32 → Int32 → Int32 → Prop) (L : List Nat) (f : pF) (a0 : Nat) (a1 : Nat) (a2 : Int32) (a3 : Int32) (a4 : Int32) : Prop :=
    (isO L f 5 a1 ∧
      (wp_X4_letterAt_0 dA zz (fun r_54 L_54 f_54 =>
        ((¬ r_54 = 0 →
          (wp_X7_read_88 dA zz Q k17_ L_54 f_54 a0 a1 a2 a3 a4))
         ∧ (r_54 = 0 →
          (isO L_54 f_54 8 a0 ∧
            (wp_X7_keepWord_0 dA zz (fun L_67 f_67 =>
              (wp_X7_read_88 dA zz Q k17_ L_67 f_67 a0 a1 a2 a3 a4)) L_54 f_54 a0 a3 (a4 + (1 : Int32)) a2))))) L f a1 (a4 + (1 : Int32))))
def wp_X7_read_97 (dA : Nat → ClassId) (zz : Nat → Nat) (Q : List Nat → pF → Prop) : Nat → List Nat → pF → Nat → Nat → Int32 → Prop
  | 0, _, _, _, _, _ => False
  | n + 1, L, f, a0, a1, a4 =>
    (gI L f 8 a0 6 (fun g_100 =>
      ((g_100 ≤ a4 →
        (Q L f))
       ∧ (¬ g_100 ≤ a4 →
        (gR L f 8 a0 4 (fun g_107 =>
          (gR L f 8 a0 0 (fun g_113 =>
            (gR L f 8 a0 1 (fun g_118 =>
              (aI L f (dA 1) g_118 a4 (fun g_123 =>
                (gR L f 8 a0 2 (fun g_125 =>
                  (aI L f (dA 1) g_125 a4 (fun g_130 =>
                    (isO L f 2 g_113 ∧
                      (wp_X1_thingsNear_0 dA zz (fun r_131 L_131 f_131 =>
                        (aJs L_131 f_131 (dA 2) g_107 a4 r_131 (fun f_134 =>
                          (∀ v4_135 : Int32, v4_135 = a4 + (1 : Int32) →
                            ((wp_X7_read_97 dA zz Q  n) L_131 f_134 a0 a1 v4_135))))) L f g_113 a1 g_123 g_130))))))))))))))))))
def wp_X7_read_94 (dA : Nat → ClassId) (zz : Nat → Nat) (Q : List Nat → pF → Prop) (L : List Nat) (f : pF) (a0 : Nat) (a1 : Nat) : Prop :=
    (∃ n9 : Nat, wp_X7_read_97 dA zz Q  n9 L f a0 a1 (0 : Int32))
def wp_X7_read_17 (dA : Nat → ClassId) (zz : Nat → Nat) (Q : List Nat → pF → Prop) : Nat → List Nat → pF → Nat → Nat → Int32 → Int32 → Int32 → Prop
  | 0, _, _, _, _, _, _, _ => False
  | n + 1, L, f, a0, a1, a2, a3, a4 =>
    (isO L f 5 a1 ∧
      (wp_X4_size_0 dA zz (fun r_20 L_20 f_20 =>
        ((r_20 ≤ a4 →
          (wp_X7_read_94 dA zz Q  L_20 f_20 a0 a1))
         ∧ (¬ r_20 ≤ a4 →
          (isO L_20 f_20 5 a1 ∧
            (wp_X4_letterAt_0 dA zz (fun r_29 L_29 f_29 =>
              ((r_29 = 0 →
                (isO L_29 f_29 5 a1 ∧
                  (wp_X4_at_0 dA zz (fun r_76 L_76 f_76 =>
                    (wp_X8_endsSentence_0 (fun r_79 =>
                      ((r_79 = 0 →
                        (wp_X7_read_88 dA zz Q (wp_X7_read_17 dA zz Q  n) L_76 f_76 a0 a1 a2 a3 a4))
                       ∧ (¬ r_79 = 0 →
                        (∀ v2_85 : Int32, v2_85 = a2 + (1 : Int32) →
                          (wp_X7_read_88 dA zz Q (wp_X7_read_17 dA zz Q  n) L_76 f_76 a0 a1 v2_85 a3 a4))))) r_76)) L_29 f_29 a1 a4)))
               ∧ (¬ r_29 = 0 →
                (isO L_29 f_29 5 a1 ∧
                  (wp_X4_letterAt_0 dA zz (fun r_40 L_40 f_40 =>
                    ((¬ r_40 = 0 →
                      (wp_X7_read_49 dA zz Q (wp_X7_read_17 dA zz Q  n) L_40 f_40 a0 a1 a2 a3 a4))
                     ∧ (r_40 = 0 →
                      (wp_X7_read_49 dA zz Q (wp_X7_read_17 dA zz Q  n) L_40 f_40 a0 a1 a2 a4 a4)))) L_29 f_29 a1 (a4 - (1 : Int32))))))) L_20 f_20 a1 a4))))) L f a1 ))
def wp_X7_read_0 (dA : Nat → ClassId) (zz : Nat → Nat) (Q : List Nat → pF → Prop) (L : List Nat) (f : pF) (a0 : Nat) (a1 : Nat) : Prop :=
    (gP L f 8 a0 6 (.int (0 : Int32)) (fun f_2 =>
      (gP L f_2 8 a0 7 (.int (-1 : Int32)) (fun f_7 =>
        (∃ n9 : Nat, wp_X7_read_17 dA zz Q  n9 L f_7 a0 a1 (0 : Int32) (0 : Int32) (0 : Int32))))))
set_option maxHeartbeats 4000000 in
set_option maxRecDepth 100000 in
theorem tb_X7_read_88 {p : Program} {l : Launch} {e : Env} {s : State} {m : MethodId} {below : List Frame} {meth : Method} {c : Code} {args : Array Value} {dC : Nat → ClassId} {dI : Nat → Nat → Nat} {dA : Nat → ClassId} {zz : Nat → Nat} {base : Nat} {A : Nat → Prop} {Q : List Nat → pF → Prop} (C : pCx p s m args meth c cX7_read 5 none RX7 wsX7_read A dC dI dA zz base) {k17_ : List Nat → pF → Nat → Nat → Int32 → Int32 → Int32 → Prop} (h17_ : ∀ (L : List Nat) (f : pF) (a0 : Nat) (a1 : Nat) (a2 : Int32) (a3 : Int32) (a4 : Int32), k17_ L f a0 a1 a2 a3 a4 → pAt p l e rm_X7_read s m args below meth c dC dI A (MQ below (va_Qv (fun (u : List Nat × pF) => Q u.1 u.2) (pB dC dI dA A) A) args s 0 0 A) 0 0 17 5 [(0, .ref a0), (1, .ref a1), (2, .int a2), (3, .int a3), (4, .int a4)] [] L f) : ∀ (L : List Nat) (f : pF) (a0 : Nat) (a1 : Nat) (a2 : Int32) (a3 : Int32) (a4 : Int32), wp_X7_read_88 dA zz Q k17_ L f a0 a1 a2 a3 a4 → pAt p l e rm_X7_read s m args below meth c dC dI A (MQ below (va_Qv (fun (u : List Nat × pF) => Q u.1 u.2) (pB dC dI dA A) A) args s 0 0 A) 0 0 88 5 [(0, .ref a0), (1, .ref a1), (2, .int a2), (3, .int a3), (4, .int a4)] [] L f := by
  obtain ⟨hx, hb, hml, hown, hts, hr, hlocks, hA, hK, hB, hz, hN, hT⟩ := id C
  intro L f a0 a1 a2 a3 a4 hw H locs hP hD hS ls hl
  rw [wp_X7_read_88] at hw
  obtain ⟨v4_88, ev4_88⟩ : ∃ y : Int32, y = a4 + (1 : Int32) := ⟨_, rfl⟩
  have hw := hw v4_88 ev4_88
  refine lv_iinc (v := v4_88) (lv' := [(4, .int v4_88), (0, .ref a0), (1, .ref a1), (2, .int a2), (3, .int a3)]) hx hb dX7_read_88 hl (k := 4) rfl (by rw [ev4_88]; rfl) (by decide) rfl (fun ls hl => ?_)
  refine lv_goto (tgt := 17) hx hb dX7_read_91 (by decide) ?_
  exact h17_ L f a0 a1 a2 a3 v4_88 hw H locs hP hD hS ls (lv_sub hl [1, 2, 3, 4, 0] rfl)
set_option maxHeartbeats 4000000 in
set_option maxRecDepth 100000 in
theorem tb_X7_read_49 {p : Program} {l : Launch} {e : Env} {s : State} {m : MethodId} {below : List Frame} {meth : Method} {c : Code} {args : Array Value} {dC : Nat → ClassId} {dI : Nat → Nat → Nat} {dA : Nat → ClassId} {zz : Nat → Nat} {base : Nat} {A : Nat → Prop} {Q : List Nat → pF → Prop} (C : pCx p s m args meth c cX7_read 5 none RX7 wsX7_read A dC dI dA zz base) {k17_ : List Nat → pF → Nat → Nat → Int32 → Int32 → Int32 → Prop} (h17_ : ∀ (L : List Nat) (f : pF) (a0 : Nat) (a1 : Nat) (a2 : Int32) (a3 : Int32) (a4 : Int32), k17_ L f a0 a1 a2 a3 a4 → pAt p l e rm_X7_read s m args below meth c dC dI A (MQ below (va_Qv (fun (u : List Nat × pF) => Q u.1 u.2) (pB dC dI dA A) A) args s 0 0 A) 0 0 17 5 [(0, .ref a0), (1, .ref a1), (2, .int a2), (3, .int a3), (4, .int a4)] [] L f) : ∀ (L : List Nat) (f : pF) (a0 : Nat) (a1 : Nat) (a2 : Int32) (a3 : Int32) (a4 : Int32), wp_X7_read_49 dA zz Q k17_ L f a0 a1 a2 a3 a4 → pAt p l e rm_X7_read s m args below meth c dC dI A (MQ below (va_Qv (fun (u : List Nat × pF) => Q u.1 u.2) (pB dC dI dA A) A) args s 0 0 A) 0 0 49 5 [(0, .ref a0), (1, .ref a1), (2, .int a2), (3, .int a3), (4, .int a4)] [] L f := by
  obtain ⟨hx, hb, hml, hown, hts, hr, hlocks, hA, hK, hB, hz, hN, hT⟩ := id C
  intro L f a0 a1 a2 a3 a4 hw H locs hP hD hS ls hl
  rw [wp_X7_read_49] at hw
  refine lv_aload_n hx hb dX7_read_49 rfl (lv_at hl 1 rfl) ?_
  refine lv_iload hx hb dX7_read_50 (lv_at hl 4 rfl) ?_
  refine lv_iconst (v := 1) hx hb dX7_read_52 (by decide) ?_
  refine lv_iadd hx hb dX7_read_53 ?_
  obtain ⟨hO9, hw⟩ := hw
  have hFc := p_free hD hS hA
  refine va_calli (va_runV (As := [.int (a4 + (1 : Int32))]) (rest := []) ⟨hx, hb, hml, hown, hts⟩ (c_X4_letterAt l dC dI dA zz base L f H.size a1 (a4 + (1 : Int32)) _ hw) (cwV 1 hts gX7_read_X4_letterAt rfl rfl rfl (by decide +kernel) ⟨by decide, by decide⟩) (pPreV [.int (a4 + (1 : Int32))] (ci := 5) rfl hO9 hK hP hD hS hB hz hN hT) rfl rfl hl.1 rfl (lv_room (Nat.le_of_ble_eq_true rfl)) dX7_read_54 ⟨by decide, by decide⟩) hS (fun q _ h => hFc q h) hFc (fun r_54 u t H1 locs ht hvm hw hB1 hz1 hk1 hS => ?_)
  obtain ⟨L_54, f_54⟩ := u
  obtain ⟨hP, -, hD1⟩ := hB1
  rw [ht] at hP
  have hw := id hw
  have hP : va_P (dC, dI) vwCl (va_pl L_54 f_54) H1 := hP
  have hD : va_D A (va_pl L_54 f_54) := p_gain hD1 hFc
  generalize H1 = H at hP hS ⊢
  refine lv_if_ne (tgt := 88) hx hb dX7_read_57 (by decide) (fun c_57 => ?_) (fun c_57 => ?_)
  · have hw := hw.1 c_57
    exact tb_X7_read_88 C h17_ L_54 f_54 a0 a1 a2 a3 a4 hw H locs hP hD hS ls (lv_sub hl [0, 1, 2, 3, 4] rfl)
  · have hw := hw.2 c_57
    refine lv_aload_n hx hb dX7_read_60 rfl (lv_at hl 0 rfl) ?_
    refine lv_iload_n hx hb dX7_read_61 rfl (lv_at hl 3 rfl) ?_
    refine lv_iload hx hb dX7_read_62 (lv_at hl 4 rfl) ?_
    refine lv_iconst (v := 1) hx hb dX7_read_64 (by decide) ?_
    refine lv_iadd hx hb dX7_read_65 ?_
    refine lv_iload_n hx hb dX7_read_66 rfl (lv_at hl 2 rfl) ?_
    obtain ⟨hO9, hw⟩ := hw
    have hFc := p_free hD hS hA
    refine va_callv (va_runV (As := [.int a3, .int (a4 + (1 : Int32)), .int a2]) (rest := []) ⟨hx, hb, hml, hown, hts⟩ (c_X7_keepWord l dC dI dA zz base L_54 f_54 H.size a0 a3 (a4 + (1 : Int32)) a2 _ hw) (cwV 3 hts gX7_read_X7_keepWord rfl rfl rfl (by decide +kernel) ⟨by decide, by decide⟩) (pPreV [.int a3, .int (a4 + (1 : Int32)), .int a2] (ci := 8) rfl hO9 hK hP hD hS hB hz hN hT) rfl rfl hl.1 rfl (lv_room (Nat.le_of_ble_eq_true rfl)) dX7_read_67 ⟨by decide, by decide⟩) hS (fun q _ h => hFc q h) hFc (fun u t H1 locs ht hvm hw hB1 hz1 hk1 hS => ?_)
    obtain ⟨L_67, f_67⟩ := u
    obtain ⟨hP, -, hD1⟩ := hB1
    rw [ht] at hP
    have hw := id hw
    have hP : va_P (dC, dI) vwCl (va_pl L_67 f_67) H1 := hP
    have hD : va_D A (va_pl L_67 f_67) := p_gain hD1 hFc
    generalize H1 = H at hP hS ⊢
    refine lv_goto (tgt := 88) hx hb dX7_read_70 (by decide) ?_
    exact tb_X7_read_88 C h17_ L_67 f_67 a0 a1 a2 a3 a4 hw H locs hP hD hS ls (lv_sub hl [0, 1, 2, 3, 4] rfl)
set_option maxHeartbeats 4000000 in
set_option maxRecDepth 100000 in
theorem tb_X7_read_97 {p : Program} {l : Launch} {e : Env} {s : State} {m : MethodId} {below : List Frame} {meth : Method} {c : Code} {args : Array Value} {dC : Nat → ClassId} {dI : Nat → Nat → Nat} {dA : Nat → ClassId} {zz : Nat → Nat} {base : Nat} {A : Nat → Prop} {Q : List Nat → pF → Prop} (C : pCx p s m args meth c cX7_read 5 none RX7 wsX7_read A dC dI dA zz base) : ∀ (n : Nat) (L : List Nat) (f : pF) (a0 : Nat) (a1 : Nat) (a4 : Int32), wp_X7_read_97 dA zz Q  n L f a0 a1 a4 → pAt p l e rm_X7_read s m args below meth c dC dI A (MQ below (va_Qv (fun (u : List Nat × pF) => Q u.1 u.2) (pB dC dI dA A) A) args s 0 0 A) 0 0 97 5 [(0, .ref a0), (1, .ref a1), (4, .int a4)] [] L f := by
  obtain ⟨hx, hb, hml, hown, hts, hr, hlocks, hA, hK, hB, hz, hN, hT⟩ := id C
  intro n
  induction n with
  | zero => intro L f a0 a1 a4 hw; exact hw.elim
  | succ n ih =>
    intro L f a0 a1 a4 hw H locs hP hD hS ls hl
    rw [wp_X7_read_97] at hw
    refine lv_iload hx hb dX7_read_97 (lv_at hl 2 rfl) ?_
    refine lv_aload_n hx hb dX7_read_99 rfl (lv_at hl 0 rfl) ?_
    obtain ⟨fs_100, g_100, ⟨hL9, hf9, hn9⟩, hw⟩ := hw
    refine va_get (D := (dC, dI)) (ci := 8) (v := .int g_100) (C := RX7) (T := TX7) (N := 8) hx hb hts iw_X7_read_RX7 hown hK (p_one hP hL9 hf9) 0 rfl rfl 6 (by decide) (hts _ lk_X7_read_32) (fun _ h9 => h9) hn9 dX7_read_100 ?_
    refine lv_icmp_ge (tgt := 141) hx hb dX7_read_103 (by decide) (fun c_103 => ?_) (fun c_103 => ?_)
    · have hw := hw.1 c_103
      exact W.vret hx hb hr (fun t ht hW => ⟨⟨(L, f), rfl, hw, by rw [ht]; exact hP, va_K.moved hW.alike hK, hD⟩, hS.F ht⟩) hS.2.2 dX7_read_141
    · have hw := hw.2 c_103
      refine lv_aload_n hx hb dX7_read_106 rfl (lv_at hl 0 rfl) ?_
      obtain ⟨fs_107, g_107, ⟨hL9, hf9, hn9⟩, hw⟩ := hw
      refine va_get (D := (dC, dI)) (ci := 8) (v := .ref g_107) (C := RX7) (T := TX7) (N := 8) hx hb hts iw_X7_read_RX7 hown hK (p_one hP hL9 hf9) 0 rfl rfl 4 (by decide) (hts _ lk_X7_read_21) (fun _ h9 => h9) hn9 dX7_read_107 ?_
      refine lv_iload hx hb dX7_read_110 (lv_at hl 2 rfl) ?_
      refine lv_aload_n hx hb dX7_read_112 rfl (lv_at hl 0 rfl) ?_
      obtain ⟨fs_113, g_113, ⟨hL9, hf9, hn9⟩, hw⟩ := hw
      refine va_get (D := (dC, dI)) (ci := 8) (v := .ref g_113) (C := RX7) (T := TX7) (N := 8) hx hb hts iw_X7_read_RX7 hown hK (p_one hP hL9 hf9) 0 rfl rfl 0 (by decide) (hts _ lk_X7_read_28) (fun _ h9 => h9) hn9 dX7_read_113 ?_
      refine lv_aload_n hx hb dX7_read_116 rfl (lv_at hl 1 rfl) ?_
      refine lv_aload_n hx hb dX7_read_117 rfl (lv_at hl 0 rfl) ?_
      obtain ⟨fs_118, g_118, ⟨hL9, hf9, hn9⟩, hw⟩ := hw
      refine va_get (D := (dC, dI)) (ci := 8) (v := .ref g_118) (C := RX7) (T := TX7) (N := 8) hx hb hts iw_X7_read_RX7 hown hK (p_one hP hL9 hf9) 0 rfl rfl 1 (by decide) (hts _ lk_X7_read_11) (fun _ h9 => h9) hn9 dX7_read_118 ?_
      refine lv_iload hx hb dX7_read_121 (lv_at hl 2 rfl) ?_
      obtain ⟨n_123, h_123, ⟨hL9, hf9, hn9⟩, hw⟩ := hw
      refine va_iald hx hb hK (p_one hP hL9 hf9) 0 1 rfl rfl hn9 dX7_read_123 ?_
      refine lv_topi (fun g_123 eg_123 => ?_)
      rw [← eg_123] at hw
      refine lv_aload_n hx hb dX7_read_124 rfl (lv_at hl 0 rfl) ?_
      obtain ⟨fs_125, g_125, ⟨hL9, hf9, hn9⟩, hw⟩ := hw
      refine va_get (D := (dC, dI)) (ci := 8) (v := .ref g_125) (C := RX7) (T := TX7) (N := 8) hx hb hts iw_X7_read_RX7 hown hK (p_one hP hL9 hf9) 0 rfl rfl 2 (by decide) (hts _ lk_X7_read_15) (fun _ h9 => h9) hn9 dX7_read_125 ?_
      refine lv_iload hx hb dX7_read_128 (lv_at hl 2 rfl) ?_
      obtain ⟨n_130, h_130, ⟨hL9, hf9, hn9⟩, hw⟩ := hw
      refine va_iald hx hb hK (p_one hP hL9 hf9) 0 1 rfl rfl hn9 dX7_read_130 ?_
      refine lv_topi (fun g_130 eg_130 => ?_)
      rw [← eg_130] at hw
      obtain ⟨hO9, hw⟩ := hw
      have hFc := p_free hD hS hA
      refine va_calll (va_runV (As := [.ref a1, .int g_123, .int g_130]) (rest := [.int a4, .ref g_107]) ⟨hx, hb, hml, hown, hts⟩ (c_X1_thingsNear l dC dI dA zz base L f H.size g_113 a1 g_123 g_130 _ hw) (cwV 3 hts gX7_read_X1_thingsNear rfl rfl rfl (by decide +kernel) ⟨by decide, by decide⟩) (pPreV [.ref a1, .int g_123, .int g_130] (ci := 2) rfl hO9 hK hP hD hS hB hz hN hT) rfl rfl hl.1 rfl (lv_room (Nat.le_of_ble_eq_true rfl)) dX7_read_131 ⟨by decide, by decide⟩) hS (fun q _ h => hFc q h) hFc (fun r_131 u t H1 locs ht hvm hw hB1 hz1 hk1 hS => ?_)
      obtain ⟨L_131, f_131⟩ := u
      obtain ⟨hP, -, hD1⟩ := hB1
      rw [ht] at hP
      have hw := id hw
      have hP : va_P (dC, dI) vwCl (va_pl L_131 f_131) H1 := hP
      have hD : va_D A (va_pl L_131 f_131) := p_gain hD1 hFc
      generalize H1 = H at hP hS ⊢
      obtain ⟨n_134, h_134, ⟨hL9, hf9, hn9⟩, hw⟩ := hw
      obtain ⟨kq9, hkq9⟩ := p_at hL9 hf9
      refine va_last hx hb hK hP hD hS kq9 2 hkq9 rfl hn9 dX7_read_134 (fun H locs hP2 hD2 hS => ?_)
      rw [p_set hD hL9 hf9 hkq9] at hP2 hD2
      obtain ⟨f_134, ef_134⟩ : ∃ y : pF, y = va_up f_131 g_107 (.inl (dA 2, n_134, .inr (.inl (vp_updL h_134 (Int32.toNatClampNeg a4) r_131)))) := ⟨_, rfl⟩
      rw [← ef_134] at hP2 hD2
      have hw := hw f_134 ef_134
      have hP := hP2
      have hD := hD2
      obtain ⟨v4_135, ev4_135⟩ : ∃ y : Int32, y = a4 + (1 : Int32) := ⟨_, rfl⟩
      have hw := hw v4_135 ev4_135
      refine lv_iinc (v := v4_135) (lv' := [(4, .int v4_135), (0, .ref a0), (1, .ref a1)]) hx hb dX7_read_135 hl (k := 2) rfl (by rw [ev4_135]; rfl) (by decide) rfl (fun ls hl => ?_)
      refine lv_goto (tgt := 97) hx hb dX7_read_138 (by decide) ?_
      exact ih L_131 f_134 a0 a1 v4_135 hw H locs hP hD hS ls (lv_sub hl [1, 2, 0] rfl)
set_option maxHeartbeats 4000000 in
set_option maxRecDepth 100000 in
theorem tb_X7_read_94 {p : Program} {l : Launch} {e : Env} {s : State} {m : MethodId} {below : List Frame} {meth : Method} {c : Code} {args : Array Value} {dC : Nat → ClassId} {dI : Nat → Nat → Nat} {dA : Nat → ClassId} {zz : Nat → Nat} {base : Nat} {A : Nat → Prop} {Q : List Nat → pF → Prop} (C : pCx p s m args meth c cX7_read 5 none RX7 wsX7_read A dC dI dA zz base) : ∀ (L : List Nat) (f : pF) (a0 : Nat) (a1 : Nat), wp_X7_read_94 dA zz Q  L f a0 a1 → pAt p l e rm_X7_read s m args below meth c dC dI A (MQ below (va_Qv (fun (u : List Nat × pF) => Q u.1 u.2) (pB dC dI dA A) A) args s 0 0 A) 0 0 94 5 [(0, .ref a0), (1, .ref a1)] [] L f := by
  obtain ⟨hx, hb, hml, hown, hts, hr, hlocks, hA, hK, hB, hz, hN, hT⟩ := id C
  intro L f a0 a1 hw H locs hP hD hS ls hl
  rw [wp_X7_read_94] at hw
  refine lv_iconst (v := 0) hx hb dX7_read_94 (by decide) ?_
  refine lv_istore (lv' := [(4, .int (0 : Int32)), (0, .ref a0), (1, .ref a1)]) hx hb dX7_read_95 hl (by decide) rfl (fun ls hl => ?_)
  obtain ⟨n9, hw⟩ := hw
  exact tb_X7_read_97 C  n9 L f a0 a1 (0 : Int32) hw H locs hP hD hS ls (lv_sub hl [1, 2, 0] rfl)
set_option maxHeartbeats 4000000 in
set_option maxRecDepth 100000 in
theorem tb_X7_read_17 {p : Program} {l : Launch} {e : Env} {s : State} {m : MethodId} {below : List Frame} {meth : Method} {c : Code} {args : Array Value} {dC : Nat → ClassId} {dI : Nat → Nat → Nat} {dA : Nat → ClassId} {zz : Nat → Nat} {base : Nat} {A : Nat → Prop} {Q : List Nat → pF → Prop} (C : pCx p s m args meth c cX7_read 5 none RX7 wsX7_read A dC dI dA zz base) : ∀ (n : Nat) (L : List Nat) (f : pF) (a0 : Nat) (a1 : Nat) (a2 : Int32) (a3 : Int32) (a4 : Int32), wp_X7_read_17 dA zz Q  n L f a0 a1 a2 a3 a4 → pAt p l e rm_X7_read s m args below meth c dC dI A (MQ below (va_Qv (fun (u : List Nat × pF) => Q u.1 u.2) (pB dC dI dA A) A) args s 0 0 A) 0 0 17 5 [(0, .ref a0), (1, .ref a1), (2, .int a2), (3, .int a3), (4, .int a4)] [] L f := by
  obtain ⟨hx, hb, hml, hown, hts, hr, hlocks, hA, hK, hB, hz, hN, hT⟩ := id C
  intro n
  induction n with
  | zero => intro L f a0 a1 a2 a3 a4 hw; exact hw.elim
  | succ n ih =>
    intro L f a0 a1 a2 a3 a4 hw H locs hP hD hS ls hl
    rw [wp_X7_read_17] at hw
    refine lv_iload hx hb dX7_read_17 (lv_at hl 4 rfl) ?_
    refine lv_aload_n hx hb dX7_read_19 rfl (lv_at hl 1 rfl) ?_
    obtain ⟨hO9, hw⟩ := hw
    have hFc := p_free hD hS hA
    refine va_calli (va_runV (As := []) (rest := [.int a4]) ⟨hx, hb, hml, hown, hts⟩ (c_X4_size l dC dI dA zz base L f H.size a1  _ hw) (cwV 0 hts gX7_read_X4_size rfl rfl rfl (by decide +kernel) ⟨by decide, by decide⟩) (pPreV [] (ci := 5) rfl hO9 hK hP hD hS hB hz hN hT) rfl rfl hl.1 rfl (lv_room (Nat.le_of_ble_eq_true rfl)) dX7_read_20 ⟨by decide, by decide⟩) hS (fun q _ h => hFc q h) hFc (fun r_20 u t H1 locs ht hvm hw hB1 hz1 hk1 hS => ?_)
    obtain ⟨L_20, f_20⟩ := u
    obtain ⟨hP, -, hD1⟩ := hB1
    rw [ht] at hP
    have hw := id hw
    have hP : va_P (dC, dI) vwCl (va_pl L_20 f_20) H1 := hP
    have hD : va_D A (va_pl L_20 f_20) := p_gain hD1 hFc
    generalize H1 = H at hP hS ⊢
    refine lv_icmp_ge (tgt := 94) hx hb dX7_read_23 (by decide) (fun c_23 => ?_) (fun c_23 => ?_)
    · have hw := hw.1 c_23
      exact tb_X7_read_94 C  L_20 f_20 a0 a1 hw H locs hP hD hS ls (lv_sub hl [0, 1] rfl)
    · have hw := hw.2 c_23
      refine lv_aload_n hx hb dX7_read_26 rfl (lv_at hl 1 rfl) ?_
      refine lv_iload hx hb dX7_read_27 (lv_at hl 4 rfl) ?_
      obtain ⟨hO9, hw⟩ := hw
      have hFc := p_free hD hS hA
      refine va_calli (va_runV (As := [.int a4]) (rest := []) ⟨hx, hb, hml, hown, hts⟩ (c_X4_letterAt l dC dI dA zz base L_20 f_20 H.size a1 a4 _ hw) (cwV 1 hts gX7_read_X4_letterAt rfl rfl rfl (by decide +kernel) ⟨by decide, by decide⟩) (pPreV [.int a4] (ci := 5) rfl hO9 hK hP hD hS hB hz hN hT) rfl rfl hl.1 rfl (lv_room (Nat.le_of_ble_eq_true rfl)) dX7_read_29 ⟨by decide, by decide⟩) hS (fun q _ h => hFc q h) hFc (fun r_29 u t H1 locs ht hvm hw hB1 hz1 hk1 hS => ?_)
      obtain ⟨L_29, f_29⟩ := u
      obtain ⟨hP, -, hD1⟩ := hB1
      rw [ht] at hP
      have hw := id hw
      have hP : va_P (dC, dI) vwCl (va_pl L_29 f_29) H1 := hP
      have hD : va_D A (va_pl L_29 f_29) := p_gain hD1 hFc
      generalize H1 = H at hP hS ⊢
      refine lv_if_eq (tgt := 73) hx hb dX7_read_32 (by decide) (fun c_32 => ?_) (fun c_32 => ?_)
      · have hw := hw.1 c_32
        refine lv_aload_n hx hb dX7_read_73 rfl (lv_at hl 1 rfl) ?_
        refine lv_iload hx hb dX7_read_74 (lv_at hl 4 rfl) ?_
        obtain ⟨hO9, hw⟩ := hw
        have hFc := p_free hD hS hA
        refine va_calli (va_runV (As := [.int a4]) (rest := []) ⟨hx, hb, hml, hown, hts⟩ (c_X4_at l dC dI dA zz base L_29 f_29 H.size a1 a4 _ hw) (cwV 1 hts gX7_read_X4_at rfl rfl rfl (by decide +kernel) ⟨by decide, by decide⟩) (pPreV [.int a4] (ci := 5) rfl hO9 hK hP hD hS hB hz hN hT) rfl rfl hl.1 rfl (lv_room (Nat.le_of_ble_eq_true rfl)) dX7_read_76 ⟨by decide, by decide⟩) hS (fun q _ h => hFc q h) hFc (fun r_76 u t H1 locs ht hvm hw hB1 hz1 hk1 hS => ?_)
        obtain ⟨L_76, f_76⟩ := u
        obtain ⟨hP, -, hD1⟩ := hB1
        rw [ht] at hP
        have hw := id hw
        have hP : va_P (dC, dI) vwCl (va_pl L_76 f_76) H1 := hP
        have hD : va_D A (va_pl L_76 f_76) := p_gain hD1 hFc
        generalize H1 = H at hP hS ⊢
        refine vp_callSi (va_runSN (As := [.int r_76]) (rest := []) ⟨hx, hb, hml, hown, hts⟩ (c_X8_endsSentence l r_76 _ hw) ⟨va_cnB 1 hts gX7_read_X8_endsSentence_n56 rfl rfl rfl hN.2.2.2.1 (hts _ lz_X7_read_RX8) (by decide +kernel) ⟨by decide, by decide⟩, hts _ lt_X7_read_X8_endsSentence, trivial⟩ preEq rfl rfl hl.1 rfl (lv_room (Nat.le_of_ble_eq_true rfl)) dX7_read_79 ⟨by decide, by decide⟩).run (fun r_79 hw => ?_)
        refine lv_if_eq (tgt := 88) hx hb dX7_read_82 (by decide) (fun c_82 => ?_) (fun c_82 => ?_)
        · have hw := hw.1 c_82
          exact tb_X7_read_88 C ih L_76 f_76 a0 a1 a2 a3 a4 hw H locs hP hD hS ls (lv_sub hl [0, 1, 2, 3, 4] rfl)
        · have hw := hw.2 c_82
          obtain ⟨v2_85, ev2_85⟩ : ∃ y : Int32, y = a2 + (1 : Int32) := ⟨_, rfl⟩
          have hw := hw v2_85 ev2_85
          refine lv_iinc (v := v2_85) (lv' := [(2, .int v2_85), (0, .ref a0), (1, .ref a1), (3, .int a3), (4, .int a4)]) hx hb dX7_read_85 hl (k := 2) rfl (by rw [ev2_85]; rfl) (by decide) rfl (fun ls hl => ?_)
          exact tb_X7_read_88 C ih L_76 f_76 a0 a1 v2_85 a3 a4 hw H locs hP hD hS ls (lv_sub hl [1, 2, 0, 3, 4] rfl)
      · have hw := hw.2 c_32
        refine lv_aload_n hx hb dX7_read_35 rfl (lv_at hl 1 rfl) ?_
        refine lv_iload hx hb dX7_read_36 (lv_at hl 4 rfl) ?_
        refine lv_iconst (v := 1) hx hb dX7_read_38 (by decide) ?_
        refine lv_isub hx hb dX7_read_39 ?_
        obtain ⟨hO9, hw⟩ := hw
        have hFc := p_free hD hS hA
        refine va_calli (va_runV (As := [.int (a4 - (1 : Int32))]) (rest := []) ⟨hx, hb, hml, hown, hts⟩ (c_X4_letterAt l dC dI dA zz base L_29 f_29 H.size a1 (a4 - (1 : Int32)) _ hw) (cwV 1 hts gX7_read_X4_letterAt rfl rfl rfl (by decide +kernel) ⟨by decide, by decide⟩) (pPreV [.int (a4 - (1 : Int32))] (ci := 5) rfl hO9 hK hP hD hS hB hz hN hT) rfl rfl hl.1 rfl (lv_room (Nat.le_of_ble_eq_true rfl)) dX7_read_40 ⟨by decide, by decide⟩) hS (fun q _ h => hFc q h) hFc (fun r_40 u t H1 locs ht hvm hw hB1 hz1 hk1 hS => ?_)
        obtain ⟨L_40, f_40⟩ := u
        obtain ⟨hP, -, hD1⟩ := hB1
        rw [ht] at hP
        have hw := id hw
        have hP : va_P (dC, dI) vwCl (va_pl L_40 f_40) H1 := hP
        have hD : va_D A (va_pl L_40 f_40) := p_gain hD1 hFc
        generalize H1 = H at hP hS ⊢
        refine lv_if_ne (tgt := 49) hx hb dX7_read_43 (by decide) (fun c_43 => ?_) (fun c_43 => ?_)
        · have hw := hw.1 c_43
          exact tb_X7_read_49 C ih L_40 f_40 a0 a1 a2 a3 a4 hw H locs hP hD hS ls (lv_sub hl [0, 1, 2, 3, 4] rfl)
        · have hw := hw.2 c_43
          refine lv_iload hx hb dX7_read_46 (lv_at hl 4 rfl) ?_
          refine lv_istore_n (lv' := [(3, .int a4), (0, .ref a0), (1, .ref a1), (2, .int a2), (4, .int a4)]) hx hb dX7_read_48 rfl hl (by decide) rfl (fun ls hl => ?_)
          exact tb_X7_read_49 C ih L_40 f_40 a0 a1 a2 a4 a4 hw H locs hP hD hS ls (lv_sub hl [1, 2, 3, 0, 4] rfl)
set_option maxHeartbeats 4000000 in
set_option maxRecDepth 100000 in
theorem tb_X7_read_0 {p : Program} {l : Launch} {e : Env} {s : State} {m : MethodId} {below : List Frame} {meth : Method} {c : Code} {args : Array Value} {dC : Nat → ClassId} {dI : Nat → Nat → Nat} {dA : Nat → ClassId} {zz : Nat → Nat} {base : Nat} {A : Nat → Prop} {Q : List Nat → pF → Prop} (C : pCx p s m args meth c cX7_read 5 none RX7 wsX7_read A dC dI dA zz base) : ∀ (L : List Nat) (f : pF) (a0 : Nat) (a1 : Nat), wp_X7_read_0 dA zz Q  L f a0 a1 → pAt p l e rm_X7_read s m args below meth c dC dI A (MQ below (va_Qv (fun (u : List Nat × pF) => Q u.1 u.2) (pB dC dI dA A) A) args s 0 0 A) 0 0 0 5 [(0, .ref a0), (1, .ref a1)] [] L f := by
  obtain ⟨hx, hb, hml, hown, hts, hr, hlocks, hA, hK, hB, hz, hN, hT⟩ := id C
  intro L f a0 a1 hw H locs hP hD hS ls hl
  rw [wp_X7_read_0] at hw
  refine lv_aload_n hx hb dX7_read_0 rfl (lv_at hl 0 rfl) ?_
  refine lv_iconst (v := 0) hx hb dX7_read_1 (by decide) ?_
  obtain ⟨fs_2, ⟨hL9, hf9, hn9⟩, hw⟩ := hw
  obtain ⟨kq9, hkq9⟩ := p_at hL9 hf9
  refine va_put (D := (dC, dI)) (ci := 8) (v := .int (0 : Int32)) (C := RX7) (T := TX7) (N := 8) hx hb hts iw_X7_read_RX7 tyX7 tyX7_ok nmX7 hown hK hP hD hS kq9 hkq9 rfl 6 (by decide) (hts _ lk_X7_read_32) (fun _ h9 => h9) rfl (tyX7_ok 6 (by decide)) rfl rfl hn9 dX7_read_2 (fun H locs hP2 hD2 hS => ?_)
  rw [p_set hD hL9 hf9 hkq9] at hP2 hD2
  obtain ⟨f_2, ef_2⟩ : ∃ y : pF, y = va_up f a0 (.inr (8, fs_2.set 6 (.int (0 : Int32)))) := ⟨_, rfl⟩
  rw [← ef_2] at hP2 hD2
  have hw := hw f_2 ef_2
  have hP := hP2
  have hD := hD2
  refine lv_aload_n hx hb dX7_read_5 rfl (lv_at hl 0 rfl) ?_
  refine lv_iconst (v := -1) hx hb dX7_read_6 (by decide) ?_
  obtain ⟨fs_7, ⟨hL9, hf9, hn9⟩, hw⟩ := hw
  obtain ⟨kq9, hkq9⟩ := p_at hL9 hf9
  refine va_put (D := (dC, dI)) (ci := 8) (v := .int (-1 : Int32)) (C := RX7) (T := TX7) (N := 8) hx hb hts iw_X7_read_RX7 tyX7 tyX7_ok nmX7 hown hK hP hD hS kq9 hkq9 rfl 7 (by decide) (hts _ lk_X7_read_36) (fun _ h9 => h9) rfl (tyX7_ok 7 (by decide)) rfl rfl hn9 dX7_read_7 (fun H locs hP2 hD2 hS => ?_)
  rw [p_set hD hL9 hf9 hkq9] at hP2 hD2
  obtain ⟨f_7, ef_7⟩ : ∃ y : pF, y = va_up f_2 a0 (.inr (8, fs_7.set 7 (.int (-1 : Int32)))) := ⟨_, rfl⟩
  rw [← ef_7] at hP2 hD2
  have hw := hw f_7 ef_7
  have hP := hP2
  have hD := hD2
  refine lv_iconst (v := 0) hx hb dX7_read_10 (by decide) ?_
  refine lv_istore_n (lv' := [(2, .int (0 : Int32)), (0, .ref a0), (1, .ref a1)]) hx hb dX7_read_11 rfl hl (by decide) rfl (fun ls hl => ?_)
  refine lv_iconst (v := 0) hx hb dX7_read_12 (by decide) ?_
  refine lv_istore_n (lv' := [(3, .int (0 : Int32)), (2, .int (0 : Int32)), (0, .ref a0), (1, .ref a1)]) hx hb dX7_read_13 rfl hl (by decide) rfl (fun ls hl => ?_)
  refine lv_iconst (v := 0) hx hb dX7_read_14 (by decide) ?_
  refine lv_istore (lv' := [(4, .int (0 : Int32)), (3, .int (0 : Int32)), (2, .int (0 : Int32)), (0, .ref a0), (1, .ref a1)]) hx hb dX7_read_15 hl (by decide) rfl (fun ls hl => ?_)
  obtain ⟨n9, hw⟩ := hw
  exact tb_X7_read_17 C  n9 L f_7 a0 a1 (0 : Int32) (0 : Int32) (0 : Int32) hw H locs hP hD hS ls (lv_sub hl [3, 4, 2, 1, 0] rfl)
set_option maxHeartbeats 4000000 in
set_option maxRecDepth 100000 in
theorem c_X7_read (l : Launch) (dC : Nat → ClassId) (dI : Nat → Nat → Nat) (dA : Nat → ClassId) (zz : Nat → Nat) (base : Nat) (L : List Nat) (f : pF) (sz : Nat) (a0 : Nat) (a1 : Nat) (Q : List Nat → pF → Prop) (hw : wp_X7_read_0 dA zz Q L f a0 a1) : Met l yX7_read wsX7_read rm_X7_read (va_Pc [.ref a0, .ref a1] (pPre dC dI dA zz base L f sz)) (va_Qv (fun (u : List Nat × pF) => Q u.1 u.2) (pB dC dI dA (va_A (va_pl L f) sz)) (va_A (va_pl L f) sz)) 0 0 (va_A (va_pl L f) sz) := by
  refine Met.ofW (cc := cX7_read) (maxL := 5) (ret := none) (by decide) rfl ?_
  intro p e s m args below meth c s₁ B hml hv
  obtain ⟨rfl, hsz, hP, hK, hD0, hz, hN, hT⟩ := hv
  subst hsz
  have hl := lv_entry ([.ref a0, .ref a1]) (n := 5) (Nat.le_of_ble_eq_true rfl)
  rw [lg_entry_eq]
  generalize (lg_sl ([.ref a0, .ref a1]) ++ List.replicate (5 - (lg_sl ([.ref a0, .ref a1])).length) Slot.unset).toArray = ls at hl ⊢
  exact tb_X7_read_0 (Q := Q) (p := p) ⟨B.exec, B.bytes, hml, findClass_of_methodNamed B.named, atoms_spec (ws := wsX7_read) B.pre, B.returns, B.notSynchronized, fun q h => Or.inr h, hK, pAB hD0 hz, hz, hN, hT⟩ L f a0 a1 hw s.heap [] hP (hD0.self (sz := s.heap.size)) va_S.rf ls (lv_sub hl [0, 1] rfl)
theorem iw_X7_tallySentenceOf_RX7 : ∀ w ∈ u_ws RX7 TX7 8, w ∈ wsX7_tallySentenceOf := by decide +kernel
theorem lk_X7_tallySentenceOf_18 : Cond.fieldLink RX7 18 "TermKeeper$Words" "sentences" "[I" ∈ wsX7_tallySentenceOf := by decide +kernel
theorem lk_X7_tallySentenceOf_21 : Cond.fieldLink RX7 21 "TermKeeper$Words" "near" "[J" ∈ wsX7_tallySentenceOf := by decide +kernel
theorem lk_X7_tallySentenceOf_25 : Cond.fieldLink RX7 25 "TermKeeper$Words" "tally" "[I" ∈ wsX7_tallySentenceOf := by decide +kernel
theorem lk_X7_tallySentenceOf_32 : Cond.fieldLink RX7 32 "TermKeeper$Words" "size" "I" ∈ wsX7_tallySentenceOf := by decide +kernel
theorem lk_X7_tallySentenceOf_36 : Cond.fieldLink RX7 36 "TermKeeper$Words" "talliedSentence" "I" ∈ wsX7_tallySentenceOf := by decide +kernel
abbrev rm_X7_tallySentenceOf : Room := { frames := 0, cells := 0, slots := 0, locals := 0 }
def wp_X7_tallySentenceOf_127 (dA : Nat → ClassId) (zz : Nat → Nat) (Q : List Nat → pF → Prop) (k60_ : List Nat → pF → Nat → Int32 → Int32 → Prop) (L : List Nat) (f : pF) (a0 : Nat) (a2 : Int32) (a3 : Int32) : Prop :=
    (∀ v3_127 : Int32, v3_127 = a3 + (1 : Int32) →
      (k60_ L f a0 a2 v3_127))
def wp_X7_tallySentenceOf_92 (dA : Nat → ClassId) (zz : Nat → Nat) (Q : List Nat → pF → Prop) (k60_ : List Nat → pF → Nat → Int32 → Int32 → Prop) : Nat → List Nat → pF → Nat → Int32 → Int32 → Int32 → Prop
  | 0, _, _, _, _, _, _ => False
  | n + 1, L, f, a0, a2, a3, a4 =>
    (((40 : Int32) ≤ a4 →
      (wp_X7_tallySentenceOf_127 dA zz Q k60_ L f a0 a2 a3))
     ∧ (¬ (40 : Int32) ≤ a4 →
      (gR L f 8 a0 5 (fun g_100 =>
        (aI L f (dA 1) g_100 a4 (fun g_106 =>
          (gR L f 8 a0 4 (fun g_108 =>
            (aJ L f (dA 2) g_108 a3 (fun g_112 =>
              (aIs L f (dA 1) g_100 a4 (g_106 + (Int64.toInt32 ((g_112 >>> (Int32.toInt64 a4 &&& 63)) &&& (1 : Int64)))) (fun f_120 =>
                (∀ v4_121 : Int32, v4_121 = a4 + (1 : Int32) →
                  ((wp_X7_tallySentenceOf_92 dA zz Q k60_ n) L f_120 a0 a2 a3 v4_121))))))))))))))
def wp_X7_tallySentenceOf_60 (dA : Nat → ClassId) (zz : Nat → Nat) (Q : List Nat → pF → Prop) : Nat → List Nat → pF → Nat → Int32 → Int32 → Prop
  | 0, _, _, _, _, _ => False
  | n + 1, L, f, a0, a2, a3 =>
    (gI L f 8 a0 6 (fun g_62 =>
      ((g_62 ≤ a3 →
        (Q L f))
       ∧ (¬ g_62 ≤ a3 →
        (gR L f 8 a0 3 (fun g_69 =>
          (aI L f (dA 1) g_69 a3 (fun g_73 =>
            ((¬ g_73 = a2 →
              (wp_X7_tallySentenceOf_127 dA zz Q (wp_X7_tallySentenceOf_60 dA zz Q  n) L f a0 a2 a3))
             ∧ (g_73 = a2 →
              (gR L f 8 a0 4 (fun g_79 =>
                (aJ L f (dA 2) g_79 a3 (fun g_83 =>
                  (((lg_cmp g_83 (0 : Int64)) = 0 →
                    (wp_X7_tallySentenceOf_127 dA zz Q (wp_X7_tallySentenceOf_60 dA zz Q  n) L f a0 a2 a3))
                   ∧ (¬ (lg_cmp g_83 (0 : Int64)) = 0 →
                    (∃ n9 : Nat, wp_X7_tallySentenceOf_92 dA zz Q (wp_X7_tallySentenceOf_60 dA zz Q  n) n9 L f a0 a2 a3 (0 : Int32))))))))))))))))))
def wp_X7_tallySentenceOf_58 (dA : Nat → ClassId) (zz : Nat → Nat) (Q : List Nat → pF → Prop) (L : List Nat) (f : pF) (a0 : Nat) (a2 : Int32) : Prop :=
    (∃ n9 : Nat, wp_X7_tallySentenceOf_60 dA zz Q  n9 L f a0 a2 (0 : Int32))
def wp_X7_tallySentenceOf_39 (dA : Nat → ClassId) (zz : Nat → Nat) (Q : List Nat → pF → Prop) : Nat → List Nat → pF → Nat → Int32 → Int32 → Prop
  | 0, _, _, _, _, _ => False
  | n + 1, L, f, a0, a2, a3 =>
    (((40 : Int32) ≤ a3 →
      (wp_X7_tallySentenceOf_58 dA zz Q  L f a0 a2))
     ∧ (¬ (40 : Int32) ≤ a3 →
      (gR L f 8 a0 5 (fun g_46 =>
        (aIs L f (dA 1) g_46 a3 (0 : Int32) (fun f_51 =>
          (∀ v3_52 : Int32, v3_52 = a3 + (1 : Int32) →
            ((wp_X7_tallySentenceOf_39 dA zz Q  n) L f_51 a0 a2 v3_52))))))))
def wp_X7_tallySentenceOf_22 (dA : Nat → ClassId) (zz : Nat → Nat) (Q : List Nat → pF → Prop) (L : List Nat) (f : pF) (a0 : Nat) (k0 : Int32) : Prop :=
    (gI L f 8 a0 7 (fun g_25 =>
      ((¬ k0 = g_25 →
        (gP L f 8 a0 7 (.int k0) (fun f_34 =>
          (∃ n9 : Nat, wp_X7_tallySentenceOf_39 dA zz Q  n9 L f_34 a0 k0 (0 : Int32)))))
       ∧ (k0 = g_25 →
        (Q L f)))))
def wp_X7_tallySentenceOf_21 (dA : Nat → ClassId) (zz : Nat → Nat) (Q : List Nat → pF → Prop) (L : List Nat) (f : pF) (a0 : Nat) : Prop :=
    (wp_X7_tallySentenceOf_22 dA zz Q  L f a0 (-1 : Int32))
def wp_X7_tallySentenceOf_0 (dA : Nat → ClassId) (zz : Nat → Nat) (Q : List Nat → pF → Prop) (L : List Nat) (f : pF) (a0 : Nat) (a1 : Int32) : Prop :=
    ((a1 < 0 →
      (wp_X7_tallySentenceOf_21 dA zz Q  L f a0))
     ∧ (¬ a1 < 0 →
      (gI L f 8 a0 6 (fun g_6 =>
        ((g_6 ≤ a1 →
          (wp_X7_tallySentenceOf_21 dA zz Q  L f a0))
         ∧ (¬ g_6 ≤ a1 →
          (gR L f 8 a0 3 (fun g_13 =>
            (aI L f (dA 1) g_13 a1 (fun g_17 =>
              (wp_X7_tallySentenceOf_22 dA zz Q  L f a0 g_17)))))))))))
set_option maxHeartbeats 4000000 in
set_option maxRecDepth 100000 in
theorem tb_X7_tallySentenceOf_127 {p : Program} {l : Launch} {e : Env} {s : State} {m : MethodId} {below : List Frame} {meth : Method} {c : Code} {args : Array Value} {dC : Nat → ClassId} {dI : Nat → Nat → Nat} {dA : Nat → ClassId} {zz : Nat → Nat} {base : Nat} {A : Nat → Prop} {Q : List Nat → pF → Prop} (C : pCx p s m args meth c cX7_tallySentenceOf 5 none RX7 wsX7_tallySentenceOf A dC dI dA zz base) {k60_ : List Nat → pF → Nat → Int32 → Int32 → Prop} (h60_ : ∀ (L : List Nat) (f : pF) (a0 : Nat) (a2 : Int32) (a3 : Int32), k60_ L f a0 a2 a3 → pAt p l e rm_X7_tallySentenceOf s m args below meth c dC dI A (MQ below (va_Qv (fun (u : List Nat × pF) => Q u.1 u.2) (pB dC dI dA A) A) args s 0 0 A) 0 0 60 5 [(0, .ref a0), (2, .int a2), (3, .int a3)] [] L f) : ∀ (L : List Nat) (f : pF) (a0 : Nat) (a2 : Int32) (a3 : Int32), wp_X7_tallySentenceOf_127 dA zz Q k60_ L f a0 a2 a3 → pAt p l e rm_X7_tallySentenceOf s m args below meth c dC dI A (MQ below (va_Qv (fun (u : List Nat × pF) => Q u.1 u.2) (pB dC dI dA A) A) args s 0 0 A) 0 0 127 5 [(0, .ref a0), (2, .int a2), (3, .int a3)] [] L f := by
  obtain ⟨hx, hb, hml, hown, hts, hr, hlocks, hA, hK, hB, hz, hN, hT⟩ := id C
  intro L f a0 a2 a3 hw H locs hP hD hS ls hl
  rw [wp_X7_tallySentenceOf_127] at hw
  obtain ⟨v3_127, ev3_127⟩ : ∃ y : Int32, y = a3 + (1 : Int32) := ⟨_, rfl⟩
  have hw := hw v3_127 ev3_127
  refine lv_iinc (v := v3_127) (lv' := [(3, .int v3_127), (0, .ref a0), (2, .int a2)]) hx hb dX7_tallySentenceOf_127 hl (k := 2) rfl (by rw [ev3_127]; rfl) (by decide) rfl (fun ls hl => ?_)
  refine lv_goto (tgt := 60) hx hb dX7_tallySentenceOf_130 (by decide) ?_
  exact h60_ L f a0 a2 v3_127 hw H locs hP hD hS ls (lv_sub hl [1, 2, 0] rfl)
set_option maxHeartbeats 4000000 in
set_option maxRecDepth 100000 in
theorem tb_X7_tallySentenceOf_92 {p : Program} {l : Launch} {e : Env} {s : State} {m : MethodId} {below : List Frame} {meth : Method} {c : Code} {args : Array Value} {dC : Nat → ClassId} {dI : Nat → Nat → Nat} {dA : Nat → ClassId} {zz : Nat → Nat} {base : Nat} {A : Nat → Prop} {Q : List Nat → pF → Prop} (C : pCx p s m args meth c cX7_tallySentenceOf 5 none RX7 wsX7_tallySentenceOf A dC dI dA zz base) {k60_ : List Nat → pF → Nat → Int32 → Int32 → Prop} (h60_ : ∀ (L : List Nat) (f : pF) (a0 : Nat) (a2 : Int32) (a3 : Int32), k60_ L f a0 a2 a3 → pAt p l e rm_X7_tallySentenceOf s m args below meth c dC dI A (MQ below (va_Qv (fun (u : List Nat × pF) => Q u.1 u.2) (pB dC dI dA A) A) args s 0 0 A) 0 0 60 5 [(0, .ref a0), (2, .int a2), (3, .int a3)] [] L f) : ∀ (n : Nat) (L : List Nat) (f : pF) (a0 : Nat) (a2 : Int32) (a3 : Int32) (a4 : Int32), wp_X7_tallySentenceOf_92 dA zz Q k60_ n L f a0 a2 a3 a4 → pAt p l e rm_X7_tallySentenceOf s m args below meth c dC dI A (MQ below (va_Qv (fun (u : List Nat × pF) => Q u.1 u.2) (pB dC dI dA A) A) args s 0 0 A) 0 0 92 5 [(0, .ref a0), (2, .int a2), (3, .int a3), (4, .int a4)] [] L f := by
  obtain ⟨hx, hb, hml, hown, hts, hr, hlocks, hA, hK, hB, hz, hN, hT⟩ := id C
  intro n
  induction n with
  | zero => intro L f a0 a2 a3 a4 hw; exact hw.elim
  | succ n ih =>
    intro L f a0 a2 a3 a4 hw H locs hP hD hS ls hl
    rw [wp_X7_tallySentenceOf_92] at hw
    refine lv_iload hx hb dX7_tallySentenceOf_92 (lv_at hl 3 rfl) ?_
    refine lv_bipush (v := 40) hx hb dX7_tallySentenceOf_94 (by decide) ?_
    refine lv_icmp_ge (tgt := 127) hx hb dX7_tallySentenceOf_96 (by decide) (fun c_96 => ?_) (fun c_96 => ?_)
    · have hw := hw.1 c_96
      exact tb_X7_tallySentenceOf_127 C h60_ L f a0 a2 a3 hw H locs hP hD hS ls (lv_sub hl [0, 1, 2] rfl)
    · have hw := hw.2 c_96
      refine lv_aload_n hx hb dX7_tallySentenceOf_99 rfl (lv_at hl 0 rfl) ?_
      obtain ⟨fs_100, g_100, ⟨hL9, hf9, hn9⟩, hw⟩ := hw
      refine va_get (D := (dC, dI)) (ci := 8) (v := .ref g_100) (C := RX7) (T := TX7) (N := 8) hx hb hts iw_X7_tallySentenceOf_RX7 hown hK (p_one hP hL9 hf9) 0 rfl rfl 5 (by decide) (hts _ lk_X7_tallySentenceOf_25) (fun _ h9 => h9) hn9 dX7_tallySentenceOf_100 ?_
      refine lv_iload hx hb dX7_tallySentenceOf_103 (lv_at hl 3 rfl) ?_
      refine lv_dup2_11 hx hb dX7_tallySentenceOf_105 rfl rfl ?_
      obtain ⟨n_106, h_106, ⟨hL9, hf9, hn9⟩, hw⟩ := hw
      refine va_iald hx hb hK (p_one hP hL9 hf9) 0 1 rfl rfl hn9 dX7_tallySentenceOf_106 ?_
      refine lv_topi (fun g_106 eg_106 => ?_)
      rw [← eg_106] at hw
      refine lv_aload_n hx hb dX7_tallySentenceOf_107 rfl (lv_at hl 0 rfl) ?_
      obtain ⟨fs_108, g_108, ⟨hL9, hf9, hn9⟩, hw⟩ := hw
      refine va_get (D := (dC, dI)) (ci := 8) (v := .ref g_108) (C := RX7) (T := TX7) (N := 8) hx hb hts iw_X7_tallySentenceOf_RX7 hown hK (p_one hP hL9 hf9) 0 rfl rfl 4 (by decide) (hts _ lk_X7_tallySentenceOf_21) (fun _ h9 => h9) hn9 dX7_tallySentenceOf_108 ?_
      refine lv_iload_n hx hb dX7_tallySentenceOf_111 rfl (lv_at hl 2 rfl) ?_
      obtain ⟨n_112, h_112, ⟨hL9, hf9, hn9⟩, hw⟩ := hw
      refine va_lald hx hb hK (p_one hP hL9 hf9) 0 2 rfl rfl hn9 dX7_tallySentenceOf_112 ?_
      refine lv_topl (fun g_112 eg_112 => ?_)
      rw [← eg_112] at hw
      refine lv_iload hx hb dX7_tallySentenceOf_113 (lv_at hl 3 rfl) ?_
      refine lv_lshr hx hb dX7_tallySentenceOf_115 rfl ?_
      refine lv_lconst (v := 1) hx hb dX7_tallySentenceOf_116 (by decide) ?_
      refine lv_land hx hb dX7_tallySentenceOf_117 ?_
      refine lv_l2i hx hb dX7_tallySentenceOf_118 rfl ?_
      refine lv_iadd hx hb dX7_tallySentenceOf_119 ?_
      obtain ⟨n_120, h_120, ⟨hL9, hf9, hn9⟩, hw⟩ := hw
      obtain ⟨kq9, hkq9⟩ := p_at hL9 hf9
      refine va_iast hx hb hK hP hD hS kq9 1 hkq9 rfl hn9 dX7_tallySentenceOf_120 (fun H locs hP2 hD2 hS => ?_)
      rw [p_set hD hL9 hf9 hkq9] at hP2 hD2
      obtain ⟨f_120, ef_120⟩ : ∃ y : pF, y = va_up f g_100 (.inl (dA 1, n_120, .inl (upd h_120 (Int32.toNatClampNeg a4) (g_106 + (Int64.toInt32 ((g_112 >>> (Int32.toInt64 a4 &&& 63)) &&& (1 : Int64))))))) := ⟨_, rfl⟩
      rw [← ef_120] at hP2 hD2
      have hw := hw f_120 ef_120
      have hP := hP2
      have hD := hD2
      obtain ⟨v4_121, ev4_121⟩ : ∃ y : Int32, y = a4 + (1 : Int32) := ⟨_, rfl⟩
      have hw := hw v4_121 ev4_121
      refine lv_iinc (v := v4_121) (lv' := [(4, .int v4_121), (0, .ref a0), (2, .int a2), (3, .int a3)]) hx hb dX7_tallySentenceOf_121 hl (k := 3) rfl (by rw [ev4_121]; rfl) (by decide) rfl (fun ls hl => ?_)
      refine lv_goto (tgt := 92) hx hb dX7_tallySentenceOf_124 (by decide) ?_
      exact ih L f_120 a0 a2 a3 v4_121 hw H locs hP hD hS ls (lv_sub hl [1, 2, 3, 0] rfl)
set_option maxHeartbeats 4000000 in
set_option maxRecDepth 100000 in
theorem tb_X7_tallySentenceOf_60 {p : Program} {l : Launch} {e : Env} {s : State} {m : MethodId} {below : List Frame} {meth : Method} {c : Code} {args : Array Value} {dC : Nat → ClassId} {dI : Nat → Nat → Nat} {dA : Nat → ClassId} {zz : Nat → Nat} {base : Nat} {A : Nat → Prop} {Q : List Nat → pF → Prop} (C : pCx p s m args meth c cX7_tallySentenceOf 5 none RX7 wsX7_tallySentenceOf A dC dI dA zz base) : ∀ (n : Nat) (L : List Nat) (f : pF) (a0 : Nat) (a2 : Int32) (a3 : Int32), wp_X7_tallySentenceOf_60 dA zz Q  n L f a0 a2 a3 → pAt p l e rm_X7_tallySentenceOf s m args below meth c dC dI A (MQ below (va_Qv (fun (u : List Nat × pF) => Q u.1 u.2) (pB dC dI dA A) A) args s 0 0 A) 0 0 60 5 [(0, .ref a0), (2, .int a2), (3, .int a3)] [] L f := by
  obtain ⟨hx, hb, hml, hown, hts, hr, hlocks, hA, hK, hB, hz, hN, hT⟩ := id C
  intro n
  induction n with
  | zero => intro L f a0 a2 a3 hw; exact hw.elim
  | succ n ih =>
    intro L f a0 a2 a3 hw H locs hP hD hS ls hl
    rw [wp_X7_tallySentenceOf_60] at hw
    refine lv_iload_n hx hb dX7_tallySentenceOf_60 rfl (lv_at hl 2 rfl) ?_
    refine lv_aload_n hx hb dX7_tallySentenceOf_61 rfl (lv_at hl 0 rfl) ?_
    obtain ⟨fs_62, g_62, ⟨hL9, hf9, hn9⟩, hw⟩ := hw
    refine va_get (D := (dC, dI)) (ci := 8) (v := .int g_62) (C := RX7) (T := TX7) (N := 8) hx hb hts iw_X7_tallySentenceOf_RX7 hown hK (p_one hP hL9 hf9) 0 rfl rfl 6 (by decide) (hts _ lk_X7_tallySentenceOf_32) (fun _ h9 => h9) hn9 dX7_tallySentenceOf_62 ?_
    refine lv_icmp_ge (tgt := 133) hx hb dX7_tallySentenceOf_65 (by decide) (fun c_65 => ?_) (fun c_65 => ?_)
    · have hw := hw.1 c_65
      exact W.vret hx hb hr (fun t ht hW => ⟨⟨(L, f), rfl, hw, by rw [ht]; exact hP, va_K.moved hW.alike hK, hD⟩, hS.F ht⟩) hS.2.2 dX7_tallySentenceOf_133
    · have hw := hw.2 c_65
      refine lv_aload_n hx hb dX7_tallySentenceOf_68 rfl (lv_at hl 0 rfl) ?_
      obtain ⟨fs_69, g_69, ⟨hL9, hf9, hn9⟩, hw⟩ := hw
      refine va_get (D := (dC, dI)) (ci := 8) (v := .ref g_69) (C := RX7) (T := TX7) (N := 8) hx hb hts iw_X7_tallySentenceOf_RX7 hown hK (p_one hP hL9 hf9) 0 rfl rfl 3 (by decide) (hts _ lk_X7_tallySentenceOf_18) (fun _ h9 => h9) hn9 dX7_tallySentenceOf_69 ?_
      refine lv_iload_n hx hb dX7_tallySentenceOf_72 rfl (lv_at hl 2 rfl) ?_
      obtain ⟨n_73, h_73, ⟨hL9, hf9, hn9⟩, hw⟩ := hw
      refine va_iald hx hb hK (p_one hP hL9 hf9) 0 1 rfl rfl hn9 dX7_tallySentenceOf_73 ?_
      refine lv_topi (fun g_73 eg_73 => ?_)
      rw [← eg_73] at hw
      refine lv_iload_n hx hb dX7_tallySentenceOf_74 rfl (lv_at hl 1 rfl) ?_
      refine lv_icmp_ne (tgt := 127) hx hb dX7_tallySentenceOf_75 (by decide) (fun c_75 => ?_) (fun c_75 => ?_)
      · have hw := hw.1 c_75
        exact tb_X7_tallySentenceOf_127 C ih L f a0 a2 a3 hw H locs hP hD hS ls (lv_sub hl [0, 1, 2] rfl)
      · have hw := hw.2 c_75
        refine lv_aload_n hx hb dX7_tallySentenceOf_78 rfl (lv_at hl 0 rfl) ?_
        obtain ⟨fs_79, g_79, ⟨hL9, hf9, hn9⟩, hw⟩ := hw
        refine va_get (D := (dC, dI)) (ci := 8) (v := .ref g_79) (C := RX7) (T := TX7) (N := 8) hx hb hts iw_X7_tallySentenceOf_RX7 hown hK (p_one hP hL9 hf9) 0 rfl rfl 4 (by decide) (hts _ lk_X7_tallySentenceOf_21) (fun _ h9 => h9) hn9 dX7_tallySentenceOf_79 ?_
        refine lv_iload_n hx hb dX7_tallySentenceOf_82 rfl (lv_at hl 2 rfl) ?_
        obtain ⟨n_83, h_83, ⟨hL9, hf9, hn9⟩, hw⟩ := hw
        refine va_lald hx hb hK (p_one hP hL9 hf9) 0 2 rfl rfl hn9 dX7_tallySentenceOf_83 ?_
        refine lv_topl (fun g_83 eg_83 => ?_)
        rw [← eg_83] at hw
        refine lv_lconst (v := 0) hx hb dX7_tallySentenceOf_84 (by decide) ?_
        refine W.lcmp hx hb dX7_tallySentenceOf_85 ?_
        refine lv_if_eq (tgt := 127) hx hb dX7_tallySentenceOf_86 (by decide) (fun c_86 => ?_) (fun c_86 => ?_)
        · have hw := hw.1 c_86
          exact tb_X7_tallySentenceOf_127 C ih L f a0 a2 a3 hw H locs hP hD hS ls (lv_sub hl [0, 1, 2] rfl)
        · have hw := hw.2 c_86
          refine lv_iconst (v := 0) hx hb dX7_tallySentenceOf_89 (by decide) ?_
          refine lv_istore (lv' := [(4, .int (0 : Int32)), (0, .ref a0), (2, .int a2), (3, .int a3)]) hx hb dX7_tallySentenceOf_90 hl (by decide) rfl (fun ls hl => ?_)
          obtain ⟨n9, hw⟩ := hw
          exact tb_X7_tallySentenceOf_92 C ih n9 L f a0 a2 a3 (0 : Int32) hw H locs hP hD hS ls (lv_sub hl [1, 2, 3, 0] rfl)
set_option maxHeartbeats 4000000 in
set_option maxRecDepth 100000 in
theorem tb_X7_tallySentenceOf_58 {p : Program} {l : Launch} {e : Env} {s : State} {m : MethodId} {below : List Frame} {meth : Method} {c : Code} {args : Array Value} {dC : Nat → ClassId} {dI : Nat → Nat → Nat} {dA : Nat → ClassId} {zz : Nat → Nat} {base : Nat} {A : Nat → Prop} {Q : List Nat → pF → Prop} (C : pCx p s m args meth c cX7_tallySentenceOf 5 none RX7 wsX7_tallySentenceOf A dC dI dA zz base) : ∀ (L : List Nat) (f : pF) (a0 : Nat) (a2 : Int32), wp_X7_tallySentenceOf_58 dA zz Q  L f a0 a2 → pAt p l e rm_X7_tallySentenceOf s m args below meth c dC dI A (MQ below (va_Qv (fun (u : List Nat × pF) => Q u.1 u.2) (pB dC dI dA A) A) args s 0 0 A) 0 0 58 5 [(0, .ref a0), (2, .int a2)] [] L f := by
  obtain ⟨hx, hb, hml, hown, hts, hr, hlocks, hA, hK, hB, hz, hN, hT⟩ := id C
  intro L f a0 a2 hw H locs hP hD hS ls hl
  rw [wp_X7_tallySentenceOf_58] at hw
  refine lv_iconst (v := 0) hx hb dX7_tallySentenceOf_58 (by decide) ?_
  refine lv_istore_n (lv' := [(3, .int (0 : Int32)), (0, .ref a0), (2, .int a2)]) hx hb dX7_tallySentenceOf_59 rfl hl (by decide) rfl (fun ls hl => ?_)
  obtain ⟨n9, hw⟩ := hw
  exact tb_X7_tallySentenceOf_60 C  n9 L f a0 a2 (0 : Int32) hw H locs hP hD hS ls (lv_sub hl [1, 2, 0] rfl)
set_option maxHeartbeats 4000000 in
set_option maxRecDepth 100000 in
theorem tb_X7_tallySentenceOf_39 {p : Program} {l : Launch} {e : Env} {s : State} {m : MethodId} {below : List Frame} {meth : Method} {c : Code} {args : Array Value} {dC : Nat → ClassId} {dI : Nat → Nat → Nat} {dA : Nat → ClassId} {zz : Nat → Nat} {base : Nat} {A : Nat → Prop} {Q : List Nat → pF → Prop} (C : pCx p s m args meth c cX7_tallySentenceOf 5 none RX7 wsX7_tallySentenceOf A dC dI dA zz base) : ∀ (n : Nat) (L : List Nat) (f : pF) (a0 : Nat) (a2 : Int32) (a3 : Int32), wp_X7_tallySentenceOf_39 dA zz Q  n L f a0 a2 a3 → pAt p l e rm_X7_tallySentenceOf s m args below meth c dC dI A (MQ below (va_Qv (fun (u : List Nat × pF) => Q u.1 u.2) (pB dC dI dA A) A) args s 0 0 A) 0 0 39 5 [(0, .ref a0), (2, .int a2), (3, .int a3)] [] L f := by
  obtain ⟨hx, hb, hml, hown, hts, hr, hlocks, hA, hK, hB, hz, hN, hT⟩ := id C
  intro n
  induction n with
  | zero => intro L f a0 a2 a3 hw; exact hw.elim
  | succ n ih =>
    intro L f a0 a2 a3 hw H locs hP hD hS ls hl
    rw [wp_X7_tallySentenceOf_39] at hw
    refine lv_iload_n hx hb dX7_tallySentenceOf_39 rfl (lv_at hl 2 rfl) ?_
    refine lv_bipush (v := 40) hx hb dX7_tallySentenceOf_40 (by decide) ?_
    refine lv_icmp_ge (tgt := 58) hx hb dX7_tallySentenceOf_42 (by decide) (fun c_42 => ?_) (fun c_42 => ?_)
    · have hw := hw.1 c_42
      exact tb_X7_tallySentenceOf_58 C  L f a0 a2 hw H locs hP hD hS ls (lv_sub hl [0, 1] rfl)
    · have hw := hw.2 c_42
      refine lv_aload_n hx hb dX7_tallySentenceOf_45 rfl (lv_at hl 0 rfl) ?_
      obtain ⟨fs_46, g_46, ⟨hL9, hf9, hn9⟩, hw⟩ := hw
      refine va_get (D := (dC, dI)) (ci := 8) (v := .ref g_46) (C := RX7) (T := TX7) (N := 8) hx hb hts iw_X7_tallySentenceOf_RX7 hown hK (p_one hP hL9 hf9) 0 rfl rfl 5 (by decide) (hts _ lk_X7_tallySentenceOf_25) (fun _ h9 => h9) hn9 dX7_tallySentenceOf_46 ?_
      refine lv_iload_n hx hb dX7_tallySentenceOf_49 rfl (lv_at hl 2 rfl) ?_
      refine lv_iconst (v := 0) hx hb dX7_tallySentenceOf_50 (by decide) ?_
      obtain ⟨n_51, h_51, ⟨hL9, hf9, hn9⟩, hw⟩ := hw
      obtain ⟨kq9, hkq9⟩ := p_at hL9 hf9
      refine va_iast hx hb hK hP hD hS kq9 1 hkq9 rfl hn9 dX7_tallySentenceOf_51 (fun H locs hP2 hD2 hS => ?_)
      rw [p_set hD hL9 hf9 hkq9] at hP2 hD2
      obtain ⟨f_51, ef_51⟩ : ∃ y : pF, y = va_up f g_46 (.inl (dA 1, n_51, .inl (upd h_51 (Int32.toNatClampNeg a3) (0 : Int32)))) := ⟨_, rfl⟩
      rw [← ef_51] at hP2 hD2
      have hw := hw f_51 ef_51
      have hP := hP2
      have hD := hD2
      obtain ⟨v3_52, ev3_52⟩ : ∃ y : Int32, y = a3 + (1 : Int32) := ⟨_, rfl⟩
      have hw := hw v3_52 ev3_52
      refine lv_iinc (v := v3_52) (lv' := [(3, .int v3_52), (0, .ref a0), (2, .int a2)]) hx hb dX7_tallySentenceOf_52 hl (k := 2) rfl (by rw [ev3_52]; rfl) (by decide) rfl (fun ls hl => ?_)
      refine lv_goto (tgt := 39) hx hb dX7_tallySentenceOf_55 (by decide) ?_
      exact ih L f_51 a0 a2 v3_52 hw H locs hP hD hS ls (lv_sub hl [1, 2, 0] rfl)
set_option maxHeartbeats 4000000 in
set_option maxRecDepth 100000 in
theorem tb_X7_tallySentenceOf_22 {p : Program} {l : Launch} {e : Env} {s : State} {m : MethodId} {below : List Frame} {meth : Method} {c : Code} {args : Array Value} {dC : Nat → ClassId} {dI : Nat → Nat → Nat} {dA : Nat → ClassId} {zz : Nat → Nat} {base : Nat} {A : Nat → Prop} {Q : List Nat → pF → Prop} (C : pCx p s m args meth c cX7_tallySentenceOf 5 none RX7 wsX7_tallySentenceOf A dC dI dA zz base) : ∀ (L : List Nat) (f : pF) (a0 : Nat) (k0 : Int32), wp_X7_tallySentenceOf_22 dA zz Q  L f a0 k0 → pAt p l e rm_X7_tallySentenceOf s m args below meth c dC dI A (MQ below (va_Qv (fun (u : List Nat × pF) => Q u.1 u.2) (pB dC dI dA A) A) args s 0 0 A) 0 0 22 5 [(0, .ref a0)] [.int k0] L f := by
  obtain ⟨hx, hb, hml, hown, hts, hr, hlocks, hA, hK, hB, hz, hN, hT⟩ := id C
  intro L f a0 k0 hw H locs hP hD hS ls hl
  rw [wp_X7_tallySentenceOf_22] at hw
  refine lv_istore_n (lv' := [(2, .int k0), (0, .ref a0)]) hx hb dX7_tallySentenceOf_22 rfl hl (by decide) rfl (fun ls hl => ?_)
  refine lv_iload_n hx hb dX7_tallySentenceOf_23 rfl (lv_at hl 0 rfl) ?_
  refine lv_aload_n hx hb dX7_tallySentenceOf_24 rfl (lv_at hl 1 rfl) ?_
  obtain ⟨fs_25, g_25, ⟨hL9, hf9, hn9⟩, hw⟩ := hw
  refine va_get (D := (dC, dI)) (ci := 8) (v := .int g_25) (C := RX7) (T := TX7) (N := 8) hx hb hts iw_X7_tallySentenceOf_RX7 hown hK (p_one hP hL9 hf9) 0 rfl rfl 7 (by decide) (hts _ lk_X7_tallySentenceOf_36) (fun _ h9 => h9) hn9 dX7_tallySentenceOf_25 ?_
  refine lv_icmp_ne (tgt := 32) hx hb dX7_tallySentenceOf_28 (by decide) (fun c_28 => ?_) (fun c_28 => ?_)
  · have hw := hw.1 c_28
    refine lv_aload_n hx hb dX7_tallySentenceOf_32 rfl (lv_at hl 1 rfl) ?_
    refine lv_iload_n hx hb dX7_tallySentenceOf_33 rfl (lv_at hl 0 rfl) ?_
    obtain ⟨fs_34, ⟨hL9, hf9, hn9⟩, hw⟩ := hw
    obtain ⟨kq9, hkq9⟩ := p_at hL9 hf9
    refine va_put (D := (dC, dI)) (ci := 8) (v := .int k0) (C := RX7) (T := TX7) (N := 8) hx hb hts iw_X7_tallySentenceOf_RX7 tyX7 tyX7_ok nmX7 hown hK hP hD hS kq9 hkq9 rfl 7 (by decide) (hts _ lk_X7_tallySentenceOf_36) (fun _ h9 => h9) rfl (tyX7_ok 7 (by decide)) rfl rfl hn9 dX7_tallySentenceOf_34 (fun H locs hP2 hD2 hS => ?_)
    rw [p_set hD hL9 hf9 hkq9] at hP2 hD2
    obtain ⟨f_34, ef_34⟩ : ∃ y : pF, y = va_up f a0 (.inr (8, fs_34.set 7 (.int k0))) := ⟨_, rfl⟩
    rw [← ef_34] at hP2 hD2
    have hw := hw f_34 ef_34
    have hP := hP2
    have hD := hD2
    refine lv_iconst (v := 0) hx hb dX7_tallySentenceOf_37 (by decide) ?_
    refine lv_istore_n (lv' := [(3, .int (0 : Int32)), (2, .int k0), (0, .ref a0)]) hx hb dX7_tallySentenceOf_38 rfl hl (by decide) rfl (fun ls hl => ?_)
    obtain ⟨n9, hw⟩ := hw
    exact tb_X7_tallySentenceOf_39 C  n9 L f_34 a0 k0 (0 : Int32) hw H locs hP hD hS ls (lv_sub hl [2, 1, 0] rfl)
  · have hw := hw.2 c_28
    exact W.vret hx hb hr (fun t ht hW => ⟨⟨(L, f), rfl, hw, by rw [ht]; exact hP, va_K.moved hW.alike hK, hD⟩, hS.F ht⟩) hS.2.2 dX7_tallySentenceOf_31
set_option maxHeartbeats 4000000 in
set_option maxRecDepth 100000 in
theorem tb_X7_tallySentenceOf_21 {p : Program} {l : Launch} {e : Env} {s : State} {m : MethodId} {below : List Frame} {meth : Method} {c : Code} {args : Array Value} {dC : Nat → ClassId} {dI : Nat → Nat → Nat} {dA : Nat → ClassId} {zz : Nat → Nat} {base : Nat} {A : Nat → Prop} {Q : List Nat → pF → Prop} (C : pCx p s m args meth c cX7_tallySentenceOf 5 none RX7 wsX7_tallySentenceOf A dC dI dA zz base) : ∀ (L : List Nat) (f : pF) (a0 : Nat), wp_X7_tallySentenceOf_21 dA zz Q  L f a0 → pAt p l e rm_X7_tallySentenceOf s m args below meth c dC dI A (MQ below (va_Qv (fun (u : List Nat × pF) => Q u.1 u.2) (pB dC dI dA A) A) args s 0 0 A) 0 0 21 5 [(0, .ref a0)] [] L f := by
  obtain ⟨hx, hb, hml, hown, hts, hr, hlocks, hA, hK, hB, hz, hN, hT⟩ := id C
  intro L f a0 hw H locs hP hD hS ls hl
  rw [wp_X7_tallySentenceOf_21] at hw
  refine lv_iconst (v := -1) hx hb dX7_tallySentenceOf_21 (by decide) ?_
  exact tb_X7_tallySentenceOf_22 C  L f a0 (-1 : Int32) hw H locs hP hD hS ls (lv_sub hl [0] rfl)
set_option maxHeartbeats 4000000 in
set_option maxRecDepth 100000 in
theorem tb_X7_tallySentenceOf_0 {p : Program} {l : Launch} {e : Env} {s : State} {m : MethodId} {below : List Frame} {meth : Method} {c : Code} {args : Array Value} {dC : Nat → ClassId} {dI : Nat → Nat → Nat} {dA : Nat → ClassId} {zz : Nat → Nat} {base : Nat} {A : Nat → Prop} {Q : List Nat → pF → Prop} (C : pCx p s m args meth c cX7_tallySentenceOf 5 none RX7 wsX7_tallySentenceOf A dC dI dA zz base) : ∀ (L : List Nat) (f : pF) (a0 : Nat) (a1 : Int32), wp_X7_tallySentenceOf_0 dA zz Q  L f a0 a1 → pAt p l e rm_X7_tallySentenceOf s m args below meth c dC dI A (MQ below (va_Qv (fun (u : List Nat × pF) => Q u.1 u.2) (pB dC dI dA A) A) args s 0 0 A) 0 0 0 5 [(0, .ref a0), (1, .int a1)] [] L f := by
  obtain ⟨hx, hb, hml, hown, hts, hr, hlocks, hA, hK, hB, hz, hN, hT⟩ := id C
  intro L f a0 a1 hw H locs hP hD hS ls hl
  rw [wp_X7_tallySentenceOf_0] at hw
  refine lv_iload_n hx hb dX7_tallySentenceOf_0 rfl (lv_at hl 1 rfl) ?_
  refine lv_if_lt (tgt := 21) hx hb dX7_tallySentenceOf_1 (by decide) (fun c_1 => ?_) (fun c_1 => ?_)
  · have hw := hw.1 c_1
    exact tb_X7_tallySentenceOf_21 C  L f a0 hw H locs hP hD hS ls (lv_sub hl [0] rfl)
  · have hw := hw.2 c_1
    refine lv_iload_n hx hb dX7_tallySentenceOf_4 rfl (lv_at hl 1 rfl) ?_
    refine lv_aload_n hx hb dX7_tallySentenceOf_5 rfl (lv_at hl 0 rfl) ?_
    obtain ⟨fs_6, g_6, ⟨hL9, hf9, hn9⟩, hw⟩ := hw
    refine va_get (D := (dC, dI)) (ci := 8) (v := .int g_6) (C := RX7) (T := TX7) (N := 8) hx hb hts iw_X7_tallySentenceOf_RX7 hown hK (p_one hP hL9 hf9) 0 rfl rfl 6 (by decide) (hts _ lk_X7_tallySentenceOf_32) (fun _ h9 => h9) hn9 dX7_tallySentenceOf_6 ?_
    refine lv_icmp_ge (tgt := 21) hx hb dX7_tallySentenceOf_9 (by decide) (fun c_9 => ?_) (fun c_9 => ?_)
    · have hw := hw.1 c_9
      exact tb_X7_tallySentenceOf_21 C  L f a0 hw H locs hP hD hS ls (lv_sub hl [0] rfl)
    · have hw := hw.2 c_9
      refine lv_aload_n hx hb dX7_tallySentenceOf_12 rfl (lv_at hl 0 rfl) ?_
      obtain ⟨fs_13, g_13, ⟨hL9, hf9, hn9⟩, hw⟩ := hw
      refine va_get (D := (dC, dI)) (ci := 8) (v := .ref g_13) (C := RX7) (T := TX7) (N := 8) hx hb hts iw_X7_tallySentenceOf_RX7 hown hK (p_one hP hL9 hf9) 0 rfl rfl 3 (by decide) (hts _ lk_X7_tallySentenceOf_18) (fun _ h9 => h9) hn9 dX7_tallySentenceOf_13 ?_
      refine lv_iload_n hx hb dX7_tallySentenceOf_16 rfl (lv_at hl 1 rfl) ?_
      obtain ⟨n_17, h_17, ⟨hL9, hf9, hn9⟩, hw⟩ := hw
      refine va_iald hx hb hK (p_one hP hL9 hf9) 0 1 rfl rfl hn9 dX7_tallySentenceOf_17 ?_
      refine lv_topi (fun g_17 eg_17 => ?_)
      rw [← eg_17] at hw
      refine lv_goto (tgt := 22) hx hb dX7_tallySentenceOf_18 (by decide) ?_
      exact tb_X7_tallySentenceOf_22 C  L f a0 g_17 hw H locs hP hD hS ls (lv_sub hl [0] rfl)
set_option maxHeartbeats 4000000 in
set_option maxRecDepth 100000 in
theorem c_X7_tallySentenceOf (l : Launch) (dC : Nat → ClassId) (dI : Nat → Nat → Nat) (dA : Nat → ClassId) (zz : Nat → Nat) (base : Nat) (L : List Nat) (f : pF) (sz : Nat) (a0 : Nat) (a1 : Int32) (Q : List Nat → pF → Prop) (hw : wp_X7_tallySentenceOf_0 dA zz Q L f a0 a1) : Met l yX7_tallySentenceOf wsX7_tallySentenceOf rm_X7_tallySentenceOf (va_Pc [.ref a0, .int a1] (pPre dC dI dA zz base L f sz)) (va_Qv (fun (u : List Nat × pF) => Q u.1 u.2) (pB dC dI dA (va_A (va_pl L f) sz)) (va_A (va_pl L f) sz)) 0 0 (va_A (va_pl L f) sz) := by
  refine Met.ofW (cc := cX7_tallySentenceOf) (maxL := 5) (ret := none) (by decide) rfl ?_
  intro p e s m args below meth c s₁ B hml hv
  obtain ⟨rfl, hsz, hP, hK, hD0, hz, hN, hT⟩ := hv
  subst hsz
  have hl := lv_entry ([.ref a0, .int a1]) (n := 5) (Nat.le_of_ble_eq_true rfl)
  rw [lg_entry_eq]
  generalize (lg_sl ([.ref a0, .int a1]) ++ List.replicate (5 - (lg_sl ([.ref a0, .int a1])).length) Slot.unset).toArray = ls at hl ⊢
  exact tb_X7_tallySentenceOf_0 (Q := Q) (p := p) ⟨B.exec, B.bytes, hml, findClass_of_methodNamed B.named, atoms_spec (ws := wsX7_tallySentenceOf) B.pre, B.returns, B.notSynchronized, fun q h => Or.inr h, hK, pAB hD0 hz, hz, hN, hT⟩ L f a0 a1 hw s.heap [] hP (hD0.self (sz := s.heap.size)) va_S.rf ls (lv_sub hl [0, 1] rfl)
theorem iw_X7_scoreOf_RX7 : ∀ w ∈ u_ws RX7 TX7 8, w ∈ wsX7_scoreOf := by decide +kernel
theorem lk_X7_scoreOf_21 : Cond.fieldLink RX7 21 "TermKeeper$Words" "near" "[J" ∈ wsX7_scoreOf := by decide +kernel
theorem lk_X7_scoreOf_25 : Cond.fieldLink RX7 25 "TermKeeper$Words" "tally" "[I" ∈ wsX7_scoreOf := by decide +kernel
theorem lk_X7_scoreOf_32 : Cond.fieldLink RX7 32 "TermKeeper$Words" "size" "I" ∈ wsX7_scoreOf := by decide +kernel
abbrev rm_X7_scoreOf : Room := { frames := 1, cells := 0, slots := 0, locals := 24 }
def wp_X7_scoreOf_65 (dA : Nat → ClassId) (zz : Nat → Nat) (Q : Int32 → List Nat → pF → Prop) (k40_ : List Nat → pF → Nat → Int32 → Int32 → Int32 → Int32 → Prop) (L : List Nat) (f : pF) (a0 : Nat) (a1 : Int32) (a3 : Int32) (a4 : Int32) (a5 : Int32) : Prop :=
    (∀ v5_65 : Int32, v5_65 = a5 + (1 : Int32) →
      (k40_ L f a0 a1 a3 a4 v5_65))
def wp_X7_scoreOf_40 (dA : Nat → ClassId) (zz : Nat → Nat) (Q : Int32 → List Nat → pF → Prop) : Nat → List Nat → pF → Nat → Int32 → Int32 → Int32 → Int32 → Prop
  | 0, _, _, _, _, _, _, _ => False
  | n + 1, L, f, a0, a1, a3, a4, a5 =>
    ((a3 < a5 →
      (Q a4 L f))
     ∧ (¬ a3 < a5 →
      (gR L f 8 a0 4 (fun g_47 =>
        (aJ L f (dA 2) g_47 a5 (fun g_52 =>
          (((lg_cmp ((g_52 >>> (Int32.toInt64 a1 &&& 63)) &&& (1 : Int64)) (0 : Int64)) = 0 →
            (wp_X7_scoreOf_65 dA zz Q (wp_X7_scoreOf_40 dA zz Q  n) L f a0 a1 a3 a4 a5))
           ∧ (¬ (lg_cmp ((g_52 >>> (Int32.toInt64 a1 &&& 63)) &&& (1 : Int64)) (0 : Int64)) = 0 →
            (∀ v4_62 : Int32, v4_62 = a4 + (-1 : Int32) →
              (wp_X7_scoreOf_65 dA zz Q (wp_X7_scoreOf_40 dA zz Q  n) L f a0 a1 a3 v4_62 a5))))))))))
def wp_X7_scoreOf_0 (dA : Nat → ClassId) (zz : Nat → Nat) (Q : Int32 → List Nat → pF → Prop) (L : List Nat) (f : pF) (a0 : Nat) (a1 : Int32) (a2 : Int32) (a3 : Int32) : Prop :=
    ((a1 < 0 →
      (Q (0 : Int32) L f))
     ∧ (¬ a1 < 0 →
      (((40 : Int32) ≤ a1 →
        (Q (0 : Int32) L f))
       ∧ (¬ (40 : Int32) ≤ a1 →
        ((a2 < 0 →
          (Q (0 : Int32) L f))
         ∧ (¬ a2 < 0 →
          (gI L f 8 a0 6 (fun g_16 =>
            ((a3 < g_16 →
              (isO L f 8 a0 ∧
                (wp_X7_tallySentenceOf_0 dA zz (fun L_26 f_26 =>
                  (gR L_26 f_26 8 a0 5 (fun g_30 =>
                    (aI L_26 f_26 (dA 1) g_30 a1 (fun g_34 =>
                      (∃ n9 : Nat, wp_X7_scoreOf_40 dA zz Q  n9 L_26 f_26 a0 a1 a3 g_34 a2)))))) L f a0 a2)))
             ∧ (¬ a3 < g_16 →
              (Q (0 : Int32) L f)))))))))))
set_option maxHeartbeats 4000000 in
set_option maxRecDepth 100000 in
theorem tb_X7_scoreOf_65 {p : Program} {l : Launch} {e : Env} {s : State} {m : MethodId} {below : List Frame} {meth : Method} {c : Code} {args : Array Value} {dC : Nat → ClassId} {dI : Nat → Nat → Nat} {dA : Nat → ClassId} {zz : Nat → Nat} {base : Nat} {A : Nat → Prop} {Q : Int32 → List Nat → pF → Prop} (C : pCx p s m args meth c cX7_scoreOf 6 (some .int) RX7 wsX7_scoreOf A dC dI dA zz base) {k40_ : List Nat → pF → Nat → Int32 → Int32 → Int32 → Int32 → Prop} (h40_ : ∀ (L : List Nat) (f : pF) (a0 : Nat) (a1 : Int32) (a3 : Int32) (a4 : Int32) (a5 : Int32), k40_ L f a0 a1 a3 a4 a5 → pAt p l e rm_X7_scoreOf s m args below meth c dC dI A (MQ below (va_Qi (fun r (u : List Nat × pF) => Q r u.1 u.2) (pB dC dI dA A) A) args s 0 0 A) 0 0 40 6 [(0, .ref a0), (1, .int a1), (3, .int a3), (4, .int a4), (5, .int a5)] [] L f) : ∀ (L : List Nat) (f : pF) (a0 : Nat) (a1 : Int32) (a3 : Int32) (a4 : Int32) (a5 : Int32), wp_X7_scoreOf_65 dA zz Q k40_ L f a0 a1 a3 a4 a5 → pAt p l e rm_X7_scoreOf s m args below meth c dC dI A (MQ below (va_Qi (fun r (u : List Nat × pF) => Q r u.1 u.2) (pB dC dI dA A) A) args s 0 0 A) 0 0 65 6 [(0, .ref a0), (1, .int a1), (3, .int a3), (4, .int a4), (5, .int a5)] [] L f := by
  obtain ⟨hx, hb, hml, hown, hts, hr, hlocks, hA, hK, hB, hz, hN, hT⟩ := id C
  intro L f a0 a1 a3 a4 a5 hw H locs hP hD hS ls hl
  rw [wp_X7_scoreOf_65] at hw
  obtain ⟨v5_65, ev5_65⟩ : ∃ y : Int32, y = a5 + (1 : Int32) := ⟨_, rfl⟩
  have hw := hw v5_65 ev5_65
  refine lv_iinc (v := v5_65) (lv' := [(5, .int v5_65), (0, .ref a0), (1, .int a1), (3, .int a3), (4, .int a4)]) hx hb dX7_scoreOf_65 hl (k := 4) rfl (by rw [ev5_65]; rfl) (by decide) rfl (fun ls hl => ?_)
  refine lv_goto (tgt := 40) hx hb dX7_scoreOf_68 (by decide) ?_
  exact h40_ L f a0 a1 a3 a4 v5_65 hw H locs hP hD hS ls (lv_sub hl [1, 2, 3, 4, 0] rfl)
set_option maxHeartbeats 4000000 in
set_option maxRecDepth 100000 in
theorem tb_X7_scoreOf_40 {p : Program} {l : Launch} {e : Env} {s : State} {m : MethodId} {below : List Frame} {meth : Method} {c : Code} {args : Array Value} {dC : Nat → ClassId} {dI : Nat → Nat → Nat} {dA : Nat → ClassId} {zz : Nat → Nat} {base : Nat} {A : Nat → Prop} {Q : Int32 → List Nat → pF → Prop} (C : pCx p s m args meth c cX7_scoreOf 6 (some .int) RX7 wsX7_scoreOf A dC dI dA zz base) : ∀ (n : Nat) (L : List Nat) (f : pF) (a0 : Nat) (a1 : Int32) (a3 : Int32) (a4 : Int32) (a5 : Int32), wp_X7_scoreOf_40 dA zz Q  n L f a0 a1 a3 a4 a5 → pAt p l e rm_X7_scoreOf s m args below meth c dC dI A (MQ below (va_Qi (fun r (u : List Nat × pF) => Q r u.1 u.2) (pB dC dI dA A) A) args s 0 0 A) 0 0 40 6 [(0, .ref a0), (1, .int a1), (3, .int a3), (4, .int a4), (5, .int a5)] [] L f := by
  obtain ⟨hx, hb, hml, hown, hts, hr, hlocks, hA, hK, hB, hz, hN, hT⟩ := id C
  intro n
  induction n with
  | zero => intro L f a0 a1 a3 a4 a5 hw; exact hw.elim
  | succ n ih =>
    intro L f a0 a1 a3 a4 a5 hw H locs hP hD hS ls hl
    rw [wp_X7_scoreOf_40] at hw
    refine lv_iload hx hb dX7_scoreOf_40 (lv_at hl 4 rfl) ?_
    refine lv_iload_n hx hb dX7_scoreOf_42 rfl (lv_at hl 2 rfl) ?_
    refine lv_icmp_gt (tgt := 71) hx hb dX7_scoreOf_43 (by decide) (fun c_43 => ?_) (fun c_43 => ?_)
    · have hw := hw.1 c_43
      refine lv_iload hx hb dX7_scoreOf_71 (lv_at hl 3 rfl) ?_
      exact W.iret (v := a4) hx hb hr (fun t ht hW => ⟨⟨a4, (L, f), rfl, hw, by rw [ht]; exact hP, va_K.moved hW.alike hK, hD⟩, hS.F ht⟩) hS.2.2 dX7_scoreOf_73
    · have hw := hw.2 c_43
      refine lv_aload_n hx hb dX7_scoreOf_46 rfl (lv_at hl 0 rfl) ?_
      obtain ⟨fs_47, g_47, ⟨hL9, hf9, hn9⟩, hw⟩ := hw
      refine va_get (D := (dC, dI)) (ci := 8) (v := .ref g_47) (C := RX7) (T := TX7) (N := 8) hx hb hts iw_X7_scoreOf_RX7 hown hK (p_one hP hL9 hf9) 0 rfl rfl 4 (by decide) (hts _ lk_X7_scoreOf_21) (fun _ h9 => h9) hn9 dX7_scoreOf_47 ?_
      refine lv_iload hx hb dX7_scoreOf_50 (lv_at hl 4 rfl) ?_
      obtain ⟨n_52, h_52, ⟨hL9, hf9, hn9⟩, hw⟩ := hw
      refine va_lald hx hb hK (p_one hP hL9 hf9) 0 2 rfl rfl hn9 dX7_scoreOf_52 ?_
      refine lv_topl (fun g_52 eg_52 => ?_)
      rw [← eg_52] at hw
      refine lv_iload_n hx hb dX7_scoreOf_53 rfl (lv_at hl 1 rfl) ?_
      refine lv_lshr hx hb dX7_scoreOf_54 rfl ?_
      refine lv_lconst (v := 1) hx hb dX7_scoreOf_55 (by decide) ?_
      refine lv_land hx hb dX7_scoreOf_56 ?_
      refine lv_lconst (v := 0) hx hb dX7_scoreOf_57 (by decide) ?_
      refine W.lcmp hx hb dX7_scoreOf_58 ?_
      refine lv_if_eq (tgt := 65) hx hb dX7_scoreOf_59 (by decide) (fun c_59 => ?_) (fun c_59 => ?_)
      · have hw := hw.1 c_59
        exact tb_X7_scoreOf_65 C ih L f a0 a1 a3 a4 a5 hw H locs hP hD hS ls (lv_sub hl [0, 1, 2, 3, 4] rfl)
      · have hw := hw.2 c_59
        obtain ⟨v4_62, ev4_62⟩ : ∃ y : Int32, y = a4 + (-1 : Int32) := ⟨_, rfl⟩
        have hw := hw v4_62 ev4_62
        refine lv_iinc (v := v4_62) (lv' := [(4, .int v4_62), (0, .ref a0), (1, .int a1), (3, .int a3), (5, .int a5)]) hx hb dX7_scoreOf_62 hl (k := 3) rfl (by rw [ev4_62]; rfl) (by decide) rfl (fun ls hl => ?_)
        exact tb_X7_scoreOf_65 C ih L f a0 a1 a3 v4_62 a5 hw H locs hP hD hS ls (lv_sub hl [1, 2, 3, 0, 4] rfl)
set_option maxHeartbeats 4000000 in
set_option maxRecDepth 100000 in
theorem tb_X7_scoreOf_0 {p : Program} {l : Launch} {e : Env} {s : State} {m : MethodId} {below : List Frame} {meth : Method} {c : Code} {args : Array Value} {dC : Nat → ClassId} {dI : Nat → Nat → Nat} {dA : Nat → ClassId} {zz : Nat → Nat} {base : Nat} {A : Nat → Prop} {Q : Int32 → List Nat → pF → Prop} (C : pCx p s m args meth c cX7_scoreOf 6 (some .int) RX7 wsX7_scoreOf A dC dI dA zz base) : ∀ (L : List Nat) (f : pF) (a0 : Nat) (a1 : Int32) (a2 : Int32) (a3 : Int32), wp_X7_scoreOf_0 dA zz Q  L f a0 a1 a2 a3 → pAt p l e rm_X7_scoreOf s m args below meth c dC dI A (MQ below (va_Qi (fun r (u : List Nat × pF) => Q r u.1 u.2) (pB dC dI dA A) A) args s 0 0 A) 0 0 0 6 [(0, .ref a0), (1, .int a1), (2, .int a2), (3, .int a3)] [] L f := by
  obtain ⟨hx, hb, hml, hown, hts, hr, hlocks, hA, hK, hB, hz, hN, hT⟩ := id C
  intro L f a0 a1 a2 a3 hw H locs hP hD hS ls hl
  rw [wp_X7_scoreOf_0] at hw
  refine lv_iload_n hx hb dX7_scoreOf_0 rfl (lv_at hl 1 rfl) ?_
  refine lv_if_lt (tgt := 22) hx hb dX7_scoreOf_1 (by decide) (fun c_1 => ?_) (fun c_1 => ?_)
  · have hw := hw.1 c_1
    refine lv_iconst (v := 0) hx hb dX7_scoreOf_22 (by decide) ?_
    exact W.iret (v := (0 : Int32)) hx hb hr (fun t ht hW => ⟨⟨(0 : Int32), (L, f), rfl, hw, by rw [ht]; exact hP, va_K.moved hW.alike hK, hD⟩, hS.F ht⟩) hS.2.2 dX7_scoreOf_23
  · have hw := hw.2 c_1
    refine lv_iload_n hx hb dX7_scoreOf_4 rfl (lv_at hl 1 rfl) ?_
    refine lv_bipush (v := 40) hx hb dX7_scoreOf_5 (by decide) ?_
    refine lv_icmp_ge (tgt := 22) hx hb dX7_scoreOf_7 (by decide) (fun c_7 => ?_) (fun c_7 => ?_)
    · have hw := hw.1 c_7
      refine lv_iconst (v := 0) hx hb dX7_scoreOf_22 (by decide) ?_
      exact W.iret (v := (0 : Int32)) hx hb hr (fun t ht hW => ⟨⟨(0 : Int32), (L, f), rfl, hw, by rw [ht]; exact hP, va_K.moved hW.alike hK, hD⟩, hS.F ht⟩) hS.2.2 dX7_scoreOf_23
    · have hw := hw.2 c_7
      refine lv_iload_n hx hb dX7_scoreOf_10 rfl (lv_at hl 2 rfl) ?_
      refine lv_if_lt (tgt := 22) hx hb dX7_scoreOf_11 (by decide) (fun c_11 => ?_) (fun c_11 => ?_)
      · have hw := hw.1 c_11
        refine lv_iconst (v := 0) hx hb dX7_scoreOf_22 (by decide) ?_
        exact W.iret (v := (0 : Int32)) hx hb hr (fun t ht hW => ⟨⟨(0 : Int32), (L, f), rfl, hw, by rw [ht]; exact hP, va_K.moved hW.alike hK, hD⟩, hS.F ht⟩) hS.2.2 dX7_scoreOf_23
      · have hw := hw.2 c_11
        refine lv_iload_n hx hb dX7_scoreOf_14 rfl (lv_at hl 3 rfl) ?_
        refine lv_aload_n hx hb dX7_scoreOf_15 rfl (lv_at hl 0 rfl) ?_
        obtain ⟨fs_16, g_16, ⟨hL9, hf9, hn9⟩, hw⟩ := hw
        refine va_get (D := (dC, dI)) (ci := 8) (v := .int g_16) (C := RX7) (T := TX7) (N := 8) hx hb hts iw_X7_scoreOf_RX7 hown hK (p_one hP hL9 hf9) 0 rfl rfl 6 (by decide) (hts _ lk_X7_scoreOf_32) (fun _ h9 => h9) hn9 dX7_scoreOf_16 ?_
        refine lv_icmp_lt (tgt := 24) hx hb dX7_scoreOf_19 (by decide) (fun c_19 => ?_) (fun c_19 => ?_)
        · have hw := hw.1 c_19
          refine lv_aload_n hx hb dX7_scoreOf_24 rfl (lv_at hl 0 rfl) ?_
          refine lv_iload_n hx hb dX7_scoreOf_25 rfl (lv_at hl 2 rfl) ?_
          obtain ⟨hO9, hw⟩ := hw
          have hFc := p_free hD hS hA
          refine va_callv (va_runV (As := [.int a2]) (rest := []) ⟨hx, hb, hml, hown, hts⟩ (c_X7_tallySentenceOf l dC dI dA zz base L f H.size a0 a2 _ hw) (cwV 1 hts gX7_scoreOf_X7_tallySentenceOf rfl rfl rfl (by decide +kernel) ⟨by decide, by decide⟩) (pPreV [.int a2] (ci := 8) rfl hO9 hK hP hD hS hB hz hN hT) rfl rfl hl.1 rfl (lv_room (Nat.le_of_ble_eq_true rfl)) dX7_scoreOf_26 ⟨by decide, by decide⟩) hS (fun q _ h => hFc q h) hFc (fun u t H1 locs ht hvm hw hB1 hz1 hk1 hS => ?_)
          obtain ⟨L_26, f_26⟩ := u
          obtain ⟨hP, -, hD1⟩ := hB1
          rw [ht] at hP
          have hw := id hw
          have hP : va_P (dC, dI) vwCl (va_pl L_26 f_26) H1 := hP
          have hD : va_D A (va_pl L_26 f_26) := p_gain hD1 hFc
          generalize H1 = H at hP hS ⊢
          refine lv_aload_n hx hb dX7_scoreOf_29 rfl (lv_at hl 0 rfl) ?_
          obtain ⟨fs_30, g_30, ⟨hL9, hf9, hn9⟩, hw⟩ := hw
          refine va_get (D := (dC, dI)) (ci := 8) (v := .ref g_30) (C := RX7) (T := TX7) (N := 8) hx hb hts iw_X7_scoreOf_RX7 hown hK (p_one hP hL9 hf9) 0 rfl rfl 5 (by decide) (hts _ lk_X7_scoreOf_25) (fun _ h9 => h9) hn9 dX7_scoreOf_30 ?_
          refine lv_iload_n hx hb dX7_scoreOf_33 rfl (lv_at hl 1 rfl) ?_
          obtain ⟨n_34, h_34, ⟨hL9, hf9, hn9⟩, hw⟩ := hw
          refine va_iald hx hb hK (p_one hP hL9 hf9) 0 1 rfl rfl hn9 dX7_scoreOf_34 ?_
          refine lv_topi (fun g_34 eg_34 => ?_)
          rw [← eg_34] at hw
          refine lv_istore (lv' := [(4, .int g_34), (0, .ref a0), (1, .int a1), (2, .int a2), (3, .int a3)]) hx hb dX7_scoreOf_35 hl (by decide) rfl (fun ls hl => ?_)
          refine lv_iload_n hx hb dX7_scoreOf_37 rfl (lv_at hl 3 rfl) ?_
          refine lv_istore (lv' := [(5, .int a2), (4, .int g_34), (0, .ref a0), (1, .int a1), (2, .int a2), (3, .int a3)]) hx hb dX7_scoreOf_38 hl (by decide) rfl (fun ls hl => ?_)
          obtain ⟨n9, hw⟩ := hw
          exact tb_X7_scoreOf_40 C  n9 L_26 f_26 a0 a1 a3 g_34 a2 hw H locs hP hD hS ls (lv_sub hl [2, 3, 5, 1, 0] rfl)
        · have hw := hw.2 c_19
          refine lv_iconst (v := 0) hx hb dX7_scoreOf_22 (by decide) ?_
          exact W.iret (v := (0 : Int32)) hx hb hr (fun t ht hW => ⟨⟨(0 : Int32), (L, f), rfl, hw, by rw [ht]; exact hP, va_K.moved hW.alike hK, hD⟩, hS.F ht⟩) hS.2.2 dX7_scoreOf_23
set_option maxHeartbeats 4000000 in
set_option maxRecDepth 100000 in
theorem c_X7_scoreOf (l : Launch) (dC : Nat → ClassId) (dI : Nat → Nat → Nat) (dA : Nat → ClassId) (zz : Nat → Nat) (base : Nat) (L : List Nat) (f : pF) (sz : Nat) (a0 : Nat) (a1 : Int32) (a2 : Int32) (a3 : Int32) (Q : Int32 → List Nat → pF → Prop) (hw : wp_X7_scoreOf_0 dA zz Q L f a0 a1 a2 a3) : Met l yX7_scoreOf wsX7_scoreOf rm_X7_scoreOf (va_Pc [.ref a0, .int a1, .int a2, .int a3] (pPre dC dI dA zz base L f sz)) (va_Qi (fun r (u : List Nat × pF) => Q r u.1 u.2) (pB dC dI dA (va_A (va_pl L f) sz)) (va_A (va_pl L f) sz)) 0 0 (va_A (va_pl L f) sz) := by
  refine Met.ofW (cc := cX7_scoreOf) (maxL := 6) (ret := (some .int)) (by decide) rfl ?_
  intro p e s m args below meth c s₁ B hml hv
  obtain ⟨rfl, hsz, hP, hK, hD0, hz, hN, hT⟩ := hv
  subst hsz
  have hl := lv_entry ([.ref a0, .int a1, .int a2, .int a3]) (n := 6) (Nat.le_of_ble_eq_true rfl)
  rw [lg_entry_eq]
  generalize (lg_sl ([.ref a0, .int a1, .int a2, .int a3]) ++ List.replicate (6 - (lg_sl ([.ref a0, .int a1, .int a2, .int a3])).length) Slot.unset).toArray = ls at hl ⊢
  exact tb_X7_scoreOf_0 (Q := Q) (p := p) ⟨B.exec, B.bytes, hml, findClass_of_methodNamed B.named, atoms_spec (ws := wsX7_scoreOf) B.pre, B.returns, B.notSynchronized, fun q h => Or.inr h, hK, pAB hD0 hz, hz, hN, hT⟩ L f a0 a1 a2 a3 hw s.heap [] hP (hD0.self (sz := s.heap.size)) va_S.rf ls (lv_sub hl [0, 1, 2, 3] rfl)
theorem iw_X6_init_RX6 : ∀ w ∈ u_ws RX6 TX6 13, w ∈ wsX6_init := by decide +kernel
theorem iw_X6_init_RX7 : ∀ w ∈ u_ws RX7 TX7 8, w ∈ wsX6_init := by decide +kernel
theorem la_X6_init_int : Cond.arrayClass .int ∈ wsX6_init := by decide +kernel
theorem lk_X6_init_38 : Cond.classLink RX6 38 RX7 ∈ wsX6_init := by decide +kernel
theorem lk_X6_init_15 : Cond.fieldLink RX6 15 "TermKeeper$Uses" "begins" "[I" ∈ wsX6_init := by decide +kernel
theorem lk_X6_init_18 : Cond.fieldLink RX6 18 "TermKeeper$Uses" "ends" "[I" ∈ wsX6_init := by decide +kernel
theorem lk_X6_init_21 : Cond.fieldLink RX6 21 "TermKeeper$Uses" "terms" "[I" ∈ wsX6_init := by decide +kernel
theorem lk_X6_init_24 : Cond.fieldLink RX6 24 "TermKeeper$Uses" "endings" "[I" ∈ wsX6_init := by decide +kernel
theorem lk_X6_init_27 : Cond.fieldLink RX6 27 "TermKeeper$Uses" "findings" "[I" ∈ wsX6_init := by decide +kernel
theorem lk_X6_init_30 : Cond.fieldLink RX6 30 "TermKeeper$Uses" "glossary" "LTermKeeper$Glossary;" ∈ wsX6_init := by decide +kernel
theorem lk_X6_init_34 : Cond.fieldLink RX6 34 "TermKeeper$Uses" "definitions" "LTermKeeper$Definitions;" ∈ wsX6_init := by decide +kernel
theorem lk_X6_init_43 : Cond.fieldLink RX6 43 "TermKeeper$Uses" "words" "LTermKeeper$Words;" ∈ wsX6_init := by decide +kernel
theorem lk_X6_init_9 : Cond.fieldLink RX6 9 "TermKeeper$Uses" "ways" "[I" ∈ wsX6_init := by decide +kernel
theorem li_X6_init_RX7 : Cond.instantiable RX7 8 ∈ wsX6_init := by decide +kernel
theorem lim_X6_init_X7_init : Cond.instanceMethod yX7_init ∈ wsX6_init := by decide +kernel
theorem lo1_X6_init : Cond.instanceMethod objectInit ∈ wsX6_init := by decide +kernel
theorem lo2_X6_init : Cond.code objectInit ⟨#[0xb1]⟩ 1 none ∈ wsX6_init := by decide +kernel
theorem lm_X6_init_3 : Cond.methodLink RX6 3 objectInit ∈ wsX6_init := by decide +kernel
theorem lm_X6_init_40 : Cond.methodLink RX6 40 yX7_init ∈ wsX6_init := by decide +kernel
theorem lz_X6_init_RX7 : Cond.initialized RX7 ∈ wsX6_init := by decide +kernel
abbrev rm_X6_init : Room := { frames := 2, cells := 12, slots := 2808, locals := 33 }
def wp_X6_init_0 (dA : Nat → ClassId) (zz : Nat → Nat) (Q : List Nat → pF → Prop) (L : List Nat) (f : pF) (a0 : Nat) (a1 : Nat) (a2 : Nat) : Prop :=
    (nO zz L f (.inl (dA 1, Int32.toNatClampNeg (60 : Int32), .inl (fun _ => 0))) (fun q_7 L_7 f_7 =>
      (gP L_7 f_7 7 a0 3 (.ref q_7) (fun f_9 =>
        (nO zz L_7 f_9 (.inl (dA 1, Int32.toNatClampNeg (300 : Int32), .inl (fun _ => 0))) (fun q_16 L_16 f_16 =>
          (gP L_16 f_16 7 a0 4 (.ref q_16) (fun f_18 =>
            (nO zz L_16 f_18 (.inl (dA 1, Int32.toNatClampNeg (300 : Int32), .inl (fun _ => 0))) (fun q_25 L_25 f_25 =>
              (gP L_25 f_25 7 a0 5 (.ref q_25) (fun f_27 =>
                (nO zz L_25 f_27 (.inl (dA 1, Int32.toNatClampNeg (300 : Int32), .inl (fun _ => 0))) (fun q_34 L_34 f_34 =>
                  (gP L_34 f_34 7 a0 6 (.ref q_34) (fun f_36 =>
                    (nO zz L_34 f_36 (.inl (dA 1, Int32.toNatClampNeg (300 : Int32), .inl (fun _ => 0))) (fun q_43 L_43 f_43 =>
                      (gP L_43 f_43 7 a0 7 (.ref q_43) (fun f_45 =>
                        (nO zz L_43 f_45 (.inl (dA 1, Int32.toNatClampNeg (300 : Int32), .inl (fun _ => 0))) (fun q_52 L_52 f_52 =>
                          (gP L_52 f_52 7 a0 8 (.ref q_52) (fun f_54 =>
                            (gP L_52 f_54 7 a0 0 (.ref a1) (fun f_59 =>
                              (gP L_52 f_59 7 a0 1 (.ref a2) (fun f_64 =>
                                (nO zz L_52 f_64 (.inr (8, [.null, .null, .null, .null, .null, .null, .int 0, .int 0])) (fun q_68 L_68 f_68 =>
                                  (wp_X7_init_0 dA zz (fun L_73 f_73 =>
                                    (gP L_73 f_73 7 a0 2 (.ref q_68) (fun f_76 =>
                                      (Q L_73 f_76)))) L_68 f_68 q_68 a1)))))))))))))))))))))))))))))))
set_option maxHeartbeats 4000000 in
set_option maxRecDepth 100000 in
theorem tb_X6_init_0 {p : Program} {l : Launch} {e : Env} {s : State} {m : MethodId} {below : List Frame} {meth : Method} {c : Code} {args : Array Value} {dC : Nat → ClassId} {dI : Nat → Nat → Nat} {dA : Nat → ClassId} {zz : Nat → Nat} {base : Nat} {A : Nat → Prop} {Q : List Nat → pF → Prop} (C : pCx p s m args meth c cX6_init 3 none RX6 wsX6_init A dC dI dA zz base ∧ meth.name = "<init>") : ∀ (L : List Nat) (f : pF) (a0 : Nat) (a1 : Nat) (a2 : Nat), wp_X6_init_0 dA zz Q  L f a0 a1 a2 → pAt p l e rm_X6_init s m args below meth c dC dI A (MQ below (va_Qv (fun (u : List Nat × pF) => Q u.1 u.2) (pB dC dI dA A) A) args s 12 2808 A) 0 0 0 3 [(0, .ref a0), (1, .ref a1), (2, .ref a2)] [] L f := by
  obtain ⟨⟨hx, hb, hml, hown, hts, hr, hlocks, hA, hK, hB, hz, hN, hT⟩, hin⟩ := id C
  intro L f a0 a1 a2 hw H locs hP hD hS ls hl
  rw [wp_X6_init_0] at hw
  refine lv_aload_n hx hb dX6_init_0 rfl (lv_at hl 0 rfl) ?_
  refine W.objInit hx hb hown (hts _ lm_X6_init_3) (hts _ lo1_X6_init) (hts _ lo2_X6_init) rfl (by rw [hml]; exact hl.1) rfl dX6_init_1 (Nat.le_of_ble_eq_true rfl) (Nat.le_of_ble_eq_true rfl) ?_
  refine W.eq (g2 := F0 m 4 ls []) rfl ?_
  refine lv_aload_n hx hb dX6_init_4 rfl (lv_at hl 0 rfl) ?_
  refine lv_bipush (v := 60) hx hb dX6_init_5 (by decide) ?_
  refine va_newa (atype := .int) (ty := .int) hx hb (hts _ la_X6_init_int) rfl hK hP hD hS hA (a0 := (Int32.toNatClampNeg (60 : Int32), .inl (fun _ => 0))) (fun _ => rfl) (by decide) rfl (by decide) (by decide) (by decide) dX6_init_7 (fun q_7 cA9 H hK9 hP2 hD2 hS => ?_)
  have hcA : cA9 = dA 1 := p_cA hK9 (t := 1) rfl
  subst hcA
  have hq9 := p_fresh hD2
  have hz9 := p_nz hB hT hD2
  rw [va_pl_push hq9] at hP2 hD2
  obtain ⟨L_7, eL_7⟩ : ∃ y : List Nat, y = L ++ [q_7] := ⟨_, rfl⟩
  obtain ⟨f_7, ef_7⟩ : ∃ y : pF, y = va_up f q_7 (.inl (dA 1, Int32.toNatClampNeg (60 : Int32), .inl (fun _ => 0))) := ⟨_, rfl⟩
  have hw := hw q_7 hq9 hz9 L_7 f_7 eL_7 ef_7
  have hP : va_P (dC, dI) vwCl (va_pl L_7 f_7) H := by rw [eL_7, ef_7]; exact hP2
  have hD : va_D A (va_pl L_7 f_7) := by rw [eL_7, ef_7]; exact hD2
  refine W.widen (k := 1) (n := 60) (by decide) (by decide) ?_
  obtain ⟨fs_9, ⟨hL9, hf9, hn9⟩, hw⟩ := hw
  obtain ⟨kq9, hkq9⟩ := p_at hL9 hf9
  refine va_putF (D := (dC, dI)) (ci := 7) (v := .ref q_7) (C := RX6) (T := TX6) (N := 13) hx hb hts iw_X6_init_RX6 tyX6 tyX6_ok nmX6 hown hK hP hD hS kq9 hkq9 rfl 3 (by decide) (hts _ lk_X6_init_9) (fun _ h9 => h9) rfl hin rfl (tyX6_ok 3 (by decide)) rfl rfl hn9 dX6_init_9 (fun H locs hP2 hD2 hS => ?_)
  rw [p_set hD hL9 hf9 hkq9] at hP2 hD2
  obtain ⟨f_9, ef_9⟩ : ∃ y : pF, y = va_up f_7 a0 (.inr (7, fs_9.set 3 (.ref q_7))) := ⟨_, rfl⟩
  rw [← ef_9] at hP2 hD2
  have hw := hw f_9 ef_9
  have hP := hP2
  have hD := hD2
  refine lv_aload_n hx hb dX6_init_12 rfl (lv_at hl 0 rfl) ?_
  refine lv_sipush (v := 300) hx hb dX6_init_13 (by decide) ?_
  refine va_newa (atype := .int) (ty := .int) hx hb (hts _ la_X6_init_int) rfl hK hP hD hS hA (a0 := (Int32.toNatClampNeg (300 : Int32), .inl (fun _ => 0))) (fun _ => rfl) (by decide) rfl (by decide) (by decide) (by decide) dX6_init_16 (fun q_16 cA9 H hK9 hP2 hD2 hS => ?_)
  have hcA : cA9 = dA 1 := p_cA hK9 (t := 1) rfl
  subst hcA
  have hq9 := p_fresh hD2
  have hz9 := p_nz hB hT hD2
  rw [va_pl_push hq9] at hP2 hD2
  obtain ⟨L_16, eL_16⟩ : ∃ y : List Nat, y = L_7 ++ [q_16] := ⟨_, rfl⟩
  obtain ⟨f_16, ef_16⟩ : ∃ y : pF, y = va_up f_9 q_16 (.inl (dA 1, Int32.toNatClampNeg (300 : Int32), .inl (fun _ => 0))) := ⟨_, rfl⟩
  have hw := hw q_16 hq9 hz9 L_16 f_16 eL_16 ef_16
  have hP : va_P (dC, dI) vwCl (va_pl L_16 f_16) H := by rw [eL_16, ef_16]; exact hP2
  have hD : va_D A (va_pl L_16 f_16) := by rw [eL_16, ef_16]; exact hD2
  refine W.widen (k := 2) (n := 360) (by decide) (by decide) ?_
  obtain ⟨fs_18, ⟨hL9, hf9, hn9⟩, hw⟩ := hw
  obtain ⟨kq9, hkq9⟩ := p_at hL9 hf9
  refine va_putF (D := (dC, dI)) (ci := 7) (v := .ref q_16) (C := RX6) (T := TX6) (N := 13) hx hb hts iw_X6_init_RX6 tyX6 tyX6_ok nmX6 hown hK hP hD hS kq9 hkq9 rfl 4 (by decide) (hts _ lk_X6_init_15) (fun _ h9 => h9) rfl hin rfl (tyX6_ok 4 (by decide)) rfl rfl hn9 dX6_init_18 (fun H locs hP2 hD2 hS => ?_)
  rw [p_set hD hL9 hf9 hkq9] at hP2 hD2
  obtain ⟨f_18, ef_18⟩ : ∃ y : pF, y = va_up f_16 a0 (.inr (7, fs_18.set 4 (.ref q_16))) := ⟨_, rfl⟩
  rw [← ef_18] at hP2 hD2
  have hw := hw f_18 ef_18
  have hP := hP2
  have hD := hD2
  refine lv_aload_n hx hb dX6_init_21 rfl (lv_at hl 0 rfl) ?_
  refine lv_sipush (v := 300) hx hb dX6_init_22 (by decide) ?_
  refine va_newa (atype := .int) (ty := .int) hx hb (hts _ la_X6_init_int) rfl hK hP hD hS hA (a0 := (Int32.toNatClampNeg (300 : Int32), .inl (fun _ => 0))) (fun _ => rfl) (by decide) rfl (by decide) (by decide) (by decide) dX6_init_25 (fun q_25 cA9 H hK9 hP2 hD2 hS => ?_)
  have hcA : cA9 = dA 1 := p_cA hK9 (t := 1) rfl
  subst hcA
  have hq9 := p_fresh hD2
  have hz9 := p_nz hB hT hD2
  rw [va_pl_push hq9] at hP2 hD2
  obtain ⟨L_25, eL_25⟩ : ∃ y : List Nat, y = L_16 ++ [q_25] := ⟨_, rfl⟩
  obtain ⟨f_25, ef_25⟩ : ∃ y : pF, y = va_up f_18 q_25 (.inl (dA 1, Int32.toNatClampNeg (300 : Int32), .inl (fun _ => 0))) := ⟨_, rfl⟩
  have hw := hw q_25 hq9 hz9 L_25 f_25 eL_25 ef_25
  have hP : va_P (dC, dI) vwCl (va_pl L_25 f_25) H := by rw [eL_25, ef_25]; exact hP2
  have hD : va_D A (va_pl L_25 f_25) := by rw [eL_25, ef_25]; exact hD2
  refine W.widen (k := 3) (n := 660) (by decide) (by decide) ?_
  obtain ⟨fs_27, ⟨hL9, hf9, hn9⟩, hw⟩ := hw
  obtain ⟨kq9, hkq9⟩ := p_at hL9 hf9
  refine va_putF (D := (dC, dI)) (ci := 7) (v := .ref q_25) (C := RX6) (T := TX6) (N := 13) hx hb hts iw_X6_init_RX6 tyX6 tyX6_ok nmX6 hown hK hP hD hS kq9 hkq9 rfl 5 (by decide) (hts _ lk_X6_init_18) (fun _ h9 => h9) rfl hin rfl (tyX6_ok 5 (by decide)) rfl rfl hn9 dX6_init_27 (fun H locs hP2 hD2 hS => ?_)
  rw [p_set hD hL9 hf9 hkq9] at hP2 hD2
  obtain ⟨f_27, ef_27⟩ : ∃ y : pF, y = va_up f_25 a0 (.inr (7, fs_27.set 5 (.ref q_25))) := ⟨_, rfl⟩
  rw [← ef_27] at hP2 hD2
  have hw := hw f_27 ef_27
  have hP := hP2
  have hD := hD2
  refine lv_aload_n hx hb dX6_init_30 rfl (lv_at hl 0 rfl) ?_
  refine lv_sipush (v := 300) hx hb dX6_init_31 (by decide) ?_
  refine va_newa (atype := .int) (ty := .int) hx hb (hts _ la_X6_init_int) rfl hK hP hD hS hA (a0 := (Int32.toNatClampNeg (300 : Int32), .inl (fun _ => 0))) (fun _ => rfl) (by decide) rfl (by decide) (by decide) (by decide) dX6_init_34 (fun q_34 cA9 H hK9 hP2 hD2 hS => ?_)
  have hcA : cA9 = dA 1 := p_cA hK9 (t := 1) rfl
  subst hcA
  have hq9 := p_fresh hD2
  have hz9 := p_nz hB hT hD2
  rw [va_pl_push hq9] at hP2 hD2
  obtain ⟨L_34, eL_34⟩ : ∃ y : List Nat, y = L_25 ++ [q_34] := ⟨_, rfl⟩
  obtain ⟨f_34, ef_34⟩ : ∃ y : pF, y = va_up f_27 q_34 (.inl (dA 1, Int32.toNatClampNeg (300 : Int32), .inl (fun _ => 0))) := ⟨_, rfl⟩
  have hw := hw q_34 hq9 hz9 L_34 f_34 eL_34 ef_34
  have hP : va_P (dC, dI) vwCl (va_pl L_34 f_34) H := by rw [eL_34, ef_34]; exact hP2
  have hD : va_D A (va_pl L_34 f_34) := by rw [eL_34, ef_34]; exact hD2
  refine W.widen (k := 4) (n := 960) (by decide) (by decide) ?_
  obtain ⟨fs_36, ⟨hL9, hf9, hn9⟩, hw⟩ := hw
  obtain ⟨kq9, hkq9⟩ := p_at hL9 hf9
  refine va_putF (D := (dC, dI)) (ci := 7) (v := .ref q_34) (C := RX6) (T := TX6) (N := 13) hx hb hts iw_X6_init_RX6 tyX6 tyX6_ok nmX6 hown hK hP hD hS kq9 hkq9 rfl 6 (by decide) (hts _ lk_X6_init_21) (fun _ h9 => h9) rfl hin rfl (tyX6_ok 6 (by decide)) rfl rfl hn9 dX6_init_36 (fun H locs hP2 hD2 hS => ?_)
  rw [p_set hD hL9 hf9 hkq9] at hP2 hD2
  obtain ⟨f_36, ef_36⟩ : ∃ y : pF, y = va_up f_34 a0 (.inr (7, fs_36.set 6 (.ref q_34))) := ⟨_, rfl⟩
  rw [← ef_36] at hP2 hD2
  have hw := hw f_36 ef_36
  have hP := hP2
  have hD := hD2
  refine lv_aload_n hx hb dX6_init_39 rfl (lv_at hl 0 rfl) ?_
  refine lv_sipush (v := 300) hx hb dX6_init_40 (by decide) ?_
  refine va_newa (atype := .int) (ty := .int) hx hb (hts _ la_X6_init_int) rfl hK hP hD hS hA (a0 := (Int32.toNatClampNeg (300 : Int32), .inl (fun _ => 0))) (fun _ => rfl) (by decide) rfl (by decide) (by decide) (by decide) dX6_init_43 (fun q_43 cA9 H hK9 hP2 hD2 hS => ?_)
  have hcA : cA9 = dA 1 := p_cA hK9 (t := 1) rfl
  subst hcA
  have hq9 := p_fresh hD2
  have hz9 := p_nz hB hT hD2
  rw [va_pl_push hq9] at hP2 hD2
  obtain ⟨L_43, eL_43⟩ : ∃ y : List Nat, y = L_34 ++ [q_43] := ⟨_, rfl⟩
  obtain ⟨f_43, ef_43⟩ : ∃ y : pF, y = va_up f_36 q_43 (.inl (dA 1, Int32.toNatClampNeg (300 : Int32), .inl (fun _ => 0))) := ⟨_, rfl⟩
  have hw := hw q_43 hq9 hz9 L_43 f_43 eL_43 ef_43
  have hP : va_P (dC, dI) vwCl (va_pl L_43 f_43) H := by rw [eL_43, ef_43]; exact hP2
  have hD : va_D A (va_pl L_43 f_43) := by rw [eL_43, ef_43]; exact hD2
  refine W.widen (k := 5) (n := 1260) (by decide) (by decide) ?_
  obtain ⟨fs_45, ⟨hL9, hf9, hn9⟩, hw⟩ := hw
  obtain ⟨kq9, hkq9⟩ := p_at hL9 hf9
  refine va_putF (D := (dC, dI)) (ci := 7) (v := .ref q_43) (C := RX6) (T := TX6) (N := 13) hx hb hts iw_X6_init_RX6 tyX6 tyX6_ok nmX6 hown hK hP hD hS kq9 hkq9 rfl 7 (by decide) (hts _ lk_X6_init_24) (fun _ h9 => h9) rfl hin rfl (tyX6_ok 7 (by decide)) rfl rfl hn9 dX6_init_45 (fun H locs hP2 hD2 hS => ?_)
  rw [p_set hD hL9 hf9 hkq9] at hP2 hD2
  obtain ⟨f_45, ef_45⟩ : ∃ y : pF, y = va_up f_43 a0 (.inr (7, fs_45.set 7 (.ref q_43))) := ⟨_, rfl⟩
  rw [← ef_45] at hP2 hD2
  have hw := hw f_45 ef_45
  have hP := hP2
  have hD := hD2
  refine lv_aload_n hx hb dX6_init_48 rfl (lv_at hl 0 rfl) ?_
  refine lv_sipush (v := 300) hx hb dX6_init_49 (by decide) ?_
  refine va_newa (atype := .int) (ty := .int) hx hb (hts _ la_X6_init_int) rfl hK hP hD hS hA (a0 := (Int32.toNatClampNeg (300 : Int32), .inl (fun _ => 0))) (fun _ => rfl) (by decide) rfl (by decide) (by decide) (by decide) dX6_init_52 (fun q_52 cA9 H hK9 hP2 hD2 hS => ?_)
  have hcA : cA9 = dA 1 := p_cA hK9 (t := 1) rfl
  subst hcA
  have hq9 := p_fresh hD2
  have hz9 := p_nz hB hT hD2
  rw [va_pl_push hq9] at hP2 hD2
  obtain ⟨L_52, eL_52⟩ : ∃ y : List Nat, y = L_43 ++ [q_52] := ⟨_, rfl⟩
  obtain ⟨f_52, ef_52⟩ : ∃ y : pF, y = va_up f_45 q_52 (.inl (dA 1, Int32.toNatClampNeg (300 : Int32), .inl (fun _ => 0))) := ⟨_, rfl⟩
  have hw := hw q_52 hq9 hz9 L_52 f_52 eL_52 ef_52
  have hP : va_P (dC, dI) vwCl (va_pl L_52 f_52) H := by rw [eL_52, ef_52]; exact hP2
  have hD : va_D A (va_pl L_52 f_52) := by rw [eL_52, ef_52]; exact hD2
  refine W.widen (k := 6) (n := 1560) (by decide) (by decide) ?_
  obtain ⟨fs_54, ⟨hL9, hf9, hn9⟩, hw⟩ := hw
  obtain ⟨kq9, hkq9⟩ := p_at hL9 hf9
  refine va_putF (D := (dC, dI)) (ci := 7) (v := .ref q_52) (C := RX6) (T := TX6) (N := 13) hx hb hts iw_X6_init_RX6 tyX6 tyX6_ok nmX6 hown hK hP hD hS kq9 hkq9 rfl 8 (by decide) (hts _ lk_X6_init_27) (fun _ h9 => h9) rfl hin rfl (tyX6_ok 8 (by decide)) rfl rfl hn9 dX6_init_54 (fun H locs hP2 hD2 hS => ?_)
  rw [p_set hD hL9 hf9 hkq9] at hP2 hD2
  obtain ⟨f_54, ef_54⟩ : ∃ y : pF, y = va_up f_52 a0 (.inr (7, fs_54.set 8 (.ref q_52))) := ⟨_, rfl⟩
  rw [← ef_54] at hP2 hD2
  have hw := hw f_54 ef_54
  have hP := hP2
  have hD := hD2
  refine lv_aload_n hx hb dX6_init_57 rfl (lv_at hl 0 rfl) ?_
  refine lv_aload_n hx hb dX6_init_58 rfl (lv_at hl 1 rfl) ?_
  obtain ⟨fs_59, ⟨hL9, hf9, hn9⟩, hw⟩ := hw
  obtain ⟨kq9, hkq9⟩ := p_at hL9 hf9
  refine va_putF (D := (dC, dI)) (ci := 7) (v := .ref a1) (C := RX6) (T := TX6) (N := 13) hx hb hts iw_X6_init_RX6 tyX6 tyX6_ok nmX6 hown hK hP hD hS kq9 hkq9 rfl 0 (by decide) (hts _ lk_X6_init_30) (fun _ h9 => h9) rfl hin rfl (tyX6_ok 0 (by decide)) rfl rfl hn9 dX6_init_59 (fun H locs hP2 hD2 hS => ?_)
  rw [p_set hD hL9 hf9 hkq9] at hP2 hD2
  obtain ⟨f_59, ef_59⟩ : ∃ y : pF, y = va_up f_54 a0 (.inr (7, fs_59.set 0 (.ref a1))) := ⟨_, rfl⟩
  rw [← ef_59] at hP2 hD2
  have hw := hw f_59 ef_59
  have hP := hP2
  have hD := hD2
  refine lv_aload_n hx hb dX6_init_62 rfl (lv_at hl 0 rfl) ?_
  refine lv_aload_n hx hb dX6_init_63 rfl (lv_at hl 2 rfl) ?_
  obtain ⟨fs_64, ⟨hL9, hf9, hn9⟩, hw⟩ := hw
  obtain ⟨kq9, hkq9⟩ := p_at hL9 hf9
  refine va_putF (D := (dC, dI)) (ci := 7) (v := .ref a2) (C := RX6) (T := TX6) (N := 13) hx hb hts iw_X6_init_RX6 tyX6 tyX6_ok nmX6 hown hK hP hD hS kq9 hkq9 rfl 1 (by decide) (hts _ lk_X6_init_34) (fun _ h9 => h9) rfl hin rfl (tyX6_ok 1 (by decide)) rfl rfl hn9 dX6_init_64 (fun H locs hP2 hD2 hS => ?_)
  rw [p_set hD hL9 hf9 hkq9] at hP2 hD2
  obtain ⟨f_64, ef_64⟩ : ∃ y : pF, y = va_up f_59 a0 (.inr (7, fs_64.set 1 (.ref a2))) := ⟨_, rfl⟩
  rw [← ef_64] at hP2 hD2
  have hw := hw f_64 ef_64
  have hP := hP2
  have hD := hD2
  refine lv_aload_n hx hb dX6_init_67 rfl (lv_at hl 0 rfl) ?_
  refine va_new (ci := 8) (fs := [.null, .null, .null, .null, .null, .null, .int 0, .int 0]) (C := RX7) (T := TX7) (N := 8) hx hb hts iw_X6_init_RX7 tyX7 tyX7_ok hown (hts _ lk_X6_init_38) (hts _ li_X6_init_RX7) (hts _ lz_X6_init_RX7) hK hP hD hS hA rfl (fun j hj => by rcases (show j = 0 ∨ j = 1 ∨ j = 2 ∨ j = 3 ∨ j = 4 ∨ j = 5 ∨ j = 6 ∨ j = 7 by omega) with rfl | rfl | rfl | rfl | rfl | rfl | rfl | rfl <;> rfl) (by decide) (by decide) dX6_init_68 (fun q_68 H hP2 hD2 hS => ?_)
  have hq9 := p_fresh hD2
  have hz9 := p_nz hB hT hD2
  rw [va_pl_push hq9] at hP2 hD2
  obtain ⟨L_68, eL_68⟩ : ∃ y : List Nat, y = L_52 ++ [q_68] := ⟨_, rfl⟩
  obtain ⟨f_68, ef_68⟩ : ∃ y : pF, y = va_up f_64 q_68 (.inr (8, [.null, .null, .null, .null, .null, .null, .int 0, .int 0])) := ⟨_, rfl⟩
  have hw := hw q_68 hq9 hz9 L_68 f_68 eL_68 ef_68
  have hP : va_P (dC, dI) vwCl (va_pl L_68 f_68) H := by rw [eL_68, ef_68]; exact hP2
  have hD : va_D A (va_pl L_68 f_68) := by rw [eL_68, ef_68]; exact hD2
  refine lv_dup hx hb dX6_init_71 rfl ?_
  refine lv_aload_n hx hb dX6_init_72 rfl (lv_at hl 1 rfl) ?_
  have hFc := p_free hD hS hA
  refine va_callv (va_runI (As := [.ref a1]) (rest := [.ref q_68, .ref a0]) ⟨hx, hb, hml, hown, hts⟩ (c_X7_init l dC dI dA zz base L_68 f_68 H.size q_68 a1 _ hw) (cwI 1 hts gX6_init_X7_init rfl rfl rfl (hts _ lz_X6_init_RX7) (hts _ lm_X6_init_40) (hts _ lim_X6_init_X7_init) rfl (by decide +kernel) ⟨by decide, by decide⟩) (pPreS [.ref q_68, .ref a1] hK hP hD hS hB hz hN hT) rfl rfl hl.1 rfl (lv_room (Nat.le_of_ble_eq_true rfl)) dX6_init_73 ⟨by decide, by decide⟩) hS (fun q _ h => hFc q h) hFc (fun u t H1 locs ht hvm hw hB1 hz1 hk1 hS => ?_)
  obtain ⟨L_73, f_73⟩ := u
  obtain ⟨hP, -, hD1⟩ := hB1
  rw [ht] at hP
  have hw := id hw
  have hP : va_P (dC, dI) vwCl (va_pl L_73 f_73) H1 := hP
  have hD : va_D A (va_pl L_73 f_73) := p_gain hD1 hFc
  generalize H1 = H at hP hS ⊢
  refine W.widen (k := 12) (n := 2808) (by decide) (by decide) ?_
  obtain ⟨fs_76, ⟨hL9, hf9, hn9⟩, hw⟩ := hw
  obtain ⟨kq9, hkq9⟩ := p_at hL9 hf9
  refine va_putF (D := (dC, dI)) (ci := 7) (v := .ref q_68) (C := RX6) (T := TX6) (N := 13) hx hb hts iw_X6_init_RX6 tyX6 tyX6_ok nmX6 hown hK hP hD hS kq9 hkq9 rfl 2 (by decide) (hts _ lk_X6_init_43) (fun _ h9 => h9) rfl hin rfl (tyX6_ok 2 (by decide)) rfl rfl hn9 dX6_init_76 (fun H locs hP2 hD2 hS => ?_)
  rw [p_set hD hL9 hf9 hkq9] at hP2 hD2
  obtain ⟨f_76, ef_76⟩ : ∃ y : pF, y = va_up f_73 a0 (.inr (7, fs_76.set 2 (.ref q_68))) := ⟨_, rfl⟩
  rw [← ef_76] at hP2 hD2
  have hw := hw f_76 ef_76
  have hP := hP2
  have hD := hD2
  exact W.vret hx hb hr (fun t ht hW => ⟨⟨(L_73, f_76), rfl, hw, by rw [ht]; exact hP, va_K.moved hW.alike hK, hD⟩, hS.F ht⟩) hS.2.2 dX6_init_79
set_option maxHeartbeats 4000000 in
set_option maxRecDepth 100000 in
theorem c_X6_init (l : Launch) (dC : Nat → ClassId) (dI : Nat → Nat → Nat) (dA : Nat → ClassId) (zz : Nat → Nat) (base : Nat) (L : List Nat) (f : pF) (sz : Nat) (a0 : Nat) (a1 : Nat) (a2 : Nat) (Q : List Nat → pF → Prop) (hw : wp_X6_init_0 dA zz Q L f a0 a1 a2) : Met l yX6_init wsX6_init rm_X6_init (va_Pc [.ref a0, .ref a1, .ref a2] (pPre dC dI dA zz base L f sz)) (va_Qv (fun (u : List Nat × pF) => Q u.1 u.2) (pB dC dI dA (va_A (va_pl L f) sz)) (va_A (va_pl L f) sz)) 12 2808 (va_A (va_pl L f) sz) := by
  refine Met.ofW (cc := cX6_init) (maxL := 3) (ret := none) (by decide) rfl ?_
  intro p e s m args below meth c s₁ B hml hv
  obtain ⟨rfl, hsz, hP, hK, hD0, hz, hN, hT⟩ := hv
  subst hsz
  have hl := lv_entry ([.ref a0, .ref a1, .ref a2]) (n := 3) (Nat.le_of_ble_eq_true rfl)
  rw [lg_entry_eq]
  generalize (lg_sl ([.ref a0, .ref a1, .ref a2]) ++ List.replicate (3 - (lg_sl ([.ref a0, .ref a1, .ref a2])).length) Slot.unset).toArray = ls at hl ⊢
  exact tb_X6_init_0 (Q := Q) (p := p) ⟨⟨B.exec, B.bytes, hml, findClass_of_methodNamed B.named, atoms_spec (ws := wsX6_init) B.pre, B.returns, B.notSynchronized, fun q h => Or.inr h, hK, pAB hD0 hz, hz, hN, hT⟩, (name_of_methodNamed B.named B.method).1⟩ L f a0 a1 a2 hw s.heap [] hP (hD0.self (sz := s.heap.size)) va_S.rf ls (lv_sub hl [0, 1, 2] rfl)
theorem iw_X6_size_RX6 : ∀ w ∈ u_ws RX6 TX6 13, w ∈ wsX6_size := by decide +kernel
theorem lk_X6_size_47 : Cond.fieldLink RX6 47 "TermKeeper$Uses" "size" "I" ∈ wsX6_size := by decide +kernel
abbrev rm_X6_size : Room := { frames := 0, cells := 0, slots := 0, locals := 0 }
def wp_X6_size_0 (dA : Nat → ClassId) (zz : Nat → Nat) (Q : Int32 → List Nat → pF → Prop) (L : List Nat) (f : pF) (a0 : Nat) : Prop :=
    (gI L f 7 a0 9 (fun g_1 =>
      (Q g_1 L f)))
set_option maxHeartbeats 4000000 in
set_option maxRecDepth 100000 in
theorem tb_X6_size_0 {p : Program} {l : Launch} {e : Env} {s : State} {m : MethodId} {below : List Frame} {meth : Method} {c : Code} {args : Array Value} {dC : Nat → ClassId} {dI : Nat → Nat → Nat} {dA : Nat → ClassId} {zz : Nat → Nat} {base : Nat} {A : Nat → Prop} {Q : Int32 → List Nat → pF → Prop} (C : pCx p s m args meth c cX6_size 1 (some .int) RX6 wsX6_size A dC dI dA zz base) : ∀ (L : List Nat) (f : pF) (a0 : Nat), wp_X6_size_0 dA zz Q  L f a0 → pAt p l e rm_X6_size s m args below meth c dC dI A (MQ below (va_Qi (fun r (u : List Nat × pF) => Q r u.1 u.2) (pB dC dI dA A) A) args s 0 0 A) 0 0 0 1 [(0, .ref a0)] [] L f := by
  obtain ⟨hx, hb, hml, hown, hts, hr, hlocks, hA, hK, hB, hz, hN, hT⟩ := id C
  intro L f a0 hw H locs hP hD hS ls hl
  rw [wp_X6_size_0] at hw
  refine lv_aload_n hx hb dX6_size_0 rfl (lv_at hl 0 rfl) ?_
  obtain ⟨fs_1, g_1, ⟨hL9, hf9, hn9⟩, hw⟩ := hw
  refine va_get (D := (dC, dI)) (ci := 7) (v := .int g_1) (C := RX6) (T := TX6) (N := 13) hx hb hts iw_X6_size_RX6 hown hK (p_one hP hL9 hf9) 0 rfl rfl 9 (by decide) (hts _ lk_X6_size_47) (fun _ h9 => h9) hn9 dX6_size_1 ?_
  exact W.iret (v := g_1) hx hb hr (fun t ht hW => ⟨⟨g_1, (L, f), rfl, hw, by rw [ht]; exact hP, va_K.moved hW.alike hK, hD⟩, hS.F ht⟩) hS.2.2 dX6_size_4
set_option maxHeartbeats 4000000 in
set_option maxRecDepth 100000 in
theorem c_X6_size (l : Launch) (dC : Nat → ClassId) (dI : Nat → Nat → Nat) (dA : Nat → ClassId) (zz : Nat → Nat) (base : Nat) (L : List Nat) (f : pF) (sz : Nat) (a0 : Nat) (Q : Int32 → List Nat → pF → Prop) (hw : wp_X6_size_0 dA zz Q L f a0) : Met l yX6_size wsX6_size rm_X6_size (va_Pc [.ref a0] (pPre dC dI dA zz base L f sz)) (va_Qi (fun r (u : List Nat × pF) => Q r u.1 u.2) (pB dC dI dA (va_A (va_pl L f) sz)) (va_A (va_pl L f) sz)) 0 0 (va_A (va_pl L f) sz) := by
  refine Met.ofW (cc := cX6_size) (maxL := 1) (ret := (some .int)) (by decide) rfl ?_
  intro p e s m args below meth c s₁ B hml hv
  obtain ⟨rfl, hsz, hP, hK, hD0, hz, hN, hT⟩ := hv
  subst hsz
  have hl := lv_entry ([.ref a0]) (n := 1) (Nat.le_of_ble_eq_true rfl)
  rw [lg_entry_eq]
  generalize (lg_sl ([.ref a0]) ++ List.replicate (1 - (lg_sl ([.ref a0])).length) Slot.unset).toArray = ls at hl ⊢
  exact tb_X6_size_0 (Q := Q) (p := p) ⟨B.exec, B.bytes, hml, findClass_of_methodNamed B.named, atoms_spec (ws := wsX6_size) B.pre, B.returns, B.notSynchronized, fun q h => Or.inr h, hK, pAB hD0 hz, hz, hN, hT⟩ L f a0 hw s.heap [] hP (hD0.self (sz := s.heap.size)) va_S.rf ls (lv_sub hl [0] rfl)
theorem iw_X6_holds_RX6 : ∀ w ∈ u_ws RX6 TX6 13, w ∈ wsX6_holds := by decide +kernel
theorem lk_X6_holds_47 : Cond.fieldLink RX6 47 "TermKeeper$Uses" "size" "I" ∈ wsX6_holds := by decide +kernel
abbrev rm_X6_holds : Room := { frames := 0, cells := 0, slots := 0, locals := 0 }
def wp_X6_holds_0 (dA : Nat → ClassId) (zz : Nat → Nat) (Q : Int32 → List Nat → pF → Prop) (L : List Nat) (f : pF) (a0 : Nat) (a1 : Int32) : Prop :=
    ((a1 < 0 →
      (Q (0 : Int32) L f))
     ∧ (¬ a1 < 0 →
      (gI L f 7 a0 9 (fun g_6 =>
        ((g_6 ≤ a1 →
          (Q (0 : Int32) L f))
         ∧ (¬ g_6 ≤ a1 →
          (Q (1 : Int32) L f)))))))
set_option maxHeartbeats 4000000 in
set_option maxRecDepth 100000 in
theorem tb_X6_holds_0 {p : Program} {l : Launch} {e : Env} {s : State} {m : MethodId} {below : List Frame} {meth : Method} {c : Code} {args : Array Value} {dC : Nat → ClassId} {dI : Nat → Nat → Nat} {dA : Nat → ClassId} {zz : Nat → Nat} {base : Nat} {A : Nat → Prop} {Q : Int32 → List Nat → pF → Prop} (C : pCx p s m args meth c cX6_holds 2 (some .boolean) RX6 wsX6_holds A dC dI dA zz base) : ∀ (L : List Nat) (f : pF) (a0 : Nat) (a1 : Int32), wp_X6_holds_0 dA zz Q  L f a0 a1 → pAt p l e rm_X6_holds s m args below meth c dC dI A (MQ below (va_Qi (fun r (u : List Nat × pF) => Q r u.1 u.2) (pB dC dI dA A) A) args s 0 0 A) 0 0 0 2 [(0, .ref a0), (1, .int a1)] [] L f := by
  obtain ⟨hx, hb, hml, hown, hts, hr, hlocks, hA, hK, hB, hz, hN, hT⟩ := id C
  intro L f a0 a1 hw H locs hP hD hS ls hl
  rw [wp_X6_holds_0] at hw
  refine lv_iload_n hx hb dX6_holds_0 rfl (lv_at hl 1 rfl) ?_
  refine lv_if_lt (tgt := 16) hx hb dX6_holds_1 (by decide) (fun c_1 => ?_) (fun c_1 => ?_)
  · have hw := hw.1 c_1
    refine lv_iconst (v := 0) hx hb dX6_holds_16 (by decide) ?_
    exact W.zret (v := (0 : Int32)) hx hb hr rfl (fun t ht hW => ⟨⟨(0 : Int32), (L, f), rfl, hw, by rw [ht]; exact hP, va_K.moved hW.alike hK, hD⟩, hS.F ht⟩) hS.2.2 dX6_holds_17
  · have hw := hw.2 c_1
    refine lv_iload_n hx hb dX6_holds_4 rfl (lv_at hl 1 rfl) ?_
    refine lv_aload_n hx hb dX6_holds_5 rfl (lv_at hl 0 rfl) ?_
    obtain ⟨fs_6, g_6, ⟨hL9, hf9, hn9⟩, hw⟩ := hw
    refine va_get (D := (dC, dI)) (ci := 7) (v := .int g_6) (C := RX6) (T := TX6) (N := 13) hx hb hts iw_X6_holds_RX6 hown hK (p_one hP hL9 hf9) 0 rfl rfl 9 (by decide) (hts _ lk_X6_holds_47) (fun _ h9 => h9) hn9 dX6_holds_6 ?_
    refine lv_icmp_ge (tgt := 16) hx hb dX6_holds_9 (by decide) (fun c_9 => ?_) (fun c_9 => ?_)
    · have hw := hw.1 c_9
      refine lv_iconst (v := 0) hx hb dX6_holds_16 (by decide) ?_
      exact W.zret (v := (0 : Int32)) hx hb hr rfl (fun t ht hW => ⟨⟨(0 : Int32), (L, f), rfl, hw, by rw [ht]; exact hP, va_K.moved hW.alike hK, hD⟩, hS.F ht⟩) hS.2.2 dX6_holds_17
    · have hw := hw.2 c_9
      refine lv_iconst (v := 1) hx hb dX6_holds_12 (by decide) ?_
      refine lv_goto (tgt := 17) hx hb dX6_holds_13 (by decide) ?_
      exact W.zret (v := (1 : Int32)) hx hb hr rfl (fun t ht hW => ⟨⟨(1 : Int32), (L, f), rfl, hw, by rw [ht]; exact hP, va_K.moved hW.alike hK, hD⟩, hS.F ht⟩) hS.2.2 dX6_holds_17
set_option maxHeartbeats 4000000 in
set_option maxRecDepth 100000 in
theorem c_X6_holds (l : Launch) (dC : Nat → ClassId) (dI : Nat → Nat → Nat) (dA : Nat → ClassId) (zz : Nat → Nat) (base : Nat) (L : List Nat) (f : pF) (sz : Nat) (a0 : Nat) (a1 : Int32) (Q : Int32 → List Nat → pF → Prop) (hw : wp_X6_holds_0 dA zz Q L f a0 a1) : Met l yX6_holds wsX6_holds rm_X6_holds (va_Pc [.ref a0, .int a1] (pPre dC dI dA zz base L f sz)) (va_Qi (fun r (u : List Nat × pF) => Q r u.1 u.2) (pB dC dI dA (va_A (va_pl L f) sz)) (va_A (va_pl L f) sz)) 0 0 (va_A (va_pl L f) sz) := by
  refine Met.ofW (cc := cX6_holds) (maxL := 2) (ret := (some .boolean)) (by decide) rfl ?_
  intro p e s m args below meth c s₁ B hml hv
  obtain ⟨rfl, hsz, hP, hK, hD0, hz, hN, hT⟩ := hv
  subst hsz
  have hl := lv_entry ([.ref a0, .int a1]) (n := 2) (Nat.le_of_ble_eq_true rfl)
  rw [lg_entry_eq]
  generalize (lg_sl ([.ref a0, .int a1]) ++ List.replicate (2 - (lg_sl ([.ref a0, .int a1])).length) Slot.unset).toArray = ls at hl ⊢
  exact tb_X6_holds_0 (Q := Q) (p := p) ⟨B.exec, B.bytes, hml, findClass_of_methodNamed B.named, atoms_spec (ws := wsX6_holds) B.pre, B.returns, B.notSynchronized, fun q h => Or.inr h, hK, pAB hD0 hz, hz, hN, hT⟩ L f a0 a1 hw s.heap [] hP (hD0.self (sz := s.heap.size)) va_S.rf ls (lv_sub hl [0, 1] rfl)
theorem iw_X6_beginOf_RX6 : ∀ w ∈ u_ws RX6 TX6 13, w ∈ wsX6_beginOf := by decide +kernel
theorem lk_X6_beginOf_15 : Cond.fieldLink RX6 15 "TermKeeper$Uses" "begins" "[I" ∈ wsX6_beginOf := by decide +kernel
abbrev rm_X6_beginOf : Room := { frames := 1, cells := 0, slots := 0, locals := 21 }
def wp_X6_beginOf_0 (dA : Nat → ClassId) (zz : Nat → Nat) (Q : Int32 → List Nat → pF → Prop) (L : List Nat) (f : pF) (a0 : Nat) (a1 : Int32) : Prop :=
    (isO L f 7 a0 ∧
      (wp_X6_holds_0 dA zz (fun r_2 L_2 f_2 =>
        ((r_2 = 0 →
          (Q (-1 : Int32) L_2 f_2))
         ∧ (¬ r_2 = 0 →
          (gR L_2 f_2 7 a0 4 (fun g_9 =>
            (aI L_2 f_2 (dA 1) g_9 a1 (fun g_13 =>
              (Q g_13 L_2 f_2)))))))) L f a0 a1))
set_option maxHeartbeats 4000000 in
set_option maxRecDepth 100000 in
theorem tb_X6_beginOf_0 {p : Program} {l : Launch} {e : Env} {s : State} {m : MethodId} {below : List Frame} {meth : Method} {c : Code} {args : Array Value} {dC : Nat → ClassId} {dI : Nat → Nat → Nat} {dA : Nat → ClassId} {zz : Nat → Nat} {base : Nat} {A : Nat → Prop} {Q : Int32 → List Nat → pF → Prop} (C : pCx p s m args meth c cX6_beginOf 2 (some .int) RX6 wsX6_beginOf A dC dI dA zz base) : ∀ (L : List Nat) (f : pF) (a0 : Nat) (a1 : Int32), wp_X6_beginOf_0 dA zz Q  L f a0 a1 → pAt p l e rm_X6_beginOf s m args below meth c dC dI A (MQ below (va_Qi (fun r (u : List Nat × pF) => Q r u.1 u.2) (pB dC dI dA A) A) args s 0 0 A) 0 0 0 2 [(0, .ref a0), (1, .int a1)] [] L f := by
  obtain ⟨hx, hb, hml, hown, hts, hr, hlocks, hA, hK, hB, hz, hN, hT⟩ := id C
  intro L f a0 a1 hw H locs hP hD hS ls hl
  rw [wp_X6_beginOf_0] at hw
  refine lv_aload_n hx hb dX6_beginOf_0 rfl (lv_at hl 0 rfl) ?_
  refine lv_iload_n hx hb dX6_beginOf_1 rfl (lv_at hl 1 rfl) ?_
  obtain ⟨hO9, hw⟩ := hw
  have hFc := p_free hD hS hA
  refine va_calli (va_runV (As := [.int a1]) (rest := []) ⟨hx, hb, hml, hown, hts⟩ (c_X6_holds l dC dI dA zz base L f H.size a0 a1 _ hw) (cwV 1 hts gX6_beginOf_X6_holds rfl rfl rfl (by decide +kernel) ⟨by decide, by decide⟩) (pPreV [.int a1] (ci := 7) rfl hO9 hK hP hD hS hB hz hN hT) rfl rfl hl.1 rfl (lv_room (Nat.le_of_ble_eq_true rfl)) dX6_beginOf_2 ⟨by decide, by decide⟩) hS (fun q _ h => hFc q h) hFc (fun r_2 u t H1 locs ht hvm hw hB1 hz1 hk1 hS => ?_)
  obtain ⟨L_2, f_2⟩ := u
  obtain ⟨hP, -, hD1⟩ := hB1
  rw [ht] at hP
  have hw := id hw
  have hP : va_P (dC, dI) vwCl (va_pl L_2 f_2) H1 := hP
  have hD : va_D A (va_pl L_2 f_2) := p_gain hD1 hFc
  generalize H1 = H at hP hS ⊢
  refine lv_if_eq (tgt := 17) hx hb dX6_beginOf_5 (by decide) (fun c_5 => ?_) (fun c_5 => ?_)
  · have hw := hw.1 c_5
    refine lv_iconst (v := -1) hx hb dX6_beginOf_17 (by decide) ?_
    exact W.iret (v := (-1 : Int32)) hx hb hr (fun t ht hW => ⟨⟨(-1 : Int32), (L_2, f_2), rfl, hw, by rw [ht]; exact hP, va_K.moved hW.alike hK, hD⟩, hS.F ht⟩) hS.2.2 dX6_beginOf_18
  · have hw := hw.2 c_5
    refine lv_aload_n hx hb dX6_beginOf_8 rfl (lv_at hl 0 rfl) ?_
    obtain ⟨fs_9, g_9, ⟨hL9, hf9, hn9⟩, hw⟩ := hw
    refine va_get (D := (dC, dI)) (ci := 7) (v := .ref g_9) (C := RX6) (T := TX6) (N := 13) hx hb hts iw_X6_beginOf_RX6 hown hK (p_one hP hL9 hf9) 0 rfl rfl 4 (by decide) (hts _ lk_X6_beginOf_15) (fun _ h9 => h9) hn9 dX6_beginOf_9 ?_
    refine lv_iload_n hx hb dX6_beginOf_12 rfl (lv_at hl 1 rfl) ?_
    obtain ⟨n_13, h_13, ⟨hL9, hf9, hn9⟩, hw⟩ := hw
    refine va_iald hx hb hK (p_one hP hL9 hf9) 0 1 rfl rfl hn9 dX6_beginOf_13 ?_
    refine lv_topi (fun g_13 eg_13 => ?_)
    rw [← eg_13] at hw
    refine lv_goto (tgt := 18) hx hb dX6_beginOf_14 (by decide) ?_
    exact W.iret (v := g_13) hx hb hr (fun t ht hW => ⟨⟨g_13, (L_2, f_2), rfl, hw, by rw [ht]; exact hP, va_K.moved hW.alike hK, hD⟩, hS.F ht⟩) hS.2.2 dX6_beginOf_18
set_option maxHeartbeats 4000000 in
set_option maxRecDepth 100000 in
theorem c_X6_beginOf (l : Launch) (dC : Nat → ClassId) (dI : Nat → Nat → Nat) (dA : Nat → ClassId) (zz : Nat → Nat) (base : Nat) (L : List Nat) (f : pF) (sz : Nat) (a0 : Nat) (a1 : Int32) (Q : Int32 → List Nat → pF → Prop) (hw : wp_X6_beginOf_0 dA zz Q L f a0 a1) : Met l yX6_beginOf wsX6_beginOf rm_X6_beginOf (va_Pc [.ref a0, .int a1] (pPre dC dI dA zz base L f sz)) (va_Qi (fun r (u : List Nat × pF) => Q r u.1 u.2) (pB dC dI dA (va_A (va_pl L f) sz)) (va_A (va_pl L f) sz)) 0 0 (va_A (va_pl L f) sz) := by
  refine Met.ofW (cc := cX6_beginOf) (maxL := 2) (ret := (some .int)) (by decide) rfl ?_
  intro p e s m args below meth c s₁ B hml hv
  obtain ⟨rfl, hsz, hP, hK, hD0, hz, hN, hT⟩ := hv
  subst hsz
  have hl := lv_entry ([.ref a0, .int a1]) (n := 2) (Nat.le_of_ble_eq_true rfl)
  rw [lg_entry_eq]
  generalize (lg_sl ([.ref a0, .int a1]) ++ List.replicate (2 - (lg_sl ([.ref a0, .int a1])).length) Slot.unset).toArray = ls at hl ⊢
  exact tb_X6_beginOf_0 (Q := Q) (p := p) ⟨B.exec, B.bytes, hml, findClass_of_methodNamed B.named, atoms_spec (ws := wsX6_beginOf) B.pre, B.returns, B.notSynchronized, fun q h => Or.inr h, hK, pAB hD0 hz, hz, hN, hT⟩ L f a0 a1 hw s.heap [] hP (hD0.self (sz := s.heap.size)) va_S.rf ls (lv_sub hl [0, 1] rfl)
theorem iw_X6_endOf_RX6 : ∀ w ∈ u_ws RX6 TX6 13, w ∈ wsX6_endOf := by decide +kernel
theorem lk_X6_endOf_18 : Cond.fieldLink RX6 18 "TermKeeper$Uses" "ends" "[I" ∈ wsX6_endOf := by decide +kernel
abbrev rm_X6_endOf : Room := { frames := 1, cells := 0, slots := 0, locals := 21 }
def wp_X6_endOf_0 (dA : Nat → ClassId) (zz : Nat → Nat) (Q : Int32 → List Nat → pF → Prop) (L : List Nat) (f : pF) (a0 : Nat) (a1 : Int32) : Prop :=
    (isO L f 7 a0 ∧
      (wp_X6_holds_0 dA zz (fun r_2 L_2 f_2 =>
        ((r_2 = 0 →
          (Q (-1 : Int32) L_2 f_2))
         ∧ (¬ r_2 = 0 →
          (gR L_2 f_2 7 a0 5 (fun g_9 =>
            (aI L_2 f_2 (dA 1) g_9 a1 (fun g_13 =>
              (Q g_13 L_2 f_2)))))))) L f a0 a1))
set_option maxHeartbeats 4000000 in
set_option maxRecDepth 100000 in
theorem tb_X6_endOf_0 {p : Program} {l : Launch} {e : Env} {s : State} {m : MethodId} {below : List Frame} {meth : Method} {c : Code} {args : Array Value} {dC : Nat → ClassId} {dI : Nat → Nat → Nat} {dA : Nat → ClassId} {zz : Nat → Nat} {base : Nat} {A : Nat → Prop} {Q : Int32 → List Nat → pF → Prop} (C : pCx p s m args meth c cX6_endOf 2 (some .int) RX6 wsX6_endOf A dC dI dA zz base) : ∀ (L : List Nat) (f : pF) (a0 : Nat) (a1 : Int32), wp_X6_endOf_0 dA zz Q  L f a0 a1 → pAt p l e rm_X6_endOf s m args below meth c dC dI A (MQ below (va_Qi (fun r (u : List Nat × pF) => Q r u.1 u.2) (pB dC dI dA A) A) args s 0 0 A) 0 0 0 2 [(0, .ref a0), (1, .int a1)] [] L f := by
  obtain ⟨hx, hb, hml, hown, hts, hr, hlocks, hA, hK, hB, hz, hN, hT⟩ := id C
  intro L f a0 a1 hw H locs hP hD hS ls hl
  rw [wp_X6_endOf_0] at hw
  refine lv_aload_n hx hb dX6_endOf_0 rfl (lv_at hl 0 rfl) ?_
  refine lv_iload_n hx hb dX6_endOf_1 rfl (lv_at hl 1 rfl) ?_
  obtain ⟨hO9, hw⟩ := hw
  have hFc := p_free hD hS hA
  refine va_calli (va_runV (As := [.int a1]) (rest := []) ⟨hx, hb, hml, hown, hts⟩ (c_X6_holds l dC dI dA zz base L f H.size a0 a1 _ hw) (cwV 1 hts gX6_endOf_X6_holds rfl rfl rfl (by decide +kernel) ⟨by decide, by decide⟩) (pPreV [.int a1] (ci := 7) rfl hO9 hK hP hD hS hB hz hN hT) rfl rfl hl.1 rfl (lv_room (Nat.le_of_ble_eq_true rfl)) dX6_endOf_2 ⟨by decide, by decide⟩) hS (fun q _ h => hFc q h) hFc (fun r_2 u t H1 locs ht hvm hw hB1 hz1 hk1 hS => ?_)
  obtain ⟨L_2, f_2⟩ := u
  obtain ⟨hP, -, hD1⟩ := hB1
  rw [ht] at hP
  have hw := id hw
  have hP : va_P (dC, dI) vwCl (va_pl L_2 f_2) H1 := hP
  have hD : va_D A (va_pl L_2 f_2) := p_gain hD1 hFc
  generalize H1 = H at hP hS ⊢
  refine lv_if_eq (tgt := 17) hx hb dX6_endOf_5 (by decide) (fun c_5 => ?_) (fun c_5 => ?_)
  · have hw := hw.1 c_5
    refine lv_iconst (v := -1) hx hb dX6_endOf_17 (by decide) ?_
    exact W.iret (v := (-1 : Int32)) hx hb hr (fun t ht hW => ⟨⟨(-1 : Int32), (L_2, f_2), rfl, hw, by rw [ht]; exact hP, va_K.moved hW.alike hK, hD⟩, hS.F ht⟩) hS.2.2 dX6_endOf_18
  · have hw := hw.2 c_5
    refine lv_aload_n hx hb dX6_endOf_8 rfl (lv_at hl 0 rfl) ?_
    obtain ⟨fs_9, g_9, ⟨hL9, hf9, hn9⟩, hw⟩ := hw
    refine va_get (D := (dC, dI)) (ci := 7) (v := .ref g_9) (C := RX6) (T := TX6) (N := 13) hx hb hts iw_X6_endOf_RX6 hown hK (p_one hP hL9 hf9) 0 rfl rfl 5 (by decide) (hts _ lk_X6_endOf_18) (fun _ h9 => h9) hn9 dX6_endOf_9 ?_
    refine lv_iload_n hx hb dX6_endOf_12 rfl (lv_at hl 1 rfl) ?_
    obtain ⟨n_13, h_13, ⟨hL9, hf9, hn9⟩, hw⟩ := hw
    refine va_iald hx hb hK (p_one hP hL9 hf9) 0 1 rfl rfl hn9 dX6_endOf_13 ?_
    refine lv_topi (fun g_13 eg_13 => ?_)
    rw [← eg_13] at hw
    refine lv_goto (tgt := 18) hx hb dX6_endOf_14 (by decide) ?_
    exact W.iret (v := g_13) hx hb hr (fun t ht hW => ⟨⟨g_13, (L_2, f_2), rfl, hw, by rw [ht]; exact hP, va_K.moved hW.alike hK, hD⟩, hS.F ht⟩) hS.2.2 dX6_endOf_18
set_option maxHeartbeats 4000000 in
set_option maxRecDepth 100000 in
theorem c_X6_endOf (l : Launch) (dC : Nat → ClassId) (dI : Nat → Nat → Nat) (dA : Nat → ClassId) (zz : Nat → Nat) (base : Nat) (L : List Nat) (f : pF) (sz : Nat) (a0 : Nat) (a1 : Int32) (Q : Int32 → List Nat → pF → Prop) (hw : wp_X6_endOf_0 dA zz Q L f a0 a1) : Met l yX6_endOf wsX6_endOf rm_X6_endOf (va_Pc [.ref a0, .int a1] (pPre dC dI dA zz base L f sz)) (va_Qi (fun r (u : List Nat × pF) => Q r u.1 u.2) (pB dC dI dA (va_A (va_pl L f) sz)) (va_A (va_pl L f) sz)) 0 0 (va_A (va_pl L f) sz) := by
  refine Met.ofW (cc := cX6_endOf) (maxL := 2) (ret := (some .int)) (by decide) rfl ?_
  intro p e s m args below meth c s₁ B hml hv
  obtain ⟨rfl, hsz, hP, hK, hD0, hz, hN, hT⟩ := hv
  subst hsz
  have hl := lv_entry ([.ref a0, .int a1]) (n := 2) (Nat.le_of_ble_eq_true rfl)
  rw [lg_entry_eq]
  generalize (lg_sl ([.ref a0, .int a1]) ++ List.replicate (2 - (lg_sl ([.ref a0, .int a1])).length) Slot.unset).toArray = ls at hl ⊢
  exact tb_X6_endOf_0 (Q := Q) (p := p) ⟨B.exec, B.bytes, hml, findClass_of_methodNamed B.named, atoms_spec (ws := wsX6_endOf) B.pre, B.returns, B.notSynchronized, fun q h => Or.inr h, hK, pAB hD0 hz, hz, hN, hT⟩ L f a0 a1 hw s.heap [] hP (hD0.self (sz := s.heap.size)) va_S.rf ls (lv_sub hl [0, 1] rfl)
theorem iw_X6_termOf_RX6 : ∀ w ∈ u_ws RX6 TX6 13, w ∈ wsX6_termOf := by decide +kernel
theorem lk_X6_termOf_21 : Cond.fieldLink RX6 21 "TermKeeper$Uses" "terms" "[I" ∈ wsX6_termOf := by decide +kernel
abbrev rm_X6_termOf : Room := { frames := 1, cells := 0, slots := 0, locals := 21 }
def wp_X6_termOf_0 (dA : Nat → ClassId) (zz : Nat → Nat) (Q : Int32 → List Nat → pF → Prop) (L : List Nat) (f : pF) (a0 : Nat) (a1 : Int32) : Prop :=
    (isO L f 7 a0 ∧
      (wp_X6_holds_0 dA zz (fun r_2 L_2 f_2 =>
        ((r_2 = 0 →
          (Q (-1 : Int32) L_2 f_2))
         ∧ (¬ r_2 = 0 →
          (gR L_2 f_2 7 a0 6 (fun g_9 =>
            (aI L_2 f_2 (dA 1) g_9 a1 (fun g_13 =>
              (Q g_13 L_2 f_2)))))))) L f a0 a1))
set_option maxHeartbeats 4000000 in
set_option maxRecDepth 100000 in
theorem tb_X6_termOf_0 {p : Program} {l : Launch} {e : Env} {s : State} {m : MethodId} {below : List Frame} {meth : Method} {c : Code} {args : Array Value} {dC : Nat → ClassId} {dI : Nat → Nat → Nat} {dA : Nat → ClassId} {zz : Nat → Nat} {base : Nat} {A : Nat → Prop} {Q : Int32 → List Nat → pF → Prop} (C : pCx p s m args meth c cX6_termOf 2 (some .int) RX6 wsX6_termOf A dC dI dA zz base) : ∀ (L : List Nat) (f : pF) (a0 : Nat) (a1 : Int32), wp_X6_termOf_0 dA zz Q  L f a0 a1 → pAt p l e rm_X6_termOf s m args below meth c dC dI A (MQ below (va_Qi (fun r (u : List Nat × pF) => Q r u.1 u.2) (pB dC dI dA A) A) args s 0 0 A) 0 0 0 2 [(0, .ref a0), (1, .int a1)] [] L f := by
  obtain ⟨hx, hb, hml, hown, hts, hr, hlocks, hA, hK, hB, hz, hN, hT⟩ := id C
  intro L f a0 a1 hw H locs hP hD hS ls hl
  rw [wp_X6_termOf_0] at hw
  refine lv_aload_n hx hb dX6_termOf_0 rfl (lv_at hl 0 rfl) ?_
  refine lv_iload_n hx hb dX6_termOf_1 rfl (lv_at hl 1 rfl) ?_
  obtain ⟨hO9, hw⟩ := hw
  have hFc := p_free hD hS hA
  refine va_calli (va_runV (As := [.int a1]) (rest := []) ⟨hx, hb, hml, hown, hts⟩ (c_X6_holds l dC dI dA zz base L f H.size a0 a1 _ hw) (cwV 1 hts gX6_termOf_X6_holds rfl rfl rfl (by decide +kernel) ⟨by decide, by decide⟩) (pPreV [.int a1] (ci := 7) rfl hO9 hK hP hD hS hB hz hN hT) rfl rfl hl.1 rfl (lv_room (Nat.le_of_ble_eq_true rfl)) dX6_termOf_2 ⟨by decide, by decide⟩) hS (fun q _ h => hFc q h) hFc (fun r_2 u t H1 locs ht hvm hw hB1 hz1 hk1 hS => ?_)
  obtain ⟨L_2, f_2⟩ := u
  obtain ⟨hP, -, hD1⟩ := hB1
  rw [ht] at hP
  have hw := id hw
  have hP : va_P (dC, dI) vwCl (va_pl L_2 f_2) H1 := hP
  have hD : va_D A (va_pl L_2 f_2) := p_gain hD1 hFc
  generalize H1 = H at hP hS ⊢
  refine lv_if_eq (tgt := 17) hx hb dX6_termOf_5 (by decide) (fun c_5 => ?_) (fun c_5 => ?_)
  · have hw := hw.1 c_5
    refine lv_iconst (v := -1) hx hb dX6_termOf_17 (by decide) ?_
    exact W.iret (v := (-1 : Int32)) hx hb hr (fun t ht hW => ⟨⟨(-1 : Int32), (L_2, f_2), rfl, hw, by rw [ht]; exact hP, va_K.moved hW.alike hK, hD⟩, hS.F ht⟩) hS.2.2 dX6_termOf_18
  · have hw := hw.2 c_5
    refine lv_aload_n hx hb dX6_termOf_8 rfl (lv_at hl 0 rfl) ?_
    obtain ⟨fs_9, g_9, ⟨hL9, hf9, hn9⟩, hw⟩ := hw
    refine va_get (D := (dC, dI)) (ci := 7) (v := .ref g_9) (C := RX6) (T := TX6) (N := 13) hx hb hts iw_X6_termOf_RX6 hown hK (p_one hP hL9 hf9) 0 rfl rfl 6 (by decide) (hts _ lk_X6_termOf_21) (fun _ h9 => h9) hn9 dX6_termOf_9 ?_
    refine lv_iload_n hx hb dX6_termOf_12 rfl (lv_at hl 1 rfl) ?_
    obtain ⟨n_13, h_13, ⟨hL9, hf9, hn9⟩, hw⟩ := hw
    refine va_iald hx hb hK (p_one hP hL9 hf9) 0 1 rfl rfl hn9 dX6_termOf_13 ?_
    refine lv_topi (fun g_13 eg_13 => ?_)
    rw [← eg_13] at hw
    refine lv_goto (tgt := 18) hx hb dX6_termOf_14 (by decide) ?_
    exact W.iret (v := g_13) hx hb hr (fun t ht hW => ⟨⟨g_13, (L_2, f_2), rfl, hw, by rw [ht]; exact hP, va_K.moved hW.alike hK, hD⟩, hS.F ht⟩) hS.2.2 dX6_termOf_18
set_option maxHeartbeats 4000000 in
set_option maxRecDepth 100000 in
theorem c_X6_termOf (l : Launch) (dC : Nat → ClassId) (dI : Nat → Nat → Nat) (dA : Nat → ClassId) (zz : Nat → Nat) (base : Nat) (L : List Nat) (f : pF) (sz : Nat) (a0 : Nat) (a1 : Int32) (Q : Int32 → List Nat → pF → Prop) (hw : wp_X6_termOf_0 dA zz Q L f a0 a1) : Met l yX6_termOf wsX6_termOf rm_X6_termOf (va_Pc [.ref a0, .int a1] (pPre dC dI dA zz base L f sz)) (va_Qi (fun r (u : List Nat × pF) => Q r u.1 u.2) (pB dC dI dA (va_A (va_pl L f) sz)) (va_A (va_pl L f) sz)) 0 0 (va_A (va_pl L f) sz) := by
  refine Met.ofW (cc := cX6_termOf) (maxL := 2) (ret := (some .int)) (by decide) rfl ?_
  intro p e s m args below meth c s₁ B hml hv
  obtain ⟨rfl, hsz, hP, hK, hD0, hz, hN, hT⟩ := hv
  subst hsz
  have hl := lv_entry ([.ref a0, .int a1]) (n := 2) (Nat.le_of_ble_eq_true rfl)
  rw [lg_entry_eq]
  generalize (lg_sl ([.ref a0, .int a1]) ++ List.replicate (2 - (lg_sl ([.ref a0, .int a1])).length) Slot.unset).toArray = ls at hl ⊢
  exact tb_X6_termOf_0 (Q := Q) (p := p) ⟨B.exec, B.bytes, hml, findClass_of_methodNamed B.named, atoms_spec (ws := wsX6_termOf) B.pre, B.returns, B.notSynchronized, fun q h => Or.inr h, hK, pAB hD0 hz, hz, hN, hT⟩ L f a0 a1 hw s.heap [] hP (hD0.self (sz := s.heap.size)) va_S.rf ls (lv_sub hl [0, 1] rfl)
theorem iw_X6_endingOf_RX6 : ∀ w ∈ u_ws RX6 TX6 13, w ∈ wsX6_endingOf := by decide +kernel
theorem lk_X6_endingOf_24 : Cond.fieldLink RX6 24 "TermKeeper$Uses" "endings" "[I" ∈ wsX6_endingOf := by decide +kernel
abbrev rm_X6_endingOf : Room := { frames := 1, cells := 0, slots := 0, locals := 21 }
def wp_X6_endingOf_0 (dA : Nat → ClassId) (zz : Nat → Nat) (Q : Int32 → List Nat → pF → Prop) (L : List Nat) (f : pF) (a0 : Nat) (a1 : Int32) : Prop :=
    (isO L f 7 a0 ∧
      (wp_X6_holds_0 dA zz (fun r_2 L_2 f_2 =>
        ((r_2 = 0 →
          (Q (-1 : Int32) L_2 f_2))
         ∧ (¬ r_2 = 0 →
          (gR L_2 f_2 7 a0 7 (fun g_9 =>
            (aI L_2 f_2 (dA 1) g_9 a1 (fun g_13 =>
              (Q g_13 L_2 f_2)))))))) L f a0 a1))
set_option maxHeartbeats 4000000 in
set_option maxRecDepth 100000 in
theorem tb_X6_endingOf_0 {p : Program} {l : Launch} {e : Env} {s : State} {m : MethodId} {below : List Frame} {meth : Method} {c : Code} {args : Array Value} {dC : Nat → ClassId} {dI : Nat → Nat → Nat} {dA : Nat → ClassId} {zz : Nat → Nat} {base : Nat} {A : Nat → Prop} {Q : Int32 → List Nat → pF → Prop} (C : pCx p s m args meth c cX6_endingOf 2 (some .int) RX6 wsX6_endingOf A dC dI dA zz base) : ∀ (L : List Nat) (f : pF) (a0 : Nat) (a1 : Int32), wp_X6_endingOf_0 dA zz Q  L f a0 a1 → pAt p l e rm_X6_endingOf s m args below meth c dC dI A (MQ below (va_Qi (fun r (u : List Nat × pF) => Q r u.1 u.2) (pB dC dI dA A) A) args s 0 0 A) 0 0 0 2 [(0, .ref a0), (1, .int a1)] [] L f := by
  obtain ⟨hx, hb, hml, hown, hts, hr, hlocks, hA, hK, hB, hz, hN, hT⟩ := id C
  intro L f a0 a1 hw H locs hP hD hS ls hl
  rw [wp_X6_endingOf_0] at hw
  refine lv_aload_n hx hb dX6_endingOf_0 rfl (lv_at hl 0 rfl) ?_
  refine lv_iload_n hx hb dX6_endingOf_1 rfl (lv_at hl 1 rfl) ?_
  obtain ⟨hO9, hw⟩ := hw
  have hFc := p_free hD hS hA
  refine va_calli (va_runV (As := [.int a1]) (rest := []) ⟨hx, hb, hml, hown, hts⟩ (c_X6_holds l dC dI dA zz base L f H.size a0 a1 _ hw) (cwV 1 hts gX6_endingOf_X6_holds rfl rfl rfl (by decide +kernel) ⟨by decide, by decide⟩) (pPreV [.int a1] (ci := 7) rfl hO9 hK hP hD hS hB hz hN hT) rfl rfl hl.1 rfl (lv_room (Nat.le_of_ble_eq_true rfl)) dX6_endingOf_2 ⟨by decide, by decide⟩) hS (fun q _ h => hFc q h) hFc (fun r_2 u t H1 locs ht hvm hw hB1 hz1 hk1 hS => ?_)
  obtain ⟨L_2, f_2⟩ := u
  obtain ⟨hP, -, hD1⟩ := hB1
  rw [ht] at hP
  have hw := id hw
  have hP : va_P (dC, dI) vwCl (va_pl L_2 f_2) H1 := hP
  have hD : va_D A (va_pl L_2 f_2) := p_gain hD1 hFc
  generalize H1 = H at hP hS ⊢
  refine lv_if_eq (tgt := 17) hx hb dX6_endingOf_5 (by decide) (fun c_5 => ?_) (fun c_5 => ?_)
  · have hw := hw.1 c_5
    refine lv_iconst (v := -1) hx hb dX6_endingOf_17 (by decide) ?_
    exact W.iret (v := (-1 : Int32)) hx hb hr (fun t ht hW => ⟨⟨(-1 : Int32), (L_2, f_2), rfl, hw, by rw [ht]; exact hP, va_K.moved hW.alike hK, hD⟩, hS.F ht⟩) hS.2.2 dX6_endingOf_18
  · have hw := hw.2 c_5
    refine lv_aload_n hx hb dX6_endingOf_8 rfl (lv_at hl 0 rfl) ?_
    obtain ⟨fs_9, g_9, ⟨hL9, hf9, hn9⟩, hw⟩ := hw
    refine va_get (D := (dC, dI)) (ci := 7) (v := .ref g_9) (C := RX6) (T := TX6) (N := 13) hx hb hts iw_X6_endingOf_RX6 hown hK (p_one hP hL9 hf9) 0 rfl rfl 7 (by decide) (hts _ lk_X6_endingOf_24) (fun _ h9 => h9) hn9 dX6_endingOf_9 ?_
    refine lv_iload_n hx hb dX6_endingOf_12 rfl (lv_at hl 1 rfl) ?_
    obtain ⟨n_13, h_13, ⟨hL9, hf9, hn9⟩, hw⟩ := hw
    refine va_iald hx hb hK (p_one hP hL9 hf9) 0 1 rfl rfl hn9 dX6_endingOf_13 ?_
    refine lv_topi (fun g_13 eg_13 => ?_)
    rw [← eg_13] at hw
    refine lv_goto (tgt := 18) hx hb dX6_endingOf_14 (by decide) ?_
    exact W.iret (v := g_13) hx hb hr (fun t ht hW => ⟨⟨g_13, (L_2, f_2), rfl, hw, by rw [ht]; exact hP, va_K.moved hW.alike hK, hD⟩, hS.F ht⟩) hS.2.2 dX6_endingOf_18
set_option maxHeartbeats 4000000 in
set_option maxRecDepth 100000 in
theorem c_X6_endingOf (l : Launch) (dC : Nat → ClassId) (dI : Nat → Nat → Nat) (dA : Nat → ClassId) (zz : Nat → Nat) (base : Nat) (L : List Nat) (f : pF) (sz : Nat) (a0 : Nat) (a1 : Int32) (Q : Int32 → List Nat → pF → Prop) (hw : wp_X6_endingOf_0 dA zz Q L f a0 a1) : Met l yX6_endingOf wsX6_endingOf rm_X6_endingOf (va_Pc [.ref a0, .int a1] (pPre dC dI dA zz base L f sz)) (va_Qi (fun r (u : List Nat × pF) => Q r u.1 u.2) (pB dC dI dA (va_A (va_pl L f) sz)) (va_A (va_pl L f) sz)) 0 0 (va_A (va_pl L f) sz) := by
  refine Met.ofW (cc := cX6_endingOf) (maxL := 2) (ret := (some .int)) (by decide) rfl ?_
  intro p e s m args below meth c s₁ B hml hv
  obtain ⟨rfl, hsz, hP, hK, hD0, hz, hN, hT⟩ := hv
  subst hsz
  have hl := lv_entry ([.ref a0, .int a1]) (n := 2) (Nat.le_of_ble_eq_true rfl)
  rw [lg_entry_eq]
  generalize (lg_sl ([.ref a0, .int a1]) ++ List.replicate (2 - (lg_sl ([.ref a0, .int a1])).length) Slot.unset).toArray = ls at hl ⊢
  exact tb_X6_endingOf_0 (Q := Q) (p := p) ⟨B.exec, B.bytes, hml, findClass_of_methodNamed B.named, atoms_spec (ws := wsX6_endingOf) B.pre, B.returns, B.notSynchronized, fun q h => Or.inr h, hK, pAB hD0 hz, hz, hN, hT⟩ L f a0 a1 hw s.heap [] hP (hD0.self (sz := s.heap.size)) va_S.rf ls (lv_sub hl [0, 1] rfl)
theorem iw_X6_findingOf_RX6 : ∀ w ∈ u_ws RX6 TX6 13, w ∈ wsX6_findingOf := by decide +kernel
theorem lk_X6_findingOf_27 : Cond.fieldLink RX6 27 "TermKeeper$Uses" "findings" "[I" ∈ wsX6_findingOf := by decide +kernel
abbrev rm_X6_findingOf : Room := { frames := 1, cells := 0, slots := 0, locals := 21 }
def wp_X6_findingOf_0 (dA : Nat → ClassId) (zz : Nat → Nat) (Q : Int32 → List Nat → pF → Prop) (L : List Nat) (f : pF) (a0 : Nat) (a1 : Int32) : Prop :=
    (isO L f 7 a0 ∧
      (wp_X6_holds_0 dA zz (fun r_2 L_2 f_2 =>
        ((r_2 = 0 →
          (Q (-1 : Int32) L_2 f_2))
         ∧ (¬ r_2 = 0 →
          (gR L_2 f_2 7 a0 8 (fun g_9 =>
            (aI L_2 f_2 (dA 1) g_9 a1 (fun g_13 =>
              (Q g_13 L_2 f_2)))))))) L f a0 a1))
set_option maxHeartbeats 4000000 in
set_option maxRecDepth 100000 in
theorem tb_X6_findingOf_0 {p : Program} {l : Launch} {e : Env} {s : State} {m : MethodId} {below : List Frame} {meth : Method} {c : Code} {args : Array Value} {dC : Nat → ClassId} {dI : Nat → Nat → Nat} {dA : Nat → ClassId} {zz : Nat → Nat} {base : Nat} {A : Nat → Prop} {Q : Int32 → List Nat → pF → Prop} (C : pCx p s m args meth c cX6_findingOf 2 (some .int) RX6 wsX6_findingOf A dC dI dA zz base) : ∀ (L : List Nat) (f : pF) (a0 : Nat) (a1 : Int32), wp_X6_findingOf_0 dA zz Q  L f a0 a1 → pAt p l e rm_X6_findingOf s m args below meth c dC dI A (MQ below (va_Qi (fun r (u : List Nat × pF) => Q r u.1 u.2) (pB dC dI dA A) A) args s 0 0 A) 0 0 0 2 [(0, .ref a0), (1, .int a1)] [] L f := by
  obtain ⟨hx, hb, hml, hown, hts, hr, hlocks, hA, hK, hB, hz, hN, hT⟩ := id C
  intro L f a0 a1 hw H locs hP hD hS ls hl
  rw [wp_X6_findingOf_0] at hw
  refine lv_aload_n hx hb dX6_findingOf_0 rfl (lv_at hl 0 rfl) ?_
  refine lv_iload_n hx hb dX6_findingOf_1 rfl (lv_at hl 1 rfl) ?_
  obtain ⟨hO9, hw⟩ := hw
  have hFc := p_free hD hS hA
  refine va_calli (va_runV (As := [.int a1]) (rest := []) ⟨hx, hb, hml, hown, hts⟩ (c_X6_holds l dC dI dA zz base L f H.size a0 a1 _ hw) (cwV 1 hts gX6_findingOf_X6_holds rfl rfl rfl (by decide +kernel) ⟨by decide, by decide⟩) (pPreV [.int a1] (ci := 7) rfl hO9 hK hP hD hS hB hz hN hT) rfl rfl hl.1 rfl (lv_room (Nat.le_of_ble_eq_true rfl)) dX6_findingOf_2 ⟨by decide, by decide⟩) hS (fun q _ h => hFc q h) hFc (fun r_2 u t H1 locs ht hvm hw hB1 hz1 hk1 hS => ?_)
  obtain ⟨L_2, f_2⟩ := u
  obtain ⟨hP, -, hD1⟩ := hB1
  rw [ht] at hP
  have hw := id hw
  have hP : va_P (dC, dI) vwCl (va_pl L_2 f_2) H1 := hP
  have hD : va_D A (va_pl L_2 f_2) := p_gain hD1 hFc
  generalize H1 = H at hP hS ⊢
  refine lv_if_eq (tgt := 17) hx hb dX6_findingOf_5 (by decide) (fun c_5 => ?_) (fun c_5 => ?_)
  · have hw := hw.1 c_5
    refine lv_iconst (v := -1) hx hb dX6_findingOf_17 (by decide) ?_
    exact W.iret (v := (-1 : Int32)) hx hb hr (fun t ht hW => ⟨⟨(-1 : Int32), (L_2, f_2), rfl, hw, by rw [ht]; exact hP, va_K.moved hW.alike hK, hD⟩, hS.F ht⟩) hS.2.2 dX6_findingOf_18
  · have hw := hw.2 c_5
    refine lv_aload_n hx hb dX6_findingOf_8 rfl (lv_at hl 0 rfl) ?_
    obtain ⟨fs_9, g_9, ⟨hL9, hf9, hn9⟩, hw⟩ := hw
    refine va_get (D := (dC, dI)) (ci := 7) (v := .ref g_9) (C := RX6) (T := TX6) (N := 13) hx hb hts iw_X6_findingOf_RX6 hown hK (p_one hP hL9 hf9) 0 rfl rfl 8 (by decide) (hts _ lk_X6_findingOf_27) (fun _ h9 => h9) hn9 dX6_findingOf_9 ?_
    refine lv_iload_n hx hb dX6_findingOf_12 rfl (lv_at hl 1 rfl) ?_
    obtain ⟨n_13, h_13, ⟨hL9, hf9, hn9⟩, hw⟩ := hw
    refine va_iald hx hb hK (p_one hP hL9 hf9) 0 1 rfl rfl hn9 dX6_findingOf_13 ?_
    refine lv_topi (fun g_13 eg_13 => ?_)
    rw [← eg_13] at hw
    refine lv_goto (tgt := 18) hx hb dX6_findingOf_14 (by decide) ?_
    exact W.iret (v := g_13) hx hb hr (fun t ht hW => ⟨⟨g_13, (L_2, f_2), rfl, hw, by rw [ht]; exact hP, va_K.moved hW.alike hK, hD⟩, hS.F ht⟩) hS.2.2 dX6_findingOf_18
set_option maxHeartbeats 4000000 in
set_option maxRecDepth 100000 in
theorem c_X6_findingOf (l : Launch) (dC : Nat → ClassId) (dI : Nat → Nat → Nat) (dA : Nat → ClassId) (zz : Nat → Nat) (base : Nat) (L : List Nat) (f : pF) (sz : Nat) (a0 : Nat) (a1 : Int32) (Q : Int32 → List Nat → pF → Prop) (hw : wp_X6_findingOf_0 dA zz Q L f a0 a1) : Met l yX6_findingOf wsX6_findingOf rm_X6_findingOf (va_Pc [.ref a0, .int a1] (pPre dC dI dA zz base L f sz)) (va_Qi (fun r (u : List Nat × pF) => Q r u.1 u.2) (pB dC dI dA (va_A (va_pl L f) sz)) (va_A (va_pl L f) sz)) 0 0 (va_A (va_pl L f) sz) := by
  refine Met.ofW (cc := cX6_findingOf) (maxL := 2) (ret := (some .int)) (by decide) rfl ?_
  intro p e s m args below meth c s₁ B hml hv
  obtain ⟨rfl, hsz, hP, hK, hD0, hz, hN, hT⟩ := hv
  subst hsz
  have hl := lv_entry ([.ref a0, .int a1]) (n := 2) (Nat.le_of_ble_eq_true rfl)
  rw [lg_entry_eq]
  generalize (lg_sl ([.ref a0, .int a1]) ++ List.replicate (2 - (lg_sl ([.ref a0, .int a1])).length) Slot.unset).toArray = ls at hl ⊢
  exact tb_X6_findingOf_0 (Q := Q) (p := p) ⟨B.exec, B.bytes, hml, findClass_of_methodNamed B.named, atoms_spec (ws := wsX6_findingOf) B.pre, B.returns, B.notSynchronized, fun q h => Or.inr h, hK, pAB hD0 hz, hz, hN, hT⟩ L f a0 a1 hw s.heap [] hP (hD0.self (sz := s.heap.size)) va_S.rf ls (lv_sub hl [0, 1] rfl)
theorem iw_X6_terms_RX6 : ∀ w ∈ u_ws RX6 TX6 13, w ∈ wsX6_terms := by decide +kernel
theorem lk_X6_terms_55 : Cond.fieldLink RX6 55 "TermKeeper$Uses" "termsSeen" "J" ∈ wsX6_terms := by decide +kernel
abbrev rm_X6_terms : Room := { frames := 0, cells := 0, slots := 0, locals := 0 }
def wp_X6_terms_0 (dA : Nat → ClassId) (zz : Nat → Nat) (Q : Int64 → List Nat → pF → Prop) (L : List Nat) (f : pF) (a0 : Nat) : Prop :=
    (gJ L f 7 a0 10 (fun g_1 =>
      (Q g_1 L f)))
set_option maxHeartbeats 4000000 in
set_option maxRecDepth 100000 in
theorem tb_X6_terms_0 {p : Program} {l : Launch} {e : Env} {s : State} {m : MethodId} {below : List Frame} {meth : Method} {c : Code} {args : Array Value} {dC : Nat → ClassId} {dI : Nat → Nat → Nat} {dA : Nat → ClassId} {zz : Nat → Nat} {base : Nat} {A : Nat → Prop} {Q : Int64 → List Nat → pF → Prop} (C : pCx p s m args meth c cX6_terms 1 (some .long) RX6 wsX6_terms A dC dI dA zz base) : ∀ (L : List Nat) (f : pF) (a0 : Nat), wp_X6_terms_0 dA zz Q  L f a0 → pAt p l e rm_X6_terms s m args below meth c dC dI A (MQ below (va_Ql (fun r (u : List Nat × pF) => Q r u.1 u.2) (pB dC dI dA A) A) args s 0 0 A) 0 0 0 1 [(0, .ref a0)] [] L f := by
  obtain ⟨hx, hb, hml, hown, hts, hr, hlocks, hA, hK, hB, hz, hN, hT⟩ := id C
  intro L f a0 hw H locs hP hD hS ls hl
  rw [wp_X6_terms_0] at hw
  refine lv_aload_n hx hb dX6_terms_0 rfl (lv_at hl 0 rfl) ?_
  obtain ⟨fs_1, g_1, ⟨hL9, hf9, hn9⟩, hw⟩ := hw
  refine va_get (D := (dC, dI)) (ci := 7) (v := .long g_1) (C := RX6) (T := TX6) (N := 13) hx hb hts iw_X6_terms_RX6 hown hK (p_one hP hL9 hf9) 0 rfl rfl 10 (by decide) (hts _ lk_X6_terms_55) (fun _ h9 => h9) hn9 dX6_terms_1 ?_
  exact W.lret (v := g_1) hx hb hr (fun t ht hW => ⟨⟨g_1, (L, f), rfl, hw, by rw [ht]; exact hP, va_K.moved hW.alike hK, hD⟩, hS.F ht⟩) hS.2.2 dX6_terms_4
set_option maxHeartbeats 4000000 in
set_option maxRecDepth 100000 in
theorem c_X6_terms (l : Launch) (dC : Nat → ClassId) (dI : Nat → Nat → Nat) (dA : Nat → ClassId) (zz : Nat → Nat) (base : Nat) (L : List Nat) (f : pF) (sz : Nat) (a0 : Nat) (Q : Int64 → List Nat → pF → Prop) (hw : wp_X6_terms_0 dA zz Q L f a0) : Met l yX6_terms wsX6_terms rm_X6_terms (va_Pc [.ref a0] (pPre dC dI dA zz base L f sz)) (va_Ql (fun r (u : List Nat × pF) => Q r u.1 u.2) (pB dC dI dA (va_A (va_pl L f) sz)) (va_A (va_pl L f) sz)) 0 0 (va_A (va_pl L f) sz) := by
  refine Met.ofW (cc := cX6_terms) (maxL := 1) (ret := (some .long)) (by decide) rfl ?_
  intro p e s m args below meth c s₁ B hml hv
  obtain ⟨rfl, hsz, hP, hK, hD0, hz, hN, hT⟩ := hv
  subst hsz
  have hl := lv_entry ([.ref a0]) (n := 1) (Nat.le_of_ble_eq_true rfl)
  rw [lg_entry_eq]
  generalize (lg_sl ([.ref a0]) ++ List.replicate (1 - (lg_sl ([.ref a0])).length) Slot.unset).toArray = ls at hl ⊢
  exact tb_X6_terms_0 (Q := Q) (p := p) ⟨B.exec, B.bytes, hml, findClass_of_methodNamed B.named, atoms_spec (ws := wsX6_terms) B.pre, B.returns, B.notSynchronized, fun q h => Or.inr h, hK, pAB hD0 hz, hz, hN, hT⟩ L f a0 hw s.heap [] hP (hD0.self (sz := s.heap.size)) va_S.rf ls (lv_sub hl [0] rfl)
theorem iw_X6_things_RX6 : ∀ w ∈ u_ws RX6 TX6 13, w ∈ wsX6_things := by decide +kernel
theorem lk_X6_things_59 : Cond.fieldLink RX6 59 "TermKeeper$Uses" "thingsSeen" "J" ∈ wsX6_things := by decide +kernel
abbrev rm_X6_things : Room := { frames := 0, cells := 0, slots := 0, locals := 0 }
def wp_X6_things_0 (dA : Nat → ClassId) (zz : Nat → Nat) (Q : Int64 → List Nat → pF → Prop) (L : List Nat) (f : pF) (a0 : Nat) : Prop :=
    (gJ L f 7 a0 11 (fun g_1 =>
      (Q g_1 L f)))
set_option maxHeartbeats 4000000 in
set_option maxRecDepth 100000 in
theorem tb_X6_things_0 {p : Program} {l : Launch} {e : Env} {s : State} {m : MethodId} {below : List Frame} {meth : Method} {c : Code} {args : Array Value} {dC : Nat → ClassId} {dI : Nat → Nat → Nat} {dA : Nat → ClassId} {zz : Nat → Nat} {base : Nat} {A : Nat → Prop} {Q : Int64 → List Nat → pF → Prop} (C : pCx p s m args meth c cX6_things 1 (some .long) RX6 wsX6_things A dC dI dA zz base) : ∀ (L : List Nat) (f : pF) (a0 : Nat), wp_X6_things_0 dA zz Q  L f a0 → pAt p l e rm_X6_things s m args below meth c dC dI A (MQ below (va_Ql (fun r (u : List Nat × pF) => Q r u.1 u.2) (pB dC dI dA A) A) args s 0 0 A) 0 0 0 1 [(0, .ref a0)] [] L f := by
  obtain ⟨hx, hb, hml, hown, hts, hr, hlocks, hA, hK, hB, hz, hN, hT⟩ := id C
  intro L f a0 hw H locs hP hD hS ls hl
  rw [wp_X6_things_0] at hw
  refine lv_aload_n hx hb dX6_things_0 rfl (lv_at hl 0 rfl) ?_
  obtain ⟨fs_1, g_1, ⟨hL9, hf9, hn9⟩, hw⟩ := hw
  refine va_get (D := (dC, dI)) (ci := 7) (v := .long g_1) (C := RX6) (T := TX6) (N := 13) hx hb hts iw_X6_things_RX6 hown hK (p_one hP hL9 hf9) 0 rfl rfl 11 (by decide) (hts _ lk_X6_things_59) (fun _ h9 => h9) hn9 dX6_things_1 ?_
  exact W.lret (v := g_1) hx hb hr (fun t ht hW => ⟨⟨g_1, (L, f), rfl, hw, by rw [ht]; exact hP, va_K.moved hW.alike hK, hD⟩, hS.F ht⟩) hS.2.2 dX6_things_4
set_option maxHeartbeats 4000000 in
set_option maxRecDepth 100000 in
theorem c_X6_things (l : Launch) (dC : Nat → ClassId) (dI : Nat → Nat → Nat) (dA : Nat → ClassId) (zz : Nat → Nat) (base : Nat) (L : List Nat) (f : pF) (sz : Nat) (a0 : Nat) (Q : Int64 → List Nat → pF → Prop) (hw : wp_X6_things_0 dA zz Q L f a0) : Met l yX6_things wsX6_things rm_X6_things (va_Pc [.ref a0] (pPre dC dI dA zz base L f sz)) (va_Ql (fun r (u : List Nat × pF) => Q r u.1 u.2) (pB dC dI dA (va_A (va_pl L f) sz)) (va_A (va_pl L f) sz)) 0 0 (va_A (va_pl L f) sz) := by
  refine Met.ofW (cc := cX6_things) (maxL := 1) (ret := (some .long)) (by decide) rfl ?_
  intro p e s m args below meth c s₁ B hml hv
  obtain ⟨rfl, hsz, hP, hK, hD0, hz, hN, hT⟩ := hv
  subst hsz
  have hl := lv_entry ([.ref a0]) (n := 1) (Nat.le_of_ble_eq_true rfl)
  rw [lg_entry_eq]
  generalize (lg_sl ([.ref a0]) ++ List.replicate (1 - (lg_sl ([.ref a0])).length) Slot.unset).toArray = ls at hl ⊢
  exact tb_X6_things_0 (Q := Q) (p := p) ⟨B.exec, B.bytes, hml, findClass_of_methodNamed B.named, atoms_spec (ws := wsX6_things) B.pre, B.returns, B.notSynchronized, fun q h => Or.inr h, hK, pAB hD0 hz, hz, hN, hT⟩ L f a0 hw s.heap [] hP (hD0.self (sz := s.heap.size)) va_S.rf ls (lv_sub hl [0] rfl)
theorem iw_X6_usesOf_RX6 : ∀ w ∈ u_ws RX6 TX6 13, w ∈ wsX6_usesOf := by decide +kernel
theorem lk_X6_usesOf_21 : Cond.fieldLink RX6 21 "TermKeeper$Uses" "terms" "[I" ∈ wsX6_usesOf := by decide +kernel
theorem lk_X6_usesOf_47 : Cond.fieldLink RX6 47 "TermKeeper$Uses" "size" "I" ∈ wsX6_usesOf := by decide +kernel
abbrev rm_X6_usesOf : Room := { frames := 0, cells := 0, slots := 0, locals := 0 }
def wp_X6_usesOf_25 (dA : Nat → ClassId) (zz : Nat → Nat) (Q : Int32 → List Nat → pF → Prop) (k4_ : List Nat → pF → Nat → Int32 → Int32 → Int32 → Prop) (L : List Nat) (f : pF) (a0 : Nat) (a1 : Int32) (a2 : Int32) (a3 : Int32) : Prop :=
    (∀ v3_25 : Int32, v3_25 = a3 + (1 : Int32) →
      (k4_ L f a0 a1 a2 v3_25))
def wp_X6_usesOf_4 (dA : Nat → ClassId) (zz : Nat → Nat) (Q : Int32 → List Nat → pF → Prop) : Nat → List Nat → pF → Nat → Int32 → Int32 → Int32 → Prop
  | 0, _, _, _, _, _, _ => False
  | n + 1, L, f, a0, a1, a2, a3 =>
    (gI L f 7 a0 9 (fun g_6 =>
      ((g_6 ≤ a3 →
        (Q a2 L f))
       ∧ (¬ g_6 ≤ a3 →
        (gR L f 7 a0 6 (fun g_13 =>
          (aI L f (dA 1) g_13 a3 (fun g_17 =>
            ((¬ g_17 = a1 →
              (wp_X6_usesOf_25 dA zz Q (wp_X6_usesOf_4 dA zz Q  n) L f a0 a1 a2 a3))
             ∧ (g_17 = a1 →
              (∀ v2_22 : Int32, v2_22 = a2 + (1 : Int32) →
                (wp_X6_usesOf_25 dA zz Q (wp_X6_usesOf_4 dA zz Q  n) L f a0 a1 v2_22 a3))))))))))))
def wp_X6_usesOf_0 (dA : Nat → ClassId) (zz : Nat → Nat) (Q : Int32 → List Nat → pF → Prop) (L : List Nat) (f : pF) (a0 : Nat) (a1 : Int32) : Prop :=
    (∃ n9 : Nat, wp_X6_usesOf_4 dA zz Q  n9 L f a0 a1 (0 : Int32) (0 : Int32))
set_option maxHeartbeats 4000000 in
set_option maxRecDepth 100000 in
theorem tb_X6_usesOf_25 {p : Program} {l : Launch} {e : Env} {s : State} {m : MethodId} {below : List Frame} {meth : Method} {c : Code} {args : Array Value} {dC : Nat → ClassId} {dI : Nat → Nat → Nat} {dA : Nat → ClassId} {zz : Nat → Nat} {base : Nat} {A : Nat → Prop} {Q : Int32 → List Nat → pF → Prop} (C : pCx p s m args meth c cX6_usesOf 4 (some .int) RX6 wsX6_usesOf A dC dI dA zz base) {k4_ : List Nat → pF → Nat → Int32 → Int32 → Int32 → Prop} (h4_ : ∀ (L : List Nat) (f : pF) (a0 : Nat) (a1 : Int32) (a2 : Int32) (a3 : Int32), k4_ L f a0 a1 a2 a3 → pAt p l e rm_X6_usesOf s m args below meth c dC dI A (MQ below (va_Qi (fun r (u : List Nat × pF) => Q r u.1 u.2) (pB dC dI dA A) A) args s 0 0 A) 0 0 4 4 [(0, .ref a0), (1, .int a1), (2, .int a2), (3, .int a3)] [] L f) : ∀ (L : List Nat) (f : pF) (a0 : Nat) (a1 : Int32) (a2 : Int32) (a3 : Int32), wp_X6_usesOf_25 dA zz Q k4_ L f a0 a1 a2 a3 → pAt p l e rm_X6_usesOf s m args below meth c dC dI A (MQ below (va_Qi (fun r (u : List Nat × pF) => Q r u.1 u.2) (pB dC dI dA A) A) args s 0 0 A) 0 0 25 4 [(0, .ref a0), (1, .int a1), (2, .int a2), (3, .int a3)] [] L f := by
  obtain ⟨hx, hb, hml, hown, hts, hr, hlocks, hA, hK, hB, hz, hN, hT⟩ := id C
  intro L f a0 a1 a2 a3 hw H locs hP hD hS ls hl
  rw [wp_X6_usesOf_25] at hw
  obtain ⟨v3_25, ev3_25⟩ : ∃ y : Int32, y = a3 + (1 : Int32) := ⟨_, rfl⟩
  have hw := hw v3_25 ev3_25
  refine lv_iinc (v := v3_25) (lv' := [(3, .int v3_25), (0, .ref a0), (1, .int a1), (2, .int a2)]) hx hb dX6_usesOf_25 hl (k := 3) rfl (by rw [ev3_25]; rfl) (by decide) rfl (fun ls hl => ?_)
  refine lv_goto (tgt := 4) hx hb dX6_usesOf_28 (by decide) ?_
  exact h4_ L f a0 a1 a2 v3_25 hw H locs hP hD hS ls (lv_sub hl [1, 2, 3, 0] rfl)
set_option maxHeartbeats 4000000 in
set_option maxRecDepth 100000 in
theorem tb_X6_usesOf_4 {p : Program} {l : Launch} {e : Env} {s : State} {m : MethodId} {below : List Frame} {meth : Method} {c : Code} {args : Array Value} {dC : Nat → ClassId} {dI : Nat → Nat → Nat} {dA : Nat → ClassId} {zz : Nat → Nat} {base : Nat} {A : Nat → Prop} {Q : Int32 → List Nat → pF → Prop} (C : pCx p s m args meth c cX6_usesOf 4 (some .int) RX6 wsX6_usesOf A dC dI dA zz base) : ∀ (n : Nat) (L : List Nat) (f : pF) (a0 : Nat) (a1 : Int32) (a2 : Int32) (a3 : Int32), wp_X6_usesOf_4 dA zz Q  n L f a0 a1 a2 a3 → pAt p l e rm_X6_usesOf s m args below meth c dC dI A (MQ below (va_Qi (fun r (u : List Nat × pF) => Q r u.1 u.2) (pB dC dI dA A) A) args s 0 0 A) 0 0 4 4 [(0, .ref a0), (1, .int a1), (2, .int a2), (3, .int a3)] [] L f := by
  obtain ⟨hx, hb, hml, hown, hts, hr, hlocks, hA, hK, hB, hz, hN, hT⟩ := id C
  intro n
  induction n with
  | zero => intro L f a0 a1 a2 a3 hw; exact hw.elim
  | succ n ih =>
    intro L f a0 a1 a2 a3 hw H locs hP hD hS ls hl
    rw [wp_X6_usesOf_4] at hw
    refine lv_iload_n hx hb dX6_usesOf_4 rfl (lv_at hl 3 rfl) ?_
    refine lv_aload_n hx hb dX6_usesOf_5 rfl (lv_at hl 0 rfl) ?_
    obtain ⟨fs_6, g_6, ⟨hL9, hf9, hn9⟩, hw⟩ := hw
    refine va_get (D := (dC, dI)) (ci := 7) (v := .int g_6) (C := RX6) (T := TX6) (N := 13) hx hb hts iw_X6_usesOf_RX6 hown hK (p_one hP hL9 hf9) 0 rfl rfl 9 (by decide) (hts _ lk_X6_usesOf_47) (fun _ h9 => h9) hn9 dX6_usesOf_6 ?_
    refine lv_icmp_ge (tgt := 31) hx hb dX6_usesOf_9 (by decide) (fun c_9 => ?_) (fun c_9 => ?_)
    · have hw := hw.1 c_9
      refine lv_iload_n hx hb dX6_usesOf_31 rfl (lv_at hl 2 rfl) ?_
      exact W.iret (v := a2) hx hb hr (fun t ht hW => ⟨⟨a2, (L, f), rfl, hw, by rw [ht]; exact hP, va_K.moved hW.alike hK, hD⟩, hS.F ht⟩) hS.2.2 dX6_usesOf_32
    · have hw := hw.2 c_9
      refine lv_aload_n hx hb dX6_usesOf_12 rfl (lv_at hl 0 rfl) ?_
      obtain ⟨fs_13, g_13, ⟨hL9, hf9, hn9⟩, hw⟩ := hw
      refine va_get (D := (dC, dI)) (ci := 7) (v := .ref g_13) (C := RX6) (T := TX6) (N := 13) hx hb hts iw_X6_usesOf_RX6 hown hK (p_one hP hL9 hf9) 0 rfl rfl 6 (by decide) (hts _ lk_X6_usesOf_21) (fun _ h9 => h9) hn9 dX6_usesOf_13 ?_
      refine lv_iload_n hx hb dX6_usesOf_16 rfl (lv_at hl 3 rfl) ?_
      obtain ⟨n_17, h_17, ⟨hL9, hf9, hn9⟩, hw⟩ := hw
      refine va_iald hx hb hK (p_one hP hL9 hf9) 0 1 rfl rfl hn9 dX6_usesOf_17 ?_
      refine lv_topi (fun g_17 eg_17 => ?_)
      rw [← eg_17] at hw
      refine lv_iload_n hx hb dX6_usesOf_18 rfl (lv_at hl 1 rfl) ?_
      refine lv_icmp_ne (tgt := 25) hx hb dX6_usesOf_19 (by decide) (fun c_19 => ?_) (fun c_19 => ?_)
      · have hw := hw.1 c_19
        exact tb_X6_usesOf_25 C ih L f a0 a1 a2 a3 hw H locs hP hD hS ls (lv_sub hl [0, 1, 2, 3] rfl)
      · have hw := hw.2 c_19
        obtain ⟨v2_22, ev2_22⟩ : ∃ y : Int32, y = a2 + (1 : Int32) := ⟨_, rfl⟩
        have hw := hw v2_22 ev2_22
        refine lv_iinc (v := v2_22) (lv' := [(2, .int v2_22), (0, .ref a0), (1, .int a1), (3, .int a3)]) hx hb dX6_usesOf_22 hl (k := 2) rfl (by rw [ev2_22]; rfl) (by decide) rfl (fun ls hl => ?_)
        exact tb_X6_usesOf_25 C ih L f a0 a1 v2_22 a3 hw H locs hP hD hS ls (lv_sub hl [1, 2, 0, 3] rfl)
set_option maxHeartbeats 4000000 in
set_option maxRecDepth 100000 in
theorem tb_X6_usesOf_0 {p : Program} {l : Launch} {e : Env} {s : State} {m : MethodId} {below : List Frame} {meth : Method} {c : Code} {args : Array Value} {dC : Nat → ClassId} {dI : Nat → Nat → Nat} {dA : Nat → ClassId} {zz : Nat → Nat} {base : Nat} {A : Nat → Prop} {Q : Int32 → List Nat → pF → Prop} (C : pCx p s m args meth c cX6_usesOf 4 (some .int) RX6 wsX6_usesOf A dC dI dA zz base) : ∀ (L : List Nat) (f : pF) (a0 : Nat) (a1 : Int32), wp_X6_usesOf_0 dA zz Q  L f a0 a1 → pAt p l e rm_X6_usesOf s m args below meth c dC dI A (MQ below (va_Qi (fun r (u : List Nat × pF) => Q r u.1 u.2) (pB dC dI dA A) A) args s 0 0 A) 0 0 0 4 [(0, .ref a0), (1, .int a1)] [] L f := by
  obtain ⟨hx, hb, hml, hown, hts, hr, hlocks, hA, hK, hB, hz, hN, hT⟩ := id C
  intro L f a0 a1 hw H locs hP hD hS ls hl
  rw [wp_X6_usesOf_0] at hw
  refine lv_iconst (v := 0) hx hb dX6_usesOf_0 (by decide) ?_
  refine lv_istore_n (lv' := [(2, .int (0 : Int32)), (0, .ref a0), (1, .int a1)]) hx hb dX6_usesOf_1 rfl hl (by decide) rfl (fun ls hl => ?_)
  refine lv_iconst (v := 0) hx hb dX6_usesOf_2 (by decide) ?_
  refine lv_istore_n (lv' := [(3, .int (0 : Int32)), (2, .int (0 : Int32)), (0, .ref a0), (1, .int a1)]) hx hb dX6_usesOf_3 rfl hl (by decide) rfl (fun ls hl => ?_)
  obtain ⟨n9, hw⟩ := hw
  exact tb_X6_usesOf_4 C  n9 L f a0 a1 (0 : Int32) (0 : Int32) hw H locs hP hD hS ls (lv_sub hl [2, 3, 1, 0] rfl)
set_option maxHeartbeats 4000000 in
set_option maxRecDepth 100000 in
theorem c_X6_usesOf (l : Launch) (dC : Nat → ClassId) (dI : Nat → Nat → Nat) (dA : Nat → ClassId) (zz : Nat → Nat) (base : Nat) (L : List Nat) (f : pF) (sz : Nat) (a0 : Nat) (a1 : Int32) (Q : Int32 → List Nat → pF → Prop) (hw : wp_X6_usesOf_0 dA zz Q L f a0 a1) : Met l yX6_usesOf wsX6_usesOf rm_X6_usesOf (va_Pc [.ref a0, .int a1] (pPre dC dI dA zz base L f sz)) (va_Qi (fun r (u : List Nat × pF) => Q r u.1 u.2) (pB dC dI dA (va_A (va_pl L f) sz)) (va_A (va_pl L f) sz)) 0 0 (va_A (va_pl L f) sz) := by
  refine Met.ofW (cc := cX6_usesOf) (maxL := 4) (ret := (some .int)) (by decide) rfl ?_
  intro p e s m args below meth c s₁ B hml hv
  obtain ⟨rfl, hsz, hP, hK, hD0, hz, hN, hT⟩ := hv
  subst hsz
  have hl := lv_entry ([.ref a0, .int a1]) (n := 4) (Nat.le_of_ble_eq_true rfl)
  rw [lg_entry_eq]
  generalize (lg_sl ([.ref a0, .int a1]) ++ List.replicate (4 - (lg_sl ([.ref a0, .int a1])).length) Slot.unset).toArray = ls at hl ⊢
  exact tb_X6_usesOf_0 (Q := Q) (p := p) ⟨B.exec, B.bytes, hml, findClass_of_methodNamed B.named, atoms_spec (ws := wsX6_usesOf) B.pre, B.returns, B.notSynchronized, fun q h => Or.inr h, hK, pAB hD0 hz, hz, hN, hT⟩ L f a0 a1 hw s.heap [] hP (hD0.self (sz := s.heap.size)) va_S.rf ls (lv_sub hl [0, 1] rfl)
theorem iw_X6_findingNow_RX5 : ∀ w ∈ u_ws RX5 TX5 5, w ∈ wsX6_findingNow := by decide +kernel
theorem iw_X6_findingNow_RX6 : ∀ w ∈ u_ws RX6 TX6 13, w ∈ wsX6_findingNow := by decide +kernel
theorem lk_X6_findingNow_134 : Cond.fieldLink RX6 134 "TermKeeper$Term" "thing" "I" ∈ wsX6_findingNow := by decide +kernel
theorem lk_X6_findingNow_140 : Cond.fieldLink RX6 140 "TermKeeper$Term" "kind" "I" ∈ wsX6_findingNow := by decide +kernel
theorem lk_X6_findingNow_30 : Cond.fieldLink RX6 30 "TermKeeper$Uses" "glossary" "LTermKeeper$Glossary;" ∈ wsX6_findingNow := by decide +kernel
theorem lk_X6_findingNow_34 : Cond.fieldLink RX6 34 "TermKeeper$Uses" "definitions" "LTermKeeper$Definitions;" ∈ wsX6_findingNow := by decide +kernel
theorem lk_X6_findingNow_59 : Cond.fieldLink RX6 59 "TermKeeper$Uses" "thingsSeen" "J" ∈ wsX6_findingNow := by decide +kernel
theorem lk_X6_findingNow_66 : Cond.fieldLink RX6 66 "TermKeeper$Uses" "thingsSpelled" "J" ∈ wsX6_findingNow := by decide +kernel
abbrev rm_X6_findingNow : Room := { frames := 4, cells := 0, slots := 0, locals := 85 }
def wp_X6_findingNow_58 (dA : Nat → ClassId) (zz : Nat → Nat) (Q : Int32 → List Nat → pF → Prop) (L : List Nat) (f : pF) (a0 : Nat) (a2 : Nat) : Prop :=
    (gR L f 7 a0 1 (fun g_59 =>
      (gI L f 6 a2 2 (fun g_63 =>
        (gJ L f 7 a0 11 (fun g_67 =>
          (isO L f 1 g_59 ∧
            (wp_X0_explainedBy_0 dA zz (fun r_70 L_70 f_70 =>
              ((r_70 = 0 →
                (Q (4 : Int32) L_70 f_70))
               ∧ (¬ r_70 = 0 →
                (Q (0 : Int32) L_70 f_70)))) L f g_59 g_63 g_67))))))))
def wp_X6_findingNow_0 (dA : Nat → ClassId) (zz : Nat → Nat) (Q : Int32 → List Nat → pF → Prop) (L : List Nat) (f : pF) (a0 : Nat) (a1 : Int32) : Prop :=
    (gR L f 7 a0 0 (fun g_1 =>
      (isO L f 2 g_1 ∧
        (wp_X1_holdsTerm_0 dA zz (fun r_5 L_5 f_5 =>
          ((¬ r_5 = 0 →
            (gR L_5 f_5 7 a0 0 (fun g_14 =>
              (isO L_5 f_5 2 g_14 ∧
                (wp_X1_termAt_0 dA zz (fun r_18 L_18 f_18 =>
                  (gI L_18 f_18 6 r_18 4 (fun g_23 =>
                    ((¬ g_23 = (1 : Int32) →
                      (gI L_18 f_18 6 r_18 4 (fun g_33 =>
                        ((¬ g_33 = (2 : Int32) →
                          (wp_X6_findingNow_58 dA zz Q  L_18 f_18 a0 r_18))
                         ∧ (g_33 = (2 : Int32) →
                          (gJ L_18 f_18 7 a0 12 (fun g_41 =>
                            (gI L_18 f_18 6 r_18 2 (fun g_45 =>
                              ((¬ (lg_cmp ((g_41 >>> (Int32.toInt64 g_45 &&& 63)) &&& (1 : Int64)) (0 : Int64)) = 0 →
                                (wp_X6_findingNow_58 dA zz Q  L_18 f_18 a0 r_18))
                               ∧ ((lg_cmp ((g_41 >>> (Int32.toInt64 g_45 &&& 63)) &&& (1 : Int64)) (0 : Int64)) = 0 →
                                (Q (3 : Int32) L_18 f_18))))))))))))
                     ∧ (g_23 = (1 : Int32) →
                      (Q (2 : Int32) L_18 f_18)))))) L_5 f_5 g_14 a1)))))
           ∧ (r_5 = 0 →
            (Q (1 : Int32) L_5 f_5)))) L f g_1 a1))))
set_option maxHeartbeats 4000000 in
set_option maxRecDepth 100000 in
theorem tb_X6_findingNow_58 {p : Program} {l : Launch} {e : Env} {s : State} {m : MethodId} {below : List Frame} {meth : Method} {c : Code} {args : Array Value} {dC : Nat → ClassId} {dI : Nat → Nat → Nat} {dA : Nat → ClassId} {zz : Nat → Nat} {base : Nat} {A : Nat → Prop} {Q : Int32 → List Nat → pF → Prop} (C : pCx p s m args meth c cX6_findingNow 3 (some .int) RX6 wsX6_findingNow A dC dI dA zz base) : ∀ (L : List Nat) (f : pF) (a0 : Nat) (a2 : Nat), wp_X6_findingNow_58 dA zz Q  L f a0 a2 → pAt p l e rm_X6_findingNow s m args below meth c dC dI A (MQ below (va_Qi (fun r (u : List Nat × pF) => Q r u.1 u.2) (pB dC dI dA A) A) args s 0 0 A) 0 0 58 3 [(0, .ref a0), (2, .ref a2)] [] L f := by
  obtain ⟨hx, hb, hml, hown, hts, hr, hlocks, hA, hK, hB, hz, hN, hT⟩ := id C
  intro L f a0 a2 hw H locs hP hD hS ls hl
  rw [wp_X6_findingNow_58] at hw
  refine lv_aload_n hx hb dX6_findingNow_58 rfl (lv_at hl 0 rfl) ?_
  obtain ⟨fs_59, g_59, ⟨hL9, hf9, hn9⟩, hw⟩ := hw
  refine va_get (D := (dC, dI)) (ci := 7) (v := .ref g_59) (C := RX6) (T := TX6) (N := 13) hx hb hts iw_X6_findingNow_RX6 hown hK (p_one hP hL9 hf9) 0 rfl rfl 1 (by decide) (hts _ lk_X6_findingNow_34) (fun _ h9 => h9) hn9 dX6_findingNow_59 ?_
  refine lv_aload_n hx hb dX6_findingNow_62 rfl (lv_at hl 1 rfl) ?_
  obtain ⟨fs_63, g_63, ⟨hL9, hf9, hn9⟩, hw⟩ := hw
  refine va_get (D := (dC, dI)) (ci := 6) (v := .int g_63) (C := RX5) (T := TX5) (N := 5) hx hb hts iw_X6_findingNow_RX5 hown hK (p_one hP hL9 hf9) 0 rfl rfl 2 (by decide) (hts _ lk_X6_findingNow_134) (fun _ h9 => h9) hn9 dX6_findingNow_63 ?_
  refine lv_aload_n hx hb dX6_findingNow_66 rfl (lv_at hl 0 rfl) ?_
  obtain ⟨fs_67, g_67, ⟨hL9, hf9, hn9⟩, hw⟩ := hw
  refine va_get (D := (dC, dI)) (ci := 7) (v := .long g_67) (C := RX6) (T := TX6) (N := 13) hx hb hts iw_X6_findingNow_RX6 hown hK (p_one hP hL9 hf9) 0 rfl rfl 11 (by decide) (hts _ lk_X6_findingNow_59) (fun _ h9 => h9) hn9 dX6_findingNow_67 ?_
  obtain ⟨hO9, hw⟩ := hw
  have hFc := p_free hD hS hA
  refine va_calli (va_runV (As := [.int g_63, .long g_67]) (rest := []) ⟨hx, hb, hml, hown, hts⟩ (c_X0_explainedBy l dC dI dA zz base L f H.size g_59 g_63 g_67 _ hw) (cwV 2 hts gX6_findingNow_X0_explainedBy rfl rfl rfl (by decide +kernel) ⟨by decide, by decide⟩) (pPreV [.int g_63, .long g_67] (ci := 1) rfl hO9 hK hP hD hS hB hz hN hT) rfl rfl hl.1 rfl (lv_room (Nat.le_of_ble_eq_true rfl)) dX6_findingNow_70 ⟨by decide, by decide⟩) hS (fun q _ h => hFc q h) hFc (fun r_70 u t H1 locs ht hvm hw hB1 hz1 hk1 hS => ?_)
  obtain ⟨L_70, f_70⟩ := u
  obtain ⟨hP, -, hD1⟩ := hB1
  rw [ht] at hP
  have hw := id hw
  have hP : va_P (dC, dI) vwCl (va_pl L_70 f_70) H1 := hP
  have hD : va_D A (va_pl L_70 f_70) := p_gain hD1 hFc
  generalize H1 = H at hP hS ⊢
  refine lv_if_eq (tgt := 80) hx hb dX6_findingNow_73 (by decide) (fun c_73 => ?_) (fun c_73 => ?_)
  · have hw := hw.1 c_73
    refine lv_iconst (v := 4) hx hb dX6_findingNow_80 (by decide) ?_
    exact W.iret (v := (4 : Int32)) hx hb hr (fun t ht hW => ⟨⟨(4 : Int32), (L_70, f_70), rfl, hw, by rw [ht]; exact hP, va_K.moved hW.alike hK, hD⟩, hS.F ht⟩) hS.2.2 dX6_findingNow_81
  · have hw := hw.2 c_73
    refine lv_iconst (v := 0) hx hb dX6_findingNow_76 (by decide) ?_
    refine lv_goto (tgt := 81) hx hb dX6_findingNow_77 (by decide) ?_
    exact W.iret (v := (0 : Int32)) hx hb hr (fun t ht hW => ⟨⟨(0 : Int32), (L_70, f_70), rfl, hw, by rw [ht]; exact hP, va_K.moved hW.alike hK, hD⟩, hS.F ht⟩) hS.2.2 dX6_findingNow_81
set_option maxHeartbeats 4000000 in
set_option maxRecDepth 100000 in
theorem tb_X6_findingNow_0 {p : Program} {l : Launch} {e : Env} {s : State} {m : MethodId} {below : List Frame} {meth : Method} {c : Code} {args : Array Value} {dC : Nat → ClassId} {dI : Nat → Nat → Nat} {dA : Nat → ClassId} {zz : Nat → Nat} {base : Nat} {A : Nat → Prop} {Q : Int32 → List Nat → pF → Prop} (C : pCx p s m args meth c cX6_findingNow 3 (some .int) RX6 wsX6_findingNow A dC dI dA zz base) : ∀ (L : List Nat) (f : pF) (a0 : Nat) (a1 : Int32), wp_X6_findingNow_0 dA zz Q  L f a0 a1 → pAt p l e rm_X6_findingNow s m args below meth c dC dI A (MQ below (va_Qi (fun r (u : List Nat × pF) => Q r u.1 u.2) (pB dC dI dA A) A) args s 0 0 A) 0 0 0 3 [(0, .ref a0), (1, .int a1)] [] L f := by
  obtain ⟨hx, hb, hml, hown, hts, hr, hlocks, hA, hK, hB, hz, hN, hT⟩ := id C
  intro L f a0 a1 hw H locs hP hD hS ls hl
  rw [wp_X6_findingNow_0] at hw
  refine lv_aload_n hx hb dX6_findingNow_0 rfl (lv_at hl 0 rfl) ?_
  obtain ⟨fs_1, g_1, ⟨hL9, hf9, hn9⟩, hw⟩ := hw
  refine va_get (D := (dC, dI)) (ci := 7) (v := .ref g_1) (C := RX6) (T := TX6) (N := 13) hx hb hts iw_X6_findingNow_RX6 hown hK (p_one hP hL9 hf9) 0 rfl rfl 0 (by decide) (hts _ lk_X6_findingNow_30) (fun _ h9 => h9) hn9 dX6_findingNow_1 ?_
  refine lv_iload_n hx hb dX6_findingNow_4 rfl (lv_at hl 1 rfl) ?_
  obtain ⟨hO9, hw⟩ := hw
  have hFc := p_free hD hS hA
  refine va_calli (va_runV (As := [.int a1]) (rest := []) ⟨hx, hb, hml, hown, hts⟩ (c_X1_holdsTerm l dC dI dA zz base L f H.size g_1 a1 _ hw) (cwV 1 hts gX6_findingNow_X1_holdsTerm rfl rfl rfl (by decide +kernel) ⟨by decide, by decide⟩) (pPreV [.int a1] (ci := 2) rfl hO9 hK hP hD hS hB hz hN hT) rfl rfl hl.1 rfl (lv_room (Nat.le_of_ble_eq_true rfl)) dX6_findingNow_5 ⟨by decide, by decide⟩) hS (fun q _ h => hFc q h) hFc (fun r_5 u t H1 locs ht hvm hw hB1 hz1 hk1 hS => ?_)
  obtain ⟨L_5, f_5⟩ := u
  obtain ⟨hP, -, hD1⟩ := hB1
  rw [ht] at hP
  have hw := id hw
  have hP : va_P (dC, dI) vwCl (va_pl L_5 f_5) H1 := hP
  have hD : va_D A (va_pl L_5 f_5) := p_gain hD1 hFc
  generalize H1 = H at hP hS ⊢
  refine lv_if_ne (tgt := 13) hx hb dX6_findingNow_8 (by decide) (fun c_8 => ?_) (fun c_8 => ?_)
  · have hw := hw.1 c_8
    refine lv_aload_n hx hb dX6_findingNow_13 rfl (lv_at hl 0 rfl) ?_
    obtain ⟨fs_14, g_14, ⟨hL9, hf9, hn9⟩, hw⟩ := hw
    refine va_get (D := (dC, dI)) (ci := 7) (v := .ref g_14) (C := RX6) (T := TX6) (N := 13) hx hb hts iw_X6_findingNow_RX6 hown hK (p_one hP hL9 hf9) 0 rfl rfl 0 (by decide) (hts _ lk_X6_findingNow_30) (fun _ h9 => h9) hn9 dX6_findingNow_14 ?_
    refine lv_iload_n hx hb dX6_findingNow_17 rfl (lv_at hl 1 rfl) ?_
    obtain ⟨hO9, hw⟩ := hw
    have hFc := p_free hD hS hA
    refine va_callr (va_runV (As := [.int a1]) (rest := []) ⟨hx, hb, hml, hown, hts⟩ (c_X1_termAt l dC dI dA zz base L_5 f_5 H.size g_14 a1 _ hw) (cwV 1 hts gX6_findingNow_X1_termAt rfl rfl rfl (by decide +kernel) ⟨by decide, by decide⟩) (pPreV [.int a1] (ci := 2) rfl hO9 hK hP hD hS hB hz hN hT) rfl rfl hl.1 rfl (lv_room (Nat.le_of_ble_eq_true rfl)) dX6_findingNow_18 ⟨by decide, by decide⟩) hS (fun q _ h => hFc q h) hFc (fun u ra t H1 locs ht hvm hw hB1 hz1 hk1 hS => ?_)
    obtain ⟨r_18, L_18, f_18⟩ := u
    obtain ⟨hra, hP, -, hD1⟩ := hB1
    rw [show ra = r_18 from hra]
    rw [ht] at hP
    have hw := id hw
    have hP : va_P (dC, dI) vwCl (va_pl L_18 f_18) H1 := hP
    have hD : va_D A (va_pl L_18 f_18) := p_gain hD1 hFc
    generalize H1 = H at hP hS ⊢
    refine W.eq (g2 := F0 m 21 ls (.ref r_18 :: [])) rfl ?_
    refine lv_astore_n (lv' := [(2, .ref r_18), (0, .ref a0), (1, .int a1)]) hx hb dX6_findingNow_21 rfl hl (by decide) rfl (fun ls hl => ?_)
    refine lv_aload_n hx hb dX6_findingNow_22 rfl (lv_at hl 0 rfl) ?_
    obtain ⟨fs_23, g_23, ⟨hL9, hf9, hn9⟩, hw⟩ := hw
    refine va_get (D := (dC, dI)) (ci := 6) (v := .int g_23) (C := RX5) (T := TX5) (N := 5) hx hb hts iw_X6_findingNow_RX5 hown hK (p_one hP hL9 hf9) 0 rfl rfl 4 (by decide) (hts _ lk_X6_findingNow_140) (fun _ h9 => h9) hn9 dX6_findingNow_23 ?_
    refine lv_iconst (v := 1) hx hb dX6_findingNow_26 (by decide) ?_
    refine lv_icmp_ne (tgt := 32) hx hb dX6_findingNow_27 (by decide) (fun c_27 => ?_) (fun c_27 => ?_)
    · have hw := hw.1 c_27
      refine lv_aload_n hx hb dX6_findingNow_32 rfl (lv_at hl 0 rfl) ?_
      obtain ⟨fs_33, g_33, ⟨hL9, hf9, hn9⟩, hw⟩ := hw
      refine va_get (D := (dC, dI)) (ci := 6) (v := .int g_33) (C := RX5) (T := TX5) (N := 5) hx hb hts iw_X6_findingNow_RX5 hown hK (p_one hP hL9 hf9) 0 rfl rfl 4 (by decide) (hts _ lk_X6_findingNow_140) (fun _ h9 => h9) hn9 dX6_findingNow_33 ?_
      refine lv_iconst (v := 2) hx hb dX6_findingNow_36 (by decide) ?_
      refine lv_icmp_ne (tgt := 58) hx hb dX6_findingNow_37 (by decide) (fun c_37 => ?_) (fun c_37 => ?_)
      · have hw := hw.1 c_37
        exact tb_X6_findingNow_58 C  L_18 f_18 a0 r_18 hw H locs hP hD hS ls (lv_sub hl [1, 0] rfl)
      · have hw := hw.2 c_37
        refine lv_aload_n hx hb dX6_findingNow_40 rfl (lv_at hl 1 rfl) ?_
        obtain ⟨fs_41, g_41, ⟨hL9, hf9, hn9⟩, hw⟩ := hw
        refine va_get (D := (dC, dI)) (ci := 7) (v := .long g_41) (C := RX6) (T := TX6) (N := 13) hx hb hts iw_X6_findingNow_RX6 hown hK (p_one hP hL9 hf9) 0 rfl rfl 12 (by decide) (hts _ lk_X6_findingNow_66) (fun _ h9 => h9) hn9 dX6_findingNow_41 ?_
        refine lv_aload_n hx hb dX6_findingNow_44 rfl (lv_at hl 0 rfl) ?_
        obtain ⟨fs_45, g_45, ⟨hL9, hf9, hn9⟩, hw⟩ := hw
        refine va_get (D := (dC, dI)) (ci := 6) (v := .int g_45) (C := RX5) (T := TX5) (N := 5) hx hb hts iw_X6_findingNow_RX5 hown hK (p_one hP hL9 hf9) 0 rfl rfl 2 (by decide) (hts _ lk_X6_findingNow_134) (fun _ h9 => h9) hn9 dX6_findingNow_45 ?_
        refine lv_lshr hx hb dX6_findingNow_48 rfl ?_
        refine lv_lconst (v := 1) hx hb dX6_findingNow_49 (by decide) ?_
        refine lv_land hx hb dX6_findingNow_50 ?_
        refine lv_lconst (v := 0) hx hb dX6_findingNow_51 (by decide) ?_
        refine W.lcmp hx hb dX6_findingNow_52 ?_
        refine lv_if_ne (tgt := 58) hx hb dX6_findingNow_53 (by decide) (fun c_53 => ?_) (fun c_53 => ?_)
        · have hw := hw.1 c_53
          exact tb_X6_findingNow_58 C  L_18 f_18 a0 r_18 hw H locs hP hD hS ls (lv_sub hl [1, 0] rfl)
        · have hw := hw.2 c_53
          refine lv_iconst (v := 3) hx hb dX6_findingNow_56 (by decide) ?_
          exact W.iret (v := (3 : Int32)) hx hb hr (fun t ht hW => ⟨⟨(3 : Int32), (L_18, f_18), rfl, hw, by rw [ht]; exact hP, va_K.moved hW.alike hK, hD⟩, hS.F ht⟩) hS.2.2 dX6_findingNow_57
    · have hw := hw.2 c_27
      refine lv_iconst (v := 2) hx hb dX6_findingNow_30 (by decide) ?_
      exact W.iret (v := (2 : Int32)) hx hb hr (fun t ht hW => ⟨⟨(2 : Int32), (L_18, f_18), rfl, hw, by rw [ht]; exact hP, va_K.moved hW.alike hK, hD⟩, hS.F ht⟩) hS.2.2 dX6_findingNow_31
  · have hw := hw.2 c_8
    refine lv_iconst (v := 1) hx hb dX6_findingNow_11 (by decide) ?_
    exact W.iret (v := (1 : Int32)) hx hb hr (fun t ht hW => ⟨⟨(1 : Int32), (L_5, f_5), rfl, hw, by rw [ht]; exact hP, va_K.moved hW.alike hK, hD⟩, hS.F ht⟩) hS.2.2 dX6_findingNow_12
set_option maxHeartbeats 4000000 in
set_option maxRecDepth 100000 in
theorem c_X6_findingNow (l : Launch) (dC : Nat → ClassId) (dI : Nat → Nat → Nat) (dA : Nat → ClassId) (zz : Nat → Nat) (base : Nat) (L : List Nat) (f : pF) (sz : Nat) (a0 : Nat) (a1 : Int32) (Q : Int32 → List Nat → pF → Prop) (hw : wp_X6_findingNow_0 dA zz Q L f a0 a1) : Met l yX6_findingNow wsX6_findingNow rm_X6_findingNow (va_Pc [.ref a0, .int a1] (pPre dC dI dA zz base L f sz)) (va_Qi (fun r (u : List Nat × pF) => Q r u.1 u.2) (pB dC dI dA (va_A (va_pl L f) sz)) (va_A (va_pl L f) sz)) 0 0 (va_A (va_pl L f) sz) := by
  refine Met.ofW (cc := cX6_findingNow) (maxL := 3) (ret := (some .int)) (by decide) rfl ?_
  intro p e s m args below meth c s₁ B hml hv
  obtain ⟨rfl, hsz, hP, hK, hD0, hz, hN, hT⟩ := hv
  subst hsz
  have hl := lv_entry ([.ref a0, .int a1]) (n := 3) (Nat.le_of_ble_eq_true rfl)
  rw [lg_entry_eq]
  generalize (lg_sl ([.ref a0, .int a1]) ++ List.replicate (3 - (lg_sl ([.ref a0, .int a1])).length) Slot.unset).toArray = ls at hl ⊢
  exact tb_X6_findingNow_0 (Q := Q) (p := p) ⟨B.exec, B.bytes, hml, findClass_of_methodNamed B.named, atoms_spec (ws := wsX6_findingNow) B.pre, B.returns, B.notSynchronized, fun q h => Or.inr h, hK, pAB hD0 hz, hz, hN, hT⟩ L f a0 a1 hw s.heap [] hP (hD0.self (sz := s.heap.size)) va_S.rf ls (lv_sub hl [0, 1] rfl)
theorem iw_X6_leastTermOf_RX5 : ∀ w ∈ u_ws RX5 TX5 5, w ∈ wsX6_leastTermOf := by decide +kernel
theorem iw_X6_leastTermOf_RX6 : ∀ w ∈ u_ws RX6 TX6 13, w ∈ wsX6_leastTermOf := by decide +kernel
theorem lk_X6_leastTermOf_134 : Cond.fieldLink RX6 134 "TermKeeper$Term" "thing" "I" ∈ wsX6_leastTermOf := by decide +kernel
theorem lk_X6_leastTermOf_30 : Cond.fieldLink RX6 30 "TermKeeper$Uses" "glossary" "LTermKeeper$Glossary;" ∈ wsX6_leastTermOf := by decide +kernel
theorem lk_X6_leastTermOf_9 : Cond.fieldLink RX6 9 "TermKeeper$Uses" "ways" "[I" ∈ wsX6_leastTermOf := by decide +kernel
theorem lm_X6_leastTermOf_92 : Cond.methodLink RX6 92 Lib.Math.min.name ∈ wsX6_leastTermOf := by decide +kernel
theorem lmm1_X6_leastTermOf_min : Cond.static Lib.Math.min.name ∈ wsX6_leastTermOf := by decide +kernel
theorem lmm2_X6_leastTermOf_min : Cond.initialized "java/lang/Math" ∈ wsX6_leastTermOf := by decide +kernel
theorem lmm3_X6_leastTermOf_min : Cond.code Lib.Math.min.name Lib.Math.min.code 2 (some .int) ∈ wsX6_leastTermOf := by decide +kernel
abbrev rm_X6_leastTermOf : Room := { frames := 4, cells := 0, slots := 0, locals := 85 }
def wp_X6_leastTermOf_48 (dA : Nat → ClassId) (zz : Nat → Nat) (Q : Int32 → List Nat → pF → Prop) (k15_ : List Nat → pF → Nat → Int32 → Int32 → Int32 → Prop) (L : List Nat) (f : pF) (a0 : Nat) (a1 : Int32) (a2 : Int32) (a3 : Int32) : Prop :=
    (∀ v3_48 : Int32, v3_48 = a3 + (1 : Int32) →
      (k15_ L f a0 a1 a2 v3_48))
def wp_X6_leastTermOf_15 (dA : Nat → ClassId) (zz : Nat → Nat) (Q : Int32 → List Nat → pF → Prop) : Nat → List Nat → pF → Nat → Int32 → Int32 → Int32 → Prop
  | 0, _, _, _, _, _, _ => False
  | n + 1, L, f, a0, a1, a2, a3 =>
    ((a2 ≤ a3 →
      (Q (-1 : Int32) L f))
     ∧ (¬ a2 ≤ a3 →
      (gR L f 7 a0 3 (fun g_21 =>
        (aI L f (dA 1) g_21 a3 (fun g_25 =>
          ((g_25 = (-2 : Int32) →
            (wp_X6_leastTermOf_48 dA zz Q (wp_X6_leastTermOf_15 dA zz Q  n) L f a0 a1 a2 a3))
           ∧ (¬ g_25 = (-2 : Int32) →
            (gR L f 7 a0 0 (fun g_32 =>
              (isO L f 2 g_32 ∧
                (wp_X1_termAt_0 dA zz (fun r_36 L_36 f_36 =>
                  (gI L_36 f_36 6 r_36 2 (fun g_39 =>
                    ((¬ g_39 = a1 →
                      (wp_X6_leastTermOf_48 dA zz Q (wp_X6_leastTermOf_15 dA zz Q  n) L_36 f_36 a0 a1 a2 a3))
                     ∧ (g_39 = a1 →
                      (Q a3 L_36 f_36)))))) L f g_32 a3))))))))))))
def wp_X6_leastTermOf_0 (dA : Nat → ClassId) (zz : Nat → Nat) (Q : Int32 → List Nat → pF → Prop) (L : List Nat) (f : pF) (a0 : Nat) (a1 : Int32) : Prop :=
    (gR L f 7 a0 0 (fun g_1 =>
      (isO L f 2 g_1 ∧
        (wp_X1_termsHeld_0 dA zz (fun r_4 L_4 f_4 =>
          (∀ m_9 : Int32, m_9 = (if (60 : Int32) < r_4 then (60 : Int32) else r_4) →
            (∃ n9 : Nat, wp_X6_leastTermOf_15 dA zz Q  n9 L_4 f_4 a0 a1 m_9 (0 : Int32)))) L f g_1 ))))
set_option maxHeartbeats 4000000 in
set_option maxRecDepth 100000 in
theorem tb_X6_leastTermOf_48 {p : Program} {l : Launch} {e : Env} {s : State} {m : MethodId} {below : List Frame} {meth : Method} {c : Code} {args : Array Value} {dC : Nat → ClassId} {dI : Nat → Nat → Nat} {dA : Nat → ClassId} {zz : Nat → Nat} {base : Nat} {A : Nat → Prop} {Q : Int32 → List Nat → pF → Prop} (C : pCx p s m args meth c cX6_leastTermOf 4 (some .int) RX6 wsX6_leastTermOf A dC dI dA zz base) {k15_ : List Nat → pF → Nat → Int32 → Int32 → Int32 → Prop} (h15_ : ∀ (L : List Nat) (f : pF) (a0 : Nat) (a1 : Int32) (a2 : Int32) (a3 : Int32), k15_ L f a0 a1 a2 a3 → pAt p l e rm_X6_leastTermOf s m args below meth c dC dI A (MQ below (va_Qi (fun r (u : List Nat × pF) => Q r u.1 u.2) (pB dC dI dA A) A) args s 0 0 A) 0 0 15 4 [(0, .ref a0), (1, .int a1), (2, .int a2), (3, .int a3)] [] L f) : ∀ (L : List Nat) (f : pF) (a0 : Nat) (a1 : Int32) (a2 : Int32) (a3 : Int32), wp_X6_leastTermOf_48 dA zz Q k15_ L f a0 a1 a2 a3 → pAt p l e rm_X6_leastTermOf s m args below meth c dC dI A (MQ below (va_Qi (fun r (u : List Nat × pF) => Q r u.1 u.2) (pB dC dI dA A) A) args s 0 0 A) 0 0 48 4 [(0, .ref a0), (1, .int a1), (2, .int a2), (3, .int a3)] [] L f := by
  obtain ⟨hx, hb, hml, hown, hts, hr, hlocks, hA, hK, hB, hz, hN, hT⟩ := id C
  intro L f a0 a1 a2 a3 hw H locs hP hD hS ls hl
  rw [wp_X6_leastTermOf_48] at hw
  obtain ⟨v3_48, ev3_48⟩ : ∃ y : Int32, y = a3 + (1 : Int32) := ⟨_, rfl⟩
  have hw := hw v3_48 ev3_48
  refine lv_iinc (v := v3_48) (lv' := [(3, .int v3_48), (0, .ref a0), (1, .int a1), (2, .int a2)]) hx hb dX6_leastTermOf_48 hl (k := 3) rfl (by rw [ev3_48]; rfl) (by decide) rfl (fun ls hl => ?_)
  refine lv_goto (tgt := 15) hx hb dX6_leastTermOf_51 (by decide) ?_
  exact h15_ L f a0 a1 a2 v3_48 hw H locs hP hD hS ls (lv_sub hl [1, 2, 3, 0] rfl)
set_option maxHeartbeats 4000000 in
set_option maxRecDepth 100000 in
theorem tb_X6_leastTermOf_15 {p : Program} {l : Launch} {e : Env} {s : State} {m : MethodId} {below : List Frame} {meth : Method} {c : Code} {args : Array Value} {dC : Nat → ClassId} {dI : Nat → Nat → Nat} {dA : Nat → ClassId} {zz : Nat → Nat} {base : Nat} {A : Nat → Prop} {Q : Int32 → List Nat → pF → Prop} (C : pCx p s m args meth c cX6_leastTermOf 4 (some .int) RX6 wsX6_leastTermOf A dC dI dA zz base) : ∀ (n : Nat) (L : List Nat) (f : pF) (a0 : Nat) (a1 : Int32) (a2 : Int32) (a3 : Int32), wp_X6_leastTermOf_15 dA zz Q  n L f a0 a1 a2 a3 → pAt p l e rm_X6_leastTermOf s m args below meth c dC dI A (MQ below (va_Qi (fun r (u : List Nat × pF) => Q r u.1 u.2) (pB dC dI dA A) A) args s 0 0 A) 0 0 15 4 [(0, .ref a0), (1, .int a1), (2, .int a2), (3, .int a3)] [] L f := by
  obtain ⟨hx, hb, hml, hown, hts, hr, hlocks, hA, hK, hB, hz, hN, hT⟩ := id C
  intro n
  induction n with
  | zero => intro L f a0 a1 a2 a3 hw; exact hw.elim
  | succ n ih =>
    intro L f a0 a1 a2 a3 hw H locs hP hD hS ls hl
    rw [wp_X6_leastTermOf_15] at hw
    refine lv_iload_n hx hb dX6_leastTermOf_15 rfl (lv_at hl 3 rfl) ?_
    refine lv_iload_n hx hb dX6_leastTermOf_16 rfl (lv_at hl 2 rfl) ?_
    refine lv_icmp_ge (tgt := 54) hx hb dX6_leastTermOf_17 (by decide) (fun c_17 => ?_) (fun c_17 => ?_)
    · have hw := hw.1 c_17
      refine lv_iconst (v := -1) hx hb dX6_leastTermOf_54 (by decide) ?_
      exact W.iret (v := (-1 : Int32)) hx hb hr (fun t ht hW => ⟨⟨(-1 : Int32), (L, f), rfl, hw, by rw [ht]; exact hP, va_K.moved hW.alike hK, hD⟩, hS.F ht⟩) hS.2.2 dX6_leastTermOf_55
    · have hw := hw.2 c_17
      refine lv_aload_n hx hb dX6_leastTermOf_20 rfl (lv_at hl 0 rfl) ?_
      obtain ⟨fs_21, g_21, ⟨hL9, hf9, hn9⟩, hw⟩ := hw
      refine va_get (D := (dC, dI)) (ci := 7) (v := .ref g_21) (C := RX6) (T := TX6) (N := 13) hx hb hts iw_X6_leastTermOf_RX6 hown hK (p_one hP hL9 hf9) 0 rfl rfl 3 (by decide) (hts _ lk_X6_leastTermOf_9) (fun _ h9 => h9) hn9 dX6_leastTermOf_21 ?_
      refine lv_iload_n hx hb dX6_leastTermOf_24 rfl (lv_at hl 3 rfl) ?_
      obtain ⟨n_25, h_25, ⟨hL9, hf9, hn9⟩, hw⟩ := hw
      refine va_iald hx hb hK (p_one hP hL9 hf9) 0 1 rfl rfl hn9 dX6_leastTermOf_25 ?_
      refine lv_topi (fun g_25 eg_25 => ?_)
      rw [← eg_25] at hw
      refine lv_bipush (v := -2) hx hb dX6_leastTermOf_26 (by decide) ?_
      refine lv_icmp_eq (tgt := 48) hx hb dX6_leastTermOf_28 (by decide) (fun c_28 => ?_) (fun c_28 => ?_)
      · have hw := hw.1 c_28
        exact tb_X6_leastTermOf_48 C ih L f a0 a1 a2 a3 hw H locs hP hD hS ls (lv_sub hl [0, 1, 2, 3] rfl)
      · have hw := hw.2 c_28
        refine lv_aload_n hx hb dX6_leastTermOf_31 rfl (lv_at hl 0 rfl) ?_
        obtain ⟨fs_32, g_32, ⟨hL9, hf9, hn9⟩, hw⟩ := hw
        refine va_get (D := (dC, dI)) (ci := 7) (v := .ref g_32) (C := RX6) (T := TX6) (N := 13) hx hb hts iw_X6_leastTermOf_RX6 hown hK (p_one hP hL9 hf9) 0 rfl rfl 0 (by decide) (hts _ lk_X6_leastTermOf_30) (fun _ h9 => h9) hn9 dX6_leastTermOf_32 ?_
        refine lv_iload_n hx hb dX6_leastTermOf_35 rfl (lv_at hl 3 rfl) ?_
        obtain ⟨hO9, hw⟩ := hw
        have hFc := p_free hD hS hA
        refine va_callr (va_runV (As := [.int a3]) (rest := []) ⟨hx, hb, hml, hown, hts⟩ (c_X1_termAt l dC dI dA zz base L f H.size g_32 a3 _ hw) (cwV 1 hts gX6_leastTermOf_X1_termAt rfl rfl rfl (by decide +kernel) ⟨by decide, by decide⟩) (pPreV [.int a3] (ci := 2) rfl hO9 hK hP hD hS hB hz hN hT) rfl rfl hl.1 rfl (lv_room (Nat.le_of_ble_eq_true rfl)) dX6_leastTermOf_36 ⟨by decide, by decide⟩) hS (fun q _ h => hFc q h) hFc (fun u ra t H1 locs ht hvm hw hB1 hz1 hk1 hS => ?_)
        obtain ⟨r_36, L_36, f_36⟩ := u
        obtain ⟨hra, hP, -, hD1⟩ := hB1
        rw [show ra = r_36 from hra]
        rw [ht] at hP
        have hw := id hw
        have hP : va_P (dC, dI) vwCl (va_pl L_36 f_36) H1 := hP
        have hD : va_D A (va_pl L_36 f_36) := p_gain hD1 hFc
        generalize H1 = H at hP hS ⊢
        refine W.eq (g2 := F0 m 39 ls (.ref r_36 :: [])) rfl ?_
        obtain ⟨fs_39, g_39, ⟨hL9, hf9, hn9⟩, hw⟩ := hw
        refine va_get (D := (dC, dI)) (ci := 6) (v := .int g_39) (C := RX5) (T := TX5) (N := 5) hx hb hts iw_X6_leastTermOf_RX5 hown hK (p_one hP hL9 hf9) 0 rfl rfl 2 (by decide) (hts _ lk_X6_leastTermOf_134) (fun _ h9 => h9) hn9 dX6_leastTermOf_39 ?_
        refine lv_iload_n hx hb dX6_leastTermOf_42 rfl (lv_at hl 1 rfl) ?_
        refine lv_icmp_ne (tgt := 48) hx hb dX6_leastTermOf_43 (by decide) (fun c_43 => ?_) (fun c_43 => ?_)
        · have hw := hw.1 c_43
          exact tb_X6_leastTermOf_48 C ih L_36 f_36 a0 a1 a2 a3 hw H locs hP hD hS ls (lv_sub hl [0, 1, 2, 3] rfl)
        · have hw := hw.2 c_43
          refine lv_iload_n hx hb dX6_leastTermOf_46 rfl (lv_at hl 3 rfl) ?_
          exact W.iret (v := a3) hx hb hr (fun t ht hW => ⟨⟨a3, (L_36, f_36), rfl, hw, by rw [ht]; exact hP, va_K.moved hW.alike hK, hD⟩, hS.F ht⟩) hS.2.2 dX6_leastTermOf_47
set_option maxHeartbeats 4000000 in
set_option maxRecDepth 100000 in
theorem tb_X6_leastTermOf_0 {p : Program} {l : Launch} {e : Env} {s : State} {m : MethodId} {below : List Frame} {meth : Method} {c : Code} {args : Array Value} {dC : Nat → ClassId} {dI : Nat → Nat → Nat} {dA : Nat → ClassId} {zz : Nat → Nat} {base : Nat} {A : Nat → Prop} {Q : Int32 → List Nat → pF → Prop} (C : pCx p s m args meth c cX6_leastTermOf 4 (some .int) RX6 wsX6_leastTermOf A dC dI dA zz base) : ∀ (L : List Nat) (f : pF) (a0 : Nat) (a1 : Int32), wp_X6_leastTermOf_0 dA zz Q  L f a0 a1 → pAt p l e rm_X6_leastTermOf s m args below meth c dC dI A (MQ below (va_Qi (fun r (u : List Nat × pF) => Q r u.1 u.2) (pB dC dI dA A) A) args s 0 0 A) 0 0 0 4 [(0, .ref a0), (1, .int a1)] [] L f := by
  obtain ⟨hx, hb, hml, hown, hts, hr, hlocks, hA, hK, hB, hz, hN, hT⟩ := id C
  intro L f a0 a1 hw H locs hP hD hS ls hl
  rw [wp_X6_leastTermOf_0] at hw
  refine lv_aload_n hx hb dX6_leastTermOf_0 rfl (lv_at hl 0 rfl) ?_
  obtain ⟨fs_1, g_1, ⟨hL9, hf9, hn9⟩, hw⟩ := hw
  refine va_get (D := (dC, dI)) (ci := 7) (v := .ref g_1) (C := RX6) (T := TX6) (N := 13) hx hb hts iw_X6_leastTermOf_RX6 hown hK (p_one hP hL9 hf9) 0 rfl rfl 0 (by decide) (hts _ lk_X6_leastTermOf_30) (fun _ h9 => h9) hn9 dX6_leastTermOf_1 ?_
  obtain ⟨hO9, hw⟩ := hw
  have hFc := p_free hD hS hA
  refine va_calli (va_runV (As := []) (rest := []) ⟨hx, hb, hml, hown, hts⟩ (c_X1_termsHeld l dC dI dA zz base L f H.size g_1  _ hw) (cwV 0 hts gX6_leastTermOf_X1_termsHeld rfl rfl rfl (by decide +kernel) ⟨by decide, by decide⟩) (pPreV [] (ci := 2) rfl hO9 hK hP hD hS hB hz hN hT) rfl rfl hl.1 rfl (lv_room (Nat.le_of_ble_eq_true rfl)) dX6_leastTermOf_4 ⟨by decide, by decide⟩) hS (fun q _ h => hFc q h) hFc (fun r_4 u t H1 locs ht hvm hw hB1 hz1 hk1 hS => ?_)
  obtain ⟨L_4, f_4⟩ := u
  obtain ⟨hP, -, hD1⟩ := hB1
  rw [ht] at hP
  have hw := id hw
  have hP : va_P (dC, dI) vwCl (va_pl L_4 f_4) H1 := hP
  have hD : va_D A (va_pl L_4 f_4) := p_gain hD1 hFc
  generalize H1 = H at hP hS ⊢
  refine lv_bipush (v := 60) hx hb dX6_leastTermOf_7 (by decide) ?_
  refine va_mmin hx hb (by rw [hml]; exact hl.1.symm) hown (hts _ lm_X6_leastTermOf_92) (hts _ lmm1_X6_leastTermOf_min) (hts _ lmm2_X6_leastTermOf_min) (hts _ lmm3_X6_leastTermOf_min) (Nat.le_of_ble_eq_true rfl) (Nat.le_of_ble_eq_true rfl) (Nat.le_of_ble_eq_true rfl) (Nat.le_of_ble_eq_true rfl) dX6_leastTermOf_9 ?_
  refine lv_topi (fun m_9 em_9 => ?_)
  have hw := hw m_9 em_9
  refine lv_istore_n (lv' := [(2, .int m_9), (0, .ref a0), (1, .int a1)]) hx hb dX6_leastTermOf_12 rfl hl (by decide) rfl (fun ls hl => ?_)
  refine lv_iconst (v := 0) hx hb dX6_leastTermOf_13 (by decide) ?_
  refine lv_istore_n (lv' := [(3, .int (0 : Int32)), (2, .int m_9), (0, .ref a0), (1, .int a1)]) hx hb dX6_leastTermOf_14 rfl hl (by decide) rfl (fun ls hl => ?_)
  obtain ⟨n9, hw⟩ := hw
  exact tb_X6_leastTermOf_15 C  n9 L_4 f_4 a0 a1 m_9 (0 : Int32) hw H locs hP hD hS ls (lv_sub hl [2, 3, 1, 0] rfl)
set_option maxHeartbeats 4000000 in
set_option maxRecDepth 100000 in
theorem c_X6_leastTermOf (l : Launch) (dC : Nat → ClassId) (dI : Nat → Nat → Nat) (dA : Nat → ClassId) (zz : Nat → Nat) (base : Nat) (L : List Nat) (f : pF) (sz : Nat) (a0 : Nat) (a1 : Int32) (Q : Int32 → List Nat → pF → Prop) (hw : wp_X6_leastTermOf_0 dA zz Q L f a0 a1) : Met l yX6_leastTermOf wsX6_leastTermOf rm_X6_leastTermOf (va_Pc [.ref a0, .int a1] (pPre dC dI dA zz base L f sz)) (va_Qi (fun r (u : List Nat × pF) => Q r u.1 u.2) (pB dC dI dA (va_A (va_pl L f) sz)) (va_A (va_pl L f) sz)) 0 0 (va_A (va_pl L f) sz) := by
  refine Met.ofW (cc := cX6_leastTermOf) (maxL := 4) (ret := (some .int)) (by decide) rfl ?_
  intro p e s m args below meth c s₁ B hml hv
  obtain ⟨rfl, hsz, hP, hK, hD0, hz, hN, hT⟩ := hv
  subst hsz
  have hl := lv_entry ([.ref a0, .int a1]) (n := 4) (Nat.le_of_ble_eq_true rfl)
  rw [lg_entry_eq]
  generalize (lg_sl ([.ref a0, .int a1]) ++ List.replicate (4 - (lg_sl ([.ref a0, .int a1])).length) Slot.unset).toArray = ls at hl ⊢
  exact tb_X6_leastTermOf_0 (Q := Q) (p := p) ⟨B.exec, B.bytes, hml, findClass_of_methodNamed B.named, atoms_spec (ws := wsX6_leastTermOf) B.pre, B.returns, B.notSynchronized, fun q h => Or.inr h, hK, pAB hD0 hz, hz, hN, hT⟩ L f a0 a1 hw s.heap [] hP (hD0.self (sz := s.heap.size)) va_S.rf ls (lv_sub hl [0, 1] rfl)
theorem iw_X6_see_RX5 : ∀ w ∈ u_ws RX5 TX5 5, w ∈ wsX6_see := by decide +kernel
theorem iw_X6_see_RX6 : ∀ w ∈ u_ws RX6 TX6 13, w ∈ wsX6_see := by decide +kernel
theorem lk_X6_see_134 : Cond.fieldLink RX6 134 "TermKeeper$Term" "thing" "I" ∈ wsX6_see := by decide +kernel
theorem lk_X6_see_140 : Cond.fieldLink RX6 140 "TermKeeper$Term" "kind" "I" ∈ wsX6_see := by decide +kernel
theorem lk_X6_see_30 : Cond.fieldLink RX6 30 "TermKeeper$Uses" "glossary" "LTermKeeper$Glossary;" ∈ wsX6_see := by decide +kernel
theorem lk_X6_see_55 : Cond.fieldLink RX6 55 "TermKeeper$Uses" "termsSeen" "J" ∈ wsX6_see := by decide +kernel
theorem lk_X6_see_59 : Cond.fieldLink RX6 59 "TermKeeper$Uses" "thingsSeen" "J" ∈ wsX6_see := by decide +kernel
theorem lk_X6_see_66 : Cond.fieldLink RX6 66 "TermKeeper$Uses" "thingsSpelled" "J" ∈ wsX6_see := by decide +kernel
abbrev rm_X6_see : Room := { frames := 4, cells := 0, slots := 0, locals := 85 }
def wp_X6_see_0 (dA : Nat → ClassId) (zz : Nat → Nat) (Q : List Nat → pF → Prop) (L : List Nat) (f : pF) (a0 : Nat) (a1 : Int32) : Prop :=
    (gR L f 7 a0 0 (fun g_1 =>
      (isO L f 2 g_1 ∧
        (wp_X1_holdsTerm_0 dA zz (fun r_5 L_5 f_5 =>
          ((¬ r_5 = 0 →
            (gR L_5 f_5 7 a0 0 (fun g_13 =>
              (isO L_5 f_5 2 g_13 ∧
                (wp_X1_termAt_0 dA zz (fun r_17 L_17 f_17 =>
                  (gJ L_17 f_17 7 a0 10 (fun g_23 =>
                    (gP L_17 f_17 7 a0 10 (.long (g_23 ||| ((1 : Int64) <<< (Int32.toInt64 a1 &&& 63)))) (fun f_30 =>
                      (gJ L_17 f_30 7 a0 11 (fun g_35 =>
                        (gI L_17 f_30 6 r_17 2 (fun g_40 =>
                          (gP L_17 f_30 7 a0 11 (.long (g_35 ||| ((1 : Int64) <<< (Int32.toInt64 g_40 &&& 63)))) (fun f_45 =>
                            (gI L_17 f_45 6 r_17 4 (fun g_49 =>
                              ((¬ g_49 = 0 →
                                (Q L_17 f_45))
                               ∧ (g_49 = 0 →
                                (gJ L_17 f_45 7 a0 12 (fun g_57 =>
                                  (gI L_17 f_45 6 r_17 2 (fun g_62 =>
                                    (gP L_17 f_45 7 a0 12 (.long (g_57 ||| ((1 : Int64) <<< (Int32.toInt64 g_62 &&& 63)))) (fun f_67 =>
                                      (Q L_17 f_67)))))))))))))))))))))) L_5 f_5 g_13 a1)))))
           ∧ (r_5 = 0 →
            (Q L_5 f_5)))) L f g_1 a1))))
set_option maxHeartbeats 4000000 in
set_option maxRecDepth 100000 in
theorem tb_X6_see_0 {p : Program} {l : Launch} {e : Env} {s : State} {m : MethodId} {below : List Frame} {meth : Method} {c : Code} {args : Array Value} {dC : Nat → ClassId} {dI : Nat → Nat → Nat} {dA : Nat → ClassId} {zz : Nat → Nat} {base : Nat} {A : Nat → Prop} {Q : List Nat → pF → Prop} (C : pCx p s m args meth c cX6_see 3 none RX6 wsX6_see A dC dI dA zz base) : ∀ (L : List Nat) (f : pF) (a0 : Nat) (a1 : Int32), wp_X6_see_0 dA zz Q  L f a0 a1 → pAt p l e rm_X6_see s m args below meth c dC dI A (MQ below (va_Qv (fun (u : List Nat × pF) => Q u.1 u.2) (pB dC dI dA A) A) args s 0 0 A) 0 0 0 3 [(0, .ref a0), (1, .int a1)] [] L f := by
  obtain ⟨hx, hb, hml, hown, hts, hr, hlocks, hA, hK, hB, hz, hN, hT⟩ := id C
  intro L f a0 a1 hw H locs hP hD hS ls hl
  rw [wp_X6_see_0] at hw
  refine lv_aload_n hx hb dX6_see_0 rfl (lv_at hl 0 rfl) ?_
  obtain ⟨fs_1, g_1, ⟨hL9, hf9, hn9⟩, hw⟩ := hw
  refine va_get (D := (dC, dI)) (ci := 7) (v := .ref g_1) (C := RX6) (T := TX6) (N := 13) hx hb hts iw_X6_see_RX6 hown hK (p_one hP hL9 hf9) 0 rfl rfl 0 (by decide) (hts _ lk_X6_see_30) (fun _ h9 => h9) hn9 dX6_see_1 ?_
  refine lv_iload_n hx hb dX6_see_4 rfl (lv_at hl 1 rfl) ?_
  obtain ⟨hO9, hw⟩ := hw
  have hFc := p_free hD hS hA
  refine va_calli (va_runV (As := [.int a1]) (rest := []) ⟨hx, hb, hml, hown, hts⟩ (c_X1_holdsTerm l dC dI dA zz base L f H.size g_1 a1 _ hw) (cwV 1 hts gX6_see_X1_holdsTerm rfl rfl rfl (by decide +kernel) ⟨by decide, by decide⟩) (pPreV [.int a1] (ci := 2) rfl hO9 hK hP hD hS hB hz hN hT) rfl rfl hl.1 rfl (lv_room (Nat.le_of_ble_eq_true rfl)) dX6_see_5 ⟨by decide, by decide⟩) hS (fun q _ h => hFc q h) hFc (fun r_5 u t H1 locs ht hvm hw hB1 hz1 hk1 hS => ?_)
  obtain ⟨L_5, f_5⟩ := u
  obtain ⟨hP, -, hD1⟩ := hB1
  rw [ht] at hP
  have hw := id hw
  have hP : va_P (dC, dI) vwCl (va_pl L_5 f_5) H1 := hP
  have hD : va_D A (va_pl L_5 f_5) := p_gain hD1 hFc
  generalize H1 = H at hP hS ⊢
  refine lv_if_ne (tgt := 12) hx hb dX6_see_8 (by decide) (fun c_8 => ?_) (fun c_8 => ?_)
  · have hw := hw.1 c_8
    refine lv_aload_n hx hb dX6_see_12 rfl (lv_at hl 0 rfl) ?_
    obtain ⟨fs_13, g_13, ⟨hL9, hf9, hn9⟩, hw⟩ := hw
    refine va_get (D := (dC, dI)) (ci := 7) (v := .ref g_13) (C := RX6) (T := TX6) (N := 13) hx hb hts iw_X6_see_RX6 hown hK (p_one hP hL9 hf9) 0 rfl rfl 0 (by decide) (hts _ lk_X6_see_30) (fun _ h9 => h9) hn9 dX6_see_13 ?_
    refine lv_iload_n hx hb dX6_see_16 rfl (lv_at hl 1 rfl) ?_
    obtain ⟨hO9, hw⟩ := hw
    have hFc := p_free hD hS hA
    refine va_callr (va_runV (As := [.int a1]) (rest := []) ⟨hx, hb, hml, hown, hts⟩ (c_X1_termAt l dC dI dA zz base L_5 f_5 H.size g_13 a1 _ hw) (cwV 1 hts gX6_see_X1_termAt rfl rfl rfl (by decide +kernel) ⟨by decide, by decide⟩) (pPreV [.int a1] (ci := 2) rfl hO9 hK hP hD hS hB hz hN hT) rfl rfl hl.1 rfl (lv_room (Nat.le_of_ble_eq_true rfl)) dX6_see_17 ⟨by decide, by decide⟩) hS (fun q _ h => hFc q h) hFc (fun u ra t H1 locs ht hvm hw hB1 hz1 hk1 hS => ?_)
    obtain ⟨r_17, L_17, f_17⟩ := u
    obtain ⟨hra, hP, -, hD1⟩ := hB1
    rw [show ra = r_17 from hra]
    rw [ht] at hP
    have hw := id hw
    have hP : va_P (dC, dI) vwCl (va_pl L_17 f_17) H1 := hP
    have hD : va_D A (va_pl L_17 f_17) := p_gain hD1 hFc
    generalize H1 = H at hP hS ⊢
    refine W.eq (g2 := F0 m 20 ls (.ref r_17 :: [])) rfl ?_
    refine lv_astore_n (lv' := [(2, .ref r_17), (0, .ref a0), (1, .int a1)]) hx hb dX6_see_20 rfl hl (by decide) rfl (fun ls hl => ?_)
    refine lv_aload_n hx hb dX6_see_21 rfl (lv_at hl 1 rfl) ?_
    refine lv_dup hx hb dX6_see_22 rfl ?_
    obtain ⟨fs_23, g_23, ⟨hL9, hf9, hn9⟩, hw⟩ := hw
    refine va_get (D := (dC, dI)) (ci := 7) (v := .long g_23) (C := RX6) (T := TX6) (N := 13) hx hb hts iw_X6_see_RX6 hown hK (p_one hP hL9 hf9) 0 rfl rfl 10 (by decide) (hts _ lk_X6_see_55) (fun _ h9 => h9) hn9 dX6_see_23 ?_
    refine lv_lconst (v := 1) hx hb dX6_see_26 (by decide) ?_
    refine lv_iload_n hx hb dX6_see_27 rfl (lv_at hl 2 rfl) ?_
    refine lv_lshl hx hb dX6_see_28 rfl ?_
    refine lv_lor hx hb dX6_see_29 ?_
    obtain ⟨fs_30, ⟨hL9, hf9, hn9⟩, hw⟩ := hw
    obtain ⟨kq9, hkq9⟩ := p_at hL9 hf9
    refine va_put (D := (dC, dI)) (ci := 7) (v := .long (g_23 ||| ((1 : Int64) <<< (Int32.toInt64 a1 &&& 63)))) (C := RX6) (T := TX6) (N := 13) hx hb hts iw_X6_see_RX6 tyX6 tyX6_ok nmX6 hown hK hP hD hS kq9 hkq9 rfl 10 (by decide) (hts _ lk_X6_see_55) (fun _ h9 => h9) rfl (tyX6_ok 10 (by decide)) rfl rfl hn9 dX6_see_30 (fun H locs hP2 hD2 hS => ?_)
    rw [p_set hD hL9 hf9 hkq9] at hP2 hD2
    obtain ⟨f_30, ef_30⟩ : ∃ y : pF, y = va_up f_17 a0 (.inr (7, fs_30.set 10 (.long (g_23 ||| ((1 : Int64) <<< (Int32.toInt64 a1 &&& 63)))))) := ⟨_, rfl⟩
    rw [← ef_30] at hP2 hD2
    have hw := hw f_30 ef_30
    have hP := hP2
    have hD := hD2
    refine lv_aload_n hx hb dX6_see_33 rfl (lv_at hl 1 rfl) ?_
    refine lv_dup hx hb dX6_see_34 rfl ?_
    obtain ⟨fs_35, g_35, ⟨hL9, hf9, hn9⟩, hw⟩ := hw
    refine va_get (D := (dC, dI)) (ci := 7) (v := .long g_35) (C := RX6) (T := TX6) (N := 13) hx hb hts iw_X6_see_RX6 hown hK (p_one hP hL9 hf9) 0 rfl rfl 11 (by decide) (hts _ lk_X6_see_59) (fun _ h9 => h9) hn9 dX6_see_35 ?_
    refine lv_lconst (v := 1) hx hb dX6_see_38 (by decide) ?_
    refine lv_aload_n hx hb dX6_see_39 rfl (lv_at hl 0 rfl) ?_
    obtain ⟨fs_40, g_40, ⟨hL9, hf9, hn9⟩, hw⟩ := hw
    refine va_get (D := (dC, dI)) (ci := 6) (v := .int g_40) (C := RX5) (T := TX5) (N := 5) hx hb hts iw_X6_see_RX5 hown hK (p_one hP hL9 hf9) 0 rfl rfl 2 (by decide) (hts _ lk_X6_see_134) (fun _ h9 => h9) hn9 dX6_see_40 ?_
    refine lv_lshl hx hb dX6_see_43 rfl ?_
    refine lv_lor hx hb dX6_see_44 ?_
    obtain ⟨fs_45, ⟨hL9, hf9, hn9⟩, hw⟩ := hw
    obtain ⟨kq9, hkq9⟩ := p_at hL9 hf9
    refine va_put (D := (dC, dI)) (ci := 7) (v := .long (g_35 ||| ((1 : Int64) <<< (Int32.toInt64 g_40 &&& 63)))) (C := RX6) (T := TX6) (N := 13) hx hb hts iw_X6_see_RX6 tyX6 tyX6_ok nmX6 hown hK hP hD hS kq9 hkq9 rfl 11 (by decide) (hts _ lk_X6_see_59) (fun _ h9 => h9) rfl (tyX6_ok 11 (by decide)) rfl rfl hn9 dX6_see_45 (fun H locs hP2 hD2 hS => ?_)
    rw [p_set hD hL9 hf9 hkq9] at hP2 hD2
    obtain ⟨f_45, ef_45⟩ : ∃ y : pF, y = va_up f_30 a0 (.inr (7, fs_45.set 11 (.long (g_35 ||| ((1 : Int64) <<< (Int32.toInt64 g_40 &&& 63)))))) := ⟨_, rfl⟩
    rw [← ef_45] at hP2 hD2
    have hw := hw f_45 ef_45
    have hP := hP2
    have hD := hD2
    refine lv_aload_n hx hb dX6_see_48 rfl (lv_at hl 0 rfl) ?_
    obtain ⟨fs_49, g_49, ⟨hL9, hf9, hn9⟩, hw⟩ := hw
    refine va_get (D := (dC, dI)) (ci := 6) (v := .int g_49) (C := RX5) (T := TX5) (N := 5) hx hb hts iw_X6_see_RX5 hown hK (p_one hP hL9 hf9) 0 rfl rfl 4 (by decide) (hts _ lk_X6_see_140) (fun _ h9 => h9) hn9 dX6_see_49 ?_
    refine lv_if_ne (tgt := 70) hx hb dX6_see_52 (by decide) (fun c_52 => ?_) (fun c_52 => ?_)
    · have hw := hw.1 c_52
      exact W.vret hx hb hr (fun t ht hW => ⟨⟨(L_17, f_45), rfl, hw, by rw [ht]; exact hP, va_K.moved hW.alike hK, hD⟩, hS.F ht⟩) hS.2.2 dX6_see_70
    · have hw := hw.2 c_52
      refine lv_aload_n hx hb dX6_see_55 rfl (lv_at hl 1 rfl) ?_
      refine lv_dup hx hb dX6_see_56 rfl ?_
      obtain ⟨fs_57, g_57, ⟨hL9, hf9, hn9⟩, hw⟩ := hw
      refine va_get (D := (dC, dI)) (ci := 7) (v := .long g_57) (C := RX6) (T := TX6) (N := 13) hx hb hts iw_X6_see_RX6 hown hK (p_one hP hL9 hf9) 0 rfl rfl 12 (by decide) (hts _ lk_X6_see_66) (fun _ h9 => h9) hn9 dX6_see_57 ?_
      refine lv_lconst (v := 1) hx hb dX6_see_60 (by decide) ?_
      refine lv_aload_n hx hb dX6_see_61 rfl (lv_at hl 0 rfl) ?_
      obtain ⟨fs_62, g_62, ⟨hL9, hf9, hn9⟩, hw⟩ := hw
      refine va_get (D := (dC, dI)) (ci := 6) (v := .int g_62) (C := RX5) (T := TX5) (N := 5) hx hb hts iw_X6_see_RX5 hown hK (p_one hP hL9 hf9) 0 rfl rfl 2 (by decide) (hts _ lk_X6_see_134) (fun _ h9 => h9) hn9 dX6_see_62 ?_
      refine lv_lshl hx hb dX6_see_65 rfl ?_
      refine lv_lor hx hb dX6_see_66 ?_
      obtain ⟨fs_67, ⟨hL9, hf9, hn9⟩, hw⟩ := hw
      obtain ⟨kq9, hkq9⟩ := p_at hL9 hf9
      refine va_put (D := (dC, dI)) (ci := 7) (v := .long (g_57 ||| ((1 : Int64) <<< (Int32.toInt64 g_62 &&& 63)))) (C := RX6) (T := TX6) (N := 13) hx hb hts iw_X6_see_RX6 tyX6 tyX6_ok nmX6 hown hK hP hD hS kq9 hkq9 rfl 12 (by decide) (hts _ lk_X6_see_66) (fun _ h9 => h9) rfl (tyX6_ok 12 (by decide)) rfl rfl hn9 dX6_see_67 (fun H locs hP2 hD2 hS => ?_)
      rw [p_set hD hL9 hf9 hkq9] at hP2 hD2
      obtain ⟨f_67, ef_67⟩ : ∃ y : pF, y = va_up f_45 a0 (.inr (7, fs_67.set 12 (.long (g_57 ||| ((1 : Int64) <<< (Int32.toInt64 g_62 &&& 63)))))) := ⟨_, rfl⟩
      rw [← ef_67] at hP2 hD2
      have hw := hw f_67 ef_67
      have hP := hP2
      have hD := hD2
      exact W.vret hx hb hr (fun t ht hW => ⟨⟨(L_17, f_67), rfl, hw, by rw [ht]; exact hP, va_K.moved hW.alike hK, hD⟩, hS.F ht⟩) hS.2.2 dX6_see_70
  · have hw := hw.2 c_8
    exact W.vret hx hb hr (fun t ht hW => ⟨⟨(L_5, f_5), rfl, hw, by rw [ht]; exact hP, va_K.moved hW.alike hK, hD⟩, hS.F ht⟩) hS.2.2 dX6_see_11
set_option maxHeartbeats 4000000 in
set_option maxRecDepth 100000 in
theorem c_X6_see (l : Launch) (dC : Nat → ClassId) (dI : Nat → Nat → Nat) (dA : Nat → ClassId) (zz : Nat → Nat) (base : Nat) (L : List Nat) (f : pF) (sz : Nat) (a0 : Nat) (a1 : Int32) (Q : List Nat → pF → Prop) (hw : wp_X6_see_0 dA zz Q L f a0 a1) : Met l yX6_see wsX6_see rm_X6_see (va_Pc [.ref a0, .int a1] (pPre dC dI dA zz base L f sz)) (va_Qv (fun (u : List Nat × pF) => Q u.1 u.2) (pB dC dI dA (va_A (va_pl L f) sz)) (va_A (va_pl L f) sz)) 0 0 (va_A (va_pl L f) sz) := by
  refine Met.ofW (cc := cX6_see) (maxL := 3) (ret := none) (by decide) rfl ?_
  intro p e s m args below meth c s₁ B hml hv
  obtain ⟨rfl, hsz, hP, hK, hD0, hz, hN, hT⟩ := hv
  subst hsz
  have hl := lv_entry ([.ref a0, .int a1]) (n := 3) (Nat.le_of_ble_eq_true rfl)
  rw [lg_entry_eq]
  generalize (lg_sl ([.ref a0, .int a1]) ++ List.replicate (3 - (lg_sl ([.ref a0, .int a1])).length) Slot.unset).toArray = ls at hl ⊢
  exact tb_X6_see_0 (Q := Q) (p := p) ⟨B.exec, B.bytes, hml, findClass_of_methodNamed B.named, atoms_spec (ws := wsX6_see) B.pre, B.returns, B.notSynchronized, fun q h => Or.inr h, hK, pAB hD0 hz, hz, hN, hT⟩ L f a0 a1 hw s.heap [] hP (hD0.self (sz := s.heap.size)) va_S.rf ls (lv_sub hl [0, 1] rfl)
theorem iw_X6_thingsPossible_RX5 : ∀ w ∈ u_ws RX5 TX5 5, w ∈ wsX6_thingsPossible := by decide +kernel
theorem iw_X6_thingsPossible_RX6 : ∀ w ∈ u_ws RX6 TX6 13, w ∈ wsX6_thingsPossible := by decide +kernel
theorem lk_X6_thingsPossible_134 : Cond.fieldLink RX6 134 "TermKeeper$Term" "thing" "I" ∈ wsX6_thingsPossible := by decide +kernel
theorem lk_X6_thingsPossible_30 : Cond.fieldLink RX6 30 "TermKeeper$Uses" "glossary" "LTermKeeper$Glossary;" ∈ wsX6_thingsPossible := by decide +kernel
theorem lk_X6_thingsPossible_9 : Cond.fieldLink RX6 9 "TermKeeper$Uses" "ways" "[I" ∈ wsX6_thingsPossible := by decide +kernel
theorem lm_X6_thingsPossible_92 : Cond.methodLink RX6 92 Lib.Math.min.name ∈ wsX6_thingsPossible := by decide +kernel
theorem lmm1_X6_thingsPossible_min : Cond.static Lib.Math.min.name ∈ wsX6_thingsPossible := by decide +kernel
theorem lmm2_X6_thingsPossible_min : Cond.initialized "java/lang/Math" ∈ wsX6_thingsPossible := by decide +kernel
theorem lmm3_X6_thingsPossible_min : Cond.code Lib.Math.min.name Lib.Math.min.code 2 (some .int) ∈ wsX6_thingsPossible := by decide +kernel
abbrev rm_X6_thingsPossible : Room := { frames := 4, cells := 0, slots := 0, locals := 85 }
def wp_X6_thingsPossible_53 (dA : Nat → ClassId) (zz : Nat → Nat) (Q : Int64 → List Nat → pF → Prop) (k18_ : List Nat → pF → Nat → Int32 → Int64 → Int32 → Prop) (L : List Nat) (f : pF) (a0 : Nat) (a1 : Int32) (a2 : Int64) (a4 : Int32) : Prop :=
    (∀ v4_53 : Int32, v4_53 = a4 + (1 : Int32) →
      (k18_ L f a0 a1 a2 v4_53))
def wp_X6_thingsPossible_18 (dA : Nat → ClassId) (zz : Nat → Nat) (Q : Int64 → List Nat → pF → Prop) : Nat → List Nat → pF → Nat → Int32 → Int64 → Int32 → Prop
  | 0, _, _, _, _, _, _ => False
  | n + 1, L, f, a0, a1, a2, a4 =>
    ((a1 ≤ a4 →
      (Q a2 L f))
     ∧ (¬ a1 ≤ a4 →
      (gR L f 7 a0 3 (fun g_25 =>
        (aI L f (dA 1) g_25 a4 (fun g_30 =>
          ((g_30 = (-2 : Int32) →
            (wp_X6_thingsPossible_53 dA zz Q (wp_X6_thingsPossible_18 dA zz Q  n) L f a0 a1 a2 a4))
           ∧ (¬ g_30 = (-2 : Int32) →
            (gR L f 7 a0 0 (fun g_39 =>
              (isO L f 2 g_39 ∧
                (wp_X1_termAt_0 dA zz (fun r_44 L_44 f_44 =>
                  (gI L_44 f_44 6 r_44 2 (fun g_47 =>
                    (∀ v2_52 : Int64, v2_52 = (a2 ||| ((1 : Int64) <<< (Int32.toInt64 g_47 &&& 63))) →
                      (wp_X6_thingsPossible_53 dA zz Q (wp_X6_thingsPossible_18 dA zz Q  n) L_44 f_44 a0 a1 v2_52 a4))))) L f g_39 a4))))))))))))
def wp_X6_thingsPossible_0 (dA : Nat → ClassId) (zz : Nat → Nat) (Q : Int64 → List Nat → pF → Prop) (L : List Nat) (f : pF) (a0 : Nat) : Prop :=
    (gR L f 7 a0 0 (fun g_1 =>
      (isO L f 2 g_1 ∧
        (wp_X1_termsHeld_0 dA zz (fun r_4 L_4 f_4 =>
          (∀ m_9 : Int32, m_9 = (if (60 : Int32) < r_4 then (60 : Int32) else r_4) →
            (∃ n9 : Nat, wp_X6_thingsPossible_18 dA zz Q  n9 L_4 f_4 a0 m_9 (0 : Int64) (0 : Int32)))) L f g_1 ))))
set_option maxHeartbeats 4000000 in
set_option maxRecDepth 100000 in
theorem tb_X6_thingsPossible_53 {p : Program} {l : Launch} {e : Env} {s : State} {m : MethodId} {below : List Frame} {meth : Method} {c : Code} {args : Array Value} {dC : Nat → ClassId} {dI : Nat → Nat → Nat} {dA : Nat → ClassId} {zz : Nat → Nat} {base : Nat} {A : Nat → Prop} {Q : Int64 → List Nat → pF → Prop} (C : pCx p s m args meth c cX6_thingsPossible 5 (some .long) RX6 wsX6_thingsPossible A dC dI dA zz base) {k18_ : List Nat → pF → Nat → Int32 → Int64 → Int32 → Prop} (h18_ : ∀ (L : List Nat) (f : pF) (a0 : Nat) (a1 : Int32) (a2 : Int64) (a4 : Int32), k18_ L f a0 a1 a2 a4 → pAt p l e rm_X6_thingsPossible s m args below meth c dC dI A (MQ below (va_Ql (fun r (u : List Nat × pF) => Q r u.1 u.2) (pB dC dI dA A) A) args s 0 0 A) 0 0 18 5 [(0, .ref a0), (1, .int a1), (2, .long a2), (4, .int a4)] [] L f) : ∀ (L : List Nat) (f : pF) (a0 : Nat) (a1 : Int32) (a2 : Int64) (a4 : Int32), wp_X6_thingsPossible_53 dA zz Q k18_ L f a0 a1 a2 a4 → pAt p l e rm_X6_thingsPossible s m args below meth c dC dI A (MQ below (va_Ql (fun r (u : List Nat × pF) => Q r u.1 u.2) (pB dC dI dA A) A) args s 0 0 A) 0 0 53 5 [(0, .ref a0), (1, .int a1), (2, .long a2), (4, .int a4)] [] L f := by
  obtain ⟨hx, hb, hml, hown, hts, hr, hlocks, hA, hK, hB, hz, hN, hT⟩ := id C
  intro L f a0 a1 a2 a4 hw H locs hP hD hS ls hl
  rw [wp_X6_thingsPossible_53] at hw
  obtain ⟨v4_53, ev4_53⟩ : ∃ y : Int32, y = a4 + (1 : Int32) := ⟨_, rfl⟩
  have hw := hw v4_53 ev4_53
  refine lv_iinc (v := v4_53) (lv' := [(4, .int v4_53), (0, .ref a0), (1, .int a1), (2, .long a2)]) hx hb dX6_thingsPossible_53 hl (k := 3) rfl (by rw [ev4_53]; rfl) (by decide) rfl (fun ls hl => ?_)
  refine lv_goto (tgt := 18) hx hb dX6_thingsPossible_56 (by decide) ?_
  exact h18_ L f a0 a1 a2 v4_53 hw H locs hP hD hS ls (lv_sub hl [1, 2, 3, 0] rfl)
set_option maxHeartbeats 4000000 in
set_option maxRecDepth 100000 in
theorem tb_X6_thingsPossible_18 {p : Program} {l : Launch} {e : Env} {s : State} {m : MethodId} {below : List Frame} {meth : Method} {c : Code} {args : Array Value} {dC : Nat → ClassId} {dI : Nat → Nat → Nat} {dA : Nat → ClassId} {zz : Nat → Nat} {base : Nat} {A : Nat → Prop} {Q : Int64 → List Nat → pF → Prop} (C : pCx p s m args meth c cX6_thingsPossible 5 (some .long) RX6 wsX6_thingsPossible A dC dI dA zz base) : ∀ (n : Nat) (L : List Nat) (f : pF) (a0 : Nat) (a1 : Int32) (a2 : Int64) (a4 : Int32), wp_X6_thingsPossible_18 dA zz Q  n L f a0 a1 a2 a4 → pAt p l e rm_X6_thingsPossible s m args below meth c dC dI A (MQ below (va_Ql (fun r (u : List Nat × pF) => Q r u.1 u.2) (pB dC dI dA A) A) args s 0 0 A) 0 0 18 5 [(0, .ref a0), (1, .int a1), (2, .long a2), (4, .int a4)] [] L f := by
  obtain ⟨hx, hb, hml, hown, hts, hr, hlocks, hA, hK, hB, hz, hN, hT⟩ := id C
  intro n
  induction n with
  | zero => intro L f a0 a1 a2 a4 hw; exact hw.elim
  | succ n ih =>
    intro L f a0 a1 a2 a4 hw H locs hP hD hS ls hl
    rw [wp_X6_thingsPossible_18] at hw
    refine lv_iload hx hb dX6_thingsPossible_18 (lv_at hl 3 rfl) ?_
    refine lv_iload_n hx hb dX6_thingsPossible_20 rfl (lv_at hl 1 rfl) ?_
    refine lv_icmp_ge (tgt := 59) hx hb dX6_thingsPossible_21 (by decide) (fun c_21 => ?_) (fun c_21 => ?_)
    · have hw := hw.1 c_21
      refine lv_lload_n hx hb dX6_thingsPossible_59 rfl (lv_at hl 2 rfl) ?_
      exact W.lret (v := a2) hx hb hr (fun t ht hW => ⟨⟨a2, (L, f), rfl, hw, by rw [ht]; exact hP, va_K.moved hW.alike hK, hD⟩, hS.F ht⟩) hS.2.2 dX6_thingsPossible_60
    · have hw := hw.2 c_21
      refine lv_aload_n hx hb dX6_thingsPossible_24 rfl (lv_at hl 0 rfl) ?_
      obtain ⟨fs_25, g_25, ⟨hL9, hf9, hn9⟩, hw⟩ := hw
      refine va_get (D := (dC, dI)) (ci := 7) (v := .ref g_25) (C := RX6) (T := TX6) (N := 13) hx hb hts iw_X6_thingsPossible_RX6 hown hK (p_one hP hL9 hf9) 0 rfl rfl 3 (by decide) (hts _ lk_X6_thingsPossible_9) (fun _ h9 => h9) hn9 dX6_thingsPossible_25 ?_
      refine lv_iload hx hb dX6_thingsPossible_28 (lv_at hl 3 rfl) ?_
      obtain ⟨n_30, h_30, ⟨hL9, hf9, hn9⟩, hw⟩ := hw
      refine va_iald hx hb hK (p_one hP hL9 hf9) 0 1 rfl rfl hn9 dX6_thingsPossible_30 ?_
      refine lv_topi (fun g_30 eg_30 => ?_)
      rw [← eg_30] at hw
      refine lv_bipush (v := -2) hx hb dX6_thingsPossible_31 (by decide) ?_
      refine lv_icmp_eq (tgt := 53) hx hb dX6_thingsPossible_33 (by decide) (fun c_33 => ?_) (fun c_33 => ?_)
      · have hw := hw.1 c_33
        exact tb_X6_thingsPossible_53 C ih L f a0 a1 a2 a4 hw H locs hP hD hS ls (lv_sub hl [0, 1, 2, 3] rfl)
      · have hw := hw.2 c_33
        refine lv_lload_n hx hb dX6_thingsPossible_36 rfl (lv_at hl 2 rfl) ?_
        refine lv_lconst (v := 1) hx hb dX6_thingsPossible_37 (by decide) ?_
        refine lv_aload_n hx hb dX6_thingsPossible_38 rfl (lv_at hl 0 rfl) ?_
        obtain ⟨fs_39, g_39, ⟨hL9, hf9, hn9⟩, hw⟩ := hw
        refine va_get (D := (dC, dI)) (ci := 7) (v := .ref g_39) (C := RX6) (T := TX6) (N := 13) hx hb hts iw_X6_thingsPossible_RX6 hown hK (p_one hP hL9 hf9) 0 rfl rfl 0 (by decide) (hts _ lk_X6_thingsPossible_30) (fun _ h9 => h9) hn9 dX6_thingsPossible_39 ?_
        refine lv_iload hx hb dX6_thingsPossible_42 (lv_at hl 3 rfl) ?_
        obtain ⟨hO9, hw⟩ := hw
        have hFc := p_free hD hS hA
        refine va_callr (va_runV (As := [.int a4]) (rest := [.long (1 : Int64), .long a2]) ⟨hx, hb, hml, hown, hts⟩ (c_X1_termAt l dC dI dA zz base L f H.size g_39 a4 _ hw) (cwV 1 hts gX6_thingsPossible_X1_termAt rfl rfl rfl (by decide +kernel) ⟨by decide, by decide⟩) (pPreV [.int a4] (ci := 2) rfl hO9 hK hP hD hS hB hz hN hT) rfl rfl hl.1 rfl (lv_room (Nat.le_of_ble_eq_true rfl)) dX6_thingsPossible_44 ⟨by decide, by decide⟩) hS (fun q _ h => hFc q h) hFc (fun u ra t H1 locs ht hvm hw hB1 hz1 hk1 hS => ?_)
        obtain ⟨r_44, L_44, f_44⟩ := u
        obtain ⟨hra, hP, -, hD1⟩ := hB1
        rw [show ra = r_44 from hra]
        rw [ht] at hP
        have hw := id hw
        have hP : va_P (dC, dI) vwCl (va_pl L_44 f_44) H1 := hP
        have hD : va_D A (va_pl L_44 f_44) := p_gain hD1 hFc
        generalize H1 = H at hP hS ⊢
        refine W.eq (g2 := F0 m 47 ls (.ref r_44 :: [.long (1 : Int64), .long a2])) rfl ?_
        obtain ⟨fs_47, g_47, ⟨hL9, hf9, hn9⟩, hw⟩ := hw
        refine va_get (D := (dC, dI)) (ci := 6) (v := .int g_47) (C := RX5) (T := TX5) (N := 5) hx hb hts iw_X6_thingsPossible_RX5 hown hK (p_one hP hL9 hf9) 0 rfl rfl 2 (by decide) (hts _ lk_X6_thingsPossible_134) (fun _ h9 => h9) hn9 dX6_thingsPossible_47 ?_
        refine lv_lshl hx hb dX6_thingsPossible_50 rfl ?_
        refine lv_lor hx hb dX6_thingsPossible_51 ?_
        refine lv_topl (fun v2_52 ev2_52 => ?_)
        have hw := hw v2_52 ev2_52
        refine lv_lstore_n (lv' := [(2, .long v2_52), (0, .ref a0), (1, .int a1), (4, .int a4)]) hx hb dX6_thingsPossible_52 rfl hl (by decide) rfl (fun ls hl => ?_)
        exact tb_X6_thingsPossible_53 C ih L_44 f_44 a0 a1 v2_52 a4 hw H locs hP hD hS ls (lv_sub hl [1, 2, 0, 3] rfl)
set_option maxHeartbeats 4000000 in
set_option maxRecDepth 100000 in
theorem tb_X6_thingsPossible_0 {p : Program} {l : Launch} {e : Env} {s : State} {m : MethodId} {below : List Frame} {meth : Method} {c : Code} {args : Array Value} {dC : Nat → ClassId} {dI : Nat → Nat → Nat} {dA : Nat → ClassId} {zz : Nat → Nat} {base : Nat} {A : Nat → Prop} {Q : Int64 → List Nat → pF → Prop} (C : pCx p s m args meth c cX6_thingsPossible 5 (some .long) RX6 wsX6_thingsPossible A dC dI dA zz base) : ∀ (L : List Nat) (f : pF) (a0 : Nat), wp_X6_thingsPossible_0 dA zz Q  L f a0 → pAt p l e rm_X6_thingsPossible s m args below meth c dC dI A (MQ below (va_Ql (fun r (u : List Nat × pF) => Q r u.1 u.2) (pB dC dI dA A) A) args s 0 0 A) 0 0 0 5 [(0, .ref a0)] [] L f := by
  obtain ⟨hx, hb, hml, hown, hts, hr, hlocks, hA, hK, hB, hz, hN, hT⟩ := id C
  intro L f a0 hw H locs hP hD hS ls hl
  rw [wp_X6_thingsPossible_0] at hw
  refine lv_aload_n hx hb dX6_thingsPossible_0 rfl (lv_at hl 0 rfl) ?_
  obtain ⟨fs_1, g_1, ⟨hL9, hf9, hn9⟩, hw⟩ := hw
  refine va_get (D := (dC, dI)) (ci := 7) (v := .ref g_1) (C := RX6) (T := TX6) (N := 13) hx hb hts iw_X6_thingsPossible_RX6 hown hK (p_one hP hL9 hf9) 0 rfl rfl 0 (by decide) (hts _ lk_X6_thingsPossible_30) (fun _ h9 => h9) hn9 dX6_thingsPossible_1 ?_
  obtain ⟨hO9, hw⟩ := hw
  have hFc := p_free hD hS hA
  refine va_calli (va_runV (As := []) (rest := []) ⟨hx, hb, hml, hown, hts⟩ (c_X1_termsHeld l dC dI dA zz base L f H.size g_1  _ hw) (cwV 0 hts gX6_thingsPossible_X1_termsHeld rfl rfl rfl (by decide +kernel) ⟨by decide, by decide⟩) (pPreV [] (ci := 2) rfl hO9 hK hP hD hS hB hz hN hT) rfl rfl hl.1 rfl (lv_room (Nat.le_of_ble_eq_true rfl)) dX6_thingsPossible_4 ⟨by decide, by decide⟩) hS (fun q _ h => hFc q h) hFc (fun r_4 u t H1 locs ht hvm hw hB1 hz1 hk1 hS => ?_)
  obtain ⟨L_4, f_4⟩ := u
  obtain ⟨hP, -, hD1⟩ := hB1
  rw [ht] at hP
  have hw := id hw
  have hP : va_P (dC, dI) vwCl (va_pl L_4 f_4) H1 := hP
  have hD : va_D A (va_pl L_4 f_4) := p_gain hD1 hFc
  generalize H1 = H at hP hS ⊢
  refine lv_bipush (v := 60) hx hb dX6_thingsPossible_7 (by decide) ?_
  refine va_mmin hx hb (by rw [hml]; exact hl.1.symm) hown (hts _ lm_X6_thingsPossible_92) (hts _ lmm1_X6_thingsPossible_min) (hts _ lmm2_X6_thingsPossible_min) (hts _ lmm3_X6_thingsPossible_min) (Nat.le_of_ble_eq_true rfl) (Nat.le_of_ble_eq_true rfl) (Nat.le_of_ble_eq_true rfl) (Nat.le_of_ble_eq_true rfl) dX6_thingsPossible_9 ?_
  refine lv_topi (fun m_9 em_9 => ?_)
  have hw := hw m_9 em_9
  refine lv_istore_n (lv' := [(1, .int m_9), (0, .ref a0)]) hx hb dX6_thingsPossible_12 rfl hl (by decide) rfl (fun ls hl => ?_)
  refine lv_lconst (v := 0) hx hb dX6_thingsPossible_13 (by decide) ?_
  refine lv_lstore_n (lv' := [(2, .long (0 : Int64)), (1, .int m_9), (0, .ref a0)]) hx hb dX6_thingsPossible_14 rfl hl (by decide) rfl (fun ls hl => ?_)
  refine lv_iconst (v := 0) hx hb dX6_thingsPossible_15 (by decide) ?_
  refine lv_istore (lv' := [(4, .int (0 : Int32)), (2, .long (0 : Int64)), (1, .int m_9), (0, .ref a0)]) hx hb dX6_thingsPossible_16 hl (by decide) rfl (fun ls hl => ?_)
  obtain ⟨n9, hw⟩ := hw
  exact tb_X6_thingsPossible_18 C  n9 L_4 f_4 a0 m_9 (0 : Int64) (0 : Int32) hw H locs hP hD hS ls (lv_sub hl [3, 2, 1, 0] rfl)
set_option maxHeartbeats 4000000 in
set_option maxRecDepth 100000 in
theorem c_X6_thingsPossible (l : Launch) (dC : Nat → ClassId) (dI : Nat → Nat → Nat) (dA : Nat → ClassId) (zz : Nat → Nat) (base : Nat) (L : List Nat) (f : pF) (sz : Nat) (a0 : Nat) (Q : Int64 → List Nat → pF → Prop) (hw : wp_X6_thingsPossible_0 dA zz Q L f a0) : Met l yX6_thingsPossible wsX6_thingsPossible rm_X6_thingsPossible (va_Pc [.ref a0] (pPre dC dI dA zz base L f sz)) (va_Ql (fun r (u : List Nat × pF) => Q r u.1 u.2) (pB dC dI dA (va_A (va_pl L f) sz)) (va_A (va_pl L f) sz)) 0 0 (va_A (va_pl L f) sz) := by
  refine Met.ofW (cc := cX6_thingsPossible) (maxL := 5) (ret := (some .long)) (by decide) rfl ?_
  intro p e s m args below meth c s₁ B hml hv
  obtain ⟨rfl, hsz, hP, hK, hD0, hz, hN, hT⟩ := hv
  subst hsz
  have hl := lv_entry ([.ref a0]) (n := 5) (Nat.le_of_ble_eq_true rfl)
  rw [lg_entry_eq]
  generalize (lg_sl ([.ref a0]) ++ List.replicate (5 - (lg_sl ([.ref a0])).length) Slot.unset).toArray = ls at hl ⊢
  exact tb_X6_thingsPossible_0 (Q := Q) (p := p) ⟨B.exec, B.bytes, hml, findClass_of_methodNamed B.named, atoms_spec (ws := wsX6_thingsPossible) B.pre, B.returns, B.notSynchronized, fun q h => Or.inr h, hK, pAB hD0 hz, hz, hN, hT⟩ L f a0 hw s.heap [] hP (hD0.self (sz := s.heap.size)) va_S.rf ls (lv_sub hl [0] rfl)
theorem iw_X6_thingMeant_RX6 : ∀ w ∈ u_ws RX6 TX6 13, w ∈ wsX6_thingMeant := by decide +kernel
theorem lk_X6_thingMeant_43 : Cond.fieldLink RX6 43 "TermKeeper$Uses" "words" "LTermKeeper$Words;" ∈ wsX6_thingMeant := by decide +kernel
abbrev rm_X6_thingMeant : Room := { frames := 5, cells := 0, slots := 0, locals := 109 }
def wp_X6_thingMeant_73 (dA : Nat → ClassId) (zz : Nat → Nat) (Q : Int32 → List Nat → pF → Prop) (k14_ : List Nat → pF → Nat → Int32 → Int32 → Int64 → Int32 → Int32 → Int32 → Prop) (L : List Nat) (f : pF) (a0 : Nat) (a1 : Int32) (a2 : Int32) (a3 : Int64) (a5 : Int32) (a6 : Int32) (a7 : Int32) : Prop :=
    (∀ v7_73 : Int32, v7_73 = a7 + (1 : Int32) →
      (k14_ L f a0 a1 a2 a3 a5 a6 v7_73))
def wp_X6_thingMeant_14 (dA : Nat → ClassId) (zz : Nat → Nat) (Q : Int32 → List Nat → pF → Prop) : Nat → List Nat → pF → Nat → Int32 → Int32 → Int64 → Int32 → Int32 → Int32 → Prop
  | 0, _, _, _, _, _, _, _, _, _ => False
  | n + 1, L, f, a0, a1, a2, a3, a5, a6, a7 =>
    (((40 : Int32) ≤ a7 →
      (Q a5 L f))
     ∧ (¬ (40 : Int32) ≤ a7 →
      (((lg_cmp ((a3 >>> (Int32.toInt64 a7 &&& 63)) &&& (1 : Int64)) (0 : Int64)) = 0 →
        (wp_X6_thingMeant_73 dA zz Q (wp_X6_thingMeant_14 dA zz Q  n) L f a0 a1 a2 a3 a5 a6 a7))
       ∧ (¬ (lg_cmp ((a3 >>> (Int32.toInt64 a7 &&& 63)) &&& (1 : Int64)) (0 : Int64)) = 0 →
        (gR L f 7 a0 2 (fun g_33 =>
          (isO L f 8 g_33 ∧
            (wp_X7_scoreOf_0 dA zz (fun r_40 L_40 f_40 =>
              ((r_40 ≤ a6 →
                ((¬ r_40 = a6 →
                  (wp_X6_thingMeant_73 dA zz Q (wp_X6_thingMeant_14 dA zz Q  n) L_40 f_40 a0 a1 a2 a3 a5 a6 a7))
                 ∧ (r_40 = a6 →
                  (wp_X6_thingMeant_73 dA zz Q (wp_X6_thingMeant_14 dA zz Q  n) L_40 f_40 a0 a1 a2 a3 (-1 : Int32) a6 a7))))
               ∧ (¬ r_40 ≤ a6 →
                (wp_X6_thingMeant_73 dA zz Q (wp_X6_thingMeant_14 dA zz Q  n) L_40 f_40 a0 a1 a2 a3 a7 r_40 a7)))) L f g_33 a7 a1 a2))))))))
def wp_X6_thingMeant_0 (dA : Nat → ClassId) (zz : Nat → Nat) (Q : Int32 → List Nat → pF → Prop) (L : List Nat) (f : pF) (a0 : Nat) (a1 : Int32) (a2 : Int32) : Prop :=
    (isO L f 7 a0 ∧
      (wp_X6_thingsPossible_0 dA zz (fun r_1 L_1 f_1 =>
        (∃ n9 : Nat, wp_X6_thingMeant_14 dA zz Q  n9 L_1 f_1 a0 a1 a2 r_1 (-1 : Int32) (-1 : Int32) (0 : Int32))) L f a0 ))
set_option maxHeartbeats 4000000 in
set_option maxRecDepth 100000 in
theorem tb_X6_thingMeant_73 {p : Program} {l : Launch} {e : Env} {s : State} {m : MethodId} {below : List Frame} {meth : Method} {c : Code} {args : Array Value} {dC : Nat → ClassId} {dI : Nat → Nat → Nat} {dA : Nat → ClassId} {zz : Nat → Nat} {base : Nat} {A : Nat → Prop} {Q : Int32 → List Nat → pF → Prop} (C : pCx p s m args meth c cX6_thingMeant 9 (some .int) RX6 wsX6_thingMeant A dC dI dA zz base) {k14_ : List Nat → pF → Nat → Int32 → Int32 → Int64 → Int32 → Int32 → Int32 → Prop} (h14_ : ∀ (L : List Nat) (f : pF) (a0 : Nat) (a1 : Int32) (a2 : Int32) (a3 : Int64) (a5 : Int32) (a6 : Int32) (a7 : Int32), k14_ L f a0 a1 a2 a3 a5 a6 a7 → pAt p l e rm_X6_thingMeant s m args below meth c dC dI A (MQ below (va_Qi (fun r (u : List Nat × pF) => Q r u.1 u.2) (pB dC dI dA A) A) args s 0 0 A) 0 0 14 9 [(0, .ref a0), (1, .int a1), (2, .int a2), (3, .long a3), (5, .int a5), (6, .int a6), (7, .int a7)] [] L f) : ∀ (L : List Nat) (f : pF) (a0 : Nat) (a1 : Int32) (a2 : Int32) (a3 : Int64) (a5 : Int32) (a6 : Int32) (a7 : Int32), wp_X6_thingMeant_73 dA zz Q k14_ L f a0 a1 a2 a3 a5 a6 a7 → pAt p l e rm_X6_thingMeant s m args below meth c dC dI A (MQ below (va_Qi (fun r (u : List Nat × pF) => Q r u.1 u.2) (pB dC dI dA A) A) args s 0 0 A) 0 0 73 9 [(0, .ref a0), (1, .int a1), (2, .int a2), (3, .long a3), (5, .int a5), (6, .int a6), (7, .int a7)] [] L f := by
  obtain ⟨hx, hb, hml, hown, hts, hr, hlocks, hA, hK, hB, hz, hN, hT⟩ := id C
  intro L f a0 a1 a2 a3 a5 a6 a7 hw H locs hP hD hS ls hl
  rw [wp_X6_thingMeant_73] at hw
  obtain ⟨v7_73, ev7_73⟩ : ∃ y : Int32, y = a7 + (1 : Int32) := ⟨_, rfl⟩
  have hw := hw v7_73 ev7_73
  refine lv_iinc (v := v7_73) (lv' := [(7, .int v7_73), (0, .ref a0), (1, .int a1), (2, .int a2), (3, .long a3), (5, .int a5), (6, .int a6)]) hx hb dX6_thingMeant_73 hl (k := 6) rfl (by rw [ev7_73]; rfl) (by decide) rfl (fun ls hl => ?_)
  refine lv_goto (tgt := 14) hx hb dX6_thingMeant_76 (by decide) ?_
  exact h14_ L f a0 a1 a2 a3 a5 a6 v7_73 hw H locs hP hD hS ls (lv_sub hl [1, 2, 3, 4, 5, 6, 0] rfl)
set_option maxHeartbeats 4000000 in
set_option maxRecDepth 100000 in
theorem tb_X6_thingMeant_14 {p : Program} {l : Launch} {e : Env} {s : State} {m : MethodId} {below : List Frame} {meth : Method} {c : Code} {args : Array Value} {dC : Nat → ClassId} {dI : Nat → Nat → Nat} {dA : Nat → ClassId} {zz : Nat → Nat} {base : Nat} {A : Nat → Prop} {Q : Int32 → List Nat → pF → Prop} (C : pCx p s m args meth c cX6_thingMeant 9 (some .int) RX6 wsX6_thingMeant A dC dI dA zz base) : ∀ (n : Nat) (L : List Nat) (f : pF) (a0 : Nat) (a1 : Int32) (a2 : Int32) (a3 : Int64) (a5 : Int32) (a6 : Int32) (a7 : Int32), wp_X6_thingMeant_14 dA zz Q  n L f a0 a1 a2 a3 a5 a6 a7 → pAt p l e rm_X6_thingMeant s m args below meth c dC dI A (MQ below (va_Qi (fun r (u : List Nat × pF) => Q r u.1 u.2) (pB dC dI dA A) A) args s 0 0 A) 0 0 14 9 [(0, .ref a0), (1, .int a1), (2, .int a2), (3, .long a3), (5, .int a5), (6, .int a6), (7, .int a7)] [] L f := by
  obtain ⟨hx, hb, hml, hown, hts, hr, hlocks, hA, hK, hB, hz, hN, hT⟩ := id C
  intro n
  induction n with
  | zero => intro L f a0 a1 a2 a3 a5 a6 a7 hw; exact hw.elim
  | succ n ih =>
    intro L f a0 a1 a2 a3 a5 a6 a7 hw H locs hP hD hS ls hl
    rw [wp_X6_thingMeant_14] at hw
    refine lv_iload hx hb dX6_thingMeant_14 (lv_at hl 6 rfl) ?_
    refine lv_bipush (v := 40) hx hb dX6_thingMeant_16 (by decide) ?_
    refine lv_icmp_ge (tgt := 79) hx hb dX6_thingMeant_18 (by decide) (fun c_18 => ?_) (fun c_18 => ?_)
    · have hw := hw.1 c_18
      refine lv_iload hx hb dX6_thingMeant_79 (lv_at hl 4 rfl) ?_
      exact W.iret (v := a5) hx hb hr (fun t ht hW => ⟨⟨a5, (L, f), rfl, hw, by rw [ht]; exact hP, va_K.moved hW.alike hK, hD⟩, hS.F ht⟩) hS.2.2 dX6_thingMeant_81
    · have hw := hw.2 c_18
      refine lv_lload_n hx hb dX6_thingMeant_21 rfl (lv_at hl 3 rfl) ?_
      refine lv_iload hx hb dX6_thingMeant_22 (lv_at hl 6 rfl) ?_
      refine lv_lshr hx hb dX6_thingMeant_24 rfl ?_
      refine lv_lconst (v := 1) hx hb dX6_thingMeant_25 (by decide) ?_
      refine lv_land hx hb dX6_thingMeant_26 ?_
      refine lv_lconst (v := 0) hx hb dX6_thingMeant_27 (by decide) ?_
      refine W.lcmp hx hb dX6_thingMeant_28 ?_
      refine lv_if_eq (tgt := 73) hx hb dX6_thingMeant_29 (by decide) (fun c_29 => ?_) (fun c_29 => ?_)
      · have hw := hw.1 c_29
        exact tb_X6_thingMeant_73 C ih L f a0 a1 a2 a3 a5 a6 a7 hw H locs hP hD hS ls (lv_sub hl [0, 1, 2, 3, 4, 5, 6] rfl)
      · have hw := hw.2 c_29
        refine lv_aload_n hx hb dX6_thingMeant_32 rfl (lv_at hl 0 rfl) ?_
        obtain ⟨fs_33, g_33, ⟨hL9, hf9, hn9⟩, hw⟩ := hw
        refine va_get (D := (dC, dI)) (ci := 7) (v := .ref g_33) (C := RX6) (T := TX6) (N := 13) hx hb hts iw_X6_thingMeant_RX6 hown hK (p_one hP hL9 hf9) 0 rfl rfl 2 (by decide) (hts _ lk_X6_thingMeant_43) (fun _ h9 => h9) hn9 dX6_thingMeant_33 ?_
        refine lv_iload hx hb dX6_thingMeant_36 (lv_at hl 6 rfl) ?_
        refine lv_iload_n hx hb dX6_thingMeant_38 rfl (lv_at hl 1 rfl) ?_
        refine lv_iload_n hx hb dX6_thingMeant_39 rfl (lv_at hl 2 rfl) ?_
        obtain ⟨hO9, hw⟩ := hw
        have hFc := p_free hD hS hA
        refine va_calli (va_runV (As := [.int a7, .int a1, .int a2]) (rest := []) ⟨hx, hb, hml, hown, hts⟩ (c_X7_scoreOf l dC dI dA zz base L f H.size g_33 a7 a1 a2 _ hw) (cwV 3 hts gX6_thingMeant_X7_scoreOf rfl rfl rfl (by decide +kernel) ⟨by decide, by decide⟩) (pPreV [.int a7, .int a1, .int a2] (ci := 8) rfl hO9 hK hP hD hS hB hz hN hT) rfl rfl hl.1 rfl (lv_room (Nat.le_of_ble_eq_true rfl)) dX6_thingMeant_40 ⟨by decide, by decide⟩) hS (fun q _ h => hFc q h) hFc (fun r_40 u t H1 locs ht hvm hw hB1 hz1 hk1 hS => ?_)
        obtain ⟨L_40, f_40⟩ := u
        obtain ⟨hP, -, hD1⟩ := hB1
        rw [ht] at hP
        have hw := id hw
        have hP : va_P (dC, dI) vwCl (va_pl L_40 f_40) H1 := hP
        have hD : va_D A (va_pl L_40 f_40) := p_gain hD1 hFc
        generalize H1 = H at hP hS ⊢
        refine lv_istore (lv' := [(8, .int r_40), (0, .ref a0), (1, .int a1), (2, .int a2), (3, .long a3), (5, .int a5), (6, .int a6), (7, .int a7)]) hx hb dX6_thingMeant_43 hl (by decide) rfl (fun ls hl => ?_)
        refine lv_iload hx hb dX6_thingMeant_45 (lv_at hl 0 rfl) ?_
        refine lv_iload hx hb dX6_thingMeant_47 (lv_at hl 6 rfl) ?_
        refine lv_icmp_le (tgt := 63) hx hb dX6_thingMeant_49 (by decide) (fun c_49 => ?_) (fun c_49 => ?_)
        · have hw := hw.1 c_49
          refine lv_iload hx hb dX6_thingMeant_63 (lv_at hl 0 rfl) ?_
          refine lv_iload hx hb dX6_thingMeant_65 (lv_at hl 6 rfl) ?_
          refine lv_icmp_ne (tgt := 73) hx hb dX6_thingMeant_67 (by decide) (fun c_67 => ?_) (fun c_67 => ?_)
          · have hw := hw.1 c_67
            exact tb_X6_thingMeant_73 C ih L_40 f_40 a0 a1 a2 a3 a5 a6 a7 hw H locs hP hD hS ls (lv_sub hl [1, 2, 3, 4, 5, 6, 7] rfl)
          · have hw := hw.2 c_67
            refine lv_iconst (v := -1) hx hb dX6_thingMeant_70 (by decide) ?_
            refine lv_istore (lv' := [(5, .int (-1 : Int32)), (8, .int r_40), (0, .ref a0), (1, .int a1), (2, .int a2), (3, .long a3), (6, .int a6), (7, .int a7)]) hx hb dX6_thingMeant_71 hl (by decide) rfl (fun ls hl => ?_)
            exact tb_X6_thingMeant_73 C ih L_40 f_40 a0 a1 a2 a3 (-1 : Int32) a6 a7 hw H locs hP hD hS ls (lv_sub hl [2, 3, 4, 5, 0, 6, 7] rfl)
        · have hw := hw.2 c_49
          refine lv_iload hx hb dX6_thingMeant_52 (lv_at hl 0 rfl) ?_
          refine lv_istore (lv' := [(6, .int r_40), (8, .int r_40), (0, .ref a0), (1, .int a1), (2, .int a2), (3, .long a3), (5, .int a5), (7, .int a7)]) hx hb dX6_thingMeant_54 hl (by decide) rfl (fun ls hl => ?_)
          refine lv_iload hx hb dX6_thingMeant_56 (lv_at hl 7 rfl) ?_
          refine lv_istore (lv' := [(5, .int a7), (6, .int r_40), (8, .int r_40), (0, .ref a0), (1, .int a1), (2, .int a2), (3, .long a3), (7, .int a7)]) hx hb dX6_thingMeant_58 hl (by decide) rfl (fun ls hl => ?_)
          refine lv_goto (tgt := 73) hx hb dX6_thingMeant_60 (by decide) ?_
          exact tb_X6_thingMeant_73 C ih L_40 f_40 a0 a1 a2 a3 a7 r_40 a7 hw H locs hP hD hS ls (lv_sub hl [3, 4, 5, 6, 0, 1, 7] rfl)
set_option maxHeartbeats 4000000 in
set_option maxRecDepth 100000 in
theorem tb_X6_thingMeant_0 {p : Program} {l : Launch} {e : Env} {s : State} {m : MethodId} {below : List Frame} {meth : Method} {c : Code} {args : Array Value} {dC : Nat → ClassId} {dI : Nat → Nat → Nat} {dA : Nat → ClassId} {zz : Nat → Nat} {base : Nat} {A : Nat → Prop} {Q : Int32 → List Nat → pF → Prop} (C : pCx p s m args meth c cX6_thingMeant 9 (some .int) RX6 wsX6_thingMeant A dC dI dA zz base) : ∀ (L : List Nat) (f : pF) (a0 : Nat) (a1 : Int32) (a2 : Int32), wp_X6_thingMeant_0 dA zz Q  L f a0 a1 a2 → pAt p l e rm_X6_thingMeant s m args below meth c dC dI A (MQ below (va_Qi (fun r (u : List Nat × pF) => Q r u.1 u.2) (pB dC dI dA A) A) args s 0 0 A) 0 0 0 9 [(0, .ref a0), (1, .int a1), (2, .int a2)] [] L f := by
  obtain ⟨hx, hb, hml, hown, hts, hr, hlocks, hA, hK, hB, hz, hN, hT⟩ := id C
  intro L f a0 a1 a2 hw H locs hP hD hS ls hl
  rw [wp_X6_thingMeant_0] at hw
  refine lv_aload_n hx hb dX6_thingMeant_0 rfl (lv_at hl 0 rfl) ?_
  obtain ⟨hO9, hw⟩ := hw
  have hFc := p_free hD hS hA
  refine va_calll (va_runV (As := []) (rest := []) ⟨hx, hb, hml, hown, hts⟩ (c_X6_thingsPossible l dC dI dA zz base L f H.size a0  _ hw) (cwV 0 hts gX6_thingMeant_X6_thingsPossible rfl rfl rfl (by decide +kernel) ⟨by decide, by decide⟩) (pPreV [] (ci := 7) rfl hO9 hK hP hD hS hB hz hN hT) rfl rfl hl.1 rfl (lv_room (Nat.le_of_ble_eq_true rfl)) dX6_thingMeant_1 ⟨by decide, by decide⟩) hS (fun q _ h => hFc q h) hFc (fun r_1 u t H1 locs ht hvm hw hB1 hz1 hk1 hS => ?_)
  obtain ⟨L_1, f_1⟩ := u
  obtain ⟨hP, -, hD1⟩ := hB1
  rw [ht] at hP
  have hw := id hw
  have hP : va_P (dC, dI) vwCl (va_pl L_1 f_1) H1 := hP
  have hD : va_D A (va_pl L_1 f_1) := p_gain hD1 hFc
  generalize H1 = H at hP hS ⊢
  refine lv_lstore_n (lv' := [(3, .long r_1), (0, .ref a0), (1, .int a1), (2, .int a2)]) hx hb dX6_thingMeant_4 rfl hl (by decide) rfl (fun ls hl => ?_)
  refine lv_iconst (v := -1) hx hb dX6_thingMeant_5 (by decide) ?_
  refine lv_istore (lv' := [(5, .int (-1 : Int32)), (3, .long r_1), (0, .ref a0), (1, .int a1), (2, .int a2)]) hx hb dX6_thingMeant_6 hl (by decide) rfl (fun ls hl => ?_)
  refine lv_iconst (v := -1) hx hb dX6_thingMeant_8 (by decide) ?_
  refine lv_istore (lv' := [(6, .int (-1 : Int32)), (5, .int (-1 : Int32)), (3, .long r_1), (0, .ref a0), (1, .int a1), (2, .int a2)]) hx hb dX6_thingMeant_9 hl (by decide) rfl (fun ls hl => ?_)
  refine lv_iconst (v := 0) hx hb dX6_thingMeant_11 (by decide) ?_
  refine lv_istore (lv' := [(7, .int (0 : Int32)), (6, .int (-1 : Int32)), (5, .int (-1 : Int32)), (3, .long r_1), (0, .ref a0), (1, .int a1), (2, .int a2)]) hx hb dX6_thingMeant_12 hl (by decide) rfl (fun ls hl => ?_)
  obtain ⟨n9, hw⟩ := hw
  exact tb_X6_thingMeant_14 C  n9 L_1 f_1 a0 a1 a2 r_1 (-1 : Int32) (-1 : Int32) (0 : Int32) hw H locs hP hD hS ls (lv_sub hl [4, 5, 6, 3, 2, 1, 0] rfl)
set_option maxHeartbeats 4000000 in
set_option maxRecDepth 100000 in
theorem c_X6_thingMeant (l : Launch) (dC : Nat → ClassId) (dI : Nat → Nat → Nat) (dA : Nat → ClassId) (zz : Nat → Nat) (base : Nat) (L : List Nat) (f : pF) (sz : Nat) (a0 : Nat) (a1 : Int32) (a2 : Int32) (Q : Int32 → List Nat → pF → Prop) (hw : wp_X6_thingMeant_0 dA zz Q L f a0 a1 a2) : Met l yX6_thingMeant wsX6_thingMeant rm_X6_thingMeant (va_Pc [.ref a0, .int a1, .int a2] (pPre dC dI dA zz base L f sz)) (va_Qi (fun r (u : List Nat × pF) => Q r u.1 u.2) (pB dC dI dA (va_A (va_pl L f) sz)) (va_A (va_pl L f) sz)) 0 0 (va_A (va_pl L f) sz) := by
  refine Met.ofW (cc := cX6_thingMeant) (maxL := 9) (ret := (some .int)) (by decide) rfl ?_
  intro p e s m args below meth c s₁ B hml hv
  obtain ⟨rfl, hsz, hP, hK, hD0, hz, hN, hT⟩ := hv
  subst hsz
  have hl := lv_entry ([.ref a0, .int a1, .int a2]) (n := 9) (Nat.le_of_ble_eq_true rfl)
  rw [lg_entry_eq]
  generalize (lg_sl ([.ref a0, .int a1, .int a2]) ++ List.replicate (9 - (lg_sl ([.ref a0, .int a1, .int a2])).length) Slot.unset).toArray = ls at hl ⊢
  exact tb_X6_thingMeant_0 (Q := Q) (p := p) ⟨B.exec, B.bytes, hml, findClass_of_methodNamed B.named, atoms_spec (ws := wsX6_thingMeant) B.pre, B.returns, B.notSynchronized, fun q h => Or.inr h, hK, pAB hD0 hz, hz, hN, hT⟩ L f a0 a1 a2 hw s.heap [] hP (hD0.self (sz := s.heap.size)) va_S.rf ls (lv_sub hl [0, 1, 2] rfl)
theorem iw_X6_keepUse_RX6 : ∀ w ∈ u_ws RX6 TX6 13, w ∈ wsX6_keepUse := by decide +kernel
theorem lk_X6_keepUse_15 : Cond.fieldLink RX6 15 "TermKeeper$Uses" "begins" "[I" ∈ wsX6_keepUse := by decide +kernel
theorem lk_X6_keepUse_18 : Cond.fieldLink RX6 18 "TermKeeper$Uses" "ends" "[I" ∈ wsX6_keepUse := by decide +kernel
theorem lk_X6_keepUse_21 : Cond.fieldLink RX6 21 "TermKeeper$Uses" "terms" "[I" ∈ wsX6_keepUse := by decide +kernel
theorem lk_X6_keepUse_24 : Cond.fieldLink RX6 24 "TermKeeper$Uses" "endings" "[I" ∈ wsX6_keepUse := by decide +kernel
theorem lk_X6_keepUse_27 : Cond.fieldLink RX6 27 "TermKeeper$Uses" "findings" "[I" ∈ wsX6_keepUse := by decide +kernel
theorem lk_X6_keepUse_43 : Cond.fieldLink RX6 43 "TermKeeper$Uses" "words" "LTermKeeper$Words;" ∈ wsX6_keepUse := by decide +kernel
theorem lk_X6_keepUse_47 : Cond.fieldLink RX6 47 "TermKeeper$Uses" "size" "I" ∈ wsX6_keepUse := by decide +kernel
theorem lk_X6_keepUse_9 : Cond.fieldLink RX6 9 "TermKeeper$Uses" "ways" "[I" ∈ wsX6_keepUse := by decide +kernel
abbrev rm_X6_keepUse : Room := { frames := 6, cells := 0, slots := 0, locals := 137 }
def wp_X6_keepUse_105 (dA : Nat → ClassId) (zz : Nat → Nat) (Q : List Nat → pF → Prop) (L : List Nat) (f : pF) (a0 : Nat) (a4 : Int32) (k0 : Int32) (k1 : Int32) (k2 : Nat) : Prop :=
    (aIs L f (dA 1) k2 k1 k0 (fun f_105 =>
      (gR L f_105 7 a0 8 (fun g_107 =>
        (gI L f_105 7 a0 9 (fun g_111 =>
          (isO L f_105 7 a0 ∧
            (wp_X6_findingNow_0 dA zz (fun r_117 L_117 f_117 =>
              (aIs L_117 f_117 (dA 1) g_107 g_111 r_117 (fun f_120 =>
                (gI L_117 f_120 7 a0 9 (fun g_123 =>
                  (gP L_117 f_120 7 a0 9 (.int (g_123 + (1 : Int32))) (fun f_128 =>
                    (isO L_117 f_128 7 a0 ∧
                      (wp_X6_see_0 dA zz (fun L_134 f_134 =>
                        (Q L_134 f_134)) L_117 f_128 a0 a4))))))))) L f_105 a0 a4))))))))
def wp_X6_keepUse_104 (dA : Nat → ClassId) (zz : Nat → Nat) (Q : List Nat → pF → Prop) (L : List Nat) (f : pF) (a0 : Nat) (a4 : Int32) (k0 : Int32) (k1 : Nat) : Prop :=
    (wp_X6_keepUse_105 dA zz Q  L f a0 a4 (-1 : Int32) k0 k1)
def wp_X6_keepUse_0 (dA : Nat → ClassId) (zz : Nat → Nat) (Q : List Nat → pF → Prop) (L : List Nat) (f : pF) (a0 : Nat) (a1 : Int32) (a2 : Int32) : Prop :=
    (gI L f 7 a0 9 (fun g_1 =>
      ((g_1 < (300 : Int32) →
        (∀ v3_16 : Int32, v3_16 = ((a1 + a2) - (1 : Int32)) →
          (isO L f 7 a0 ∧
            (wp_X6_thingMeant_0 dA zz (fun r_21 L_21 f_21 =>
              (isO L_21 f_21 7 a0 ∧
                (wp_X6_leastTermOf_0 dA zz (fun r_24 L_24 f_24 =>
                  (gR L_24 f_24 7 a0 4 (fun g_30 =>
                    (gI L_24 f_24 7 a0 9 (fun g_34 =>
                      (gR L_24 f_24 7 a0 2 (fun g_38 =>
                        (isO L_24 f_24 8 g_38 ∧
                          (wp_X7_beginOf_0 dA zz (fun r_42 L_42 f_42 =>
                            (aIs L_42 f_42 (dA 1) g_30 g_34 r_42 (fun f_45 =>
                              (gR L_42 f_45 7 a0 5 (fun g_47 =>
                                (gI L_42 f_45 7 a0 9 (fun g_51 =>
                                  (gR L_42 f_45 7 a0 2 (fun g_55 =>
                                    (isO L_42 f_45 8 g_55 ∧
                                      (wp_X7_endOf_0 dA zz (fun r_59 L_59 f_59 =>
                                        (aIs L_59 f_59 (dA 1) g_47 g_51 r_59 (fun f_62 =>
                                          (gR L_59 f_62 7 a0 6 (fun g_64 =>
                                            (gI L_59 f_62 7 a0 9 (fun g_68 =>
                                              (aIs L_59 f_62 (dA 1) g_64 g_68 r_24 (fun f_73 =>
                                                (gR L_59 f_73 7 a0 7 (fun g_75 =>
                                                  (gI L_59 f_73 7 a0 9 (fun g_79 =>
                                                    ((r_24 < 0 →
                                                      (wp_X6_keepUse_104 dA zz Q  L_59 f_73 a0 r_24 g_79 g_75))
                                                     ∧ (¬ r_24 < 0 →
                                                      (((60 : Int32) ≤ r_24 →
                                                        (wp_X6_keepUse_104 dA zz Q  L_59 f_73 a0 r_24 g_79 g_75))
                                                       ∧ (¬ (60 : Int32) ≤ r_24 →
                                                        (gR L_59 f_73 7 a0 3 (fun g_95 =>
                                                          (aI L_59 f_73 (dA 1) g_95 r_24 (fun g_100 =>
                                                            (wp_X6_keepUse_105 dA zz Q  L_59 f_73 a0 r_24 g_100 g_79 g_75)))))))))))))))))))))) L_42 f_45 g_55 v3_16))))))))))) L_24 f_24 g_38 a1))))))))) L_21 f_21 a0 r_21))) L f a0 a1 v3_16))))
       ∧ (¬ g_1 < (300 : Int32) →
        (Q L f)))))
set_option maxHeartbeats 4000000 in
set_option maxRecDepth 100000 in
theorem tb_X6_keepUse_105 {p : Program} {l : Launch} {e : Env} {s : State} {m : MethodId} {below : List Frame} {meth : Method} {c : Code} {args : Array Value} {dC : Nat → ClassId} {dI : Nat → Nat → Nat} {dA : Nat → ClassId} {zz : Nat → Nat} {base : Nat} {A : Nat → Prop} {Q : List Nat → pF → Prop} (C : pCx p s m args meth c cX6_keepUse 5 none RX6 wsX6_keepUse A dC dI dA zz base) : ∀ (L : List Nat) (f : pF) (a0 : Nat) (a4 : Int32) (k0 : Int32) (k1 : Int32) (k2 : Nat), wp_X6_keepUse_105 dA zz Q  L f a0 a4 k0 k1 k2 → pAt p l e rm_X6_keepUse s m args below meth c dC dI A (MQ below (va_Qv (fun (u : List Nat × pF) => Q u.1 u.2) (pB dC dI dA A) A) args s 0 0 A) 0 0 105 5 [(0, .ref a0), (4, .int a4)] [.int k0, .int k1, .ref k2] L f := by
  obtain ⟨hx, hb, hml, hown, hts, hr, hlocks, hA, hK, hB, hz, hN, hT⟩ := id C
  intro L f a0 a4 k0 k1 k2 hw H locs hP hD hS ls hl
  rw [wp_X6_keepUse_105] at hw
  obtain ⟨n_105, h_105, ⟨hL9, hf9, hn9⟩, hw⟩ := hw
  obtain ⟨kq9, hkq9⟩ := p_at hL9 hf9
  refine va_iast hx hb hK hP hD hS kq9 1 hkq9 rfl hn9 dX6_keepUse_105 (fun H locs hP2 hD2 hS => ?_)
  rw [p_set hD hL9 hf9 hkq9] at hP2 hD2
  obtain ⟨f_105, ef_105⟩ : ∃ y : pF, y = va_up f k2 (.inl (dA 1, n_105, .inl (upd h_105 (Int32.toNatClampNeg k1) k0))) := ⟨_, rfl⟩
  rw [← ef_105] at hP2 hD2
  have hw := hw f_105 ef_105
  have hP := hP2
  have hD := hD2
  refine lv_aload_n hx hb dX6_keepUse_106 rfl (lv_at hl 0 rfl) ?_
  obtain ⟨fs_107, g_107, ⟨hL9, hf9, hn9⟩, hw⟩ := hw
  refine va_get (D := (dC, dI)) (ci := 7) (v := .ref g_107) (C := RX6) (T := TX6) (N := 13) hx hb hts iw_X6_keepUse_RX6 hown hK (p_one hP hL9 hf9) 0 rfl rfl 8 (by decide) (hts _ lk_X6_keepUse_27) (fun _ h9 => h9) hn9 dX6_keepUse_107 ?_
  refine lv_aload_n hx hb dX6_keepUse_110 rfl (lv_at hl 0 rfl) ?_
  obtain ⟨fs_111, g_111, ⟨hL9, hf9, hn9⟩, hw⟩ := hw
  refine va_get (D := (dC, dI)) (ci := 7) (v := .int g_111) (C := RX6) (T := TX6) (N := 13) hx hb hts iw_X6_keepUse_RX6 hown hK (p_one hP hL9 hf9) 0 rfl rfl 9 (by decide) (hts _ lk_X6_keepUse_47) (fun _ h9 => h9) hn9 dX6_keepUse_111 ?_
  refine lv_aload_n hx hb dX6_keepUse_114 rfl (lv_at hl 0 rfl) ?_
  refine lv_iload hx hb dX6_keepUse_115 (lv_at hl 1 rfl) ?_
  obtain ⟨hO9, hw⟩ := hw
  have hFc := p_free hD hS hA
  refine va_calli (va_runV (As := [.int a4]) (rest := [.int g_111, .ref g_107]) ⟨hx, hb, hml, hown, hts⟩ (c_X6_findingNow l dC dI dA zz base L f_105 H.size a0 a4 _ hw) (cwV 1 hts gX6_keepUse_X6_findingNow rfl rfl rfl (by decide +kernel) ⟨by decide, by decide⟩) (pPreV [.int a4] (ci := 7) rfl hO9 hK hP hD hS hB hz hN hT) rfl rfl hl.1 rfl (lv_room (Nat.le_of_ble_eq_true rfl)) dX6_keepUse_117 ⟨by decide, by decide⟩) hS (fun q _ h => hFc q h) hFc (fun r_117 u t H1 locs ht hvm hw hB1 hz1 hk1 hS => ?_)
  obtain ⟨L_117, f_117⟩ := u
  obtain ⟨hP, -, hD1⟩ := hB1
  rw [ht] at hP
  have hw := id hw
  have hP : va_P (dC, dI) vwCl (va_pl L_117 f_117) H1 := hP
  have hD : va_D A (va_pl L_117 f_117) := p_gain hD1 hFc
  generalize H1 = H at hP hS ⊢
  obtain ⟨n_120, h_120, ⟨hL9, hf9, hn9⟩, hw⟩ := hw
  obtain ⟨kq9, hkq9⟩ := p_at hL9 hf9
  refine va_iast hx hb hK hP hD hS kq9 1 hkq9 rfl hn9 dX6_keepUse_120 (fun H locs hP2 hD2 hS => ?_)
  rw [p_set hD hL9 hf9 hkq9] at hP2 hD2
  obtain ⟨f_120, ef_120⟩ : ∃ y : pF, y = va_up f_117 g_107 (.inl (dA 1, n_120, .inl (upd h_120 (Int32.toNatClampNeg g_111) r_117))) := ⟨_, rfl⟩
  rw [← ef_120] at hP2 hD2
  have hw := hw f_120 ef_120
  have hP := hP2
  have hD := hD2
  refine lv_aload_n hx hb dX6_keepUse_121 rfl (lv_at hl 0 rfl) ?_
  refine lv_dup hx hb dX6_keepUse_122 rfl ?_
  obtain ⟨fs_123, g_123, ⟨hL9, hf9, hn9⟩, hw⟩ := hw
  refine va_get (D := (dC, dI)) (ci := 7) (v := .int g_123) (C := RX6) (T := TX6) (N := 13) hx hb hts iw_X6_keepUse_RX6 hown hK (p_one hP hL9 hf9) 0 rfl rfl 9 (by decide) (hts _ lk_X6_keepUse_47) (fun _ h9 => h9) hn9 dX6_keepUse_123 ?_
  refine lv_iconst (v := 1) hx hb dX6_keepUse_126 (by decide) ?_
  refine lv_iadd hx hb dX6_keepUse_127 ?_
  obtain ⟨fs_128, ⟨hL9, hf9, hn9⟩, hw⟩ := hw
  obtain ⟨kq9, hkq9⟩ := p_at hL9 hf9
  refine va_put (D := (dC, dI)) (ci := 7) (v := .int (g_123 + (1 : Int32))) (C := RX6) (T := TX6) (N := 13) hx hb hts iw_X6_keepUse_RX6 tyX6 tyX6_ok nmX6 hown hK hP hD hS kq9 hkq9 rfl 9 (by decide) (hts _ lk_X6_keepUse_47) (fun _ h9 => h9) rfl (tyX6_ok 9 (by decide)) rfl rfl hn9 dX6_keepUse_128 (fun H locs hP2 hD2 hS => ?_)
  rw [p_set hD hL9 hf9 hkq9] at hP2 hD2
  obtain ⟨f_128, ef_128⟩ : ∃ y : pF, y = va_up f_120 a0 (.inr (7, fs_128.set 9 (.int (g_123 + (1 : Int32))))) := ⟨_, rfl⟩
  rw [← ef_128] at hP2 hD2
  have hw := hw f_128 ef_128
  have hP := hP2
  have hD := hD2
  refine lv_aload_n hx hb dX6_keepUse_131 rfl (lv_at hl 0 rfl) ?_
  refine lv_iload hx hb dX6_keepUse_132 (lv_at hl 1 rfl) ?_
  obtain ⟨hO9, hw⟩ := hw
  have hFc := p_free hD hS hA
  refine va_callv (va_runV (As := [.int a4]) (rest := []) ⟨hx, hb, hml, hown, hts⟩ (c_X6_see l dC dI dA zz base L_117 f_128 H.size a0 a4 _ hw) (cwV 1 hts gX6_keepUse_X6_see rfl rfl rfl (by decide +kernel) ⟨by decide, by decide⟩) (pPreV [.int a4] (ci := 7) rfl hO9 hK hP hD hS hB hz hN hT) rfl rfl hl.1 rfl (lv_room (Nat.le_of_ble_eq_true rfl)) dX6_keepUse_134 ⟨by decide, by decide⟩) hS (fun q _ h => hFc q h) hFc (fun u t H1 locs ht hvm hw hB1 hz1 hk1 hS => ?_)
  obtain ⟨L_134, f_134⟩ := u
  obtain ⟨hP, -, hD1⟩ := hB1
  rw [ht] at hP
  have hw := id hw
  have hP : va_P (dC, dI) vwCl (va_pl L_134 f_134) H1 := hP
  have hD : va_D A (va_pl L_134 f_134) := p_gain hD1 hFc
  generalize H1 = H at hP hS ⊢
  exact W.vret hx hb hr (fun t ht hW => ⟨⟨(L_134, f_134), rfl, hw, by rw [ht]; exact hP, va_K.moved hW.alike hK, hD⟩, hS.F ht⟩) hS.2.2 dX6_keepUse_137
set_option maxHeartbeats 4000000 in
set_option maxRecDepth 100000 in
theorem tb_X6_keepUse_104 {p : Program} {l : Launch} {e : Env} {s : State} {m : MethodId} {below : List Frame} {meth : Method} {c : Code} {args : Array Value} {dC : Nat → ClassId} {dI : Nat → Nat → Nat} {dA : Nat → ClassId} {zz : Nat → Nat} {base : Nat} {A : Nat → Prop} {Q : List Nat → pF → Prop} (C : pCx p s m args meth c cX6_keepUse 5 none RX6 wsX6_keepUse A dC dI dA zz base) : ∀ (L : List Nat) (f : pF) (a0 : Nat) (a4 : Int32) (k0 : Int32) (k1 : Nat), wp_X6_keepUse_104 dA zz Q  L f a0 a4 k0 k1 → pAt p l e rm_X6_keepUse s m args below meth c dC dI A (MQ below (va_Qv (fun (u : List Nat × pF) => Q u.1 u.2) (pB dC dI dA A) A) args s 0 0 A) 0 0 104 5 [(0, .ref a0), (4, .int a4)] [.int k0, .ref k1] L f := by
  obtain ⟨hx, hb, hml, hown, hts, hr, hlocks, hA, hK, hB, hz, hN, hT⟩ := id C
  intro L f a0 a4 k0 k1 hw H locs hP hD hS ls hl
  rw [wp_X6_keepUse_104] at hw
  refine lv_iconst (v := -1) hx hb dX6_keepUse_104 (by decide) ?_
  exact tb_X6_keepUse_105 C  L f a0 a4 (-1 : Int32) k0 k1 hw H locs hP hD hS ls (lv_sub hl [0, 1] rfl)
set_option maxHeartbeats 4000000 in
set_option maxRecDepth 100000 in
theorem tb_X6_keepUse_0 {p : Program} {l : Launch} {e : Env} {s : State} {m : MethodId} {below : List Frame} {meth : Method} {c : Code} {args : Array Value} {dC : Nat → ClassId} {dI : Nat → Nat → Nat} {dA : Nat → ClassId} {zz : Nat → Nat} {base : Nat} {A : Nat → Prop} {Q : List Nat → pF → Prop} (C : pCx p s m args meth c cX6_keepUse 5 none RX6 wsX6_keepUse A dC dI dA zz base) : ∀ (L : List Nat) (f : pF) (a0 : Nat) (a1 : Int32) (a2 : Int32), wp_X6_keepUse_0 dA zz Q  L f a0 a1 a2 → pAt p l e rm_X6_keepUse s m args below meth c dC dI A (MQ below (va_Qv (fun (u : List Nat × pF) => Q u.1 u.2) (pB dC dI dA A) A) args s 0 0 A) 0 0 0 5 [(0, .ref a0), (1, .int a1), (2, .int a2)] [] L f := by
  obtain ⟨hx, hb, hml, hown, hts, hr, hlocks, hA, hK, hB, hz, hN, hT⟩ := id C
  intro L f a0 a1 a2 hw H locs hP hD hS ls hl
  rw [wp_X6_keepUse_0] at hw
  refine lv_aload_n hx hb dX6_keepUse_0 rfl (lv_at hl 0 rfl) ?_
  obtain ⟨fs_1, g_1, ⟨hL9, hf9, hn9⟩, hw⟩ := hw
  refine va_get (D := (dC, dI)) (ci := 7) (v := .int g_1) (C := RX6) (T := TX6) (N := 13) hx hb hts iw_X6_keepUse_RX6 hown hK (p_one hP hL9 hf9) 0 rfl rfl 9 (by decide) (hts _ lk_X6_keepUse_47) (fun _ h9 => h9) hn9 dX6_keepUse_1 ?_
  refine lv_sipush (v := 300) hx hb dX6_keepUse_4 (by decide) ?_
  refine lv_icmp_lt (tgt := 11) hx hb dX6_keepUse_7 (by decide) (fun c_7 => ?_) (fun c_7 => ?_)
  · have hw := hw.1 c_7
    refine lv_iload_n hx hb dX6_keepUse_11 rfl (lv_at hl 1 rfl) ?_
    refine lv_iload_n hx hb dX6_keepUse_12 rfl (lv_at hl 2 rfl) ?_
    refine lv_iadd hx hb dX6_keepUse_13 ?_
    refine lv_iconst (v := 1) hx hb dX6_keepUse_14 (by decide) ?_
    refine lv_isub hx hb dX6_keepUse_15 ?_
    refine lv_topi (fun v3_16 ev3_16 => ?_)
    have hw := hw v3_16 ev3_16
    refine lv_istore_n (lv' := [(3, .int v3_16), (0, .ref a0), (1, .int a1), (2, .int a2)]) hx hb dX6_keepUse_16 rfl hl (by decide) rfl (fun ls hl => ?_)
    refine lv_aload_n hx hb dX6_keepUse_17 rfl (lv_at hl 1 rfl) ?_
    refine lv_aload_n hx hb dX6_keepUse_18 rfl (lv_at hl 1 rfl) ?_
    refine lv_iload_n hx hb dX6_keepUse_19 rfl (lv_at hl 2 rfl) ?_
    refine lv_iload_n hx hb dX6_keepUse_20 rfl (lv_at hl 0 rfl) ?_
    obtain ⟨hO9, hw⟩ := hw
    have hFc := p_free hD hS hA
    refine va_calli (va_runV (As := [.int a1, .int v3_16]) (rest := [.ref a0]) ⟨hx, hb, hml, hown, hts⟩ (c_X6_thingMeant l dC dI dA zz base L f H.size a0 a1 v3_16 _ hw) (cwV 2 hts gX6_keepUse_X6_thingMeant rfl rfl rfl (by decide +kernel) ⟨by decide, by decide⟩) (pPreV [.int a1, .int v3_16] (ci := 7) rfl hO9 hK hP hD hS hB hz hN hT) rfl rfl hl.1 rfl (lv_room (Nat.le_of_ble_eq_true rfl)) dX6_keepUse_21 ⟨by decide, by decide⟩) hS (fun q _ h => hFc q h) hFc (fun r_21 u t H1 locs ht hvm hw hB1 hz1 hk1 hS => ?_)
    obtain ⟨L_21, f_21⟩ := u
    obtain ⟨hP, -, hD1⟩ := hB1
    rw [ht] at hP
    have hw := id hw
    have hP : va_P (dC, dI) vwCl (va_pl L_21 f_21) H1 := hP
    have hD : va_D A (va_pl L_21 f_21) := p_gain hD1 hFc
    generalize H1 = H at hP hS ⊢
    obtain ⟨hO9, hw⟩ := hw
    have hFc := p_free hD hS hA
    refine va_calli (va_runV (As := [.int r_21]) (rest := []) ⟨hx, hb, hml, hown, hts⟩ (c_X6_leastTermOf l dC dI dA zz base L_21 f_21 H.size a0 r_21 _ hw) (cwV 1 hts gX6_keepUse_X6_leastTermOf rfl rfl rfl (by decide +kernel) ⟨by decide, by decide⟩) (pPreV [.int r_21] (ci := 7) rfl hO9 hK hP hD hS hB hz hN hT) rfl rfl hl.1 rfl (lv_room (Nat.le_of_ble_eq_true rfl)) dX6_keepUse_24 ⟨by decide, by decide⟩) hS (fun q _ h => hFc q h) hFc (fun r_24 u t H1 locs ht hvm hw hB1 hz1 hk1 hS => ?_)
    obtain ⟨L_24, f_24⟩ := u
    obtain ⟨hP, -, hD1⟩ := hB1
    rw [ht] at hP
    have hw := id hw
    have hP : va_P (dC, dI) vwCl (va_pl L_24 f_24) H1 := hP
    have hD : va_D A (va_pl L_24 f_24) := p_gain hD1 hFc
    generalize H1 = H at hP hS ⊢
    refine lv_istore (lv' := [(4, .int r_24), (3, .int v3_16), (0, .ref a0), (1, .int a1), (2, .int a2)]) hx hb dX6_keepUse_27 hl (by decide) rfl (fun ls hl => ?_)
    refine lv_aload_n hx hb dX6_keepUse_29 rfl (lv_at hl 2 rfl) ?_
    obtain ⟨fs_30, g_30, ⟨hL9, hf9, hn9⟩, hw⟩ := hw
    refine va_get (D := (dC, dI)) (ci := 7) (v := .ref g_30) (C := RX6) (T := TX6) (N := 13) hx hb hts iw_X6_keepUse_RX6 hown hK (p_one hP hL9 hf9) 0 rfl rfl 4 (by decide) (hts _ lk_X6_keepUse_15) (fun _ h9 => h9) hn9 dX6_keepUse_30 ?_
    refine lv_aload_n hx hb dX6_keepUse_33 rfl (lv_at hl 2 rfl) ?_
    obtain ⟨fs_34, g_34, ⟨hL9, hf9, hn9⟩, hw⟩ := hw
    refine va_get (D := (dC, dI)) (ci := 7) (v := .int g_34) (C := RX6) (T := TX6) (N := 13) hx hb hts iw_X6_keepUse_RX6 hown hK (p_one hP hL9 hf9) 0 rfl rfl 9 (by decide) (hts _ lk_X6_keepUse_47) (fun _ h9 => h9) hn9 dX6_keepUse_34 ?_
    refine lv_aload_n hx hb dX6_keepUse_37 rfl (lv_at hl 2 rfl) ?_
    obtain ⟨fs_38, g_38, ⟨hL9, hf9, hn9⟩, hw⟩ := hw
    refine va_get (D := (dC, dI)) (ci := 7) (v := .ref g_38) (C := RX6) (T := TX6) (N := 13) hx hb hts iw_X6_keepUse_RX6 hown hK (p_one hP hL9 hf9) 0 rfl rfl 2 (by decide) (hts _ lk_X6_keepUse_43) (fun _ h9 => h9) hn9 dX6_keepUse_38 ?_
    refine lv_iload_n hx hb dX6_keepUse_41 rfl (lv_at hl 3 rfl) ?_
    obtain ⟨hO9, hw⟩ := hw
    have hFc := p_free hD hS hA
    refine va_calli (va_runV (As := [.int a1]) (rest := [.int g_34, .ref g_30]) ⟨hx, hb, hml, hown, hts⟩ (c_X7_beginOf l dC dI dA zz base L_24 f_24 H.size g_38 a1 _ hw) (cwV 1 hts gX6_keepUse_X7_beginOf rfl rfl rfl (by decide +kernel) ⟨by decide, by decide⟩) (pPreV [.int a1] (ci := 8) rfl hO9 hK hP hD hS hB hz hN hT) rfl rfl hl.1 rfl (lv_room (Nat.le_of_ble_eq_true rfl)) dX6_keepUse_42 ⟨by decide, by decide⟩) hS (fun q _ h => hFc q h) hFc (fun r_42 u t H1 locs ht hvm hw hB1 hz1 hk1 hS => ?_)
    obtain ⟨L_42, f_42⟩ := u
    obtain ⟨hP, -, hD1⟩ := hB1
    rw [ht] at hP
    have hw := id hw
    have hP : va_P (dC, dI) vwCl (va_pl L_42 f_42) H1 := hP
    have hD : va_D A (va_pl L_42 f_42) := p_gain hD1 hFc
    generalize H1 = H at hP hS ⊢
    obtain ⟨n_45, h_45, ⟨hL9, hf9, hn9⟩, hw⟩ := hw
    obtain ⟨kq9, hkq9⟩ := p_at hL9 hf9
    refine va_iast hx hb hK hP hD hS kq9 1 hkq9 rfl hn9 dX6_keepUse_45 (fun H locs hP2 hD2 hS => ?_)
    rw [p_set hD hL9 hf9 hkq9] at hP2 hD2
    obtain ⟨f_45, ef_45⟩ : ∃ y : pF, y = va_up f_42 g_30 (.inl (dA 1, n_45, .inl (upd h_45 (Int32.toNatClampNeg g_34) r_42))) := ⟨_, rfl⟩
    rw [← ef_45] at hP2 hD2
    have hw := hw f_45 ef_45
    have hP := hP2
    have hD := hD2
    refine lv_aload_n hx hb dX6_keepUse_46 rfl (lv_at hl 2 rfl) ?_
    obtain ⟨fs_47, g_47, ⟨hL9, hf9, hn9⟩, hw⟩ := hw
    refine va_get (D := (dC, dI)) (ci := 7) (v := .ref g_47) (C := RX6) (T := TX6) (N := 13) hx hb hts iw_X6_keepUse_RX6 hown hK (p_one hP hL9 hf9) 0 rfl rfl 5 (by decide) (hts _ lk_X6_keepUse_18) (fun _ h9 => h9) hn9 dX6_keepUse_47 ?_
    refine lv_aload_n hx hb dX6_keepUse_50 rfl (lv_at hl 2 rfl) ?_
    obtain ⟨fs_51, g_51, ⟨hL9, hf9, hn9⟩, hw⟩ := hw
    refine va_get (D := (dC, dI)) (ci := 7) (v := .int g_51) (C := RX6) (T := TX6) (N := 13) hx hb hts iw_X6_keepUse_RX6 hown hK (p_one hP hL9 hf9) 0 rfl rfl 9 (by decide) (hts _ lk_X6_keepUse_47) (fun _ h9 => h9) hn9 dX6_keepUse_51 ?_
    refine lv_aload_n hx hb dX6_keepUse_54 rfl (lv_at hl 2 rfl) ?_
    obtain ⟨fs_55, g_55, ⟨hL9, hf9, hn9⟩, hw⟩ := hw
    refine va_get (D := (dC, dI)) (ci := 7) (v := .ref g_55) (C := RX6) (T := TX6) (N := 13) hx hb hts iw_X6_keepUse_RX6 hown hK (p_one hP hL9 hf9) 0 rfl rfl 2 (by decide) (hts _ lk_X6_keepUse_43) (fun _ h9 => h9) hn9 dX6_keepUse_55 ?_
    refine lv_iload_n hx hb dX6_keepUse_58 rfl (lv_at hl 1 rfl) ?_
    obtain ⟨hO9, hw⟩ := hw
    have hFc := p_free hD hS hA
    refine va_calli (va_runV (As := [.int v3_16]) (rest := [.int g_51, .ref g_47]) ⟨hx, hb, hml, hown, hts⟩ (c_X7_endOf l dC dI dA zz base L_42 f_45 H.size g_55 v3_16 _ hw) (cwV 1 hts gX6_keepUse_X7_endOf rfl rfl rfl (by decide +kernel) ⟨by decide, by decide⟩) (pPreV [.int v3_16] (ci := 8) rfl hO9 hK hP hD hS hB hz hN hT) rfl rfl hl.1 rfl (lv_room (Nat.le_of_ble_eq_true rfl)) dX6_keepUse_59 ⟨by decide, by decide⟩) hS (fun q _ h => hFc q h) hFc (fun r_59 u t H1 locs ht hvm hw hB1 hz1 hk1 hS => ?_)
    obtain ⟨L_59, f_59⟩ := u
    obtain ⟨hP, -, hD1⟩ := hB1
    rw [ht] at hP
    have hw := id hw
    have hP : va_P (dC, dI) vwCl (va_pl L_59 f_59) H1 := hP
    have hD : va_D A (va_pl L_59 f_59) := p_gain hD1 hFc
    generalize H1 = H at hP hS ⊢
    obtain ⟨n_62, h_62, ⟨hL9, hf9, hn9⟩, hw⟩ := hw
    obtain ⟨kq9, hkq9⟩ := p_at hL9 hf9
    refine va_iast hx hb hK hP hD hS kq9 1 hkq9 rfl hn9 dX6_keepUse_62 (fun H locs hP2 hD2 hS => ?_)
    rw [p_set hD hL9 hf9 hkq9] at hP2 hD2
    obtain ⟨f_62, ef_62⟩ : ∃ y : pF, y = va_up f_59 g_47 (.inl (dA 1, n_62, .inl (upd h_62 (Int32.toNatClampNeg g_51) r_59))) := ⟨_, rfl⟩
    rw [← ef_62] at hP2 hD2
    have hw := hw f_62 ef_62
    have hP := hP2
    have hD := hD2
    refine lv_aload_n hx hb dX6_keepUse_63 rfl (lv_at hl 2 rfl) ?_
    obtain ⟨fs_64, g_64, ⟨hL9, hf9, hn9⟩, hw⟩ := hw
    refine va_get (D := (dC, dI)) (ci := 7) (v := .ref g_64) (C := RX6) (T := TX6) (N := 13) hx hb hts iw_X6_keepUse_RX6 hown hK (p_one hP hL9 hf9) 0 rfl rfl 6 (by decide) (hts _ lk_X6_keepUse_21) (fun _ h9 => h9) hn9 dX6_keepUse_64 ?_
    refine lv_aload_n hx hb dX6_keepUse_67 rfl (lv_at hl 2 rfl) ?_
    obtain ⟨fs_68, g_68, ⟨hL9, hf9, hn9⟩, hw⟩ := hw
    refine va_get (D := (dC, dI)) (ci := 7) (v := .int g_68) (C := RX6) (T := TX6) (N := 13) hx hb hts iw_X6_keepUse_RX6 hown hK (p_one hP hL9 hf9) 0 rfl rfl 9 (by decide) (hts _ lk_X6_keepUse_47) (fun _ h9 => h9) hn9 dX6_keepUse_68 ?_
    refine lv_iload hx hb dX6_keepUse_71 (lv_at hl 0 rfl) ?_
    obtain ⟨n_73, h_73, ⟨hL9, hf9, hn9⟩, hw⟩ := hw
    obtain ⟨kq9, hkq9⟩ := p_at hL9 hf9
    refine va_iast hx hb hK hP hD hS kq9 1 hkq9 rfl hn9 dX6_keepUse_73 (fun H locs hP2 hD2 hS => ?_)
    rw [p_set hD hL9 hf9 hkq9] at hP2 hD2
    obtain ⟨f_73, ef_73⟩ : ∃ y : pF, y = va_up f_62 g_64 (.inl (dA 1, n_73, .inl (upd h_73 (Int32.toNatClampNeg g_68) r_24))) := ⟨_, rfl⟩
    rw [← ef_73] at hP2 hD2
    have hw := hw f_73 ef_73
    have hP := hP2
    have hD := hD2
    refine lv_aload_n hx hb dX6_keepUse_74 rfl (lv_at hl 2 rfl) ?_
    obtain ⟨fs_75, g_75, ⟨hL9, hf9, hn9⟩, hw⟩ := hw
    refine va_get (D := (dC, dI)) (ci := 7) (v := .ref g_75) (C := RX6) (T := TX6) (N := 13) hx hb hts iw_X6_keepUse_RX6 hown hK (p_one hP hL9 hf9) 0 rfl rfl 7 (by decide) (hts _ lk_X6_keepUse_24) (fun _ h9 => h9) hn9 dX6_keepUse_75 ?_
    refine lv_aload_n hx hb dX6_keepUse_78 rfl (lv_at hl 2 rfl) ?_
    obtain ⟨fs_79, g_79, ⟨hL9, hf9, hn9⟩, hw⟩ := hw
    refine va_get (D := (dC, dI)) (ci := 7) (v := .int g_79) (C := RX6) (T := TX6) (N := 13) hx hb hts iw_X6_keepUse_RX6 hown hK (p_one hP hL9 hf9) 0 rfl rfl 9 (by decide) (hts _ lk_X6_keepUse_47) (fun _ h9 => h9) hn9 dX6_keepUse_79 ?_
    refine lv_iload hx hb dX6_keepUse_82 (lv_at hl 0 rfl) ?_
    refine lv_if_lt (tgt := 104) hx hb dX6_keepUse_84 (by decide) (fun c_84 => ?_) (fun c_84 => ?_)
    · have hw := hw.1 c_84
      exact tb_X6_keepUse_104 C  L_59 f_73 a0 r_24 g_79 g_75 hw H locs hP hD hS ls (lv_sub hl [2, 0] rfl)
    · have hw := hw.2 c_84
      refine lv_iload hx hb dX6_keepUse_87 (lv_at hl 0 rfl) ?_
      refine lv_bipush (v := 60) hx hb dX6_keepUse_89 (by decide) ?_
      refine lv_icmp_ge (tgt := 104) hx hb dX6_keepUse_91 (by decide) (fun c_91 => ?_) (fun c_91 => ?_)
      · have hw := hw.1 c_91
        exact tb_X6_keepUse_104 C  L_59 f_73 a0 r_24 g_79 g_75 hw H locs hP hD hS ls (lv_sub hl [2, 0] rfl)
      · have hw := hw.2 c_91
        refine lv_aload_n hx hb dX6_keepUse_94 rfl (lv_at hl 2 rfl) ?_
        obtain ⟨fs_95, g_95, ⟨hL9, hf9, hn9⟩, hw⟩ := hw
        refine va_get (D := (dC, dI)) (ci := 7) (v := .ref g_95) (C := RX6) (T := TX6) (N := 13) hx hb hts iw_X6_keepUse_RX6 hown hK (p_one hP hL9 hf9) 0 rfl rfl 3 (by decide) (hts _ lk_X6_keepUse_9) (fun _ h9 => h9) hn9 dX6_keepUse_95 ?_
        refine lv_iload hx hb dX6_keepUse_98 (lv_at hl 0 rfl) ?_
        obtain ⟨n_100, h_100, ⟨hL9, hf9, hn9⟩, hw⟩ := hw
        refine va_iald hx hb hK (p_one hP hL9 hf9) 0 1 rfl rfl hn9 dX6_keepUse_100 ?_
        refine lv_topi (fun g_100 eg_100 => ?_)
        rw [← eg_100] at hw
        refine lv_goto (tgt := 105) hx hb dX6_keepUse_101 (by decide) ?_
        exact tb_X6_keepUse_105 C  L_59 f_73 a0 r_24 g_100 g_79 g_75 hw H locs hP hD hS ls (lv_sub hl [2, 0] rfl)
  · have hw := hw.2 c_7
    exact W.vret hx hb hr (fun t ht hW => ⟨⟨(L, f), rfl, hw, by rw [ht]; exact hP, va_K.moved hW.alike hK, hD⟩, hS.F ht⟩) hS.2.2 dX6_keepUse_10
set_option maxHeartbeats 4000000 in
set_option maxRecDepth 100000 in
theorem c_X6_keepUse (l : Launch) (dC : Nat → ClassId) (dI : Nat → Nat → Nat) (dA : Nat → ClassId) (zz : Nat → Nat) (base : Nat) (L : List Nat) (f : pF) (sz : Nat) (a0 : Nat) (a1 : Int32) (a2 : Int32) (Q : List Nat → pF → Prop) (hw : wp_X6_keepUse_0 dA zz Q L f a0 a1 a2) : Met l yX6_keepUse wsX6_keepUse rm_X6_keepUse (va_Pc [.ref a0, .int a1, .int a2] (pPre dC dI dA zz base L f sz)) (va_Qv (fun (u : List Nat × pF) => Q u.1 u.2) (pB dC dI dA (va_A (va_pl L f) sz)) (va_A (va_pl L f) sz)) 0 0 (va_A (va_pl L f) sz) := by
  refine Met.ofW (cc := cX6_keepUse) (maxL := 5) (ret := none) (by decide) rfl ?_
  intro p e s m args below meth c s₁ B hml hv
  obtain ⟨rfl, hsz, hP, hK, hD0, hz, hN, hT⟩ := hv
  subst hsz
  have hl := lv_entry ([.ref a0, .int a1, .int a2]) (n := 5) (Nat.le_of_ble_eq_true rfl)
  rw [lg_entry_eq]
  generalize (lg_sl ([.ref a0, .int a1, .int a2]) ++ List.replicate (5 - (lg_sl ([.ref a0, .int a1, .int a2])).length) Slot.unset).toArray = ls at hl ⊢
  exact tb_X6_keepUse_0 (Q := Q) (p := p) ⟨B.exec, B.bytes, hml, findClass_of_methodNamed B.named, atoms_spec (ws := wsX6_keepUse) B.pre, B.returns, B.notSynchronized, fun q h => Or.inr h, hK, pAB hD0 hz, hz, hN, hT⟩ L f a0 a1 a2 hw s.heap [] hP (hD0.self (sz := s.heap.size)) va_S.rf ls (lv_sub hl [0, 1, 2] rfl)
theorem iw_X6_mostWordsAt_RX5 : ∀ w ∈ u_ws RX5 TX5 5, w ∈ wsX6_mostWordsAt := by decide +kernel
theorem iw_X6_mostWordsAt_RX6 : ∀ w ∈ u_ws RX6 TX6 13, w ∈ wsX6_mostWordsAt := by decide +kernel
theorem lk_X6_mostWordsAt_106 : Cond.fieldLink RX6 106 "TermKeeper$Term" "words" "I" ∈ wsX6_mostWordsAt := by decide +kernel
theorem lk_X6_mostWordsAt_30 : Cond.fieldLink RX6 30 "TermKeeper$Uses" "glossary" "LTermKeeper$Glossary;" ∈ wsX6_mostWordsAt := by decide +kernel
theorem lk_X6_mostWordsAt_9 : Cond.fieldLink RX6 9 "TermKeeper$Uses" "ways" "[I" ∈ wsX6_mostWordsAt := by decide +kernel
theorem lm_X6_mostWordsAt_110 : Cond.methodLink RX6 110 Lib.Math.max.name ∈ wsX6_mostWordsAt := by decide +kernel
theorem lm_X6_mostWordsAt_92 : Cond.methodLink RX6 92 Lib.Math.min.name ∈ wsX6_mostWordsAt := by decide +kernel
theorem lmm1_X6_mostWordsAt_max : Cond.static Lib.Math.max.name ∈ wsX6_mostWordsAt := by decide +kernel
theorem lmm2_X6_mostWordsAt_max : Cond.initialized "java/lang/Math" ∈ wsX6_mostWordsAt := by decide +kernel
theorem lmm3_X6_mostWordsAt_max : Cond.code Lib.Math.max.name Lib.Math.max.code 2 (some .int) ∈ wsX6_mostWordsAt := by decide +kernel
theorem lmm1_X6_mostWordsAt_min : Cond.static Lib.Math.min.name ∈ wsX6_mostWordsAt := by decide +kernel
theorem lmm2_X6_mostWordsAt_min : Cond.initialized "java/lang/Math" ∈ wsX6_mostWordsAt := by decide +kernel
theorem lmm3_X6_mostWordsAt_min : Cond.code Lib.Math.min.name Lib.Math.min.code 2 (some .int) ∈ wsX6_mostWordsAt := by decide +kernel
abbrev rm_X6_mostWordsAt : Room := { frames := 4, cells := 0, slots := 0, locals := 95 }
def wp_X6_mostWordsAt_78 (dA : Nat → ClassId) (zz : Nat → Nat) (Q : Int32 → List Nat → pF → Prop) (k19_ : List Nat → pF → Nat → Nat → Int32 → Int32 → Int32 → Int32 → Prop) (L : List Nat) (f : pF) (a0 : Nat) (a1 : Nat) (a2 : Int32) (a3 : Int32) (a4 : Int32) (a5 : Int32) : Prop :=
    (∀ v5_78 : Int32, v5_78 = a5 + (1 : Int32) →
      (k19_ L f a0 a1 a2 a3 a4 v5_78))
def wp_X6_mostWordsAt_119 (dA : Nat → ClassId) (zz : Nat → Nat) (Q : Int32 → List Nat → pF → Prop) (k87_ : List Nat → pF → Nat → Int32 → Int32 → Int32 → Prop) (L : List Nat) (f : pF) (a0 : Nat) (a3 : Int32) (a4 : Int32) (a5 : Int32) : Prop :=
    (∀ v5_119 : Int32, v5_119 = a5 + (1 : Int32) →
      (k87_ L f a0 a3 a4 v5_119))
def wp_X6_mostWordsAt_87 (dA : Nat → ClassId) (zz : Nat → Nat) (Q : Int32 → List Nat → pF → Prop) : Nat → List Nat → pF → Nat → Int32 → Int32 → Int32 → Prop
  | 0, _, _, _, _, _, _ => False
  | n + 1, L, f, a0, a3, a4, a5 =>
    ((a3 ≤ a5 →
      (Q a4 L f))
     ∧ (¬ a3 ≤ a5 →
      (gR L f 7 a0 0 (fun g_94 =>
        (isO L f 2 g_94 ∧
          (wp_X1_termAt_0 dA zz (fun r_99 L_99 f_99 =>
            (gI L_99 f_99 6 r_99 1 (fun g_102 =>
              ((g_102 = a4 →
                (wp_X6_mostWordsAt_119 dA zz Q (wp_X6_mostWordsAt_87 dA zz Q  n) L_99 f_99 a0 a3 a4 a5))
               ∧ (¬ g_102 = a4 →
                (gR L_99 f_99 7 a0 3 (fun g_111 =>
                  (aIs L_99 f_99 (dA 1) g_111 a5 (-2 : Int32) (fun f_118 =>
                    (wp_X6_mostWordsAt_119 dA zz Q (wp_X6_mostWordsAt_87 dA zz Q  n) L_99 f_118 a0 a3 a4 a5)))))))))) L f g_94 a5))))))
def wp_X6_mostWordsAt_84 (dA : Nat → ClassId) (zz : Nat → Nat) (Q : Int32 → List Nat → pF → Prop) (L : List Nat) (f : pF) (a0 : Nat) (a3 : Int32) (a4 : Int32) : Prop :=
    (∃ n9 : Nat, wp_X6_mostWordsAt_87 dA zz Q  n9 L f a0 a3 a4 (0 : Int32))
def wp_X6_mostWordsAt_19 (dA : Nat → ClassId) (zz : Nat → Nat) (Q : Int32 → List Nat → pF → Prop) : Nat → List Nat → pF → Nat → Nat → Int32 → Int32 → Int32 → Int32 → Prop
  | 0, _, _, _, _, _, _, _, _ => False
  | n + 1, L, f, a0, a1, a2, a3, a4, a5 =>
    ((a3 ≤ a5 →
      (wp_X6_mostWordsAt_84 dA zz Q  L f a0 a3 a4))
     ∧ (¬ a3 ≤ a5 →
      (gR L f 7 a0 0 (fun g_26 =>
        (isO L f 2 g_26 ∧
          (wp_X1_termAt_0 dA zz (fun r_31 L_31 f_31 =>
            (gR L_31 f_31 7 a0 3 (fun g_37 =>
              (gR L_31 f_31 7 a0 0 (fun g_43 =>
                (isO L_31 f_31 2 g_43 ∧
                  (wp_X1_wayAt_0 dA zz (fun r_50 L_50 f_50 =>
                    (aIs L_50 f_50 (dA 1) g_37 a5 r_50 (fun f_53 =>
                      (gR L_50 f_53 7 a0 3 (fun g_55 =>
                        (aI L_50 f_53 (dA 1) g_55 a5 (fun g_60 =>
                          ((g_60 = (-2 : Int32) →
                            (wp_X6_mostWordsAt_78 dA zz Q (wp_X6_mostWordsAt_19 dA zz Q  n) L_50 f_53 a0 a1 a2 a3 a4 a5))
                           ∧ (¬ g_60 = (-2 : Int32) →
                            (gI L_50 f_53 6 r_31 1 (fun g_70 =>
                              (∀ m_73 : Int32, m_73 = (if a4 < g_70 then g_70 else a4) →
                                (wp_X6_mostWordsAt_78 dA zz Q (wp_X6_mostWordsAt_19 dA zz Q  n) L_50 f_53 a0 a1 a2 a3 m_73 a5))))))))))))) L_31 f_31 g_43 a1 a2 r_31))))))) L f g_26 a5))))))
def wp_X6_mostWordsAt_0 (dA : Nat → ClassId) (zz : Nat → Nat) (Q : Int32 → List Nat → pF → Prop) (L : List Nat) (f : pF) (a0 : Nat) (a1 : Nat) (a2 : Int32) : Prop :=
    (gR L f 7 a0 0 (fun g_1 =>
      (isO L f 2 g_1 ∧
        (wp_X1_termsHeld_0 dA zz (fun r_4 L_4 f_4 =>
          (∀ m_9 : Int32, m_9 = (if (60 : Int32) < r_4 then (60 : Int32) else r_4) →
            (∃ n9 : Nat, wp_X6_mostWordsAt_19 dA zz Q  n9 L_4 f_4 a0 a1 a2 m_9 (0 : Int32) (0 : Int32)))) L f g_1 ))))
set_option maxHeartbeats 4000000 in
set_option maxRecDepth 100000 in
theorem tb_X6_mostWordsAt_78 {p : Program} {l : Launch} {e : Env} {s : State} {m : MethodId} {below : List Frame} {meth : Method} {c : Code} {args : Array Value} {dC : Nat → ClassId} {dI : Nat → Nat → Nat} {dA : Nat → ClassId} {zz : Nat → Nat} {base : Nat} {A : Nat → Prop} {Q : Int32 → List Nat → pF → Prop} (C : pCx p s m args meth c cX6_mostWordsAt 7 (some .int) RX6 wsX6_mostWordsAt A dC dI dA zz base) {k19_ : List Nat → pF → Nat → Nat → Int32 → Int32 → Int32 → Int32 → Prop} (h19_ : ∀ (L : List Nat) (f : pF) (a0 : Nat) (a1 : Nat) (a2 : Int32) (a3 : Int32) (a4 : Int32) (a5 : Int32), k19_ L f a0 a1 a2 a3 a4 a5 → pAt p l e rm_X6_mostWordsAt s m args below meth c dC dI A (MQ below (va_Qi (fun r (u : List Nat × pF) => Q r u.1 u.2) (pB dC dI dA A) A) args s 0 0 A) 0 0 19 7 [(0, .ref a0), (1, .ref a1), (2, .int a2), (3, .int a3), (4, .int a4), (5, .int a5)] [] L f) : ∀ (L : List Nat) (f : pF) (a0 : Nat) (a1 : Nat) (a2 : Int32) (a3 : Int32) (a4 : Int32) (a5 : Int32), wp_X6_mostWordsAt_78 dA zz Q k19_ L f a0 a1 a2 a3 a4 a5 → pAt p l e rm_X6_mostWordsAt s m args below meth c dC dI A (MQ below (va_Qi (fun r (u : List Nat × pF) => Q r u.1 u.2) (pB dC dI dA A) A) args s 0 0 A) 0 0 78 7 [(0, .ref a0), (1, .ref a1), (2, .int a2), (3, .int a3), (4, .int a4), (5, .int a5)] [] L f := by
  obtain ⟨hx, hb, hml, hown, hts, hr, hlocks, hA, hK, hB, hz, hN, hT⟩ := id C
  intro L f a0 a1 a2 a3 a4 a5 hw H locs hP hD hS ls hl
  rw [wp_X6_mostWordsAt_78] at hw
  obtain ⟨v5_78, ev5_78⟩ : ∃ y : Int32, y = a5 + (1 : Int32) := ⟨_, rfl⟩
  have hw := hw v5_78 ev5_78
  refine lv_iinc (v := v5_78) (lv' := [(5, .int v5_78), (0, .ref a0), (1, .ref a1), (2, .int a2), (3, .int a3), (4, .int a4)]) hx hb dX6_mostWordsAt_78 hl (k := 5) rfl (by rw [ev5_78]; rfl) (by decide) rfl (fun ls hl => ?_)
  refine lv_goto (tgt := 19) hx hb dX6_mostWordsAt_81 (by decide) ?_
  exact h19_ L f a0 a1 a2 a3 a4 v5_78 hw H locs hP hD hS ls (lv_sub hl [1, 2, 3, 4, 5, 0] rfl)
set_option maxHeartbeats 4000000 in
set_option maxRecDepth 100000 in
theorem tb_X6_mostWordsAt_119 {p : Program} {l : Launch} {e : Env} {s : State} {m : MethodId} {below : List Frame} {meth : Method} {c : Code} {args : Array Value} {dC : Nat → ClassId} {dI : Nat → Nat → Nat} {dA : Nat → ClassId} {zz : Nat → Nat} {base : Nat} {A : Nat → Prop} {Q : Int32 → List Nat → pF → Prop} (C : pCx p s m args meth c cX6_mostWordsAt 7 (some .int) RX6 wsX6_mostWordsAt A dC dI dA zz base) {k87_ : List Nat → pF → Nat → Int32 → Int32 → Int32 → Prop} (h87_ : ∀ (L : List Nat) (f : pF) (a0 : Nat) (a3 : Int32) (a4 : Int32) (a5 : Int32), k87_ L f a0 a3 a4 a5 → pAt p l e rm_X6_mostWordsAt s m args below meth c dC dI A (MQ below (va_Qi (fun r (u : List Nat × pF) => Q r u.1 u.2) (pB dC dI dA A) A) args s 0 0 A) 0 0 87 7 [(0, .ref a0), (3, .int a3), (4, .int a4), (5, .int a5)] [] L f) : ∀ (L : List Nat) (f : pF) (a0 : Nat) (a3 : Int32) (a4 : Int32) (a5 : Int32), wp_X6_mostWordsAt_119 dA zz Q k87_ L f a0 a3 a4 a5 → pAt p l e rm_X6_mostWordsAt s m args below meth c dC dI A (MQ below (va_Qi (fun r (u : List Nat × pF) => Q r u.1 u.2) (pB dC dI dA A) A) args s 0 0 A) 0 0 119 7 [(0, .ref a0), (3, .int a3), (4, .int a4), (5, .int a5)] [] L f := by
  obtain ⟨hx, hb, hml, hown, hts, hr, hlocks, hA, hK, hB, hz, hN, hT⟩ := id C
  intro L f a0 a3 a4 a5 hw H locs hP hD hS ls hl
  rw [wp_X6_mostWordsAt_119] at hw
  obtain ⟨v5_119, ev5_119⟩ : ∃ y : Int32, y = a5 + (1 : Int32) := ⟨_, rfl⟩
  have hw := hw v5_119 ev5_119
  refine lv_iinc (v := v5_119) (lv' := [(5, .int v5_119), (0, .ref a0), (3, .int a3), (4, .int a4)]) hx hb dX6_mostWordsAt_119 hl (k := 3) rfl (by rw [ev5_119]; rfl) (by decide) rfl (fun ls hl => ?_)
  refine lv_goto (tgt := 87) hx hb dX6_mostWordsAt_122 (by decide) ?_
  exact h87_ L f a0 a3 a4 v5_119 hw H locs hP hD hS ls (lv_sub hl [1, 2, 3, 0] rfl)
set_option maxHeartbeats 4000000 in
set_option maxRecDepth 100000 in
theorem tb_X6_mostWordsAt_87 {p : Program} {l : Launch} {e : Env} {s : State} {m : MethodId} {below : List Frame} {meth : Method} {c : Code} {args : Array Value} {dC : Nat → ClassId} {dI : Nat → Nat → Nat} {dA : Nat → ClassId} {zz : Nat → Nat} {base : Nat} {A : Nat → Prop} {Q : Int32 → List Nat → pF → Prop} (C : pCx p s m args meth c cX6_mostWordsAt 7 (some .int) RX6 wsX6_mostWordsAt A dC dI dA zz base) : ∀ (n : Nat) (L : List Nat) (f : pF) (a0 : Nat) (a3 : Int32) (a4 : Int32) (a5 : Int32), wp_X6_mostWordsAt_87 dA zz Q  n L f a0 a3 a4 a5 → pAt p l e rm_X6_mostWordsAt s m args below meth c dC dI A (MQ below (va_Qi (fun r (u : List Nat × pF) => Q r u.1 u.2) (pB dC dI dA A) A) args s 0 0 A) 0 0 87 7 [(0, .ref a0), (3, .int a3), (4, .int a4), (5, .int a5)] [] L f := by
  obtain ⟨hx, hb, hml, hown, hts, hr, hlocks, hA, hK, hB, hz, hN, hT⟩ := id C
  intro n
  induction n with
  | zero => intro L f a0 a3 a4 a5 hw; exact hw.elim
  | succ n ih =>
    intro L f a0 a3 a4 a5 hw H locs hP hD hS ls hl
    rw [wp_X6_mostWordsAt_87] at hw
    refine lv_iload hx hb dX6_mostWordsAt_87 (lv_at hl 3 rfl) ?_
    refine lv_iload_n hx hb dX6_mostWordsAt_89 rfl (lv_at hl 1 rfl) ?_
    refine lv_icmp_ge (tgt := 125) hx hb dX6_mostWordsAt_90 (by decide) (fun c_90 => ?_) (fun c_90 => ?_)
    · have hw := hw.1 c_90
      refine lv_iload hx hb dX6_mostWordsAt_125 (lv_at hl 2 rfl) ?_
      exact W.iret (v := a4) hx hb hr (fun t ht hW => ⟨⟨a4, (L, f), rfl, hw, by rw [ht]; exact hP, va_K.moved hW.alike hK, hD⟩, hS.F ht⟩) hS.2.2 dX6_mostWordsAt_127
    · have hw := hw.2 c_90
      refine lv_aload_n hx hb dX6_mostWordsAt_93 rfl (lv_at hl 0 rfl) ?_
      obtain ⟨fs_94, g_94, ⟨hL9, hf9, hn9⟩, hw⟩ := hw
      refine va_get (D := (dC, dI)) (ci := 7) (v := .ref g_94) (C := RX6) (T := TX6) (N := 13) hx hb hts iw_X6_mostWordsAt_RX6 hown hK (p_one hP hL9 hf9) 0 rfl rfl 0 (by decide) (hts _ lk_X6_mostWordsAt_30) (fun _ h9 => h9) hn9 dX6_mostWordsAt_94 ?_
      refine lv_iload hx hb dX6_mostWordsAt_97 (lv_at hl 3 rfl) ?_
      obtain ⟨hO9, hw⟩ := hw
      have hFc := p_free hD hS hA
      refine va_callr (va_runV (As := [.int a5]) (rest := []) ⟨hx, hb, hml, hown, hts⟩ (c_X1_termAt l dC dI dA zz base L f H.size g_94 a5 _ hw) (cwV 1 hts gX6_mostWordsAt_X1_termAt rfl rfl rfl (by decide +kernel) ⟨by decide, by decide⟩) (pPreV [.int a5] (ci := 2) rfl hO9 hK hP hD hS hB hz hN hT) rfl rfl hl.1 rfl (lv_room (Nat.le_of_ble_eq_true rfl)) dX6_mostWordsAt_99 ⟨by decide, by decide⟩) hS (fun q _ h => hFc q h) hFc (fun u ra t H1 locs ht hvm hw hB1 hz1 hk1 hS => ?_)
      obtain ⟨r_99, L_99, f_99⟩ := u
      obtain ⟨hra, hP, -, hD1⟩ := hB1
      rw [show ra = r_99 from hra]
      rw [ht] at hP
      have hw := id hw
      have hP : va_P (dC, dI) vwCl (va_pl L_99 f_99) H1 := hP
      have hD : va_D A (va_pl L_99 f_99) := p_gain hD1 hFc
      generalize H1 = H at hP hS ⊢
      refine W.eq (g2 := F0 m 102 ls (.ref r_99 :: [])) rfl ?_
      obtain ⟨fs_102, g_102, ⟨hL9, hf9, hn9⟩, hw⟩ := hw
      refine va_get (D := (dC, dI)) (ci := 6) (v := .int g_102) (C := RX5) (T := TX5) (N := 5) hx hb hts iw_X6_mostWordsAt_RX5 hown hK (p_one hP hL9 hf9) 0 rfl rfl 1 (by decide) (hts _ lk_X6_mostWordsAt_106) (fun _ h9 => h9) hn9 dX6_mostWordsAt_102 ?_
      refine lv_iload hx hb dX6_mostWordsAt_105 (lv_at hl 2 rfl) ?_
      refine lv_icmp_eq (tgt := 119) hx hb dX6_mostWordsAt_107 (by decide) (fun c_107 => ?_) (fun c_107 => ?_)
      · have hw := hw.1 c_107
        exact tb_X6_mostWordsAt_119 C ih L_99 f_99 a0 a3 a4 a5 hw H locs hP hD hS ls (lv_sub hl [0, 1, 2, 3] rfl)
      · have hw := hw.2 c_107
        refine lv_aload_n hx hb dX6_mostWordsAt_110 rfl (lv_at hl 0 rfl) ?_
        obtain ⟨fs_111, g_111, ⟨hL9, hf9, hn9⟩, hw⟩ := hw
        refine va_get (D := (dC, dI)) (ci := 7) (v := .ref g_111) (C := RX6) (T := TX6) (N := 13) hx hb hts iw_X6_mostWordsAt_RX6 hown hK (p_one hP hL9 hf9) 0 rfl rfl 3 (by decide) (hts _ lk_X6_mostWordsAt_9) (fun _ h9 => h9) hn9 dX6_mostWordsAt_111 ?_
        refine lv_iload hx hb dX6_mostWordsAt_114 (lv_at hl 3 rfl) ?_
        refine lv_bipush (v := -2) hx hb dX6_mostWordsAt_116 (by decide) ?_
        obtain ⟨n_118, h_118, ⟨hL9, hf9, hn9⟩, hw⟩ := hw
        obtain ⟨kq9, hkq9⟩ := p_at hL9 hf9
        refine va_iast hx hb hK hP hD hS kq9 1 hkq9 rfl hn9 dX6_mostWordsAt_118 (fun H locs hP2 hD2 hS => ?_)
        rw [p_set hD hL9 hf9 hkq9] at hP2 hD2
        obtain ⟨f_118, ef_118⟩ : ∃ y : pF, y = va_up f_99 g_111 (.inl (dA 1, n_118, .inl (upd h_118 (Int32.toNatClampNeg a5) (-2 : Int32)))) := ⟨_, rfl⟩
        rw [← ef_118] at hP2 hD2
        have hw := hw f_118 ef_118
        have hP := hP2
        have hD := hD2
        exact tb_X6_mostWordsAt_119 C ih L_99 f_118 a0 a3 a4 a5 hw H locs hP hD hS ls (lv_sub hl [0, 1, 2, 3] rfl)
set_option maxHeartbeats 4000000 in
set_option maxRecDepth 100000 in
theorem tb_X6_mostWordsAt_84 {p : Program} {l : Launch} {e : Env} {s : State} {m : MethodId} {below : List Frame} {meth : Method} {c : Code} {args : Array Value} {dC : Nat → ClassId} {dI : Nat → Nat → Nat} {dA : Nat → ClassId} {zz : Nat → Nat} {base : Nat} {A : Nat → Prop} {Q : Int32 → List Nat → pF → Prop} (C : pCx p s m args meth c cX6_mostWordsAt 7 (some .int) RX6 wsX6_mostWordsAt A dC dI dA zz base) : ∀ (L : List Nat) (f : pF) (a0 : Nat) (a3 : Int32) (a4 : Int32), wp_X6_mostWordsAt_84 dA zz Q  L f a0 a3 a4 → pAt p l e rm_X6_mostWordsAt s m args below meth c dC dI A (MQ below (va_Qi (fun r (u : List Nat × pF) => Q r u.1 u.2) (pB dC dI dA A) A) args s 0 0 A) 0 0 84 7 [(0, .ref a0), (3, .int a3), (4, .int a4)] [] L f := by
  obtain ⟨hx, hb, hml, hown, hts, hr, hlocks, hA, hK, hB, hz, hN, hT⟩ := id C
  intro L f a0 a3 a4 hw H locs hP hD hS ls hl
  rw [wp_X6_mostWordsAt_84] at hw
  refine lv_iconst (v := 0) hx hb dX6_mostWordsAt_84 (by decide) ?_
  refine lv_istore (lv' := [(5, .int (0 : Int32)), (0, .ref a0), (3, .int a3), (4, .int a4)]) hx hb dX6_mostWordsAt_85 hl (by decide) rfl (fun ls hl => ?_)
  obtain ⟨n9, hw⟩ := hw
  exact tb_X6_mostWordsAt_87 C  n9 L f a0 a3 a4 (0 : Int32) hw H locs hP hD hS ls (lv_sub hl [1, 2, 3, 0] rfl)
set_option maxHeartbeats 4000000 in
set_option maxRecDepth 100000 in
theorem tb_X6_mostWordsAt_19 {p : Program} {l : Launch} {e : Env} {s : State} {m : MethodId} {below : List Frame} {meth : Method} {c : Code} {args : Array Value} {dC : Nat → ClassId} {dI : Nat → Nat → Nat} {dA : Nat → ClassId} {zz : Nat → Nat} {base : Nat} {A : Nat → Prop} {Q : Int32 → List Nat → pF → Prop} (C : pCx p s m args meth c cX6_mostWordsAt 7 (some .int) RX6 wsX6_mostWordsAt A dC dI dA zz base) : ∀ (n : Nat) (L : List Nat) (f : pF) (a0 : Nat) (a1 : Nat) (a2 : Int32) (a3 : Int32) (a4 : Int32) (a5 : Int32), wp_X6_mostWordsAt_19 dA zz Q  n L f a0 a1 a2 a3 a4 a5 → pAt p l e rm_X6_mostWordsAt s m args below meth c dC dI A (MQ below (va_Qi (fun r (u : List Nat × pF) => Q r u.1 u.2) (pB dC dI dA A) A) args s 0 0 A) 0 0 19 7 [(0, .ref a0), (1, .ref a1), (2, .int a2), (3, .int a3), (4, .int a4), (5, .int a5)] [] L f := by
  obtain ⟨hx, hb, hml, hown, hts, hr, hlocks, hA, hK, hB, hz, hN, hT⟩ := id C
  intro n
  induction n with
  | zero => intro L f a0 a1 a2 a3 a4 a5 hw; exact hw.elim
  | succ n ih =>
    intro L f a0 a1 a2 a3 a4 a5 hw H locs hP hD hS ls hl
    rw [wp_X6_mostWordsAt_19] at hw
    refine lv_iload hx hb dX6_mostWordsAt_19 (lv_at hl 5 rfl) ?_
    refine lv_iload_n hx hb dX6_mostWordsAt_21 rfl (lv_at hl 3 rfl) ?_
    refine lv_icmp_ge (tgt := 84) hx hb dX6_mostWordsAt_22 (by decide) (fun c_22 => ?_) (fun c_22 => ?_)
    · have hw := hw.1 c_22
      exact tb_X6_mostWordsAt_84 C  L f a0 a3 a4 hw H locs hP hD hS ls (lv_sub hl [0, 3, 4] rfl)
    · have hw := hw.2 c_22
      refine lv_aload_n hx hb dX6_mostWordsAt_25 rfl (lv_at hl 0 rfl) ?_
      obtain ⟨fs_26, g_26, ⟨hL9, hf9, hn9⟩, hw⟩ := hw
      refine va_get (D := (dC, dI)) (ci := 7) (v := .ref g_26) (C := RX6) (T := TX6) (N := 13) hx hb hts iw_X6_mostWordsAt_RX6 hown hK (p_one hP hL9 hf9) 0 rfl rfl 0 (by decide) (hts _ lk_X6_mostWordsAt_30) (fun _ h9 => h9) hn9 dX6_mostWordsAt_26 ?_
      refine lv_iload hx hb dX6_mostWordsAt_29 (lv_at hl 5 rfl) ?_
      obtain ⟨hO9, hw⟩ := hw
      have hFc := p_free hD hS hA
      refine va_callr (va_runV (As := [.int a5]) (rest := []) ⟨hx, hb, hml, hown, hts⟩ (c_X1_termAt l dC dI dA zz base L f H.size g_26 a5 _ hw) (cwV 1 hts gX6_mostWordsAt_X1_termAt rfl rfl rfl (by decide +kernel) ⟨by decide, by decide⟩) (pPreV [.int a5] (ci := 2) rfl hO9 hK hP hD hS hB hz hN hT) rfl rfl hl.1 rfl (lv_room (Nat.le_of_ble_eq_true rfl)) dX6_mostWordsAt_31 ⟨by decide, by decide⟩) hS (fun q _ h => hFc q h) hFc (fun u ra t H1 locs ht hvm hw hB1 hz1 hk1 hS => ?_)
      obtain ⟨r_31, L_31, f_31⟩ := u
      obtain ⟨hra, hP, -, hD1⟩ := hB1
      rw [show ra = r_31 from hra]
      rw [ht] at hP
      have hw := id hw
      have hP : va_P (dC, dI) vwCl (va_pl L_31 f_31) H1 := hP
      have hD : va_D A (va_pl L_31 f_31) := p_gain hD1 hFc
      generalize H1 = H at hP hS ⊢
      refine W.eq (g2 := F0 m 34 ls (.ref r_31 :: [])) rfl ?_
      refine lv_astore (lv' := [(6, .ref r_31), (0, .ref a0), (1, .ref a1), (2, .int a2), (3, .int a3), (4, .int a4), (5, .int a5)]) hx hb dX6_mostWordsAt_34 hl (by decide) rfl (fun ls hl => ?_)
      refine lv_aload_n hx hb dX6_mostWordsAt_36 rfl (lv_at hl 1 rfl) ?_
      obtain ⟨fs_37, g_37, ⟨hL9, hf9, hn9⟩, hw⟩ := hw
      refine va_get (D := (dC, dI)) (ci := 7) (v := .ref g_37) (C := RX6) (T := TX6) (N := 13) hx hb hts iw_X6_mostWordsAt_RX6 hown hK (p_one hP hL9 hf9) 0 rfl rfl 3 (by decide) (hts _ lk_X6_mostWordsAt_9) (fun _ h9 => h9) hn9 dX6_mostWordsAt_37 ?_
      refine lv_iload hx hb dX6_mostWordsAt_40 (lv_at hl 6 rfl) ?_
      refine lv_aload_n hx hb dX6_mostWordsAt_42 rfl (lv_at hl 1 rfl) ?_
      obtain ⟨fs_43, g_43, ⟨hL9, hf9, hn9⟩, hw⟩ := hw
      refine va_get (D := (dC, dI)) (ci := 7) (v := .ref g_43) (C := RX6) (T := TX6) (N := 13) hx hb hts iw_X6_mostWordsAt_RX6 hown hK (p_one hP hL9 hf9) 0 rfl rfl 0 (by decide) (hts _ lk_X6_mostWordsAt_30) (fun _ h9 => h9) hn9 dX6_mostWordsAt_43 ?_
      refine lv_aload_n hx hb dX6_mostWordsAt_46 rfl (lv_at hl 2 rfl) ?_
      refine lv_iload_n hx hb dX6_mostWordsAt_47 rfl (lv_at hl 3 rfl) ?_
      refine lv_aload hx hb dX6_mostWordsAt_48 (lv_at hl 0 rfl) ?_
      obtain ⟨hO9, hw⟩ := hw
      have hFc := p_free hD hS hA
      refine va_calli (va_runV (As := [.ref a1, .int a2, .ref r_31]) (rest := [.int a5, .ref g_37]) ⟨hx, hb, hml, hown, hts⟩ (c_X1_wayAt l dC dI dA zz base L_31 f_31 H.size g_43 a1 a2 r_31 _ hw) (cwV 3 hts gX6_mostWordsAt_X1_wayAt rfl rfl rfl (by decide +kernel) ⟨by decide, by decide⟩) (pPreV [.ref a1, .int a2, .ref r_31] (ci := 2) rfl hO9 hK hP hD hS hB hz hN hT) rfl rfl hl.1 rfl (lv_room (Nat.le_of_ble_eq_true rfl)) dX6_mostWordsAt_50 ⟨by decide, by decide⟩) hS (fun q _ h => hFc q h) hFc (fun r_50 u t H1 locs ht hvm hw hB1 hz1 hk1 hS => ?_)
      obtain ⟨L_50, f_50⟩ := u
      obtain ⟨hP, -, hD1⟩ := hB1
      rw [ht] at hP
      have hw := id hw
      have hP : va_P (dC, dI) vwCl (va_pl L_50 f_50) H1 := hP
      have hD : va_D A (va_pl L_50 f_50) := p_gain hD1 hFc
      generalize H1 = H at hP hS ⊢
      obtain ⟨n_53, h_53, ⟨hL9, hf9, hn9⟩, hw⟩ := hw
      obtain ⟨kq9, hkq9⟩ := p_at hL9 hf9
      refine va_iast hx hb hK hP hD hS kq9 1 hkq9 rfl hn9 dX6_mostWordsAt_53 (fun H locs hP2 hD2 hS => ?_)
      rw [p_set hD hL9 hf9 hkq9] at hP2 hD2
      obtain ⟨f_53, ef_53⟩ : ∃ y : pF, y = va_up f_50 g_37 (.inl (dA 1, n_53, .inl (upd h_53 (Int32.toNatClampNeg a5) r_50))) := ⟨_, rfl⟩
      rw [← ef_53] at hP2 hD2
      have hw := hw f_53 ef_53
      have hP := hP2
      have hD := hD2
      refine lv_aload_n hx hb dX6_mostWordsAt_54 rfl (lv_at hl 1 rfl) ?_
      obtain ⟨fs_55, g_55, ⟨hL9, hf9, hn9⟩, hw⟩ := hw
      refine va_get (D := (dC, dI)) (ci := 7) (v := .ref g_55) (C := RX6) (T := TX6) (N := 13) hx hb hts iw_X6_mostWordsAt_RX6 hown hK (p_one hP hL9 hf9) 0 rfl rfl 3 (by decide) (hts _ lk_X6_mostWordsAt_9) (fun _ h9 => h9) hn9 dX6_mostWordsAt_55 ?_
      refine lv_iload hx hb dX6_mostWordsAt_58 (lv_at hl 6 rfl) ?_
      obtain ⟨n_60, h_60, ⟨hL9, hf9, hn9⟩, hw⟩ := hw
      refine va_iald hx hb hK (p_one hP hL9 hf9) 0 1 rfl rfl hn9 dX6_mostWordsAt_60 ?_
      refine lv_topi (fun g_60 eg_60 => ?_)
      rw [← eg_60] at hw
      refine lv_bipush (v := -2) hx hb dX6_mostWordsAt_61 (by decide) ?_
      refine lv_icmp_eq (tgt := 78) hx hb dX6_mostWordsAt_63 (by decide) (fun c_63 => ?_) (fun c_63 => ?_)
      · have hw := hw.1 c_63
        exact tb_X6_mostWordsAt_78 C ih L_50 f_53 a0 a1 a2 a3 a4 a5 hw H locs hP hD hS ls (lv_sub hl [1, 2, 3, 4, 5, 6] rfl)
      · have hw := hw.2 c_63
        refine lv_iload hx hb dX6_mostWordsAt_66 (lv_at hl 5 rfl) ?_
        refine lv_aload hx hb dX6_mostWordsAt_68 (lv_at hl 0 rfl) ?_
        obtain ⟨fs_70, g_70, ⟨hL9, hf9, hn9⟩, hw⟩ := hw
        refine va_get (D := (dC, dI)) (ci := 6) (v := .int g_70) (C := RX5) (T := TX5) (N := 5) hx hb hts iw_X6_mostWordsAt_RX5 hown hK (p_one hP hL9 hf9) 0 rfl rfl 1 (by decide) (hts _ lk_X6_mostWordsAt_106) (fun _ h9 => h9) hn9 dX6_mostWordsAt_70 ?_
        refine va_mmax hx hb (by rw [hml]; exact hl.1.symm) hown (hts _ lm_X6_mostWordsAt_110) (hts _ lmm1_X6_mostWordsAt_max) (hts _ lmm2_X6_mostWordsAt_max) (hts _ lmm3_X6_mostWordsAt_max) (Nat.le_of_ble_eq_true rfl) (Nat.le_of_ble_eq_true rfl) (Nat.le_of_ble_eq_true rfl) (Nat.le_of_ble_eq_true rfl) dX6_mostWordsAt_73 ?_
        refine lv_topi (fun m_73 em_73 => ?_)
        have hw := hw m_73 em_73
        refine lv_istore (lv' := [(4, .int m_73), (6, .ref r_31), (0, .ref a0), (1, .ref a1), (2, .int a2), (3, .int a3), (5, .int a5)]) hx hb dX6_mostWordsAt_76 hl (by decide) rfl (fun ls hl => ?_)
        exact tb_X6_mostWordsAt_78 C ih L_50 f_53 a0 a1 a2 a3 m_73 a5 hw H locs hP hD hS ls (lv_sub hl [2, 3, 4, 5, 0, 6] rfl)
set_option maxHeartbeats 4000000 in
set_option maxRecDepth 100000 in
theorem tb_X6_mostWordsAt_0 {p : Program} {l : Launch} {e : Env} {s : State} {m : MethodId} {below : List Frame} {meth : Method} {c : Code} {args : Array Value} {dC : Nat → ClassId} {dI : Nat → Nat → Nat} {dA : Nat → ClassId} {zz : Nat → Nat} {base : Nat} {A : Nat → Prop} {Q : Int32 → List Nat → pF → Prop} (C : pCx p s m args meth c cX6_mostWordsAt 7 (some .int) RX6 wsX6_mostWordsAt A dC dI dA zz base) : ∀ (L : List Nat) (f : pF) (a0 : Nat) (a1 : Nat) (a2 : Int32), wp_X6_mostWordsAt_0 dA zz Q  L f a0 a1 a2 → pAt p l e rm_X6_mostWordsAt s m args below meth c dC dI A (MQ below (va_Qi (fun r (u : List Nat × pF) => Q r u.1 u.2) (pB dC dI dA A) A) args s 0 0 A) 0 0 0 7 [(0, .ref a0), (1, .ref a1), (2, .int a2)] [] L f := by
  obtain ⟨hx, hb, hml, hown, hts, hr, hlocks, hA, hK, hB, hz, hN, hT⟩ := id C
  intro L f a0 a1 a2 hw H locs hP hD hS ls hl
  rw [wp_X6_mostWordsAt_0] at hw
  refine lv_aload_n hx hb dX6_mostWordsAt_0 rfl (lv_at hl 0 rfl) ?_
  obtain ⟨fs_1, g_1, ⟨hL9, hf9, hn9⟩, hw⟩ := hw
  refine va_get (D := (dC, dI)) (ci := 7) (v := .ref g_1) (C := RX6) (T := TX6) (N := 13) hx hb hts iw_X6_mostWordsAt_RX6 hown hK (p_one hP hL9 hf9) 0 rfl rfl 0 (by decide) (hts _ lk_X6_mostWordsAt_30) (fun _ h9 => h9) hn9 dX6_mostWordsAt_1 ?_
  obtain ⟨hO9, hw⟩ := hw
  have hFc := p_free hD hS hA
  refine va_calli (va_runV (As := []) (rest := []) ⟨hx, hb, hml, hown, hts⟩ (c_X1_termsHeld l dC dI dA zz base L f H.size g_1  _ hw) (cwV 0 hts gX6_mostWordsAt_X1_termsHeld rfl rfl rfl (by decide +kernel) ⟨by decide, by decide⟩) (pPreV [] (ci := 2) rfl hO9 hK hP hD hS hB hz hN hT) rfl rfl hl.1 rfl (lv_room (Nat.le_of_ble_eq_true rfl)) dX6_mostWordsAt_4 ⟨by decide, by decide⟩) hS (fun q _ h => hFc q h) hFc (fun r_4 u t H1 locs ht hvm hw hB1 hz1 hk1 hS => ?_)
  obtain ⟨L_4, f_4⟩ := u
  obtain ⟨hP, -, hD1⟩ := hB1
  rw [ht] at hP
  have hw := id hw
  have hP : va_P (dC, dI) vwCl (va_pl L_4 f_4) H1 := hP
  have hD : va_D A (va_pl L_4 f_4) := p_gain hD1 hFc
  generalize H1 = H at hP hS ⊢
  refine lv_bipush (v := 60) hx hb dX6_mostWordsAt_7 (by decide) ?_
  refine va_mmin hx hb (by rw [hml]; exact hl.1.symm) hown (hts _ lm_X6_mostWordsAt_92) (hts _ lmm1_X6_mostWordsAt_min) (hts _ lmm2_X6_mostWordsAt_min) (hts _ lmm3_X6_mostWordsAt_min) (Nat.le_of_ble_eq_true rfl) (Nat.le_of_ble_eq_true rfl) (Nat.le_of_ble_eq_true rfl) (Nat.le_of_ble_eq_true rfl) dX6_mostWordsAt_9 ?_
  refine lv_topi (fun m_9 em_9 => ?_)
  have hw := hw m_9 em_9
  refine lv_istore_n (lv' := [(3, .int m_9), (0, .ref a0), (1, .ref a1), (2, .int a2)]) hx hb dX6_mostWordsAt_12 rfl hl (by decide) rfl (fun ls hl => ?_)
  refine lv_iconst (v := 0) hx hb dX6_mostWordsAt_13 (by decide) ?_
  refine lv_istore (lv' := [(4, .int (0 : Int32)), (3, .int m_9), (0, .ref a0), (1, .ref a1), (2, .int a2)]) hx hb dX6_mostWordsAt_14 hl (by decide) rfl (fun ls hl => ?_)
  refine lv_iconst (v := 0) hx hb dX6_mostWordsAt_16 (by decide) ?_
  refine lv_istore (lv' := [(5, .int (0 : Int32)), (4, .int (0 : Int32)), (3, .int m_9), (0, .ref a0), (1, .ref a1), (2, .int a2)]) hx hb dX6_mostWordsAt_17 hl (by decide) rfl (fun ls hl => ?_)
  obtain ⟨n9, hw⟩ := hw
  exact tb_X6_mostWordsAt_19 C  n9 L_4 f_4 a0 a1 a2 m_9 (0 : Int32) (0 : Int32) hw H locs hP hD hS ls (lv_sub hl [3, 4, 5, 2, 1, 0] rfl)
set_option maxHeartbeats 4000000 in
set_option maxRecDepth 100000 in
theorem c_X6_mostWordsAt (l : Launch) (dC : Nat → ClassId) (dI : Nat → Nat → Nat) (dA : Nat → ClassId) (zz : Nat → Nat) (base : Nat) (L : List Nat) (f : pF) (sz : Nat) (a0 : Nat) (a1 : Nat) (a2 : Int32) (Q : Int32 → List Nat → pF → Prop) (hw : wp_X6_mostWordsAt_0 dA zz Q L f a0 a1 a2) : Met l yX6_mostWordsAt wsX6_mostWordsAt rm_X6_mostWordsAt (va_Pc [.ref a0, .ref a1, .int a2] (pPre dC dI dA zz base L f sz)) (va_Qi (fun r (u : List Nat × pF) => Q r u.1 u.2) (pB dC dI dA (va_A (va_pl L f) sz)) (va_A (va_pl L f) sz)) 0 0 (va_A (va_pl L f) sz) := by
  refine Met.ofW (cc := cX6_mostWordsAt) (maxL := 7) (ret := (some .int)) (by decide) rfl ?_
  intro p e s m args below meth c s₁ B hml hv
  obtain ⟨rfl, hsz, hP, hK, hD0, hz, hN, hT⟩ := hv
  subst hsz
  have hl := lv_entry ([.ref a0, .ref a1, .int a2]) (n := 7) (Nat.le_of_ble_eq_true rfl)
  rw [lg_entry_eq]
  generalize (lg_sl ([.ref a0, .ref a1, .int a2]) ++ List.replicate (7 - (lg_sl ([.ref a0, .ref a1, .int a2])).length) Slot.unset).toArray = ls at hl ⊢
  exact tb_X6_mostWordsAt_0 (Q := Q) (p := p) ⟨B.exec, B.bytes, hml, findClass_of_methodNamed B.named, atoms_spec (ws := wsX6_mostWordsAt) B.pre, B.returns, B.notSynchronized, fun q h => Or.inr h, hK, pAB hD0 hz, hz, hN, hT⟩ L f a0 a1 a2 hw s.heap [] hP (hD0.self (sz := s.heap.size)) va_S.rf ls (lv_sub hl [0, 1, 2] rfl)
theorem iw_X6_read_RX6 : ∀ w ∈ u_ws RX6 TX6 13, w ∈ wsX6_read := by decide +kernel
theorem lk_X6_read_43 : Cond.fieldLink RX6 43 "TermKeeper$Uses" "words" "LTermKeeper$Words;" ∈ wsX6_read := by decide +kernel
theorem lk_X6_read_47 : Cond.fieldLink RX6 47 "TermKeeper$Uses" "size" "I" ∈ wsX6_read := by decide +kernel
theorem lk_X6_read_55 : Cond.fieldLink RX6 55 "TermKeeper$Uses" "termsSeen" "J" ∈ wsX6_read := by decide +kernel
theorem lk_X6_read_59 : Cond.fieldLink RX6 59 "TermKeeper$Uses" "thingsSeen" "J" ∈ wsX6_read := by decide +kernel
theorem lk_X6_read_66 : Cond.fieldLink RX6 66 "TermKeeper$Uses" "thingsSpelled" "J" ∈ wsX6_read := by decide +kernel
abbrev rm_X6_read : Room := { frames := 7, cells := 0, slots := 0, locals := 161 }
def wp_X6_read_96 (dA : Nat → ClassId) (zz : Nat → Nat) (Q : List Nat → pF → Prop) (k32_ : List Nat → pF → Nat → Nat → Int32 → Int32 → Prop) (L : List Nat) (f : pF) (a0 : Nat) (a1 : Nat) (a2 : Int32) (a3 : Int32) : Prop :=
    (∀ v3_96 : Int32, v3_96 = a3 + (1 : Int32) →
      (k32_ L f a0 a1 a2 v3_96))
def wp_X6_read_32 (dA : Nat → ClassId) (zz : Nat → Nat) (Q : List Nat → pF → Prop) : Nat → List Nat → pF → Nat → Nat → Int32 → Int32 → Prop
  | 0, _, _, _, _, _, _ => False
  | n + 1, L, f, a0, a1, a2, a3 =>
    (gR L f 7 a0 2 (fun g_34 =>
      (isO L f 8 g_34 ∧
        (wp_X7_size_0 dA zz (fun r_37 L_37 f_37 =>
          ((r_37 ≤ a3 →
            (Q L_37 f_37))
           ∧ (¬ r_37 ≤ a3 →
            (gR L_37 f_37 7 a0 2 (fun g_44 =>
              (isO L_37 f_37 8 g_44 ∧
                (wp_X7_beginOf_0 dA zz (fun r_48 L_48 f_48 =>
                  ((r_48 < a2 →
                    (wp_X6_read_96 dA zz Q (wp_X6_read_32 dA zz Q  n) L_48 f_48 a0 a1 a2 a3))
                   ∧ (¬ r_48 < a2 →
                    (gR L_48 f_48 7 a0 2 (fun g_58 =>
                      (isO L_48 f_48 8 g_58 ∧
                        (wp_X7_beginOf_0 dA zz (fun r_62 L_62 f_62 =>
                          (isO L_62 f_62 7 a0 ∧
                            (wp_X6_mostWordsAt_0 dA zz (fun r_65 L_65 f_65 =>
                              ((r_65 ≤ 0 →
                                (wp_X6_read_96 dA zz Q (wp_X6_read_32 dA zz Q  n) L_65 f_65 a0 a1 a2 a3))
                               ∧ (¬ r_65 ≤ 0 →
                                (isO L_65 f_65 7 a0 ∧
                                  (wp_X6_keepUse_0 dA zz (fun L_79 f_79 =>
                                    (gR L_79 f_79 7 a0 2 (fun g_83 =>
                                      (isO L_79 f_79 8 g_83 ∧
                                        (wp_X7_endOf_0 dA zz (fun r_92 L_92 f_92 =>
                                          (wp_X6_read_96 dA zz Q (wp_X6_read_32 dA zz Q  n) L_92 f_92 a0 a1 r_92 a3)) L_79 f_79 g_83 ((a3 + r_65) - (1 : Int32))))))) L_65 f_65 a0 a3 r_65))))) L_62 f_62 a0 a1 r_62))) L_48 f_48 g_58 a3))))))) L_37 f_37 g_44 a3))))))) L f g_34 ))))
def wp_X6_read_0 (dA : Nat → ClassId) (zz : Nat → Nat) (Q : List Nat → pF → Prop) (L : List Nat) (f : pF) (a0 : Nat) (a1 : Nat) : Prop :=
    (gR L f 7 a0 2 (fun g_1 =>
      (isO L f 8 g_1 ∧
        (wp_X7_read_0 dA zz (fun L_5 f_5 =>
          (gP L_5 f_5 7 a0 9 (.int (0 : Int32)) (fun f_10 =>
            (gP L_5 f_10 7 a0 10 (.long (0 : Int64)) (fun f_15 =>
              (gP L_5 f_15 7 a0 11 (.long (0 : Int64)) (fun f_20 =>
                (gP L_5 f_20 7 a0 12 (.long (0 : Int64)) (fun f_25 =>
                  (∃ n9 : Nat, wp_X6_read_32 dA zz Q  n9 L_5 f_25 a0 a1 (0 : Int32) (0 : Int32))))))))))) L f g_1 a1))))
set_option maxHeartbeats 4000000 in
set_option maxRecDepth 100000 in
theorem tb_X6_read_96 {p : Program} {l : Launch} {e : Env} {s : State} {m : MethodId} {below : List Frame} {meth : Method} {c : Code} {args : Array Value} {dC : Nat → ClassId} {dI : Nat → Nat → Nat} {dA : Nat → ClassId} {zz : Nat → Nat} {base : Nat} {A : Nat → Prop} {Q : List Nat → pF → Prop} (C : pCx p s m args meth c cX6_read 5 none RX6 wsX6_read A dC dI dA zz base) {k32_ : List Nat → pF → Nat → Nat → Int32 → Int32 → Prop} (h32_ : ∀ (L : List Nat) (f : pF) (a0 : Nat) (a1 : Nat) (a2 : Int32) (a3 : Int32), k32_ L f a0 a1 a2 a3 → pAt p l e rm_X6_read s m args below meth c dC dI A (MQ below (va_Qv (fun (u : List Nat × pF) => Q u.1 u.2) (pB dC dI dA A) A) args s 0 0 A) 0 0 32 5 [(0, .ref a0), (1, .ref a1), (2, .int a2), (3, .int a3)] [] L f) : ∀ (L : List Nat) (f : pF) (a0 : Nat) (a1 : Nat) (a2 : Int32) (a3 : Int32), wp_X6_read_96 dA zz Q k32_ L f a0 a1 a2 a3 → pAt p l e rm_X6_read s m args below meth c dC dI A (MQ below (va_Qv (fun (u : List Nat × pF) => Q u.1 u.2) (pB dC dI dA A) A) args s 0 0 A) 0 0 96 5 [(0, .ref a0), (1, .ref a1), (2, .int a2), (3, .int a3)] [] L f := by
  obtain ⟨hx, hb, hml, hown, hts, hr, hlocks, hA, hK, hB, hz, hN, hT⟩ := id C
  intro L f a0 a1 a2 a3 hw H locs hP hD hS ls hl
  rw [wp_X6_read_96] at hw
  obtain ⟨v3_96, ev3_96⟩ : ∃ y : Int32, y = a3 + (1 : Int32) := ⟨_, rfl⟩
  have hw := hw v3_96 ev3_96
  refine lv_iinc (v := v3_96) (lv' := [(3, .int v3_96), (0, .ref a0), (1, .ref a1), (2, .int a2)]) hx hb dX6_read_96 hl (k := 3) rfl (by rw [ev3_96]; rfl) (by decide) rfl (fun ls hl => ?_)
  refine lv_goto (tgt := 32) hx hb dX6_read_99 (by decide) ?_
  exact h32_ L f a0 a1 a2 v3_96 hw H locs hP hD hS ls (lv_sub hl [1, 2, 3, 0] rfl)
set_option maxHeartbeats 4000000 in
set_option maxRecDepth 100000 in
theorem tb_X6_read_32 {p : Program} {l : Launch} {e : Env} {s : State} {m : MethodId} {below : List Frame} {meth : Method} {c : Code} {args : Array Value} {dC : Nat → ClassId} {dI : Nat → Nat → Nat} {dA : Nat → ClassId} {zz : Nat → Nat} {base : Nat} {A : Nat → Prop} {Q : List Nat → pF → Prop} (C : pCx p s m args meth c cX6_read 5 none RX6 wsX6_read A dC dI dA zz base) : ∀ (n : Nat) (L : List Nat) (f : pF) (a0 : Nat) (a1 : Nat) (a2 : Int32) (a3 : Int32), wp_X6_read_32 dA zz Q  n L f a0 a1 a2 a3 → pAt p l e rm_X6_read s m args below meth c dC dI A (MQ below (va_Qv (fun (u : List Nat × pF) => Q u.1 u.2) (pB dC dI dA A) A) args s 0 0 A) 0 0 32 5 [(0, .ref a0), (1, .ref a1), (2, .int a2), (3, .int a3)] [] L f := by
  obtain ⟨hx, hb, hml, hown, hts, hr, hlocks, hA, hK, hB, hz, hN, hT⟩ := id C
  intro n
  induction n with
  | zero => intro L f a0 a1 a2 a3 hw; exact hw.elim
  | succ n ih =>
    intro L f a0 a1 a2 a3 hw H locs hP hD hS ls hl
    rw [wp_X6_read_32] at hw
    refine lv_iload_n hx hb dX6_read_32 rfl (lv_at hl 3 rfl) ?_
    refine lv_aload_n hx hb dX6_read_33 rfl (lv_at hl 0 rfl) ?_
    obtain ⟨fs_34, g_34, ⟨hL9, hf9, hn9⟩, hw⟩ := hw
    refine va_get (D := (dC, dI)) (ci := 7) (v := .ref g_34) (C := RX6) (T := TX6) (N := 13) hx hb hts iw_X6_read_RX6 hown hK (p_one hP hL9 hf9) 0 rfl rfl 2 (by decide) (hts _ lk_X6_read_43) (fun _ h9 => h9) hn9 dX6_read_34 ?_
    obtain ⟨hO9, hw⟩ := hw
    have hFc := p_free hD hS hA
    refine va_calli (va_runV (As := []) (rest := [.int a3]) ⟨hx, hb, hml, hown, hts⟩ (c_X7_size l dC dI dA zz base L f H.size g_34  _ hw) (cwV 0 hts gX6_read_X7_size rfl rfl rfl (by decide +kernel) ⟨by decide, by decide⟩) (pPreV [] (ci := 8) rfl hO9 hK hP hD hS hB hz hN hT) rfl rfl hl.1 rfl (lv_room (Nat.le_of_ble_eq_true rfl)) dX6_read_37 ⟨by decide, by decide⟩) hS (fun q _ h => hFc q h) hFc (fun r_37 u t H1 locs ht hvm hw hB1 hz1 hk1 hS => ?_)
    obtain ⟨L_37, f_37⟩ := u
    obtain ⟨hP, -, hD1⟩ := hB1
    rw [ht] at hP
    have hw := id hw
    have hP : va_P (dC, dI) vwCl (va_pl L_37 f_37) H1 := hP
    have hD : va_D A (va_pl L_37 f_37) := p_gain hD1 hFc
    generalize H1 = H at hP hS ⊢
    refine lv_icmp_ge (tgt := 102) hx hb dX6_read_40 (by decide) (fun c_40 => ?_) (fun c_40 => ?_)
    · have hw := hw.1 c_40
      exact W.vret hx hb hr (fun t ht hW => ⟨⟨(L_37, f_37), rfl, hw, by rw [ht]; exact hP, va_K.moved hW.alike hK, hD⟩, hS.F ht⟩) hS.2.2 dX6_read_102
    · have hw := hw.2 c_40
      refine lv_aload_n hx hb dX6_read_43 rfl (lv_at hl 0 rfl) ?_
      obtain ⟨fs_44, g_44, ⟨hL9, hf9, hn9⟩, hw⟩ := hw
      refine va_get (D := (dC, dI)) (ci := 7) (v := .ref g_44) (C := RX6) (T := TX6) (N := 13) hx hb hts iw_X6_read_RX6 hown hK (p_one hP hL9 hf9) 0 rfl rfl 2 (by decide) (hts _ lk_X6_read_43) (fun _ h9 => h9) hn9 dX6_read_44 ?_
      refine lv_iload_n hx hb dX6_read_47 rfl (lv_at hl 3 rfl) ?_
      obtain ⟨hO9, hw⟩ := hw
      have hFc := p_free hD hS hA
      refine va_calli (va_runV (As := [.int a3]) (rest := []) ⟨hx, hb, hml, hown, hts⟩ (c_X7_beginOf l dC dI dA zz base L_37 f_37 H.size g_44 a3 _ hw) (cwV 1 hts gX6_read_X7_beginOf rfl rfl rfl (by decide +kernel) ⟨by decide, by decide⟩) (pPreV [.int a3] (ci := 8) rfl hO9 hK hP hD hS hB hz hN hT) rfl rfl hl.1 rfl (lv_room (Nat.le_of_ble_eq_true rfl)) dX6_read_48 ⟨by decide, by decide⟩) hS (fun q _ h => hFc q h) hFc (fun r_48 u t H1 locs ht hvm hw hB1 hz1 hk1 hS => ?_)
      obtain ⟨L_48, f_48⟩ := u
      obtain ⟨hP, -, hD1⟩ := hB1
      rw [ht] at hP
      have hw := id hw
      have hP : va_P (dC, dI) vwCl (va_pl L_48 f_48) H1 := hP
      have hD : va_D A (va_pl L_48 f_48) := p_gain hD1 hFc
      generalize H1 = H at hP hS ⊢
      refine lv_iload_n hx hb dX6_read_51 rfl (lv_at hl 2 rfl) ?_
      refine lv_icmp_lt (tgt := 96) hx hb dX6_read_52 (by decide) (fun c_52 => ?_) (fun c_52 => ?_)
      · have hw := hw.1 c_52
        exact tb_X6_read_96 C ih L_48 f_48 a0 a1 a2 a3 hw H locs hP hD hS ls (lv_sub hl [0, 1, 2, 3] rfl)
      · have hw := hw.2 c_52
        refine lv_aload_n hx hb dX6_read_55 rfl (lv_at hl 0 rfl) ?_
        refine lv_aload_n hx hb dX6_read_56 rfl (lv_at hl 1 rfl) ?_
        refine lv_aload_n hx hb dX6_read_57 rfl (lv_at hl 0 rfl) ?_
        obtain ⟨fs_58, g_58, ⟨hL9, hf9, hn9⟩, hw⟩ := hw
        refine va_get (D := (dC, dI)) (ci := 7) (v := .ref g_58) (C := RX6) (T := TX6) (N := 13) hx hb hts iw_X6_read_RX6 hown hK (p_one hP hL9 hf9) 0 rfl rfl 2 (by decide) (hts _ lk_X6_read_43) (fun _ h9 => h9) hn9 dX6_read_58 ?_
        refine lv_iload_n hx hb dX6_read_61 rfl (lv_at hl 3 rfl) ?_
        obtain ⟨hO9, hw⟩ := hw
        have hFc := p_free hD hS hA
        refine va_calli (va_runV (As := [.int a3]) (rest := [.ref a1, .ref a0]) ⟨hx, hb, hml, hown, hts⟩ (c_X7_beginOf l dC dI dA zz base L_48 f_48 H.size g_58 a3 _ hw) (cwV 1 hts gX6_read_X7_beginOf rfl rfl rfl (by decide +kernel) ⟨by decide, by decide⟩) (pPreV [.int a3] (ci := 8) rfl hO9 hK hP hD hS hB hz hN hT) rfl rfl hl.1 rfl (lv_room (Nat.le_of_ble_eq_true rfl)) dX6_read_62 ⟨by decide, by decide⟩) hS (fun q _ h => hFc q h) hFc (fun r_62 u t H1 locs ht hvm hw hB1 hz1 hk1 hS => ?_)
        obtain ⟨L_62, f_62⟩ := u
        obtain ⟨hP, -, hD1⟩ := hB1
        rw [ht] at hP
        have hw := id hw
        have hP : va_P (dC, dI) vwCl (va_pl L_62 f_62) H1 := hP
        have hD : va_D A (va_pl L_62 f_62) := p_gain hD1 hFc
        generalize H1 = H at hP hS ⊢
        obtain ⟨hO9, hw⟩ := hw
        have hFc := p_free hD hS hA
        refine va_calli (va_runV (As := [.ref a1, .int r_62]) (rest := []) ⟨hx, hb, hml, hown, hts⟩ (c_X6_mostWordsAt l dC dI dA zz base L_62 f_62 H.size a0 a1 r_62 _ hw) (cwV 2 hts gX6_read_X6_mostWordsAt rfl rfl rfl (by decide +kernel) ⟨by decide, by decide⟩) (pPreV [.ref a1, .int r_62] (ci := 7) rfl hO9 hK hP hD hS hB hz hN hT) rfl rfl hl.1 rfl (lv_room (Nat.le_of_ble_eq_true rfl)) dX6_read_65 ⟨by decide, by decide⟩) hS (fun q _ h => hFc q h) hFc (fun r_65 u t H1 locs ht hvm hw hB1 hz1 hk1 hS => ?_)
        obtain ⟨L_65, f_65⟩ := u
        obtain ⟨hP, -, hD1⟩ := hB1
        rw [ht] at hP
        have hw := id hw
        have hP : va_P (dC, dI) vwCl (va_pl L_65 f_65) H1 := hP
        have hD : va_D A (va_pl L_65 f_65) := p_gain hD1 hFc
        generalize H1 = H at hP hS ⊢
        refine lv_istore (lv' := [(4, .int r_65), (0, .ref a0), (1, .ref a1), (2, .int a2), (3, .int a3)]) hx hb dX6_read_68 hl (by decide) rfl (fun ls hl => ?_)
        refine lv_iload hx hb dX6_read_70 (lv_at hl 0 rfl) ?_
        refine lv_if_le (tgt := 96) hx hb dX6_read_72 (by decide) (fun c_72 => ?_) (fun c_72 => ?_)
        · have hw := hw.1 c_72
          exact tb_X6_read_96 C ih L_65 f_65 a0 a1 a2 a3 hw H locs hP hD hS ls (lv_sub hl [1, 2, 3, 4] rfl)
        · have hw := hw.2 c_72
          refine lv_aload_n hx hb dX6_read_75 rfl (lv_at hl 1 rfl) ?_
          refine lv_iload_n hx hb dX6_read_76 rfl (lv_at hl 4 rfl) ?_
          refine lv_iload hx hb dX6_read_77 (lv_at hl 0 rfl) ?_
          obtain ⟨hO9, hw⟩ := hw
          have hFc := p_free hD hS hA
          refine va_callv (va_runV (As := [.int a3, .int r_65]) (rest := []) ⟨hx, hb, hml, hown, hts⟩ (c_X6_keepUse l dC dI dA zz base L_65 f_65 H.size a0 a3 r_65 _ hw) (cwV 2 hts gX6_read_X6_keepUse rfl rfl rfl (by decide +kernel) ⟨by decide, by decide⟩) (pPreV [.int a3, .int r_65] (ci := 7) rfl hO9 hK hP hD hS hB hz hN hT) rfl rfl hl.1 rfl (lv_room (Nat.le_of_ble_eq_true rfl)) dX6_read_79 ⟨by decide, by decide⟩) hS (fun q _ h => hFc q h) hFc (fun u t H1 locs ht hvm hw hB1 hz1 hk1 hS => ?_)
          obtain ⟨L_79, f_79⟩ := u
          obtain ⟨hP, -, hD1⟩ := hB1
          rw [ht] at hP
          have hw := id hw
          have hP : va_P (dC, dI) vwCl (va_pl L_79 f_79) H1 := hP
          have hD : va_D A (va_pl L_79 f_79) := p_gain hD1 hFc
          generalize H1 = H at hP hS ⊢
          refine lv_aload_n hx hb dX6_read_82 rfl (lv_at hl 1 rfl) ?_
          obtain ⟨fs_83, g_83, ⟨hL9, hf9, hn9⟩, hw⟩ := hw
          refine va_get (D := (dC, dI)) (ci := 7) (v := .ref g_83) (C := RX6) (T := TX6) (N := 13) hx hb hts iw_X6_read_RX6 hown hK (p_one hP hL9 hf9) 0 rfl rfl 2 (by decide) (hts _ lk_X6_read_43) (fun _ h9 => h9) hn9 dX6_read_83 ?_
          refine lv_iload_n hx hb dX6_read_86 rfl (lv_at hl 4 rfl) ?_
          refine lv_iload hx hb dX6_read_87 (lv_at hl 0 rfl) ?_
          refine lv_iadd hx hb dX6_read_89 ?_
          refine lv_iconst (v := 1) hx hb dX6_read_90 (by decide) ?_
          refine lv_isub hx hb dX6_read_91 ?_
          obtain ⟨hO9, hw⟩ := hw
          have hFc := p_free hD hS hA
          refine va_calli (va_runV (As := [.int ((a3 + r_65) - (1 : Int32))]) (rest := []) ⟨hx, hb, hml, hown, hts⟩ (c_X7_endOf l dC dI dA zz base L_79 f_79 H.size g_83 ((a3 + r_65) - (1 : Int32)) _ hw) (cwV 1 hts gX6_read_X7_endOf rfl rfl rfl (by decide +kernel) ⟨by decide, by decide⟩) (pPreV [.int ((a3 + r_65) - (1 : Int32))] (ci := 8) rfl hO9 hK hP hD hS hB hz hN hT) rfl rfl hl.1 rfl (lv_room (Nat.le_of_ble_eq_true rfl)) dX6_read_92 ⟨by decide, by decide⟩) hS (fun q _ h => hFc q h) hFc (fun r_92 u t H1 locs ht hvm hw hB1 hz1 hk1 hS => ?_)
          obtain ⟨L_92, f_92⟩ := u
          obtain ⟨hP, -, hD1⟩ := hB1
          rw [ht] at hP
          have hw := id hw
          have hP : va_P (dC, dI) vwCl (va_pl L_92 f_92) H1 := hP
          have hD : va_D A (va_pl L_92 f_92) := p_gain hD1 hFc
          generalize H1 = H at hP hS ⊢
          refine lv_istore_n (lv' := [(2, .int r_92), (4, .int r_65), (0, .ref a0), (1, .ref a1), (3, .int a3)]) hx hb dX6_read_95 rfl hl (by decide) rfl (fun ls hl => ?_)
          exact tb_X6_read_96 C ih L_92 f_92 a0 a1 r_92 a3 hw H locs hP hD hS ls (lv_sub hl [2, 3, 0, 4] rfl)
set_option maxHeartbeats 4000000 in
set_option maxRecDepth 100000 in
theorem tb_X6_read_0 {p : Program} {l : Launch} {e : Env} {s : State} {m : MethodId} {below : List Frame} {meth : Method} {c : Code} {args : Array Value} {dC : Nat → ClassId} {dI : Nat → Nat → Nat} {dA : Nat → ClassId} {zz : Nat → Nat} {base : Nat} {A : Nat → Prop} {Q : List Nat → pF → Prop} (C : pCx p s m args meth c cX6_read 5 none RX6 wsX6_read A dC dI dA zz base) : ∀ (L : List Nat) (f : pF) (a0 : Nat) (a1 : Nat), wp_X6_read_0 dA zz Q  L f a0 a1 → pAt p l e rm_X6_read s m args below meth c dC dI A (MQ below (va_Qv (fun (u : List Nat × pF) => Q u.1 u.2) (pB dC dI dA A) A) args s 0 0 A) 0 0 0 5 [(0, .ref a0), (1, .ref a1)] [] L f := by
  obtain ⟨hx, hb, hml, hown, hts, hr, hlocks, hA, hK, hB, hz, hN, hT⟩ := id C
  intro L f a0 a1 hw H locs hP hD hS ls hl
  rw [wp_X6_read_0] at hw
  refine lv_aload_n hx hb dX6_read_0 rfl (lv_at hl 0 rfl) ?_
  obtain ⟨fs_1, g_1, ⟨hL9, hf9, hn9⟩, hw⟩ := hw
  refine va_get (D := (dC, dI)) (ci := 7) (v := .ref g_1) (C := RX6) (T := TX6) (N := 13) hx hb hts iw_X6_read_RX6 hown hK (p_one hP hL9 hf9) 0 rfl rfl 2 (by decide) (hts _ lk_X6_read_43) (fun _ h9 => h9) hn9 dX6_read_1 ?_
  refine lv_aload_n hx hb dX6_read_4 rfl (lv_at hl 1 rfl) ?_
  obtain ⟨hO9, hw⟩ := hw
  have hFc := p_free hD hS hA
  refine va_callv (va_runV (As := [.ref a1]) (rest := []) ⟨hx, hb, hml, hown, hts⟩ (c_X7_read l dC dI dA zz base L f H.size g_1 a1 _ hw) (cwV 1 hts gX6_read_X7_read rfl rfl rfl (by decide +kernel) ⟨by decide, by decide⟩) (pPreV [.ref a1] (ci := 8) rfl hO9 hK hP hD hS hB hz hN hT) rfl rfl hl.1 rfl (lv_room (Nat.le_of_ble_eq_true rfl)) dX6_read_5 ⟨by decide, by decide⟩) hS (fun q _ h => hFc q h) hFc (fun u t H1 locs ht hvm hw hB1 hz1 hk1 hS => ?_)
  obtain ⟨L_5, f_5⟩ := u
  obtain ⟨hP, -, hD1⟩ := hB1
  rw [ht] at hP
  have hw := id hw
  have hP : va_P (dC, dI) vwCl (va_pl L_5 f_5) H1 := hP
  have hD : va_D A (va_pl L_5 f_5) := p_gain hD1 hFc
  generalize H1 = H at hP hS ⊢
  refine lv_aload_n hx hb dX6_read_8 rfl (lv_at hl 0 rfl) ?_
  refine lv_iconst (v := 0) hx hb dX6_read_9 (by decide) ?_
  obtain ⟨fs_10, ⟨hL9, hf9, hn9⟩, hw⟩ := hw
  obtain ⟨kq9, hkq9⟩ := p_at hL9 hf9
  refine va_put (D := (dC, dI)) (ci := 7) (v := .int (0 : Int32)) (C := RX6) (T := TX6) (N := 13) hx hb hts iw_X6_read_RX6 tyX6 tyX6_ok nmX6 hown hK hP hD hS kq9 hkq9 rfl 9 (by decide) (hts _ lk_X6_read_47) (fun _ h9 => h9) rfl (tyX6_ok 9 (by decide)) rfl rfl hn9 dX6_read_10 (fun H locs hP2 hD2 hS => ?_)
  rw [p_set hD hL9 hf9 hkq9] at hP2 hD2
  obtain ⟨f_10, ef_10⟩ : ∃ y : pF, y = va_up f_5 a0 (.inr (7, fs_10.set 9 (.int (0 : Int32)))) := ⟨_, rfl⟩
  rw [← ef_10] at hP2 hD2
  have hw := hw f_10 ef_10
  have hP := hP2
  have hD := hD2
  refine lv_aload_n hx hb dX6_read_13 rfl (lv_at hl 0 rfl) ?_
  refine lv_lconst (v := 0) hx hb dX6_read_14 (by decide) ?_
  obtain ⟨fs_15, ⟨hL9, hf9, hn9⟩, hw⟩ := hw
  obtain ⟨kq9, hkq9⟩ := p_at hL9 hf9
  refine va_put (D := (dC, dI)) (ci := 7) (v := .long (0 : Int64)) (C := RX6) (T := TX6) (N := 13) hx hb hts iw_X6_read_RX6 tyX6 tyX6_ok nmX6 hown hK hP hD hS kq9 hkq9 rfl 10 (by decide) (hts _ lk_X6_read_55) (fun _ h9 => h9) rfl (tyX6_ok 10 (by decide)) rfl rfl hn9 dX6_read_15 (fun H locs hP2 hD2 hS => ?_)
  rw [p_set hD hL9 hf9 hkq9] at hP2 hD2
  obtain ⟨f_15, ef_15⟩ : ∃ y : pF, y = va_up f_10 a0 (.inr (7, fs_15.set 10 (.long (0 : Int64)))) := ⟨_, rfl⟩
  rw [← ef_15] at hP2 hD2
  have hw := hw f_15 ef_15
  have hP := hP2
  have hD := hD2
  refine lv_aload_n hx hb dX6_read_18 rfl (lv_at hl 0 rfl) ?_
  refine lv_lconst (v := 0) hx hb dX6_read_19 (by decide) ?_
  obtain ⟨fs_20, ⟨hL9, hf9, hn9⟩, hw⟩ := hw
  obtain ⟨kq9, hkq9⟩ := p_at hL9 hf9
  refine va_put (D := (dC, dI)) (ci := 7) (v := .long (0 : Int64)) (C := RX6) (T := TX6) (N := 13) hx hb hts iw_X6_read_RX6 tyX6 tyX6_ok nmX6 hown hK hP hD hS kq9 hkq9 rfl 11 (by decide) (hts _ lk_X6_read_59) (fun _ h9 => h9) rfl (tyX6_ok 11 (by decide)) rfl rfl hn9 dX6_read_20 (fun H locs hP2 hD2 hS => ?_)
  rw [p_set hD hL9 hf9 hkq9] at hP2 hD2
  obtain ⟨f_20, ef_20⟩ : ∃ y : pF, y = va_up f_15 a0 (.inr (7, fs_20.set 11 (.long (0 : Int64)))) := ⟨_, rfl⟩
  rw [← ef_20] at hP2 hD2
  have hw := hw f_20 ef_20
  have hP := hP2
  have hD := hD2
  refine lv_aload_n hx hb dX6_read_23 rfl (lv_at hl 0 rfl) ?_
  refine lv_lconst (v := 0) hx hb dX6_read_24 (by decide) ?_
  obtain ⟨fs_25, ⟨hL9, hf9, hn9⟩, hw⟩ := hw
  obtain ⟨kq9, hkq9⟩ := p_at hL9 hf9
  refine va_put (D := (dC, dI)) (ci := 7) (v := .long (0 : Int64)) (C := RX6) (T := TX6) (N := 13) hx hb hts iw_X6_read_RX6 tyX6 tyX6_ok nmX6 hown hK hP hD hS kq9 hkq9 rfl 12 (by decide) (hts _ lk_X6_read_66) (fun _ h9 => h9) rfl (tyX6_ok 12 (by decide)) rfl rfl hn9 dX6_read_25 (fun H locs hP2 hD2 hS => ?_)
  rw [p_set hD hL9 hf9 hkq9] at hP2 hD2
  obtain ⟨f_25, ef_25⟩ : ∃ y : pF, y = va_up f_20 a0 (.inr (7, fs_25.set 12 (.long (0 : Int64)))) := ⟨_, rfl⟩
  rw [← ef_25] at hP2 hD2
  have hw := hw f_25 ef_25
  have hP := hP2
  have hD := hD2
  refine lv_iconst (v := 0) hx hb dX6_read_28 (by decide) ?_
  refine lv_istore_n (lv' := [(2, .int (0 : Int32)), (0, .ref a0), (1, .ref a1)]) hx hb dX6_read_29 rfl hl (by decide) rfl (fun ls hl => ?_)
  refine lv_iconst (v := 0) hx hb dX6_read_30 (by decide) ?_
  refine lv_istore_n (lv' := [(3, .int (0 : Int32)), (2, .int (0 : Int32)), (0, .ref a0), (1, .ref a1)]) hx hb dX6_read_31 rfl hl (by decide) rfl (fun ls hl => ?_)
  obtain ⟨n9, hw⟩ := hw
  exact tb_X6_read_32 C  n9 L_5 f_25 a0 a1 (0 : Int32) (0 : Int32) hw H locs hP hD hS ls (lv_sub hl [2, 3, 1, 0] rfl)
set_option maxHeartbeats 4000000 in
set_option maxRecDepth 100000 in
theorem c_X6_read (l : Launch) (dC : Nat → ClassId) (dI : Nat → Nat → Nat) (dA : Nat → ClassId) (zz : Nat → Nat) (base : Nat) (L : List Nat) (f : pF) (sz : Nat) (a0 : Nat) (a1 : Nat) (Q : List Nat → pF → Prop) (hw : wp_X6_read_0 dA zz Q L f a0 a1) : Met l yX6_read wsX6_read rm_X6_read (va_Pc [.ref a0, .ref a1] (pPre dC dI dA zz base L f sz)) (va_Qv (fun (u : List Nat × pF) => Q u.1 u.2) (pB dC dI dA (va_A (va_pl L f) sz)) (va_A (va_pl L f) sz)) 0 0 (va_A (va_pl L f) sz) := by
  refine Met.ofW (cc := cX6_read) (maxL := 5) (ret := none) (by decide) rfl ?_
  intro p e s m args below meth c s₁ B hml hv
  obtain ⟨rfl, hsz, hP, hK, hD0, hz, hN, hT⟩ := hv
  subst hsz
  have hl := lv_entry ([.ref a0, .ref a1]) (n := 5) (Nat.le_of_ble_eq_true rfl)
  rw [lg_entry_eq]
  generalize (lg_sl ([.ref a0, .ref a1]) ++ List.replicate (5 - (lg_sl ([.ref a0, .ref a1])).length) Slot.unset).toArray = ls at hl ⊢
  exact tb_X6_read_0 (Q := Q) (p := p) ⟨B.exec, B.bytes, hml, findClass_of_methodNamed B.named, atoms_spec (ws := wsX6_read) B.pre, B.returns, B.notSynchronized, fun q h => Or.inr h, hK, pAB hD0 hz, hz, hN, hT⟩ L f a0 a1 hw s.heap [] hP (hD0.self (sz := s.heap.size)) va_S.rf ls (lv_sub hl [0, 1] rfl)
