theorem lk_L_term_13 : Cond.classLink RL 13 "java/lang/IllegalArgumentException" ∈ wsL_term := by decide +kernel
abbrev rm_L_term : Room := { frames := 9, cells := 6, slots := 1619, locals := 240 }
def wp_L_term_0 (dA : Nat → ClassId) (zz : Nat → Nat) (Q : Int32 → List Nat → pF → Prop) (L : List Nat) (f : pF) (a0 : Nat) (a1 : Int32) (a2 : Int32) (a3 : Int32) (a4 : Nat) : Prop :=
    (isO L f 9 a0 ∧
      (wp_X8_term_0 dA zz (fun r_7 L_7 f_7 =>
        (aJs L_7 f_7 (dA 2) a4 (0 : Int32) (Int32.toInt64 r_7) (fun f_11 =>
          (Q (0 : Int32) L_7 f_11)))) (fun E9 L9 f9 => (E9 = "java/lang/IllegalArgumentException" → (Q (1 : Int32) L9 f9)) ∧ (E9 = "java/util/NoSuchElementException" → (False)) ∧ (E9 = "java/lang/IllegalArgumentException" ∨ E9 = "java/util/NoSuchElementException")) L f a0 a1 a2 a3))
set_option maxHeartbeats 4000000 in
set_option maxRecDepth 100000 in
theorem tb_L_term_0 {p : Program} {l : Launch} {e : Env} {s : State} {m : MethodId} {below : List Frame} {meth : Method} {c : Code} {args : Array Value} {dC : Nat → ClassId} {dI : Nat → Nat → Nat} {dA : Nat → ClassId} {zz : Nat → Nat} {base : Nat} {A : Nat → Prop} {Q : Int32 → List Nat → pF → Prop} (C : pCx p s m args meth c cL_term 6 (some .int) RL wsL_term A dC dI dA zz base ∧ l.stackTraces = false ∧ c.exceptionTable.toList = tableOf  [(0, 12, 15, 13)]) : ∀ (L : List Nat) (f : pF) (a0 : Nat) (a1 : Int32) (a2 : Int32) (a3 : Int32) (a4 : Nat), wp_L_term_0 dA zz Q  L f a0 a1 a2 a3 a4 → pAt p l e rm_L_term s m args below meth c dC dI A (MQ below (va_Qi (fun r (u : List Nat × pF) => Q r u.1 u.2) (pB dC dI dA A) A) args s 6 1619 A) 0 0 0 6 [(0, .ref a0), (1, .int a1), (2, .int a2), (3, .int a3), (4, .ref a4)] [] L f := by
  obtain ⟨⟨hx, hb, hml, hown, hts, hr, hlocks, hA, hK, hB, hz, hN, hT⟩, hlt, htab⟩ := id C
  intro L f a0 a1 a2 a3 a4 hw H locs hP hD hS ls hl
  rw [wp_L_term_0] at hw
  refine lv_aload hx hb dL_term_0 (lv_at hl 4 rfl) ?_
  refine lv_iconst (v := 0) hx hb dL_term_2 (by decide) ?_
  refine lv_aload_n hx hb dL_term_3 rfl (lv_at hl 0 rfl) ?_
  refine lv_iload_n hx hb dL_term_4 rfl (lv_at hl 1 rfl) ?_
  refine lv_iload_n hx hb dL_term_5 rfl (lv_at hl 2 rfl) ?_
  refine lv_iload_n hx hb dL_term_6 rfl (lv_at hl 3 rfl) ?_
  obtain ⟨hO9, hw⟩ := hw
  have hFc := p_free hD hS hA
  refine vx_calli (vx_runV (As := [.int a1, .int a2, .int a3]) (rest := [.int (0 : Int32), .ref a4]) ⟨hx, hb, hml, hown, hts⟩ (c_X8_term l hlt dC dI dA zz base L f H.size a0 a1 a2 a3 _ _ hw) (cwV 3 hts gL_term_X8_term rfl rfl rfl (by decide +kernel) ⟨by decide, by decide⟩) (pPreV [.int a1, .int a2, .int a3] (ci := 9) rfl hO9 hK hP hD hS hB hz hN hT) rfl rfl hl.1 rfl (lv_room (Nat.le_of_ble_eq_true rfl)) dL_term_7 ⟨by decide, by decide⟩) hS (fun q _ h => hFc q h) hFc (fun q _ h => hFc q h) (fun E ce q9 u t H1 locs ht hvm hw hB1 hz1 hk1 hS hce hcv hcl => by
      obtain ⟨E9, L9, f9⟩ := u
      obtain ⟨hE, hP, -, hD1⟩ := hB1
      rw [ht] at hP
      have hE : E = E9 := hE
      have hP : va_P (dC, dI) vwCl (va_pl L9 f9) H1 := hP
      have hD : va_D A (va_pl L9 f9) := p_gain hD1 hFc
      generalize H1 = H at hP hS hce ⊢
      rw [hE] at hcl
      clear hE
      rcases hw.2.2 with hE | hE
      · have hw := hw.1 hE
        have hE : E9 = _ := hE
        rw [hE] at hcl
        refine vx_catch (own := RL) (name := "java/lang/IllegalArgumentException") hown [] ⟨0, 12, 15, 13⟩ [] (by rw [htab]; rfl) (fun z h => absurd h List.not_mem_nil) (by decide) (by decide) (hts _ lk_L_term_13) (hN.2.2.2.2.2.2.2.2.2.2.2.2.2.1.use rfl) hce hcv hcl ?_
        refine W.widen (k := 6) (n := 1619) (by decide) (by decide) ?_
        refine lv_astore (lv' := [(5, .ref q9), (0, .ref a0), (1, .int a1), (2, .int a2), (3, .int a3), (4, .ref a4)]) hx hb dL_term_15 hl (by decide) rfl (fun ls hl => ?_)
        refine lv_iconst (v := 1) hx hb dL_term_17 (by decide) ?_
        exact W.iret (v := (1 : Int32)) hx hb hr (fun t ht hW => ⟨⟨(1 : Int32), (L9, f9), rfl, hw, by rw [ht]; exact hP, va_K.moved hW.alike hK, hD⟩, hS.F ht⟩) hS.2.2 dL_term_18
      · have hw := hw.2.1 hE
        have hE : E9 = _ := hE
        rw [hE] at hcl
        exact hw.elim) (fun r_7 u t H1 locs ht hvm hw hB1 hz1 hk1 hS => ?_)
  obtain ⟨L_7, f_7⟩ := u
  obtain ⟨hP, -, hD1⟩ := hB1
  rw [ht] at hP
  have hw := id hw
  have hP : va_P (dC, dI) vwCl (va_pl L_7 f_7) H1 := hP
  have hD : va_D A (va_pl L_7 f_7) := p_gain hD1 hFc
  generalize H1 = H at hP hS ⊢
  refine W.widen (k := 6) (n := 1619) (by decide) (by decide) ?_
  refine lv_i2l hx hb dL_term_10 rfl ?_
  obtain ⟨n_11, h_11, ⟨hL9, hf9, hn9⟩, hw⟩ := hw
  obtain ⟨kq9, hkq9⟩ := p_at hL9 hf9
  refine va_last hx hb hK hP hD hS kq9 2 hkq9 rfl hn9 dL_term_11 (fun H locs hP2 hD2 hS => ?_)
  rw [p_set hD hL9 hf9 hkq9] at hP2 hD2
  obtain ⟨f_11, ef_11⟩ : ∃ y : pF, y = va_up f_7 a4 (.inl (dA 2, n_11, .inr (.inl (vp_updL h_11 (Int32.toNatClampNeg (0 : Int32)) (Int32.toInt64 r_7))))) := ⟨_, rfl⟩
  rw [← ef_11] at hP2 hD2
  have hw := hw f_11 ef_11
  have hP := hP2
  have hD := hD2
  refine lv_goto (tgt := 19) hx hb dL_term_12 (by decide) ?_
  refine lv_iconst (v := 0) hx hb dL_term_19 (by decide) ?_
  exact W.iret (v := (0 : Int32)) hx hb hr (fun t ht hW => ⟨⟨(0 : Int32), (L_7, f_11), rfl, hw, by rw [ht]; exact hP, va_K.moved hW.alike hK, hD⟩, hS.F ht⟩) hS.2.2 dL_term_20
set_option maxHeartbeats 4000000 in
set_option maxRecDepth 100000 in
theorem c_L_term (l : Launch) (hlt : l.stackTraces = false) (dC : Nat → ClassId) (dI : Nat → Nat → Nat) (dA : Nat → ClassId) (zz : Nat → Nat) (base : Nat) (L : List Nat) (f : pF) (sz : Nat) (a0 : Nat) (a1 : Int32) (a2 : Int32) (a3 : Int32) (a4 : Nat) (Q : Int32 → List Nat → pF → Prop) (hw : wp_L_term_0 dA zz Q L f a0 a1 a2 a3 a4) : Met l yL_term wsL_term rm_L_term (va_Pc [.ref a0, .int a1, .int a2, .int a3, .ref a4] (pPre dC dI dA zz base L f sz)) (va_Qi (fun r (u : List Nat × pF) => Q r u.1 u.2) (pB dC dI dA (va_A (va_pl L f) sz)) (va_A (va_pl L f) sz)) 6 1619 (va_A (va_pl L f) sz) := by
  refine va_MetW (cc := cL_term) (maxL := 6) (ret := (some .int)) (by decide) rfl ?_
  intro p e s m args below meth c s₁ B hml hv
  obtain ⟨rfl, hsz, hP, hK, hD0, hz, hN, hT⟩ := hv
  subst hsz
  have hl := lv_entry ([.ref a0, .int a1, .int a2, .int a3, .ref a4]) (n := 6) (Nat.le_of_ble_eq_true rfl)
  rw [lg_entry_eq]
  generalize (lg_sl ([.ref a0, .int a1, .int a2, .int a3, .ref a4]) ++ List.replicate (6 - (lg_sl ([.ref a0, .int a1, .int a2, .int a3, .ref a4])).length) Slot.unset).toArray = ls at hl ⊢
  exact tb_L_term_0 (Q := Q) (p := p) ⟨⟨B.exec, B.bytes, hml, findClass_of_methodNamed B.named, atoms_spec (ws := wsL_term) B.pre, B.returns, B.notSynchronized, fun q h => Or.inr h, hK, pAB hD0 hz, hz, hN, hT⟩, hlt, vx_table (x := yL_term) B (atoms_spec (ws := wsL_term) B.pre _ List.mem_cons_self)⟩ L f a0 a1 a2 a3 a4 hw s.heap [] hP (hD0.self (sz := s.heap.size)) va_S.rf ls (lv_sub hl [0, 1, 2, 3, 4] rfl)
theorem lk_L_neighbour_13 : Cond.classLink RL 13 "java/lang/IllegalArgumentException" ∈ wsL_neighbour := by decide +kernel
abbrev rm_L_neighbour : Room := { frames := 9, cells := 5, slots := 1610, locals := 238 }
def wp_L_neighbour_0 (dA : Nat → ClassId) (zz : Nat → Nat) (Q : Int32 → List Nat → pF → Prop) (L : List Nat) (f : pF) (a0 : Nat) (a1 : Int32) (a2 : Nat) : Prop :=
    (isO L f 9 a0 ∧
      (wp_X8_neighbour_0 dA zz (fun r_4 L_4 f_4 =>
        (aJs L_4 f_4 (dA 2) a2 (0 : Int32) (Int32.toInt64 r_4) (fun f_8 =>
          (Q (0 : Int32) L_4 f_8)))) (fun E9 L9 f9 => (E9 = "java/lang/IllegalArgumentException" → (Q (1 : Int32) L9 f9)) ∧ (E9 = "java/util/NoSuchElementException" → (False)) ∧ (E9 = "java/lang/IllegalArgumentException" ∨ E9 = "java/util/NoSuchElementException")) L f a0 a1))
set_option maxHeartbeats 4000000 in
set_option maxRecDepth 100000 in
theorem tb_L_neighbour_0 {p : Program} {l : Launch} {e : Env} {s : State} {m : MethodId} {below : List Frame} {meth : Method} {c : Code} {args : Array Value} {dC : Nat → ClassId} {dI : Nat → Nat → Nat} {dA : Nat → ClassId} {zz : Nat → Nat} {base : Nat} {A : Nat → Prop} {Q : Int32 → List Nat → pF → Prop} (C : pCx p s m args meth c cL_neighbour 4 (some .int) RL wsL_neighbour A dC dI dA zz base ∧ l.stackTraces = false ∧ c.exceptionTable.toList = tableOf  [(0, 9, 12, 13)]) : ∀ (L : List Nat) (f : pF) (a0 : Nat) (a1 : Int32) (a2 : Nat), wp_L_neighbour_0 dA zz Q  L f a0 a1 a2 → pAt p l e rm_L_neighbour s m args below meth c dC dI A (MQ below (va_Qi (fun r (u : List Nat × pF) => Q r u.1 u.2) (pB dC dI dA A) A) args s 5 1610 A) 0 0 0 4 [(0, .ref a0), (1, .int a1), (2, .ref a2)] [] L f := by
  obtain ⟨⟨hx, hb, hml, hown, hts, hr, hlocks, hA, hK, hB, hz, hN, hT⟩, hlt, htab⟩ := id C
  intro L f a0 a1 a2 hw H locs hP hD hS ls hl
  rw [wp_L_neighbour_0] at hw
  refine lv_aload_n hx hb dL_neighbour_0 rfl (lv_at hl 2 rfl) ?_
  refine lv_iconst (v := 0) hx hb dL_neighbour_1 (by decide) ?_
  refine lv_aload_n hx hb dL_neighbour_2 rfl (lv_at hl 0 rfl) ?_
  refine lv_iload_n hx hb dL_neighbour_3 rfl (lv_at hl 1 rfl) ?_
  obtain ⟨hO9, hw⟩ := hw
  have hFc := p_free hD hS hA
  refine vx_calli (vx_runV (As := [.int a1]) (rest := [.int (0 : Int32), .ref a2]) ⟨hx, hb, hml, hown, hts⟩ (c_X8_neighbour l hlt dC dI dA zz base L f H.size a0 a1 _ _ hw) (cwV 1 hts gL_neighbour_X8_neighbour rfl rfl rfl (by decide +kernel) ⟨by decide, by decide⟩) (pPreV [.int a1] (ci := 9) rfl hO9 hK hP hD hS hB hz hN hT) rfl rfl hl.1 rfl (lv_room (Nat.le_of_ble_eq_true rfl)) dL_neighbour_4 ⟨by decide, by decide⟩) hS (fun q _ h => hFc q h) hFc (fun q _ h => hFc q h) (fun E ce q9 u t H1 locs ht hvm hw hB1 hz1 hk1 hS hce hcv hcl => by
      obtain ⟨E9, L9, f9⟩ := u
      obtain ⟨hE, hP, -, hD1⟩ := hB1
      rw [ht] at hP
      have hE : E = E9 := hE
      have hP : va_P (dC, dI) vwCl (va_pl L9 f9) H1 := hP
      have hD : va_D A (va_pl L9 f9) := p_gain hD1 hFc
      generalize H1 = H at hP hS hce ⊢
      rw [hE] at hcl
      clear hE
      rcases hw.2.2 with hE | hE
      · have hw := hw.1 hE
        have hE : E9 = _ := hE
        rw [hE] at hcl
        refine vx_catch (own := RL) (name := "java/lang/IllegalArgumentException") hown [] ⟨0, 9, 12, 13⟩ [] (by rw [htab]; rfl) (fun z h => absurd h List.not_mem_nil) (by decide) (by decide) (hts _ lk_L_neighbour_13) (hN.2.2.2.2.2.2.2.2.2.2.2.2.2.1.use rfl) hce hcv hcl ?_
        refine W.widen (k := 5) (n := 1610) (by decide) (by decide) ?_
        refine lv_astore_n (lv' := [(3, .ref q9), (0, .ref a0), (1, .int a1), (2, .ref a2)]) hx hb dL_neighbour_12 rfl hl (by decide) rfl (fun ls hl => ?_)
        refine lv_iconst (v := 1) hx hb dL_neighbour_13 (by decide) ?_
        exact W.iret (v := (1 : Int32)) hx hb hr (fun t ht hW => ⟨⟨(1 : Int32), (L9, f9), rfl, hw, by rw [ht]; exact hP, va_K.moved hW.alike hK, hD⟩, hS.F ht⟩) hS.2.2 dL_neighbour_14
      · have hw := hw.2.1 hE
        have hE : E9 = _ := hE
        rw [hE] at hcl
        exact hw.elim) (fun r_4 u t H1 locs ht hvm hw hB1 hz1 hk1 hS => ?_)
  obtain ⟨L_4, f_4⟩ := u
  obtain ⟨hP, -, hD1⟩ := hB1
  rw [ht] at hP
  have hw := id hw
  have hP : va_P (dC, dI) vwCl (va_pl L_4 f_4) H1 := hP
  have hD : va_D A (va_pl L_4 f_4) := p_gain hD1 hFc
  generalize H1 = H at hP hS ⊢
  refine W.widen (k := 5) (n := 1610) (by decide) (by decide) ?_
  refine lv_i2l hx hb dL_neighbour_7 rfl ?_
  obtain ⟨n_8, h_8, ⟨hL9, hf9, hn9⟩, hw⟩ := hw
  obtain ⟨kq9, hkq9⟩ := p_at hL9 hf9
  refine va_last hx hb hK hP hD hS kq9 2 hkq9 rfl hn9 dL_neighbour_8 (fun H locs hP2 hD2 hS => ?_)
  rw [p_set hD hL9 hf9 hkq9] at hP2 hD2
  obtain ⟨f_8, ef_8⟩ : ∃ y : pF, y = va_up f_4 a2 (.inl (dA 2, n_8, .inr (.inl (vp_updL h_8 (Int32.toNatClampNeg (0 : Int32)) (Int32.toInt64 r_4))))) := ⟨_, rfl⟩
  rw [← ef_8] at hP2 hD2
  have hw := hw f_8 ef_8
  have hP := hP2
  have hD := hD2
  refine lv_goto (tgt := 15) hx hb dL_neighbour_9 (by decide) ?_
  refine lv_iconst (v := 0) hx hb dL_neighbour_15 (by decide) ?_
  exact W.iret (v := (0 : Int32)) hx hb hr (fun t ht hW => ⟨⟨(0 : Int32), (L_4, f_8), rfl, hw, by rw [ht]; exact hP, va_K.moved hW.alike hK, hD⟩, hS.F ht⟩) hS.2.2 dL_neighbour_16
set_option maxHeartbeats 4000000 in
set_option maxRecDepth 100000 in
theorem c_L_neighbour (l : Launch) (hlt : l.stackTraces = false) (dC : Nat → ClassId) (dI : Nat → Nat → Nat) (dA : Nat → ClassId) (zz : Nat → Nat) (base : Nat) (L : List Nat) (f : pF) (sz : Nat) (a0 : Nat) (a1 : Int32) (a2 : Nat) (Q : Int32 → List Nat → pF → Prop) (hw : wp_L_neighbour_0 dA zz Q L f a0 a1 a2) : Met l yL_neighbour wsL_neighbour rm_L_neighbour (va_Pc [.ref a0, .int a1, .ref a2] (pPre dC dI dA zz base L f sz)) (va_Qi (fun r (u : List Nat × pF) => Q r u.1 u.2) (pB dC dI dA (va_A (va_pl L f) sz)) (va_A (va_pl L f) sz)) 5 1610 (va_A (va_pl L f) sz) := by
  refine va_MetW (cc := cL_neighbour) (maxL := 4) (ret := (some .int)) (by decide) rfl ?_
  intro p e s m args below meth c s₁ B hml hv
  obtain ⟨rfl, hsz, hP, hK, hD0, hz, hN, hT⟩ := hv
  subst hsz
  have hl := lv_entry ([.ref a0, .int a1, .ref a2]) (n := 4) (Nat.le_of_ble_eq_true rfl)
  rw [lg_entry_eq]
  generalize (lg_sl ([.ref a0, .int a1, .ref a2]) ++ List.replicate (4 - (lg_sl ([.ref a0, .int a1, .ref a2])).length) Slot.unset).toArray = ls at hl ⊢
  exact tb_L_neighbour_0 (Q := Q) (p := p) ⟨⟨B.exec, B.bytes, hml, findClass_of_methodNamed B.named, atoms_spec (ws := wsL_neighbour) B.pre, B.returns, B.notSynchronized, fun q h => Or.inr h, hK, pAB hD0 hz, hz, hN, hT⟩, hlt, vx_table (x := yL_neighbour) B (atoms_spec (ws := wsL_neighbour) B.pre _ List.mem_cons_self)⟩ L f a0 a1 a2 hw s.heap [] hP (hD0.self (sz := s.heap.size)) va_S.rf ls (lv_sub hl [0, 1, 2] rfl)
theorem lk_L_define_13 : Cond.classLink RL 13 "java/lang/IllegalArgumentException" ∈ wsL_define := by decide +kernel
abbrev rm_L_define : Room := { frames := 8, cells := 2, slots := 12, locals := 133 }
def wp_L_define_0 (dA : Nat → ClassId) (zz : Nat → Nat) (Q : Int32 → List Nat → pF → Prop) (L : List Nat) (f : pF) (a0 : Nat) (a1 : Int32) (a2 : Int64) (a4 : Nat) : Prop :=
    (isO L f 9 a0 ∧
      (wp_X8_define_0 dA zz (fun r_6 L_6 f_6 =>
        (aJs L_6 f_6 (dA 2) a4 (0 : Int32) r_6 (fun f_9 =>
          (Q (0 : Int32) L_6 f_9)))) (fun E9 L9 f9 => (E9 = "java/lang/IllegalArgumentException" → (Q (1 : Int32) L9 f9)) ∧ (E9 = "java/util/NoSuchElementException" → (False)) ∧ (E9 = "java/lang/IllegalArgumentException" ∨ E9 = "java/util/NoSuchElementException")) L f a0 a1 a2))
set_option maxHeartbeats 4000000 in
set_option maxRecDepth 100000 in
theorem tb_L_define_0 {p : Program} {l : Launch} {e : Env} {s : State} {m : MethodId} {below : List Frame} {meth : Method} {c : Code} {args : Array Value} {dC : Nat → ClassId} {dI : Nat → Nat → Nat} {dA : Nat → ClassId} {zz : Nat → Nat} {base : Nat} {A : Nat → Prop} {Q : Int32 → List Nat → pF → Prop} (C : pCx p s m args meth c cL_define 6 (some .int) RL wsL_define A dC dI dA zz base ∧ l.stackTraces = false ∧ c.exceptionTable.toList = tableOf  [(0, 10, 13, 13)]) : ∀ (L : List Nat) (f : pF) (a0 : Nat) (a1 : Int32) (a2 : Int64) (a4 : Nat), wp_L_define_0 dA zz Q  L f a0 a1 a2 a4 → pAt p l e rm_L_define s m args below meth c dC dI A (MQ below (va_Qi (fun r (u : List Nat × pF) => Q r u.1 u.2) (pB dC dI dA A) A) args s 2 12 A) 0 0 0 6 [(0, .ref a0), (1, .int a1), (2, .long a2), (4, .ref a4)] [] L f := by
  obtain ⟨⟨hx, hb, hml, hown, hts, hr, hlocks, hA, hK, hB, hz, hN, hT⟩, hlt, htab⟩ := id C
  intro L f a0 a1 a2 a4 hw H locs hP hD hS ls hl
  rw [wp_L_define_0] at hw
  refine lv_aload hx hb dL_define_0 (lv_at hl 3 rfl) ?_
  refine lv_iconst (v := 0) hx hb dL_define_2 (by decide) ?_
  refine lv_aload_n hx hb dL_define_3 rfl (lv_at hl 0 rfl) ?_
  refine lv_iload_n hx hb dL_define_4 rfl (lv_at hl 1 rfl) ?_
  refine lv_lload_n hx hb dL_define_5 rfl (lv_at hl 2 rfl) ?_
  obtain ⟨hO9, hw⟩ := hw
  have hFc := p_free hD hS hA
  refine vx_calll (vx_runV (As := [.int a1, .long a2]) (rest := [.int (0 : Int32), .ref a4]) ⟨hx, hb, hml, hown, hts⟩ (c_X8_define l hlt dC dI dA zz base L f H.size a0 a1 a2 _ _ hw) (cwV 2 hts gL_define_X8_define rfl rfl rfl (by decide +kernel) ⟨by decide, by decide⟩) (pPreV [.int a1, .long a2] (ci := 9) rfl hO9 hK hP hD hS hB hz hN hT) rfl rfl hl.1 rfl (lv_room (Nat.le_of_ble_eq_true rfl)) dL_define_6 ⟨by decide, by decide⟩) hS (fun q _ h => hFc q h) hFc (fun q _ h => hFc q h) (fun E ce q9 u t H1 locs ht hvm hw hB1 hz1 hk1 hS hce hcv hcl => by
      obtain ⟨E9, L9, f9⟩ := u
      obtain ⟨hE, hP, -, hD1⟩ := hB1
      rw [ht] at hP
      have hE : E = E9 := hE
      have hP : va_P (dC, dI) vwCl (va_pl L9 f9) H1 := hP
      have hD : va_D A (va_pl L9 f9) := p_gain hD1 hFc
      generalize H1 = H at hP hS hce ⊢
      rw [hE] at hcl
      clear hE
      rcases hw.2.2 with hE | hE
      · have hw := hw.1 hE
        have hE : E9 = _ := hE
        rw [hE] at hcl
        refine vx_catch (own := RL) (name := "java/lang/IllegalArgumentException") hown [] ⟨0, 10, 13, 13⟩ [] (by rw [htab]; rfl) (fun z h => absurd h List.not_mem_nil) (by decide) (by decide) (hts _ lk_L_define_13) (hN.2.2.2.2.2.2.2.2.2.2.2.2.2.1.use rfl) hce hcv hcl ?_
        refine W.widen (k := 2) (n := 12) (by decide) (by decide) ?_
        refine lv_astore (lv' := [(5, .ref q9), (0, .ref a0), (1, .int a1), (2, .long a2), (4, .ref a4)]) hx hb dL_define_13 hl (by decide) rfl (fun ls hl => ?_)
        refine lv_iconst (v := 1) hx hb dL_define_15 (by decide) ?_
        exact W.iret (v := (1 : Int32)) hx hb hr (fun t ht hW => ⟨⟨(1 : Int32), (L9, f9), rfl, hw, by rw [ht]; exact hP, va_K.moved hW.alike hK, hD⟩, hS.F ht⟩) hS.2.2 dL_define_16
      · have hw := hw.2.1 hE
        have hE : E9 = _ := hE
        rw [hE] at hcl
        exact hw.elim) (fun r_6 u t H1 locs ht hvm hw hB1 hz1 hk1 hS => ?_)
  obtain ⟨L_6, f_6⟩ := u
  obtain ⟨hP, -, hD1⟩ := hB1
  rw [ht] at hP
  have hw := id hw
  have hP : va_P (dC, dI) vwCl (va_pl L_6 f_6) H1 := hP
  have hD : va_D A (va_pl L_6 f_6) := p_gain hD1 hFc
  generalize H1 = H at hP hS ⊢
  refine W.widen (k := 2) (n := 12) (by decide) (by decide) ?_
  obtain ⟨n_9, h_9, ⟨hL9, hf9, hn9⟩, hw⟩ := hw
  obtain ⟨kq9, hkq9⟩ := p_at hL9 hf9
  refine va_last hx hb hK hP hD hS kq9 2 hkq9 rfl hn9 dL_define_9 (fun H locs hP2 hD2 hS => ?_)
  rw [p_set hD hL9 hf9 hkq9] at hP2 hD2
  obtain ⟨f_9, ef_9⟩ : ∃ y : pF, y = va_up f_6 a4 (.inl (dA 2, n_9, .inr (.inl (vp_updL h_9 (Int32.toNatClampNeg (0 : Int32)) r_6)))) := ⟨_, rfl⟩
  rw [← ef_9] at hP2 hD2
  have hw := hw f_9 ef_9
  have hP := hP2
  have hD := hD2
  refine lv_goto (tgt := 17) hx hb dL_define_10 (by decide) ?_
  refine lv_iconst (v := 0) hx hb dL_define_17 (by decide) ?_
  exact W.iret (v := (0 : Int32)) hx hb hr (fun t ht hW => ⟨⟨(0 : Int32), (L_6, f_9), rfl, hw, by rw [ht]; exact hP, va_K.moved hW.alike hK, hD⟩, hS.F ht⟩) hS.2.2 dL_define_18
set_option maxHeartbeats 4000000 in
set_option maxRecDepth 100000 in
theorem c_L_define (l : Launch) (hlt : l.stackTraces = false) (dC : Nat → ClassId) (dI : Nat → Nat → Nat) (dA : Nat → ClassId) (zz : Nat → Nat) (base : Nat) (L : List Nat) (f : pF) (sz : Nat) (a0 : Nat) (a1 : Int32) (a2 : Int64) (a4 : Nat) (Q : Int32 → List Nat → pF → Prop) (hw : wp_L_define_0 dA zz Q L f a0 a1 a2 a4) : Met l yL_define wsL_define rm_L_define (va_Pc [.ref a0, .int a1, .long a2, .ref a4] (pPre dC dI dA zz base L f sz)) (va_Qi (fun r (u : List Nat × pF) => Q r u.1 u.2) (pB dC dI dA (va_A (va_pl L f) sz)) (va_A (va_pl L f) sz)) 2 12 (va_A (va_pl L f) sz) := by
  refine va_MetW (cc := cL_define) (maxL := 6) (ret := (some .int)) (by decide) rfl ?_
  intro p e s m args below meth c s₁ B hml hv
  obtain ⟨rfl, hsz, hP, hK, hD0, hz, hN, hT⟩ := hv
  subst hsz
  have hl := lv_entry ([.ref a0, .int a1, .long a2, .ref a4]) (n := 6) (Nat.le_of_ble_eq_true rfl)
  rw [lg_entry_eq]
  generalize (lg_sl ([.ref a0, .int a1, .long a2, .ref a4]) ++ List.replicate (6 - (lg_sl ([.ref a0, .int a1, .long a2, .ref a4])).length) Slot.unset).toArray = ls at hl ⊢
  exact tb_L_define_0 (Q := Q) (p := p) ⟨⟨B.exec, B.bytes, hml, findClass_of_methodNamed B.named, atoms_spec (ws := wsL_define) B.pre, B.returns, B.notSynchronized, fun q h => Or.inr h, hK, pAB hD0 hz, hz, hN, hT⟩, hlt, vx_table (x := yL_define) B (atoms_spec (ws := wsL_define) B.pre _ List.mem_cons_self)⟩ L f a0 a1 a2 a4 hw s.heap [] hP (hD0.self (sz := s.heap.size)) va_S.rf ls (lv_sub hl [0, 1, 2, 3] rfl)
theorem lk_L_know_13 : Cond.classLink RL 13 "java/lang/IllegalArgumentException" ∈ wsL_know := by decide +kernel
abbrev rm_L_know : Room := { frames := 8, cells := 1, slots := 6, locals := 132 }
def wp_L_know_16 (dA : Nat → ClassId) (zz : Nat → Nat) (Q : Int32 → List Nat → pF → Prop) (L : List Nat) (f : pF) (k0 : Int64) (k1 : Int32) (k2 : Nat) : Prop :=
    (aJs L f (dA 2) k2 k1 k0 (fun f_16 =>
      (Q (0 : Int32) L f_16)))
def wp_L_know_0 (dA : Nat → ClassId) (zz : Nat → Nat) (Q : Int32 → List Nat → pF → Prop) (L : List Nat) (f : pF) (a0 : Nat) (a1 : Int32) (a2 : Int32) (a3 : Nat) : Prop :=
    (isO L f 9 a0 ∧
      (wp_X8_know_0 dA zz (fun r_5 L_5 f_5 =>
        ((r_5 = 0 →
          (wp_L_know_16 dA zz Q  L_5 f_5 (0 : Int64) (0 : Int32) a3))
         ∧ (¬ r_5 = 0 →
          (wp_L_know_16 dA zz Q  L_5 f_5 (1 : Int64) (0 : Int32) a3)))) (fun E9 L9 f9 => (E9 = "java/lang/IllegalArgumentException" → (Q (1 : Int32) L9 f9)) ∧ (E9 = "java/util/NoSuchElementException" → (False)) ∧ (E9 = "java/lang/IllegalArgumentException" ∨ E9 = "java/util/NoSuchElementException")) L f a0 a1 a2))
set_option maxHeartbeats 4000000 in
set_option maxRecDepth 100000 in
theorem tb_L_know_16 {p : Program} {l : Launch} {e : Env} {s : State} {m : MethodId} {below : List Frame} {meth : Method} {c : Code} {args : Array Value} {dC : Nat → ClassId} {dI : Nat → Nat → Nat} {dA : Nat → ClassId} {zz : Nat → Nat} {base : Nat} {A : Nat → Prop} {Q : Int32 → List Nat → pF → Prop} (C : pCx p s m args meth c cL_know 5 (some .int) RL wsL_know A dC dI dA zz base ∧ l.stackTraces = false ∧ c.exceptionTable.toList = tableOf  [(0, 17, 20, 13)]) : ∀ (L : List Nat) (f : pF) (k0 : Int64) (k1 : Int32) (k2 : Nat), wp_L_know_16 dA zz Q  L f k0 k1 k2 → pAt p l e rm_L_know s m args below meth c dC dI A (MQ below (va_Qi (fun r (u : List Nat × pF) => Q r u.1 u.2) (pB dC dI dA A) A) args s 1 6 A) 1 6 16 5 [] [.long k0, .int k1, .ref k2] L f := by
  obtain ⟨⟨hx, hb, hml, hown, hts, hr, hlocks, hA, hK, hB, hz, hN, hT⟩, hlt, htab⟩ := id C
  intro L f k0 k1 k2 hw H locs hP hD hS ls hl
  rw [wp_L_know_16] at hw
  obtain ⟨n_16, h_16, ⟨hL9, hf9, hn9⟩, hw⟩ := hw
  obtain ⟨kq9, hkq9⟩ := p_at hL9 hf9
  refine va_last hx hb hK hP hD hS kq9 2 hkq9 rfl hn9 dL_know_16 (fun H locs hP2 hD2 hS => ?_)
  rw [p_set hD hL9 hf9 hkq9] at hP2 hD2
  obtain ⟨f_16, ef_16⟩ : ∃ y : pF, y = va_up f k2 (.inl (dA 2, n_16, .inr (.inl (vp_updL h_16 (Int32.toNatClampNeg k1) k0)))) := ⟨_, rfl⟩
  rw [← ef_16] at hP2 hD2
  have hw := hw f_16 ef_16
  have hP := hP2
  have hD := hD2
  refine lv_goto (tgt := 24) hx hb dL_know_17 (by decide) ?_
  refine lv_iconst (v := 0) hx hb dL_know_24 (by decide) ?_
  exact W.iret (v := (0 : Int32)) hx hb hr (fun t ht hW => ⟨⟨(0 : Int32), (L, f_16), rfl, hw, by rw [ht]; exact hP, va_K.moved hW.alike hK, hD⟩, hS.F ht⟩) hS.2.2 dL_know_25
set_option maxHeartbeats 4000000 in
set_option maxRecDepth 100000 in
theorem tb_L_know_0 {p : Program} {l : Launch} {e : Env} {s : State} {m : MethodId} {below : List Frame} {meth : Method} {c : Code} {args : Array Value} {dC : Nat → ClassId} {dI : Nat → Nat → Nat} {dA : Nat → ClassId} {zz : Nat → Nat} {base : Nat} {A : Nat → Prop} {Q : Int32 → List Nat → pF → Prop} (C : pCx p s m args meth c cL_know 5 (some .int) RL wsL_know A dC dI dA zz base ∧ l.stackTraces = false ∧ c.exceptionTable.toList = tableOf  [(0, 17, 20, 13)]) : ∀ (L : List Nat) (f : pF) (a0 : Nat) (a1 : Int32) (a2 : Int32) (a3 : Nat), wp_L_know_0 dA zz Q  L f a0 a1 a2 a3 → pAt p l e rm_L_know s m args below meth c dC dI A (MQ below (va_Qi (fun r (u : List Nat × pF) => Q r u.1 u.2) (pB dC dI dA A) A) args s 1 6 A) 0 0 0 5 [(0, .ref a0), (1, .int a1), (2, .int a2), (3, .ref a3)] [] L f := by
  obtain ⟨⟨hx, hb, hml, hown, hts, hr, hlocks, hA, hK, hB, hz, hN, hT⟩, hlt, htab⟩ := id C
  intro L f a0 a1 a2 a3 hw H locs hP hD hS ls hl
  rw [wp_L_know_0] at hw
  refine lv_aload_n hx hb dL_know_0 rfl (lv_at hl 3 rfl) ?_
  refine lv_iconst (v := 0) hx hb dL_know_1 (by decide) ?_
  refine lv_aload_n hx hb dL_know_2 rfl (lv_at hl 0 rfl) ?_
  refine lv_iload_n hx hb dL_know_3 rfl (lv_at hl 1 rfl) ?_
  refine lv_iload_n hx hb dL_know_4 rfl (lv_at hl 2 rfl) ?_
  obtain ⟨hO9, hw⟩ := hw
  have hFc := p_free hD hS hA
  refine vx_calli (vx_runV (As := [.int a1, .int a2]) (rest := [.int (0 : Int32), .ref a3]) ⟨hx, hb, hml, hown, hts⟩ (c_X8_know l hlt dC dI dA zz base L f H.size a0 a1 a2 _ _ hw) (cwV 2 hts gL_know_X8_know rfl rfl rfl (by decide +kernel) ⟨by decide, by decide⟩) (pPreV [.int a1, .int a2] (ci := 9) rfl hO9 hK hP hD hS hB hz hN hT) rfl rfl hl.1 rfl (lv_room (Nat.le_of_ble_eq_true rfl)) dL_know_5 ⟨by decide, by decide⟩) hS (fun q _ h => hFc q h) hFc (fun q _ h => hFc q h) (fun E ce q9 u t H1 locs ht hvm hw hB1 hz1 hk1 hS hce hcv hcl => by
      obtain ⟨E9, L9, f9⟩ := u
      obtain ⟨hE, hP, -, hD1⟩ := hB1
      rw [ht] at hP
      have hE : E = E9 := hE
      have hP : va_P (dC, dI) vwCl (va_pl L9 f9) H1 := hP
      have hD : va_D A (va_pl L9 f9) := p_gain hD1 hFc
      generalize H1 = H at hP hS hce ⊢
      rw [hE] at hcl
      clear hE
      rcases hw.2.2 with hE | hE
      · have hw := hw.1 hE
        have hE : E9 = _ := hE
        rw [hE] at hcl
        refine vx_catch (own := RL) (name := "java/lang/IllegalArgumentException") hown [] ⟨0, 17, 20, 13⟩ [] (by rw [htab]; rfl) (fun z h => absurd h List.not_mem_nil) (by decide) (by decide) (hts _ lk_L_know_13) (hN.2.2.2.2.2.2.2.2.2.2.2.2.2.1.use rfl) hce hcv hcl ?_
        refine W.widen (k := 1) (n := 6) (by decide) (by decide) ?_
        refine lv_astore (lv' := [(4, .ref q9), (0, .ref a0), (1, .int a1), (2, .int a2), (3, .ref a3)]) hx hb dL_know_20 hl (by decide) rfl (fun ls hl => ?_)
        refine lv_iconst (v := 1) hx hb dL_know_22 (by decide) ?_
        exact W.iret (v := (1 : Int32)) hx hb hr (fun t ht hW => ⟨⟨(1 : Int32), (L9, f9), rfl, hw, by rw [ht]; exact hP, va_K.moved hW.alike hK, hD⟩, hS.F ht⟩) hS.2.2 dL_know_23
      · have hw := hw.2.1 hE
        have hE : E9 = _ := hE
        rw [hE] at hcl
        exact hw.elim) (fun r_5 u t H1 locs ht hvm hw hB1 hz1 hk1 hS => ?_)
  obtain ⟨L_5, f_5⟩ := u
  obtain ⟨hP, -, hD1⟩ := hB1
  rw [ht] at hP
  have hw := id hw
  have hP : va_P (dC, dI) vwCl (va_pl L_5 f_5) H1 := hP
  have hD : va_D A (va_pl L_5 f_5) := p_gain hD1 hFc
  generalize H1 = H at hP hS ⊢
  refine W.widen (k := 1) (n := 6) (by decide) (by decide) ?_
  refine lv_if_eq (tgt := 15) hx hb dL_know_8 (by decide) (fun c_8 => ?_) (fun c_8 => ?_)
  · have hw := hw.1 c_8
    refine lv_lconst (v := 0) hx hb dL_know_15 (by decide) ?_
    exact tb_L_know_16 C  L_5 f_5 (0 : Int64) (0 : Int32) a3 hw H locs hP hD hS ls (lv_sub hl [] rfl)
  · have hw := hw.2 c_8
    refine lv_lconst (v := 1) hx hb dL_know_11 (by decide) ?_
    refine lv_goto (tgt := 16) hx hb dL_know_12 (by decide) ?_
    exact tb_L_know_16 C  L_5 f_5 (1 : Int64) (0 : Int32) a3 hw H locs hP hD hS ls (lv_sub hl [] rfl)
set_option maxHeartbeats 4000000 in
set_option maxRecDepth 100000 in
theorem c_L_know (l : Launch) (hlt : l.stackTraces = false) (dC : Nat → ClassId) (dI : Nat → Nat → Nat) (dA : Nat → ClassId) (zz : Nat → Nat) (base : Nat) (L : List Nat) (f : pF) (sz : Nat) (a0 : Nat) (a1 : Int32) (a2 : Int32) (a3 : Nat) (Q : Int32 → List Nat → pF → Prop) (hw : wp_L_know_0 dA zz Q L f a0 a1 a2 a3) : Met l yL_know wsL_know rm_L_know (va_Pc [.ref a0, .int a1, .int a2, .ref a3] (pPre dC dI dA zz base L f sz)) (va_Qi (fun r (u : List Nat × pF) => Q r u.1 u.2) (pB dC dI dA (va_A (va_pl L f) sz)) (va_A (va_pl L f) sz)) 1 6 (va_A (va_pl L f) sz) := by
  refine va_MetW (cc := cL_know) (maxL := 5) (ret := (some .int)) (by decide) rfl ?_
  intro p e s m args below meth c s₁ B hml hv
  obtain ⟨rfl, hsz, hP, hK, hD0, hz, hN, hT⟩ := hv
  subst hsz
  have hl := lv_entry ([.ref a0, .int a1, .int a2, .ref a3]) (n := 5) (Nat.le_of_ble_eq_true rfl)
  rw [lg_entry_eq]
  generalize (lg_sl ([.ref a0, .int a1, .int a2, .ref a3]) ++ List.replicate (5 - (lg_sl ([.ref a0, .int a1, .int a2, .ref a3])).length) Slot.unset).toArray = ls at hl ⊢
  exact tb_L_know_0 (Q := Q) (p := p) ⟨⟨B.exec, B.bytes, hml, findClass_of_methodNamed B.named, atoms_spec (ws := wsL_know) B.pre, B.returns, B.notSynchronized, fun q h => Or.inr h, hK, pAB hD0 hz, hz, hN, hT⟩, hlt, vx_table (x := yL_know) B (atoms_spec (ws := wsL_know) B.pre _ List.mem_cons_self)⟩ L f a0 a1 a2 a3 hw s.heap [] hP (hD0.self (sz := s.heap.size)) va_S.rf ls (lv_sub hl [0, 1, 2, 3] rfl)
theorem lk_L_kind_13 : Cond.classLink RL 13 "java/lang/IllegalArgumentException" ∈ wsL_kind := by decide +kernel
theorem lk_L_kind_31 : Cond.classLink RL 31 "java/util/NoSuchElementException" ∈ wsL_kind := by decide +kernel
abbrev rm_L_kind : Room := { frames := 8, cells := 2, slots := 12, locals := 135 }
def wp_L_kind_0 (dA : Nat → ClassId) (zz : Nat → Nat) (Q : Int32 → List Nat → pF → Prop) (L : List Nat) (f : pF) (a0 : Nat) (a1 : Int32) (a2 : Int32) (a3 : Nat) : Prop :=
    (isO L f 9 a0 ∧
      (wp_X8_kind_0 dA zz (fun r_5 L_5 f_5 =>
        (aJs L_5 f_5 (dA 2) a3 (0 : Int32) (Int32.toInt64 r_5) (fun f_9 =>
          (Q (0 : Int32) L_5 f_9)))) (fun E9 L9 f9 => (E9 = "java/lang/IllegalArgumentException" → (Q (2 : Int32) L9 f9)) ∧ (E9 = "java/util/NoSuchElementException" → (Q (1 : Int32) L9 f9)) ∧ (E9 = "java/lang/IllegalArgumentException" ∨ E9 = "java/util/NoSuchElementException")) L f a0 a1 a2))
set_option maxHeartbeats 4000000 in
set_option maxRecDepth 100000 in
theorem tb_L_kind_0 {p : Program} {l : Launch} {e : Env} {s : State} {m : MethodId} {below : List Frame} {meth : Method} {c : Code} {args : Array Value} {dC : Nat → ClassId} {dI : Nat → Nat → Nat} {dA : Nat → ClassId} {zz : Nat → Nat} {base : Nat} {A : Nat → Prop} {Q : Int32 → List Nat → pF → Prop} (C : pCx p s m args meth c cL_kind 5 (some .int) RL wsL_kind A dC dI dA zz base ∧ l.stackTraces = false ∧ c.exceptionTable.toList = tableOf  [(0, 10, 13, 31), (0, 10, 17, 13)]) : ∀ (L : List Nat) (f : pF) (a0 : Nat) (a1 : Int32) (a2 : Int32) (a3 : Nat), wp_L_kind_0 dA zz Q  L f a0 a1 a2 a3 → pAt p l e rm_L_kind s m args below meth c dC dI A (MQ below (va_Qi (fun r (u : List Nat × pF) => Q r u.1 u.2) (pB dC dI dA A) A) args s 2 12 A) 0 0 0 5 [(0, .ref a0), (1, .int a1), (2, .int a2), (3, .ref a3)] [] L f := by
  obtain ⟨⟨hx, hb, hml, hown, hts, hr, hlocks, hA, hK, hB, hz, hN, hT⟩, hlt, htab⟩ := id C
  intro L f a0 a1 a2 a3 hw H locs hP hD hS ls hl
  rw [wp_L_kind_0] at hw
  refine lv_aload_n hx hb dL_kind_0 rfl (lv_at hl 3 rfl) ?_
  refine lv_iconst (v := 0) hx hb dL_kind_1 (by decide) ?_
  refine lv_aload_n hx hb dL_kind_2 rfl (lv_at hl 0 rfl) ?_
  refine lv_iload_n hx hb dL_kind_3 rfl (lv_at hl 1 rfl) ?_
  refine lv_iload_n hx hb dL_kind_4 rfl (lv_at hl 2 rfl) ?_
  obtain ⟨hO9, hw⟩ := hw
  have hFc := p_free hD hS hA
  refine vx_calli (vx_runV (As := [.int a1, .int a2]) (rest := [.int (0 : Int32), .ref a3]) ⟨hx, hb, hml, hown, hts⟩ (c_X8_kind l hlt dC dI dA zz base L f H.size a0 a1 a2 _ _ hw) (cwV 2 hts gL_kind_X8_kind rfl rfl rfl (by decide +kernel) ⟨by decide, by decide⟩) (pPreV [.int a1, .int a2] (ci := 9) rfl hO9 hK hP hD hS hB hz hN hT) rfl rfl hl.1 rfl (lv_room (Nat.le_of_ble_eq_true rfl)) dL_kind_5 ⟨by decide, by decide⟩) hS (fun q _ h => hFc q h) hFc (fun q _ h => hFc q h) (fun E ce q9 u t H1 locs ht hvm hw hB1 hz1 hk1 hS hce hcv hcl => by
      obtain ⟨E9, L9, f9⟩ := u
      obtain ⟨hE, hP, -, hD1⟩ := hB1
      rw [ht] at hP
      have hE : E = E9 := hE
      have hP : va_P (dC, dI) vwCl (va_pl L9 f9) H1 := hP
      have hD : va_D A (va_pl L9 f9) := p_gain hD1 hFc
      generalize H1 = H at hP hS hce ⊢
      rw [hE] at hcl
      clear hE
      rcases hw.2.2 with hE | hE
      · have hw := hw.1 hE
        have hE : E9 = _ := hE
        rw [hE] at hcl
        refine vx_catch (own := RL) (name := "java/lang/IllegalArgumentException") hown [⟨0, 10, 13, 31⟩] ⟨0, 10, 17, 13⟩ [] (by rw [htab]; rfl) (fun z h => by rcases List.mem_singleton.mp h with rfl; exact Or.inr ⟨by decide, "java/util/NoSuchElementException", hts _ lk_L_kind_31, hN.2.2.2.2.2.2.2.2.2.2.2.2.2.2.2.1⟩) (by decide) (by decide) (hts _ lk_L_kind_13) (hN.2.2.2.2.2.2.2.2.2.2.2.2.2.1.use rfl) hce hcv hcl ?_
        refine W.widen (k := 2) (n := 12) (by decide) (by decide) ?_
        refine lv_astore (lv' := [(4, .ref q9), (0, .ref a0), (1, .int a1), (2, .int a2), (3, .ref a3)]) hx hb dL_kind_17 hl (by decide) rfl (fun ls hl => ?_)
        refine lv_iconst (v := 2) hx hb dL_kind_19 (by decide) ?_
        exact W.iret (v := (2 : Int32)) hx hb hr (fun t ht hW => ⟨⟨(2 : Int32), (L9, f9), rfl, hw, by rw [ht]; exact hP, va_K.moved hW.alike hK, hD⟩, hS.F ht⟩) hS.2.2 dL_kind_20
      · have hw := hw.2.1 hE
        have hE : E9 = _ := hE
        rw [hE] at hcl
        refine vx_catch (own := RL) (name := "java/util/NoSuchElementException") hown [] ⟨0, 10, 13, 31⟩ [⟨0, 10, 17, 13⟩] (by rw [htab]; rfl) (fun z h => absurd h List.not_mem_nil) (by decide) (by decide) (hts _ lk_L_kind_31) (hN.2.2.2.2.2.2.2.2.2.2.2.2.2.2.1.use rfl) hce hcv hcl ?_
        refine W.widen (k := 2) (n := 12) (by decide) (by decide) ?_
        refine lv_astore (lv' := [(4, .ref q9), (0, .ref a0), (1, .int a1), (2, .int a2), (3, .ref a3)]) hx hb dL_kind_13 hl (by decide) rfl (fun ls hl => ?_)
        refine lv_iconst (v := 1) hx hb dL_kind_15 (by decide) ?_
        exact W.iret (v := (1 : Int32)) hx hb hr (fun t ht hW => ⟨⟨(1 : Int32), (L9, f9), rfl, hw, by rw [ht]; exact hP, va_K.moved hW.alike hK, hD⟩, hS.F ht⟩) hS.2.2 dL_kind_16) (fun r_5 u t H1 locs ht hvm hw hB1 hz1 hk1 hS => ?_)
  obtain ⟨L_5, f_5⟩ := u
  obtain ⟨hP, -, hD1⟩ := hB1
  rw [ht] at hP
  have hw := id hw
  have hP : va_P (dC, dI) vwCl (va_pl L_5 f_5) H1 := hP
  have hD : va_D A (va_pl L_5 f_5) := p_gain hD1 hFc
  generalize H1 = H at hP hS ⊢
  refine W.widen (k := 2) (n := 12) (by decide) (by decide) ?_
  refine lv_i2l hx hb dL_kind_8 rfl ?_
  obtain ⟨n_9, h_9, ⟨hL9, hf9, hn9⟩, hw⟩ := hw
  obtain ⟨kq9, hkq9⟩ := p_at hL9 hf9
  refine va_last hx hb hK hP hD hS kq9 2 hkq9 rfl hn9 dL_kind_9 (fun H locs hP2 hD2 hS => ?_)
  rw [p_set hD hL9 hf9 hkq9] at hP2 hD2
  obtain ⟨f_9, ef_9⟩ : ∃ y : pF, y = va_up f_5 a3 (.inl (dA 2, n_9, .inr (.inl (vp_updL h_9 (Int32.toNatClampNeg (0 : Int32)) (Int32.toInt64 r_5))))) := ⟨_, rfl⟩
  rw [← ef_9] at hP2 hD2
  have hw := hw f_9 ef_9
  have hP := hP2
  have hD := hD2
  refine lv_goto (tgt := 21) hx hb dL_kind_10 (by decide) ?_
  refine lv_iconst (v := 0) hx hb dL_kind_21 (by decide) ?_
  exact W.iret (v := (0 : Int32)) hx hb hr (fun t ht hW => ⟨⟨(0 : Int32), (L_5, f_9), rfl, hw, by rw [ht]; exact hP, va_K.moved hW.alike hK, hD⟩, hS.F ht⟩) hS.2.2 dL_kind_22
set_option maxHeartbeats 4000000 in
set_option maxRecDepth 100000 in
theorem c_L_kind (l : Launch) (hlt : l.stackTraces = false) (dC : Nat → ClassId) (dI : Nat → Nat → Nat) (dA : Nat → ClassId) (zz : Nat → Nat) (base : Nat) (L : List Nat) (f : pF) (sz : Nat) (a0 : Nat) (a1 : Int32) (a2 : Int32) (a3 : Nat) (Q : Int32 → List Nat → pF → Prop) (hw : wp_L_kind_0 dA zz Q L f a0 a1 a2 a3) : Met l yL_kind wsL_kind rm_L_kind (va_Pc [.ref a0, .int a1, .int a2, .ref a3] (pPre dC dI dA zz base L f sz)) (va_Qi (fun r (u : List Nat × pF) => Q r u.1 u.2) (pB dC dI dA (va_A (va_pl L f) sz)) (va_A (va_pl L f) sz)) 2 12 (va_A (va_pl L f) sz) := by
  refine va_MetW (cc := cL_kind) (maxL := 5) (ret := (some .int)) (by decide) rfl ?_
  intro p e s m args below meth c s₁ B hml hv
  obtain ⟨rfl, hsz, hP, hK, hD0, hz, hN, hT⟩ := hv
  subst hsz
  have hl := lv_entry ([.ref a0, .int a1, .int a2, .ref a3]) (n := 5) (Nat.le_of_ble_eq_true rfl)
  rw [lg_entry_eq]
  generalize (lg_sl ([.ref a0, .int a1, .int a2, .ref a3]) ++ List.replicate (5 - (lg_sl ([.ref a0, .int a1, .int a2, .ref a3])).length) Slot.unset).toArray = ls at hl ⊢
  exact tb_L_kind_0 (Q := Q) (p := p) ⟨⟨B.exec, B.bytes, hml, findClass_of_methodNamed B.named, atoms_spec (ws := wsL_kind) B.pre, B.returns, B.notSynchronized, fun q h => Or.inr h, hK, pAB hD0 hz, hz, hN, hT⟩, hlt, vx_table (x := yL_kind) B (atoms_spec (ws := wsL_kind) B.pre _ List.mem_cons_self)⟩ L f a0 a1 a2 a3 hw s.heap [] hP (hD0.self (sz := s.heap.size)) va_S.rf ls (lv_sub hl [0, 1, 2, 3] rfl)
theorem lk_L_about_31 : Cond.classLink RL 31 "java/util/NoSuchElementException" ∈ wsL_about := by decide +kernel
abbrev rm_L_about : Room := { frames := 8, cells := 2, slots := 12, locals := 134 }
def wp_L_about_0 (dA : Nat → ClassId) (zz : Nat → Nat) (Q : Int32 → List Nat → pF → Prop) (L : List Nat) (f : pF) (a0 : Nat) (a1 : Int32) (a2 : Int32) (a3 : Nat) : Prop :=
    (isO L f 9 a0 ∧
      (wp_X8_about_0 dA zz (fun r_5 L_5 f_5 =>
        (aJs L_5 f_5 (dA 2) a3 (0 : Int32) (Int32.toInt64 r_5) (fun f_9 =>
          (Q (0 : Int32) L_5 f_9)))) (fun E9 L9 f9 => (E9 = "java/lang/IllegalArgumentException" → (False)) ∧ (E9 = "java/util/NoSuchElementException" → (Q (1 : Int32) L9 f9)) ∧ (E9 = "java/lang/IllegalArgumentException" ∨ E9 = "java/util/NoSuchElementException")) L f a0 a1 a2))
set_option maxHeartbeats 4000000 in
set_option maxRecDepth 100000 in
theorem tb_L_about_0 {p : Program} {l : Launch} {e : Env} {s : State} {m : MethodId} {below : List Frame} {meth : Method} {c : Code} {args : Array Value} {dC : Nat → ClassId} {dI : Nat → Nat → Nat} {dA : Nat → ClassId} {zz : Nat → Nat} {base : Nat} {A : Nat → Prop} {Q : Int32 → List Nat → pF → Prop} (C : pCx p s m args meth c cL_about 5 (some .int) RL wsL_about A dC dI dA zz base ∧ l.stackTraces = false ∧ c.exceptionTable.toList = tableOf  [(0, 10, 13, 31)]) : ∀ (L : List Nat) (f : pF) (a0 : Nat) (a1 : Int32) (a2 : Int32) (a3 : Nat), wp_L_about_0 dA zz Q  L f a0 a1 a2 a3 → pAt p l e rm_L_about s m args below meth c dC dI A (MQ below (va_Qi (fun r (u : List Nat × pF) => Q r u.1 u.2) (pB dC dI dA A) A) args s 2 12 A) 0 0 0 5 [(0, .ref a0), (1, .int a1), (2, .int a2), (3, .ref a3)] [] L f := by
  obtain ⟨⟨hx, hb, hml, hown, hts, hr, hlocks, hA, hK, hB, hz, hN, hT⟩, hlt, htab⟩ := id C
  intro L f a0 a1 a2 a3 hw H locs hP hD hS ls hl
  rw [wp_L_about_0] at hw
  refine lv_aload_n hx hb dL_about_0 rfl (lv_at hl 3 rfl) ?_
  refine lv_iconst (v := 0) hx hb dL_about_1 (by decide) ?_
  refine lv_aload_n hx hb dL_about_2 rfl (lv_at hl 0 rfl) ?_
  refine lv_iload_n hx hb dL_about_3 rfl (lv_at hl 1 rfl) ?_
  refine lv_iload_n hx hb dL_about_4 rfl (lv_at hl 2 rfl) ?_
  obtain ⟨hO9, hw⟩ := hw
  have hFc := p_free hD hS hA
  refine vx_calli (vx_runV (As := [.int a1, .int a2]) (rest := [.int (0 : Int32), .ref a3]) ⟨hx, hb, hml, hown, hts⟩ (c_X8_about l hlt dC dI dA zz base L f H.size a0 a1 a2 _ _ hw) (cwV 2 hts gL_about_X8_about rfl rfl rfl (by decide +kernel) ⟨by decide, by decide⟩) (pPreV [.int a1, .int a2] (ci := 9) rfl hO9 hK hP hD hS hB hz hN hT) rfl rfl hl.1 rfl (lv_room (Nat.le_of_ble_eq_true rfl)) dL_about_5 ⟨by decide, by decide⟩) hS (fun q _ h => hFc q h) hFc (fun q _ h => hFc q h) (fun E ce q9 u t H1 locs ht hvm hw hB1 hz1 hk1 hS hce hcv hcl => by
      obtain ⟨E9, L9, f9⟩ := u
      obtain ⟨hE, hP, -, hD1⟩ := hB1
      rw [ht] at hP
      have hE : E = E9 := hE
      have hP : va_P (dC, dI) vwCl (va_pl L9 f9) H1 := hP
      have hD : va_D A (va_pl L9 f9) := p_gain hD1 hFc
      generalize H1 = H at hP hS hce ⊢
      rw [hE] at hcl
      clear hE
      rcases hw.2.2 with hE | hE
      · have hw := hw.1 hE
        have hE : E9 = _ := hE
        rw [hE] at hcl
        exact hw.elim
      · have hw := hw.2.1 hE
        have hE : E9 = _ := hE
        rw [hE] at hcl
        refine vx_catch (own := RL) (name := "java/util/NoSuchElementException") hown [] ⟨0, 10, 13, 31⟩ [] (by rw [htab]; rfl) (fun z h => absurd h List.not_mem_nil) (by decide) (by decide) (hts _ lk_L_about_31) (hN.2.2.2.2.2.2.2.2.2.2.2.2.2.2.1.use rfl) hce hcv hcl ?_
        refine W.widen (k := 2) (n := 12) (by decide) (by decide) ?_
        refine lv_astore (lv' := [(4, .ref q9), (0, .ref a0), (1, .int a1), (2, .int a2), (3, .ref a3)]) hx hb dL_about_13 hl (by decide) rfl (fun ls hl => ?_)
        refine lv_iconst (v := 1) hx hb dL_about_15 (by decide) ?_
        exact W.iret (v := (1 : Int32)) hx hb hr (fun t ht hW => ⟨⟨(1 : Int32), (L9, f9), rfl, hw, by rw [ht]; exact hP, va_K.moved hW.alike hK, hD⟩, hS.F ht⟩) hS.2.2 dL_about_16) (fun r_5 u t H1 locs ht hvm hw hB1 hz1 hk1 hS => ?_)
  obtain ⟨L_5, f_5⟩ := u
  obtain ⟨hP, -, hD1⟩ := hB1
  rw [ht] at hP
  have hw := id hw
  have hP : va_P (dC, dI) vwCl (va_pl L_5 f_5) H1 := hP
  have hD : va_D A (va_pl L_5 f_5) := p_gain hD1 hFc
  generalize H1 = H at hP hS ⊢
  refine W.widen (k := 2) (n := 12) (by decide) (by decide) ?_
  refine lv_i2l hx hb dL_about_8 rfl ?_
  obtain ⟨n_9, h_9, ⟨hL9, hf9, hn9⟩, hw⟩ := hw
  obtain ⟨kq9, hkq9⟩ := p_at hL9 hf9
  refine va_last hx hb hK hP hD hS kq9 2 hkq9 rfl hn9 dL_about_9 (fun H locs hP2 hD2 hS => ?_)
  rw [p_set hD hL9 hf9 hkq9] at hP2 hD2
  obtain ⟨f_9, ef_9⟩ : ∃ y : pF, y = va_up f_5 a3 (.inl (dA 2, n_9, .inr (.inl (vp_updL h_9 (Int32.toNatClampNeg (0 : Int32)) (Int32.toInt64 r_5))))) := ⟨_, rfl⟩
  rw [← ef_9] at hP2 hD2
  have hw := hw f_9 ef_9
  have hP := hP2
  have hD := hD2
  refine lv_goto (tgt := 17) hx hb dL_about_10 (by decide) ?_
  refine lv_iconst (v := 0) hx hb dL_about_17 (by decide) ?_
  exact W.iret (v := (0 : Int32)) hx hb hr (fun t ht hW => ⟨⟨(0 : Int32), (L_5, f_9), rfl, hw, by rw [ht]; exact hP, va_K.moved hW.alike hK, hD⟩, hS.F ht⟩) hS.2.2 dL_about_18
set_option maxHeartbeats 4000000 in
set_option maxRecDepth 100000 in
theorem c_L_about (l : Launch) (hlt : l.stackTraces = false) (dC : Nat → ClassId) (dI : Nat → Nat → Nat) (dA : Nat → ClassId) (zz : Nat → Nat) (base : Nat) (L : List Nat) (f : pF) (sz : Nat) (a0 : Nat) (a1 : Int32) (a2 : Int32) (a3 : Nat) (Q : Int32 → List Nat → pF → Prop) (hw : wp_L_about_0 dA zz Q L f a0 a1 a2 a3) : Met l yL_about wsL_about rm_L_about (va_Pc [.ref a0, .int a1, .int a2, .ref a3] (pPre dC dI dA zz base L f sz)) (va_Qi (fun r (u : List Nat × pF) => Q r u.1 u.2) (pB dC dI dA (va_A (va_pl L f) sz)) (va_A (va_pl L f) sz)) 2 12 (va_A (va_pl L f) sz) := by
  refine va_MetW (cc := cL_about) (maxL := 5) (ret := (some .int)) (by decide) rfl ?_
  intro p e s m args below meth c s₁ B hml hv
  obtain ⟨rfl, hsz, hP, hK, hD0, hz, hN, hT⟩ := hv
  subst hsz
  have hl := lv_entry ([.ref a0, .int a1, .int a2, .ref a3]) (n := 5) (Nat.le_of_ble_eq_true rfl)
  rw [lg_entry_eq]
  generalize (lg_sl ([.ref a0, .int a1, .int a2, .ref a3]) ++ List.replicate (5 - (lg_sl ([.ref a0, .int a1, .int a2, .ref a3])).length) Slot.unset).toArray = ls at hl ⊢
  exact tb_L_about_0 (Q := Q) (p := p) ⟨⟨B.exec, B.bytes, hml, findClass_of_methodNamed B.named, atoms_spec (ws := wsL_about) B.pre, B.returns, B.notSynchronized, fun q h => Or.inr h, hK, pAB hD0 hz, hz, hN, hT⟩, hlt, vx_table (x := yL_about) B (atoms_spec (ws := wsL_about) B.pre _ List.mem_cons_self)⟩ L f a0 a1 a2 a3 hw s.heap [] hP (hD0.self (sz := s.heap.size)) va_S.rf ls (lv_sub hl [0, 1, 2, 3] rfl)
theorem lk_L_write_13 : Cond.classLink RL 13 "java/lang/IllegalArgumentException" ∈ wsL_write := by decide +kernel
abbrev rm_L_write : Room := { frames := 8, cells := 1, slots := 6, locals := 138 }
def wp_L_write_0 (dA : Nat → ClassId) (zz : Nat → Nat) (Q : Int32 → List Nat → pF → Prop) (L : List Nat) (f : pF) (a0 : Nat) (a1 : Int32) (a2 : Int32) (a3 : Int32) (a4 : Int32) (a5 : Int32) (a6 : Int32) (a7 : Nat) : Prop :=
    (isO L f 9 a0 ∧
      (wp_X8_write_0 dA zz (fun r_13 L_13 f_13 =>
        (aJs L_13 f_13 (dA 2) a7 (0 : Int32) (Int32.toInt64 r_13) (fun f_17 =>
          (Q (0 : Int32) L_13 f_17)))) (fun E9 L9 f9 => (E9 = "java/lang/IllegalArgumentException" → (Q (1 : Int32) L9 f9)) ∧ (E9 = "java/util/NoSuchElementException" → (False)) ∧ (E9 = "java/lang/IllegalArgumentException" ∨ E9 = "java/util/NoSuchElementException")) L f a0 a1 a2 a3 a4 a5 a6))
set_option maxHeartbeats 4000000 in
set_option maxRecDepth 100000 in
theorem tb_L_write_0 {p : Program} {l : Launch} {e : Env} {s : State} {m : MethodId} {below : List Frame} {meth : Method} {c : Code} {args : Array Value} {dC : Nat → ClassId} {dI : Nat → Nat → Nat} {dA : Nat → ClassId} {zz : Nat → Nat} {base : Nat} {A : Nat → Prop} {Q : Int32 → List Nat → pF → Prop} (C : pCx p s m args meth c cL_write 9 (some .int) RL wsL_write A dC dI dA zz base ∧ l.stackTraces = false ∧ c.exceptionTable.toList = tableOf  [(0, 18, 21, 13)]) : ∀ (L : List Nat) (f : pF) (a0 : Nat) (a1 : Int32) (a2 : Int32) (a3 : Int32) (a4 : Int32) (a5 : Int32) (a6 : Int32) (a7 : Nat), wp_L_write_0 dA zz Q  L f a0 a1 a2 a3 a4 a5 a6 a7 → pAt p l e rm_L_write s m args below meth c dC dI A (MQ below (va_Qi (fun r (u : List Nat × pF) => Q r u.1 u.2) (pB dC dI dA A) A) args s 1 6 A) 0 0 0 9 [(0, .ref a0), (1, .int a1), (2, .int a2), (3, .int a3), (4, .int a4), (5, .int a5), (6, .int a6), (7, .ref a7)] [] L f := by
  obtain ⟨⟨hx, hb, hml, hown, hts, hr, hlocks, hA, hK, hB, hz, hN, hT⟩, hlt, htab⟩ := id C
  intro L f a0 a1 a2 a3 a4 a5 a6 a7 hw H locs hP hD hS ls hl
  rw [wp_L_write_0] at hw
  refine lv_aload hx hb dL_write_0 (lv_at hl 7 rfl) ?_
  refine lv_iconst (v := 0) hx hb dL_write_2 (by decide) ?_
  refine lv_aload_n hx hb dL_write_3 rfl (lv_at hl 0 rfl) ?_
  refine lv_iload_n hx hb dL_write_4 rfl (lv_at hl 1 rfl) ?_
  refine lv_iload_n hx hb dL_write_5 rfl (lv_at hl 2 rfl) ?_
  refine lv_iload_n hx hb dL_write_6 rfl (lv_at hl 3 rfl) ?_
  refine lv_iload hx hb dL_write_7 (lv_at hl 4 rfl) ?_
  refine lv_iload hx hb dL_write_9 (lv_at hl 5 rfl) ?_
  refine lv_iload hx hb dL_write_11 (lv_at hl 6 rfl) ?_
  obtain ⟨hO9, hw⟩ := hw
  have hFc := p_free hD hS hA
  refine vx_calli (vx_runV (As := [.int a1, .int a2, .int a3, .int a4, .int a5, .int a6]) (rest := [.int (0 : Int32), .ref a7]) ⟨hx, hb, hml, hown, hts⟩ (c_X8_write l hlt dC dI dA zz base L f H.size a0 a1 a2 a3 a4 a5 a6 _ _ hw) (cwV 6 hts gL_write_X8_write rfl rfl rfl (by decide +kernel) ⟨by decide, by decide⟩) (pPreV [.int a1, .int a2, .int a3, .int a4, .int a5, .int a6] (ci := 9) rfl hO9 hK hP hD hS hB hz hN hT) rfl rfl hl.1 rfl (lv_room (Nat.le_of_ble_eq_true rfl)) dL_write_13 ⟨by decide, by decide⟩) hS (fun q _ h => hFc q h) hFc (fun q _ h => hFc q h) (fun E ce q9 u t H1 locs ht hvm hw hB1 hz1 hk1 hS hce hcv hcl => by
      obtain ⟨E9, L9, f9⟩ := u
      obtain ⟨hE, hP, -, hD1⟩ := hB1
      rw [ht] at hP
      have hE : E = E9 := hE
      have hP : va_P (dC, dI) vwCl (va_pl L9 f9) H1 := hP
      have hD : va_D A (va_pl L9 f9) := p_gain hD1 hFc
      generalize H1 = H at hP hS hce ⊢
      rw [hE] at hcl
      clear hE
      rcases hw.2.2 with hE | hE
      · have hw := hw.1 hE
        have hE : E9 = _ := hE
        rw [hE] at hcl
        refine vx_catch (own := RL) (name := "java/lang/IllegalArgumentException") hown [] ⟨0, 18, 21, 13⟩ [] (by rw [htab]; rfl) (fun z h => absurd h List.not_mem_nil) (by decide) (by decide) (hts _ lk_L_write_13) (hN.2.2.2.2.2.2.2.2.2.2.2.2.2.1.use rfl) hce hcv hcl ?_
        refine W.widen (k := 1) (n := 6) (by decide) (by decide) ?_
        refine lv_astore (lv' := [(8, .ref q9), (0, .ref a0), (1, .int a1), (2, .int a2), (3, .int a3), (4, .int a4), (5, .int a5), (6, .int a6), (7, .ref a7)]) hx hb dL_write_21 hl (by decide) rfl (fun ls hl => ?_)
        refine lv_iconst (v := 1) hx hb dL_write_23 (by decide) ?_
        exact W.iret (v := (1 : Int32)) hx hb hr (fun t ht hW => ⟨⟨(1 : Int32), (L9, f9), rfl, hw, by rw [ht]; exact hP, va_K.moved hW.alike hK, hD⟩, hS.F ht⟩) hS.2.2 dL_write_24
      · have hw := hw.2.1 hE
        have hE : E9 = _ := hE
        rw [hE] at hcl
        exact hw.elim) (fun r_13 u t H1 locs ht hvm hw hB1 hz1 hk1 hS => ?_)
  obtain ⟨L_13, f_13⟩ := u
  obtain ⟨hP, -, hD1⟩ := hB1
  rw [ht] at hP
  have hw := id hw
  have hP : va_P (dC, dI) vwCl (va_pl L_13 f_13) H1 := hP
  have hD : va_D A (va_pl L_13 f_13) := p_gain hD1 hFc
  generalize H1 = H at hP hS ⊢
  refine W.widen (k := 1) (n := 6) (by decide) (by decide) ?_
  refine lv_i2l hx hb dL_write_16 rfl ?_
  obtain ⟨n_17, h_17, ⟨hL9, hf9, hn9⟩, hw⟩ := hw
  obtain ⟨kq9, hkq9⟩ := p_at hL9 hf9
  refine va_last hx hb hK hP hD hS kq9 2 hkq9 rfl hn9 dL_write_17 (fun H locs hP2 hD2 hS => ?_)
  rw [p_set hD hL9 hf9 hkq9] at hP2 hD2
  obtain ⟨f_17, ef_17⟩ : ∃ y : pF, y = va_up f_13 a7 (.inl (dA 2, n_17, .inr (.inl (vp_updL h_17 (Int32.toNatClampNeg (0 : Int32)) (Int32.toInt64 r_13))))) := ⟨_, rfl⟩
  rw [← ef_17] at hP2 hD2
  have hw := hw f_17 ef_17
  have hP := hP2
  have hD := hD2
  refine lv_goto (tgt := 25) hx hb dL_write_18 (by decide) ?_
  refine lv_iconst (v := 0) hx hb dL_write_25 (by decide) ?_
  exact W.iret (v := (0 : Int32)) hx hb hr (fun t ht hW => ⟨⟨(0 : Int32), (L_13, f_17), rfl, hw, by rw [ht]; exact hP, va_K.moved hW.alike hK, hD⟩, hS.F ht⟩) hS.2.2 dL_write_26
set_option maxHeartbeats 4000000 in
set_option maxRecDepth 100000 in
theorem c_L_write (l : Launch) (hlt : l.stackTraces = false) (dC : Nat → ClassId) (dI : Nat → Nat → Nat) (dA : Nat → ClassId) (zz : Nat → Nat) (base : Nat) (L : List Nat) (f : pF) (sz : Nat) (a0 : Nat) (a1 : Int32) (a2 : Int32) (a3 : Int32) (a4 : Int32) (a5 : Int32) (a6 : Int32) (a7 : Nat) (Q : Int32 → List Nat → pF → Prop) (hw : wp_L_write_0 dA zz Q L f a0 a1 a2 a3 a4 a5 a6 a7) : Met l yL_write wsL_write rm_L_write (va_Pc [.ref a0, .int a1, .int a2, .int a3, .int a4, .int a5, .int a6, .ref a7] (pPre dC dI dA zz base L f sz)) (va_Qi (fun r (u : List Nat × pF) => Q r u.1 u.2) (pB dC dI dA (va_A (va_pl L f) sz)) (va_A (va_pl L f) sz)) 1 6 (va_A (va_pl L f) sz) := by
  refine va_MetW (cc := cL_write) (maxL := 9) (ret := (some .int)) (by decide) rfl ?_
  intro p e s m args below meth c s₁ B hml hv
  obtain ⟨rfl, hsz, hP, hK, hD0, hz, hN, hT⟩ := hv
  subst hsz
  have hl := lv_entry ([.ref a0, .int a1, .int a2, .int a3, .int a4, .int a5, .int a6, .ref a7]) (n := 9) (Nat.le_of_ble_eq_true rfl)
  rw [lg_entry_eq]
  generalize (lg_sl ([.ref a0, .int a1, .int a2, .int a3, .int a4, .int a5, .int a6, .ref a7]) ++ List.replicate (9 - (lg_sl ([.ref a0, .int a1, .int a2, .int a3, .int a4, .int a5, .int a6, .ref a7])).length) Slot.unset).toArray = ls at hl ⊢
  exact tb_L_write_0 (Q := Q) (p := p) ⟨⟨B.exec, B.bytes, hml, findClass_of_methodNamed B.named, atoms_spec (ws := wsL_write) B.pre, B.returns, B.notSynchronized, fun q h => Or.inr h, hK, pAB hD0 hz, hz, hN, hT⟩, hlt, vx_table (x := yL_write) B (atoms_spec (ws := wsL_write) B.pre _ List.mem_cons_self)⟩ L f a0 a1 a2 a3 a4 a5 a6 a7 hw s.heap [] hP (hD0.self (sz := s.heap.size)) va_S.rf ls (lv_sub hl [0, 1, 2, 3, 4, 5, 6, 7] rfl)
theorem lk_L_cut_13 : Cond.classLink RL 13 "java/lang/IllegalArgumentException" ∈ wsL_cut := by decide +kernel
abbrev rm_L_cut : Room := { frames := 8, cells := 1, slots := 6, locals := 135 }
def wp_L_cut_0 (dA : Nat → ClassId) (zz : Nat → Nat) (Q : Int32 → List Nat → pF → Prop) (L : List Nat) (f : pF) (a0 : Nat) (a1 : Int32) (a2 : Int32) (a3 : Nat) : Prop :=
    (isO L f 9 a0 ∧
      (wp_X8_cut_0 dA zz (fun r_5 L_5 f_5 =>
        (aJs L_5 f_5 (dA 2) a3 (0 : Int32) (Int32.toInt64 r_5) (fun f_9 =>
          (Q (0 : Int32) L_5 f_9)))) (fun E9 L9 f9 => (E9 = "java/lang/IllegalArgumentException" → (Q (1 : Int32) L9 f9)) ∧ (E9 = "java/util/NoSuchElementException" → (False)) ∧ (E9 = "java/lang/IllegalArgumentException" ∨ E9 = "java/util/NoSuchElementException")) L f a0 a1 a2))
set_option maxHeartbeats 4000000 in
set_option maxRecDepth 100000 in
theorem tb_L_cut_0 {p : Program} {l : Launch} {e : Env} {s : State} {m : MethodId} {below : List Frame} {meth : Method} {c : Code} {args : Array Value} {dC : Nat → ClassId} {dI : Nat → Nat → Nat} {dA : Nat → ClassId} {zz : Nat → Nat} {base : Nat} {A : Nat → Prop} {Q : Int32 → List Nat → pF → Prop} (C : pCx p s m args meth c cL_cut 5 (some .int) RL wsL_cut A dC dI dA zz base ∧ l.stackTraces = false ∧ c.exceptionTable.toList = tableOf  [(0, 10, 13, 13)]) : ∀ (L : List Nat) (f : pF) (a0 : Nat) (a1 : Int32) (a2 : Int32) (a3 : Nat), wp_L_cut_0 dA zz Q  L f a0 a1 a2 a3 → pAt p l e rm_L_cut s m args below meth c dC dI A (MQ below (va_Qi (fun r (u : List Nat × pF) => Q r u.1 u.2) (pB dC dI dA A) A) args s 1 6 A) 0 0 0 5 [(0, .ref a0), (1, .int a1), (2, .int a2), (3, .ref a3)] [] L f := by
  obtain ⟨⟨hx, hb, hml, hown, hts, hr, hlocks, hA, hK, hB, hz, hN, hT⟩, hlt, htab⟩ := id C
  intro L f a0 a1 a2 a3 hw H locs hP hD hS ls hl
  rw [wp_L_cut_0] at hw
  refine lv_aload_n hx hb dL_cut_0 rfl (lv_at hl 3 rfl) ?_
  refine lv_iconst (v := 0) hx hb dL_cut_1 (by decide) ?_
  refine lv_aload_n hx hb dL_cut_2 rfl (lv_at hl 0 rfl) ?_
  refine lv_iload_n hx hb dL_cut_3 rfl (lv_at hl 1 rfl) ?_
  refine lv_iload_n hx hb dL_cut_4 rfl (lv_at hl 2 rfl) ?_
  obtain ⟨hO9, hw⟩ := hw
  have hFc := p_free hD hS hA
  refine vx_calli (vx_runV (As := [.int a1, .int a2]) (rest := [.int (0 : Int32), .ref a3]) ⟨hx, hb, hml, hown, hts⟩ (c_X8_cut l hlt dC dI dA zz base L f H.size a0 a1 a2 _ _ hw) (cwV 2 hts gL_cut_X8_cut rfl rfl rfl (by decide +kernel) ⟨by decide, by decide⟩) (pPreV [.int a1, .int a2] (ci := 9) rfl hO9 hK hP hD hS hB hz hN hT) rfl rfl hl.1 rfl (lv_room (Nat.le_of_ble_eq_true rfl)) dL_cut_5 ⟨by decide, by decide⟩) hS (fun q _ h => hFc q h) hFc (fun q _ h => hFc q h) (fun E ce q9 u t H1 locs ht hvm hw hB1 hz1 hk1 hS hce hcv hcl => by
      obtain ⟨E9, L9, f9⟩ := u
      obtain ⟨hE, hP, -, hD1⟩ := hB1
      rw [ht] at hP
      have hE : E = E9 := hE
      have hP : va_P (dC, dI) vwCl (va_pl L9 f9) H1 := hP
      have hD : va_D A (va_pl L9 f9) := p_gain hD1 hFc
      generalize H1 = H at hP hS hce ⊢
      rw [hE] at hcl
      clear hE
      rcases hw.2.2 with hE | hE
      · have hw := hw.1 hE
        have hE : E9 = _ := hE
        rw [hE] at hcl
        refine vx_catch (own := RL) (name := "java/lang/IllegalArgumentException") hown [] ⟨0, 10, 13, 13⟩ [] (by rw [htab]; rfl) (fun z h => absurd h List.not_mem_nil) (by decide) (by decide) (hts _ lk_L_cut_13) (hN.2.2.2.2.2.2.2.2.2.2.2.2.2.1.use rfl) hce hcv hcl ?_
        refine W.widen (k := 1) (n := 6) (by decide) (by decide) ?_
        refine lv_astore (lv' := [(4, .ref q9), (0, .ref a0), (1, .int a1), (2, .int a2), (3, .ref a3)]) hx hb dL_cut_13 hl (by decide) rfl (fun ls hl => ?_)
        refine lv_iconst (v := 1) hx hb dL_cut_15 (by decide) ?_
        exact W.iret (v := (1 : Int32)) hx hb hr (fun t ht hW => ⟨⟨(1 : Int32), (L9, f9), rfl, hw, by rw [ht]; exact hP, va_K.moved hW.alike hK, hD⟩, hS.F ht⟩) hS.2.2 dL_cut_16
      · have hw := hw.2.1 hE
        have hE : E9 = _ := hE
        rw [hE] at hcl
        exact hw.elim) (fun r_5 u t H1 locs ht hvm hw hB1 hz1 hk1 hS => ?_)
  obtain ⟨L_5, f_5⟩ := u
  obtain ⟨hP, -, hD1⟩ := hB1
  rw [ht] at hP
  have hw := id hw
  have hP : va_P (dC, dI) vwCl (va_pl L_5 f_5) H1 := hP
  have hD : va_D A (va_pl L_5 f_5) := p_gain hD1 hFc
  generalize H1 = H at hP hS ⊢
  refine W.widen (k := 1) (n := 6) (by decide) (by decide) ?_
  refine lv_i2l hx hb dL_cut_8 rfl ?_
  obtain ⟨n_9, h_9, ⟨hL9, hf9, hn9⟩, hw⟩ := hw
  obtain ⟨kq9, hkq9⟩ := p_at hL9 hf9
  refine va_last hx hb hK hP hD hS kq9 2 hkq9 rfl hn9 dL_cut_9 (fun H locs hP2 hD2 hS => ?_)
  rw [p_set hD hL9 hf9 hkq9] at hP2 hD2
  obtain ⟨f_9, ef_9⟩ : ∃ y : pF, y = va_up f_5 a3 (.inl (dA 2, n_9, .inr (.inl (vp_updL h_9 (Int32.toNatClampNeg (0 : Int32)) (Int32.toInt64 r_5))))) := ⟨_, rfl⟩
  rw [← ef_9] at hP2 hD2
  have hw := hw f_9 ef_9
  have hP := hP2
  have hD := hD2
  refine lv_goto (tgt := 17) hx hb dL_cut_10 (by decide) ?_
  refine lv_iconst (v := 0) hx hb dL_cut_17 (by decide) ?_
  exact W.iret (v := (0 : Int32)) hx hb hr (fun t ht hW => ⟨⟨(0 : Int32), (L_5, f_9), rfl, hw, by rw [ht]; exact hP, va_K.moved hW.alike hK, hD⟩, hS.F ht⟩) hS.2.2 dL_cut_18
set_option maxHeartbeats 4000000 in
set_option maxRecDepth 100000 in
theorem c_L_cut (l : Launch) (hlt : l.stackTraces = false) (dC : Nat → ClassId) (dI : Nat → Nat → Nat) (dA : Nat → ClassId) (zz : Nat → Nat) (base : Nat) (L : List Nat) (f : pF) (sz : Nat) (a0 : Nat) (a1 : Int32) (a2 : Int32) (a3 : Nat) (Q : Int32 → List Nat → pF → Prop) (hw : wp_L_cut_0 dA zz Q L f a0 a1 a2 a3) : Met l yL_cut wsL_cut rm_L_cut (va_Pc [.ref a0, .int a1, .int a2, .ref a3] (pPre dC dI dA zz base L f sz)) (va_Qi (fun r (u : List Nat × pF) => Q r u.1 u.2) (pB dC dI dA (va_A (va_pl L f) sz)) (va_A (va_pl L f) sz)) 1 6 (va_A (va_pl L f) sz) := by
  refine va_MetW (cc := cL_cut) (maxL := 5) (ret := (some .int)) (by decide) rfl ?_
  intro p e s m args below meth c s₁ B hml hv
  obtain ⟨rfl, hsz, hP, hK, hD0, hz, hN, hT⟩ := hv
  subst hsz
  have hl := lv_entry ([.ref a0, .int a1, .int a2, .ref a3]) (n := 5) (Nat.le_of_ble_eq_true rfl)
  rw [lg_entry_eq]
  generalize (lg_sl ([.ref a0, .int a1, .int a2, .ref a3]) ++ List.replicate (5 - (lg_sl ([.ref a0, .int a1, .int a2, .ref a3])).length) Slot.unset).toArray = ls at hl ⊢
  exact tb_L_cut_0 (Q := Q) (p := p) ⟨⟨B.exec, B.bytes, hml, findClass_of_methodNamed B.named, atoms_spec (ws := wsL_cut) B.pre, B.returns, B.notSynchronized, fun q h => Or.inr h, hK, pAB hD0 hz, hz, hN, hT⟩, hlt, vx_table (x := yL_cut) B (atoms_spec (ws := wsL_cut) B.pre _ List.mem_cons_self)⟩ L f a0 a1 a2 a3 hw s.heap [] hP (hD0.self (sz := s.heap.size)) va_S.rf ls (lv_sub hl [0, 1, 2, 3] rfl)
theorem lk_L_byteAt_13 : Cond.classLink RL 13 "java/lang/IllegalArgumentException" ∈ wsL_byteAt := by decide +kernel
theorem lk_L_byteAt_31 : Cond.classLink RL 31 "java/util/NoSuchElementException" ∈ wsL_byteAt := by decide +kernel
abbrev rm_L_byteAt : Room := { frames := 8, cells := 2, slots := 12, locals := 134 }
def wp_L_byteAt_0 (dA : Nat → ClassId) (zz : Nat → Nat) (Q : Int32 → List Nat → pF → Prop) (L : List Nat) (f : pF) (a0 : Nat) (a1 : Int32) (a2 : Int32) (a3 : Nat) : Prop :=
    (isO L f 9 a0 ∧
      (wp_X8_byteAt_0 dA zz (fun r_5 L_5 f_5 =>
        (aJs L_5 f_5 (dA 2) a3 (0 : Int32) (Int32.toInt64 r_5) (fun f_9 =>
          (Q (0 : Int32) L_5 f_9)))) (fun E9 L9 f9 => (E9 = "java/lang/IllegalArgumentException" → (Q (1 : Int32) L9 f9)) ∧ (E9 = "java/util/NoSuchElementException" → (Q (2 : Int32) L9 f9)) ∧ (E9 = "java/lang/IllegalArgumentException" ∨ E9 = "java/util/NoSuchElementException")) L f a0 a1 a2))
set_option maxHeartbeats 4000000 in
set_option maxRecDepth 100000 in
theorem tb_L_byteAt_0 {p : Program} {l : Launch} {e : Env} {s : State} {m : MethodId} {below : List Frame} {meth : Method} {c : Code} {args : Array Value} {dC : Nat → ClassId} {dI : Nat → Nat → Nat} {dA : Nat → ClassId} {zz : Nat → Nat} {base : Nat} {A : Nat → Prop} {Q : Int32 → List Nat → pF → Prop} (C : pCx p s m args meth c cL_byteAt 5 (some .int) RL wsL_byteAt A dC dI dA zz base ∧ l.stackTraces = false ∧ c.exceptionTable.toList = tableOf  [(0, 10, 13, 13), (0, 10, 17, 31)]) : ∀ (L : List Nat) (f : pF) (a0 : Nat) (a1 : Int32) (a2 : Int32) (a3 : Nat), wp_L_byteAt_0 dA zz Q  L f a0 a1 a2 a3 → pAt p l e rm_L_byteAt s m args below meth c dC dI A (MQ below (va_Qi (fun r (u : List Nat × pF) => Q r u.1 u.2) (pB dC dI dA A) A) args s 2 12 A) 0 0 0 5 [(0, .ref a0), (1, .int a1), (2, .int a2), (3, .ref a3)] [] L f := by
  obtain ⟨⟨hx, hb, hml, hown, hts, hr, hlocks, hA, hK, hB, hz, hN, hT⟩, hlt, htab⟩ := id C
  intro L f a0 a1 a2 a3 hw H locs hP hD hS ls hl
  rw [wp_L_byteAt_0] at hw
  refine lv_aload_n hx hb dL_byteAt_0 rfl (lv_at hl 3 rfl) ?_
  refine lv_iconst (v := 0) hx hb dL_byteAt_1 (by decide) ?_
  refine lv_aload_n hx hb dL_byteAt_2 rfl (lv_at hl 0 rfl) ?_
  refine lv_iload_n hx hb dL_byteAt_3 rfl (lv_at hl 1 rfl) ?_
  refine lv_iload_n hx hb dL_byteAt_4 rfl (lv_at hl 2 rfl) ?_
  obtain ⟨hO9, hw⟩ := hw
  have hFc := p_free hD hS hA
  refine vx_calli (vx_runV (As := [.int a1, .int a2]) (rest := [.int (0 : Int32), .ref a3]) ⟨hx, hb, hml, hown, hts⟩ (c_X8_byteAt l hlt dC dI dA zz base L f H.size a0 a1 a2 _ _ hw) (cwV 2 hts gL_byteAt_X8_byteAt rfl rfl rfl (by decide +kernel) ⟨by decide, by decide⟩) (pPreV [.int a1, .int a2] (ci := 9) rfl hO9 hK hP hD hS hB hz hN hT) rfl rfl hl.1 rfl (lv_room (Nat.le_of_ble_eq_true rfl)) dL_byteAt_5 ⟨by decide, by decide⟩) hS (fun q _ h => hFc q h) hFc (fun q _ h => hFc q h) (fun E ce q9 u t H1 locs ht hvm hw hB1 hz1 hk1 hS hce hcv hcl => by
      obtain ⟨E9, L9, f9⟩ := u
      obtain ⟨hE, hP, -, hD1⟩ := hB1
      rw [ht] at hP
      have hE : E = E9 := hE
      have hP : va_P (dC, dI) vwCl (va_pl L9 f9) H1 := hP
      have hD : va_D A (va_pl L9 f9) := p_gain hD1 hFc
      generalize H1 = H at hP hS hce ⊢
      rw [hE] at hcl
      clear hE
      rcases hw.2.2 with hE | hE
      · have hw := hw.1 hE
        have hE : E9 = _ := hE
        rw [hE] at hcl
        refine vx_catch (own := RL) (name := "java/lang/IllegalArgumentException") hown [] ⟨0, 10, 13, 13⟩ [⟨0, 10, 17, 31⟩] (by rw [htab]; rfl) (fun z h => absurd h List.not_mem_nil) (by decide) (by decide) (hts _ lk_L_byteAt_13) (hN.2.2.2.2.2.2.2.2.2.2.2.2.2.1.use rfl) hce hcv hcl ?_
        refine W.widen (k := 2) (n := 12) (by decide) (by decide) ?_
        refine lv_astore (lv' := [(4, .ref q9), (0, .ref a0), (1, .int a1), (2, .int a2), (3, .ref a3)]) hx hb dL_byteAt_13 hl (by decide) rfl (fun ls hl => ?_)
        refine lv_iconst (v := 1) hx hb dL_byteAt_15 (by decide) ?_
        exact W.iret (v := (1 : Int32)) hx hb hr (fun t ht hW => ⟨⟨(1 : Int32), (L9, f9), rfl, hw, by rw [ht]; exact hP, va_K.moved hW.alike hK, hD⟩, hS.F ht⟩) hS.2.2 dL_byteAt_16
      · have hw := hw.2.1 hE
        have hE : E9 = _ := hE
        rw [hE] at hcl
        refine vx_catch (own := RL) (name := "java/util/NoSuchElementException") hown [⟨0, 10, 13, 13⟩] ⟨0, 10, 17, 31⟩ [] (by rw [htab]; rfl) (fun z h => by rcases List.mem_singleton.mp h with rfl; exact Or.inr ⟨by decide, "java/lang/IllegalArgumentException", hts _ lk_L_byteAt_13, hN.2.2.2.2.2.2.2.2.2.2.2.2.2.2.2.2⟩) (by decide) (by decide) (hts _ lk_L_byteAt_31) (hN.2.2.2.2.2.2.2.2.2.2.2.2.2.2.1.use rfl) hce hcv hcl ?_
        refine W.widen (k := 2) (n := 12) (by decide) (by decide) ?_
        refine lv_astore (lv' := [(4, .ref q9), (0, .ref a0), (1, .int a1), (2, .int a2), (3, .ref a3)]) hx hb dL_byteAt_17 hl (by decide) rfl (fun ls hl => ?_)
        refine lv_iconst (v := 2) hx hb dL_byteAt_19 (by decide) ?_
        exact W.iret (v := (2 : Int32)) hx hb hr (fun t ht hW => ⟨⟨(2 : Int32), (L9, f9), rfl, hw, by rw [ht]; exact hP, va_K.moved hW.alike hK, hD⟩, hS.F ht⟩) hS.2.2 dL_byteAt_20) (fun r_5 u t H1 locs ht hvm hw hB1 hz1 hk1 hS => ?_)
  obtain ⟨L_5, f_5⟩ := u
  obtain ⟨hP, -, hD1⟩ := hB1
  rw [ht] at hP
  have hw := id hw
  have hP : va_P (dC, dI) vwCl (va_pl L_5 f_5) H1 := hP
  have hD : va_D A (va_pl L_5 f_5) := p_gain hD1 hFc
  generalize H1 = H at hP hS ⊢
  refine W.widen (k := 2) (n := 12) (by decide) (by decide) ?_
  refine lv_i2l hx hb dL_byteAt_8 rfl ?_
  obtain ⟨n_9, h_9, ⟨hL9, hf9, hn9⟩, hw⟩ := hw
  obtain ⟨kq9, hkq9⟩ := p_at hL9 hf9
  refine va_last hx hb hK hP hD hS kq9 2 hkq9 rfl hn9 dL_byteAt_9 (fun H locs hP2 hD2 hS => ?_)
  rw [p_set hD hL9 hf9 hkq9] at hP2 hD2
  obtain ⟨f_9, ef_9⟩ : ∃ y : pF, y = va_up f_5 a3 (.inl (dA 2, n_9, .inr (.inl (vp_updL h_9 (Int32.toNatClampNeg (0 : Int32)) (Int32.toInt64 r_5))))) := ⟨_, rfl⟩
  rw [← ef_9] at hP2 hD2
  have hw := hw f_9 ef_9
  have hP := hP2
  have hD := hD2
  refine lv_goto (tgt := 21) hx hb dL_byteAt_10 (by decide) ?_
  refine lv_iconst (v := 0) hx hb dL_byteAt_21 (by decide) ?_
  exact W.iret (v := (0 : Int32)) hx hb hr (fun t ht hW => ⟨⟨(0 : Int32), (L_5, f_9), rfl, hw, by rw [ht]; exact hP, va_K.moved hW.alike hK, hD⟩, hS.F ht⟩) hS.2.2 dL_byteAt_22
set_option maxHeartbeats 4000000 in
set_option maxRecDepth 100000 in
theorem c_L_byteAt (l : Launch) (hlt : l.stackTraces = false) (dC : Nat → ClassId) (dI : Nat → Nat → Nat) (dA : Nat → ClassId) (zz : Nat → Nat) (base : Nat) (L : List Nat) (f : pF) (sz : Nat) (a0 : Nat) (a1 : Int32) (a2 : Int32) (a3 : Nat) (Q : Int32 → List Nat → pF → Prop) (hw : wp_L_byteAt_0 dA zz Q L f a0 a1 a2 a3) : Met l yL_byteAt wsL_byteAt rm_L_byteAt (va_Pc [.ref a0, .int a1, .int a2, .ref a3] (pPre dC dI dA zz base L f sz)) (va_Qi (fun r (u : List Nat × pF) => Q r u.1 u.2) (pB dC dI dA (va_A (va_pl L f) sz)) (va_A (va_pl L f) sz)) 2 12 (va_A (va_pl L f) sz) := by
  refine va_MetW (cc := cL_byteAt) (maxL := 5) (ret := (some .int)) (by decide) rfl ?_
  intro p e s m args below meth c s₁ B hml hv
  obtain ⟨rfl, hsz, hP, hK, hD0, hz, hN, hT⟩ := hv
  subst hsz
  have hl := lv_entry ([.ref a0, .int a1, .int a2, .ref a3]) (n := 5) (Nat.le_of_ble_eq_true rfl)
  rw [lg_entry_eq]
  generalize (lg_sl ([.ref a0, .int a1, .int a2, .ref a3]) ++ List.replicate (5 - (lg_sl ([.ref a0, .int a1, .int a2, .ref a3])).length) Slot.unset).toArray = ls at hl ⊢
  exact tb_L_byteAt_0 (Q := Q) (p := p) ⟨⟨B.exec, B.bytes, hml, findClass_of_methodNamed B.named, atoms_spec (ws := wsL_byteAt) B.pre, B.returns, B.notSynchronized, fun q h => Or.inr h, hK, pAB hD0 hz, hz, hN, hT⟩, hlt, vx_table (x := yL_byteAt) B (atoms_spec (ws := wsL_byteAt) B.pre _ List.mem_cons_self)⟩ L f a0 a1 a2 a3 hw s.heap [] hP (hD0.self (sz := s.heap.size)) va_S.rf ls (lv_sub hl [0, 1, 2, 3] rfl)
theorem lk_L_uses_13 : Cond.classLink RL 13 "java/lang/IllegalArgumentException" ∈ wsL_uses := by decide +kernel
abbrev rm_L_uses : Room := { frames := 9, cells := 1, slots := 6, locals := 206 }
def wp_L_uses_0 (dA : Nat → ClassId) (zz : Nat → Nat) (Q : Int32 → List Nat → pF → Prop) (L : List Nat) (f : pF) (a0 : Nat) (a1 : Int32) (a2 : Nat) : Prop :=
    (isO L f 9 a0 ∧
      (wp_X8_uses_0 dA zz (fun r_4 L_4 f_4 =>
        (aJs L_4 f_4 (dA 2) a2 (0 : Int32) (Int32.toInt64 r_4) (fun f_8 =>
          (Q (0 : Int32) L_4 f_8)))) (fun E9 L9 f9 => (E9 = "java/lang/IllegalArgumentException" → (Q (1 : Int32) L9 f9)) ∧ (E9 = "java/util/NoSuchElementException" → (False)) ∧ (E9 = "java/lang/IllegalArgumentException" ∨ E9 = "java/util/NoSuchElementException")) L f a0 a1))
set_option maxHeartbeats 4000000 in
set_option maxRecDepth 100000 in
theorem tb_L_uses_0 {p : Program} {l : Launch} {e : Env} {s : State} {m : MethodId} {below : List Frame} {meth : Method} {c : Code} {args : Array Value} {dC : Nat → ClassId} {dI : Nat → Nat → Nat} {dA : Nat → ClassId} {zz : Nat → Nat} {base : Nat} {A : Nat → Prop} {Q : Int32 → List Nat → pF → Prop} (C : pCx p s m args meth c cL_uses 4 (some .int) RL wsL_uses A dC dI dA zz base ∧ l.stackTraces = false ∧ c.exceptionTable.toList = tableOf  [(0, 9, 12, 13)]) : ∀ (L : List Nat) (f : pF) (a0 : Nat) (a1 : Int32) (a2 : Nat), wp_L_uses_0 dA zz Q  L f a0 a1 a2 → pAt p l e rm_L_uses s m args below meth c dC dI A (MQ below (va_Qi (fun r (u : List Nat × pF) => Q r u.1 u.2) (pB dC dI dA A) A) args s 1 6 A) 0 0 0 4 [(0, .ref a0), (1, .int a1), (2, .ref a2)] [] L f := by
  obtain ⟨⟨hx, hb, hml, hown, hts, hr, hlocks, hA, hK, hB, hz, hN, hT⟩, hlt, htab⟩ := id C
  intro L f a0 a1 a2 hw H locs hP hD hS ls hl
  rw [wp_L_uses_0] at hw
  refine lv_aload_n hx hb dL_uses_0 rfl (lv_at hl 2 rfl) ?_
  refine lv_iconst (v := 0) hx hb dL_uses_1 (by decide) ?_
  refine lv_aload_n hx hb dL_uses_2 rfl (lv_at hl 0 rfl) ?_
  refine lv_iload_n hx hb dL_uses_3 rfl (lv_at hl 1 rfl) ?_
  obtain ⟨hO9, hw⟩ := hw
  have hFc := p_free hD hS hA
  refine vx_calli (vx_runV (As := [.int a1]) (rest := [.int (0 : Int32), .ref a2]) ⟨hx, hb, hml, hown, hts⟩ (c_X8_uses l hlt dC dI dA zz base L f H.size a0 a1 _ _ hw) (cwV 1 hts gL_uses_X8_uses rfl rfl rfl (by decide +kernel) ⟨by decide, by decide⟩) (pPreV [.int a1] (ci := 9) rfl hO9 hK hP hD hS hB hz hN hT) rfl rfl hl.1 rfl (lv_room (Nat.le_of_ble_eq_true rfl)) dL_uses_4 ⟨by decide, by decide⟩) hS (fun q _ h => hFc q h) hFc (fun q _ h => hFc q h) (fun E ce q9 u t H1 locs ht hvm hw hB1 hz1 hk1 hS hce hcv hcl => by
      obtain ⟨E9, L9, f9⟩ := u
      obtain ⟨hE, hP, -, hD1⟩ := hB1
      rw [ht] at hP
      have hE : E = E9 := hE
      have hP : va_P (dC, dI) vwCl (va_pl L9 f9) H1 := hP
      have hD : va_D A (va_pl L9 f9) := p_gain hD1 hFc
      generalize H1 = H at hP hS hce ⊢
      rw [hE] at hcl
      clear hE
      rcases hw.2.2 with hE | hE
      · have hw := hw.1 hE
        have hE : E9 = _ := hE
        rw [hE] at hcl
        refine vx_catch (own := RL) (name := "java/lang/IllegalArgumentException") hown [] ⟨0, 9, 12, 13⟩ [] (by rw [htab]; rfl) (fun z h => absurd h List.not_mem_nil) (by decide) (by decide) (hts _ lk_L_uses_13) (hN.2.2.2.2.2.2.2.2.2.2.2.2.2.1.use rfl) hce hcv hcl ?_
        refine W.widen (k := 1) (n := 6) (by decide) (by decide) ?_
        refine lv_astore_n (lv' := [(3, .ref q9), (0, .ref a0), (1, .int a1), (2, .ref a2)]) hx hb dL_uses_12 rfl hl (by decide) rfl (fun ls hl => ?_)
        refine lv_iconst (v := 1) hx hb dL_uses_13 (by decide) ?_
        exact W.iret (v := (1 : Int32)) hx hb hr (fun t ht hW => ⟨⟨(1 : Int32), (L9, f9), rfl, hw, by rw [ht]; exact hP, va_K.moved hW.alike hK, hD⟩, hS.F ht⟩) hS.2.2 dL_uses_14
      · have hw := hw.2.1 hE
        have hE : E9 = _ := hE
        rw [hE] at hcl
        exact hw.elim) (fun r_4 u t H1 locs ht hvm hw hB1 hz1 hk1 hS => ?_)
  obtain ⟨L_4, f_4⟩ := u
  obtain ⟨hP, -, hD1⟩ := hB1
  rw [ht] at hP
  have hw := id hw
  have hP : va_P (dC, dI) vwCl (va_pl L_4 f_4) H1 := hP
  have hD : va_D A (va_pl L_4 f_4) := p_gain hD1 hFc
  generalize H1 = H at hP hS ⊢
  refine W.widen (k := 1) (n := 6) (by decide) (by decide) ?_
  refine lv_i2l hx hb dL_uses_7 rfl ?_
  obtain ⟨n_8, h_8, ⟨hL9, hf9, hn9⟩, hw⟩ := hw
  obtain ⟨kq9, hkq9⟩ := p_at hL9 hf9
  refine va_last hx hb hK hP hD hS kq9 2 hkq9 rfl hn9 dL_uses_8 (fun H locs hP2 hD2 hS => ?_)
  rw [p_set hD hL9 hf9 hkq9] at hP2 hD2
  obtain ⟨f_8, ef_8⟩ : ∃ y : pF, y = va_up f_4 a2 (.inl (dA 2, n_8, .inr (.inl (vp_updL h_8 (Int32.toNatClampNeg (0 : Int32)) (Int32.toInt64 r_4))))) := ⟨_, rfl⟩
  rw [← ef_8] at hP2 hD2
  have hw := hw f_8 ef_8
  have hP := hP2
  have hD := hD2
  refine lv_goto (tgt := 15) hx hb dL_uses_9 (by decide) ?_
  refine lv_iconst (v := 0) hx hb dL_uses_15 (by decide) ?_
  exact W.iret (v := (0 : Int32)) hx hb hr (fun t ht hW => ⟨⟨(0 : Int32), (L_4, f_8), rfl, hw, by rw [ht]; exact hP, va_K.moved hW.alike hK, hD⟩, hS.F ht⟩) hS.2.2 dL_uses_16
set_option maxHeartbeats 4000000 in
set_option maxRecDepth 100000 in
theorem c_L_uses (l : Launch) (hlt : l.stackTraces = false) (dC : Nat → ClassId) (dI : Nat → Nat → Nat) (dA : Nat → ClassId) (zz : Nat → Nat) (base : Nat) (L : List Nat) (f : pF) (sz : Nat) (a0 : Nat) (a1 : Int32) (a2 : Nat) (Q : Int32 → List Nat → pF → Prop) (hw : wp_L_uses_0 dA zz Q L f a0 a1 a2) : Met l yL_uses wsL_uses rm_L_uses (va_Pc [.ref a0, .int a1, .ref a2] (pPre dC dI dA zz base L f sz)) (va_Qi (fun r (u : List Nat × pF) => Q r u.1 u.2) (pB dC dI dA (va_A (va_pl L f) sz)) (va_A (va_pl L f) sz)) 1 6 (va_A (va_pl L f) sz) := by
  refine va_MetW (cc := cL_uses) (maxL := 4) (ret := (some .int)) (by decide) rfl ?_
  intro p e s m args below meth c s₁ B hml hv
  obtain ⟨rfl, hsz, hP, hK, hD0, hz, hN, hT⟩ := hv
  subst hsz
  have hl := lv_entry ([.ref a0, .int a1, .ref a2]) (n := 4) (Nat.le_of_ble_eq_true rfl)
  rw [lg_entry_eq]
  generalize (lg_sl ([.ref a0, .int a1, .ref a2]) ++ List.replicate (4 - (lg_sl ([.ref a0, .int a1, .ref a2])).length) Slot.unset).toArray = ls at hl ⊢
  exact tb_L_uses_0 (Q := Q) (p := p) ⟨⟨B.exec, B.bytes, hml, findClass_of_methodNamed B.named, atoms_spec (ws := wsL_uses) B.pre, B.returns, B.notSynchronized, fun q h => Or.inr h, hK, pAB hD0 hz, hz, hN, hT⟩, hlt, vx_table (x := yL_uses) B (atoms_spec (ws := wsL_uses) B.pre _ List.mem_cons_self)⟩ L f a0 a1 a2 hw s.heap [] hP (hD0.self (sz := s.heap.size)) va_S.rf ls (lv_sub hl [0, 1, 2] rfl)
theorem lk_L_use_13 : Cond.classLink RL 13 "java/lang/IllegalArgumentException" ∈ wsL_use := by decide +kernel
theorem lk_L_use_31 : Cond.classLink RL 31 "java/util/NoSuchElementException" ∈ wsL_use := by decide +kernel
abbrev rm_L_use : Room := { frames := 9, cells := 2, slots := 12, locals := 208 }
def wp_L_use_0 (dA : Nat → ClassId) (zz : Nat → Nat) (Q : Int32 → List Nat → pF → Prop) (L : List Nat) (f : pF) (a0 : Nat) (a1 : Int32) (a2 : Int32) (a3 : Int32) (a4 : Nat) : Prop :=
    (isO L f 9 a0 ∧
      (wp_X8_use_0 dA zz (fun r_7 L_7 f_7 =>
        (aJs L_7 f_7 (dA 2) a4 (0 : Int32) (Int32.toInt64 r_7) (fun f_11 =>
          (Q (0 : Int32) L_7 f_11)))) (fun E9 L9 f9 => (E9 = "java/lang/IllegalArgumentException" → (Q (1 : Int32) L9 f9)) ∧ (E9 = "java/util/NoSuchElementException" → (Q (2 : Int32) L9 f9)) ∧ (E9 = "java/lang/IllegalArgumentException" ∨ E9 = "java/util/NoSuchElementException")) L f a0 a1 a2 a3))
set_option maxHeartbeats 4000000 in
set_option maxRecDepth 100000 in
theorem tb_L_use_0 {p : Program} {l : Launch} {e : Env} {s : State} {m : MethodId} {below : List Frame} {meth : Method} {c : Code} {args : Array Value} {dC : Nat → ClassId} {dI : Nat → Nat → Nat} {dA : Nat → ClassId} {zz : Nat → Nat} {base : Nat} {A : Nat → Prop} {Q : Int32 → List Nat → pF → Prop} (C : pCx p s m args meth c cL_use 6 (some .int) RL wsL_use A dC dI dA zz base ∧ l.stackTraces = false ∧ c.exceptionTable.toList = tableOf  [(0, 12, 15, 13), (0, 12, 19, 31)]) : ∀ (L : List Nat) (f : pF) (a0 : Nat) (a1 : Int32) (a2 : Int32) (a3 : Int32) (a4 : Nat), wp_L_use_0 dA zz Q  L f a0 a1 a2 a3 a4 → pAt p l e rm_L_use s m args below meth c dC dI A (MQ below (va_Qi (fun r (u : List Nat × pF) => Q r u.1 u.2) (pB dC dI dA A) A) args s 2 12 A) 0 0 0 6 [(0, .ref a0), (1, .int a1), (2, .int a2), (3, .int a3), (4, .ref a4)] [] L f := by
  obtain ⟨⟨hx, hb, hml, hown, hts, hr, hlocks, hA, hK, hB, hz, hN, hT⟩, hlt, htab⟩ := id C
  intro L f a0 a1 a2 a3 a4 hw H locs hP hD hS ls hl
  rw [wp_L_use_0] at hw
  refine lv_aload hx hb dL_use_0 (lv_at hl 4 rfl) ?_
  refine lv_iconst (v := 0) hx hb dL_use_2 (by decide) ?_
  refine lv_aload_n hx hb dL_use_3 rfl (lv_at hl 0 rfl) ?_
  refine lv_iload_n hx hb dL_use_4 rfl (lv_at hl 1 rfl) ?_
  refine lv_iload_n hx hb dL_use_5 rfl (lv_at hl 2 rfl) ?_
  refine lv_iload_n hx hb dL_use_6 rfl (lv_at hl 3 rfl) ?_
  obtain ⟨hO9, hw⟩ := hw
  have hFc := p_free hD hS hA
  refine vx_calli (vx_runV (As := [.int a1, .int a2, .int a3]) (rest := [.int (0 : Int32), .ref a4]) ⟨hx, hb, hml, hown, hts⟩ (c_X8_use l hlt dC dI dA zz base L f H.size a0 a1 a2 a3 _ _ hw) (cwV 3 hts gL_use_X8_use rfl rfl rfl (by decide +kernel) ⟨by decide, by decide⟩) (pPreV [.int a1, .int a2, .int a3] (ci := 9) rfl hO9 hK hP hD hS hB hz hN hT) rfl rfl hl.1 rfl (lv_room (Nat.le_of_ble_eq_true rfl)) dL_use_7 ⟨by decide, by decide⟩) hS (fun q _ h => hFc q h) hFc (fun q _ h => hFc q h) (fun E ce q9 u t H1 locs ht hvm hw hB1 hz1 hk1 hS hce hcv hcl => by
      obtain ⟨E9, L9, f9⟩ := u
      obtain ⟨hE, hP, -, hD1⟩ := hB1
      rw [ht] at hP
      have hE : E = E9 := hE
      have hP : va_P (dC, dI) vwCl (va_pl L9 f9) H1 := hP
      have hD : va_D A (va_pl L9 f9) := p_gain hD1 hFc
      generalize H1 = H at hP hS hce ⊢
      rw [hE] at hcl
      clear hE
      rcases hw.2.2 with hE | hE
      · have hw := hw.1 hE
        have hE : E9 = _ := hE
        rw [hE] at hcl
        refine vx_catch (own := RL) (name := "java/lang/IllegalArgumentException") hown [] ⟨0, 12, 15, 13⟩ [⟨0, 12, 19, 31⟩] (by rw [htab]; rfl) (fun z h => absurd h List.not_mem_nil) (by decide) (by decide) (hts _ lk_L_use_13) (hN.2.2.2.2.2.2.2.2.2.2.2.2.2.1.use rfl) hce hcv hcl ?_
        refine W.widen (k := 2) (n := 12) (by decide) (by decide) ?_
        refine lv_astore (lv' := [(5, .ref q9), (0, .ref a0), (1, .int a1), (2, .int a2), (3, .int a3), (4, .ref a4)]) hx hb dL_use_15 hl (by decide) rfl (fun ls hl => ?_)
        refine lv_iconst (v := 1) hx hb dL_use_17 (by decide) ?_
        exact W.iret (v := (1 : Int32)) hx hb hr (fun t ht hW => ⟨⟨(1 : Int32), (L9, f9), rfl, hw, by rw [ht]; exact hP, va_K.moved hW.alike hK, hD⟩, hS.F ht⟩) hS.2.2 dL_use_18
      · have hw := hw.2.1 hE
        have hE : E9 = _ := hE
        rw [hE] at hcl
        refine vx_catch (own := RL) (name := "java/util/NoSuchElementException") hown [⟨0, 12, 15, 13⟩] ⟨0, 12, 19, 31⟩ [] (by rw [htab]; rfl) (fun z h => by rcases List.mem_singleton.mp h with rfl; exact Or.inr ⟨by decide, "java/lang/IllegalArgumentException", hts _ lk_L_use_13, hN.2.2.2.2.2.2.2.2.2.2.2.2.2.2.2.2⟩) (by decide) (by decide) (hts _ lk_L_use_31) (hN.2.2.2.2.2.2.2.2.2.2.2.2.2.2.1.use rfl) hce hcv hcl ?_
        refine W.widen (k := 2) (n := 12) (by decide) (by decide) ?_
        refine lv_astore (lv' := [(5, .ref q9), (0, .ref a0), (1, .int a1), (2, .int a2), (3, .int a3), (4, .ref a4)]) hx hb dL_use_19 hl (by decide) rfl (fun ls hl => ?_)
        refine lv_iconst (v := 2) hx hb dL_use_21 (by decide) ?_
        exact W.iret (v := (2 : Int32)) hx hb hr (fun t ht hW => ⟨⟨(2 : Int32), (L9, f9), rfl, hw, by rw [ht]; exact hP, va_K.moved hW.alike hK, hD⟩, hS.F ht⟩) hS.2.2 dL_use_22) (fun r_7 u t H1 locs ht hvm hw hB1 hz1 hk1 hS => ?_)
  obtain ⟨L_7, f_7⟩ := u
  obtain ⟨hP, -, hD1⟩ := hB1
  rw [ht] at hP
  have hw := id hw
  have hP : va_P (dC, dI) vwCl (va_pl L_7 f_7) H1 := hP
  have hD : va_D A (va_pl L_7 f_7) := p_gain hD1 hFc
  generalize H1 = H at hP hS ⊢
  refine W.widen (k := 2) (n := 12) (by decide) (by decide) ?_
  refine lv_i2l hx hb dL_use_10 rfl ?_
  obtain ⟨n_11, h_11, ⟨hL9, hf9, hn9⟩, hw⟩ := hw
  obtain ⟨kq9, hkq9⟩ := p_at hL9 hf9
  refine va_last hx hb hK hP hD hS kq9 2 hkq9 rfl hn9 dL_use_11 (fun H locs hP2 hD2 hS => ?_)
  rw [p_set hD hL9 hf9 hkq9] at hP2 hD2
  obtain ⟨f_11, ef_11⟩ : ∃ y : pF, y = va_up f_7 a4 (.inl (dA 2, n_11, .inr (.inl (vp_updL h_11 (Int32.toNatClampNeg (0 : Int32)) (Int32.toInt64 r_7))))) := ⟨_, rfl⟩
  rw [← ef_11] at hP2 hD2
  have hw := hw f_11 ef_11
  have hP := hP2
  have hD := hD2
  refine lv_goto (tgt := 23) hx hb dL_use_12 (by decide) ?_
  refine lv_iconst (v := 0) hx hb dL_use_23 (by decide) ?_
  exact W.iret (v := (0 : Int32)) hx hb hr (fun t ht hW => ⟨⟨(0 : Int32), (L_7, f_11), rfl, hw, by rw [ht]; exact hP, va_K.moved hW.alike hK, hD⟩, hS.F ht⟩) hS.2.2 dL_use_24
set_option maxHeartbeats 4000000 in
set_option maxRecDepth 100000 in
theorem c_L_use (l : Launch) (hlt : l.stackTraces = false) (dC : Nat → ClassId) (dI : Nat → Nat → Nat) (dA : Nat → ClassId) (zz : Nat → Nat) (base : Nat) (L : List Nat) (f : pF) (sz : Nat) (a0 : Nat) (a1 : Int32) (a2 : Int32) (a3 : Int32) (a4 : Nat) (Q : Int32 → List Nat → pF → Prop) (hw : wp_L_use_0 dA zz Q L f a0 a1 a2 a3 a4) : Met l yL_use wsL_use rm_L_use (va_Pc [.ref a0, .int a1, .int a2, .int a3, .ref a4] (pPre dC dI dA zz base L f sz)) (va_Qi (fun r (u : List Nat × pF) => Q r u.1 u.2) (pB dC dI dA (va_A (va_pl L f) sz)) (va_A (va_pl L f) sz)) 2 12 (va_A (va_pl L f) sz) := by
  refine va_MetW (cc := cL_use) (maxL := 6) (ret := (some .int)) (by decide) rfl ?_
  intro p e s m args below meth c s₁ B hml hv
  obtain ⟨rfl, hsz, hP, hK, hD0, hz, hN, hT⟩ := hv
  subst hsz
  have hl := lv_entry ([.ref a0, .int a1, .int a2, .int a3, .ref a4]) (n := 6) (Nat.le_of_ble_eq_true rfl)
  rw [lg_entry_eq]
  generalize (lg_sl ([.ref a0, .int a1, .int a2, .int a3, .ref a4]) ++ List.replicate (6 - (lg_sl ([.ref a0, .int a1, .int a2, .int a3, .ref a4])).length) Slot.unset).toArray = ls at hl ⊢
  exact tb_L_use_0 (Q := Q) (p := p) ⟨⟨B.exec, B.bytes, hml, findClass_of_methodNamed B.named, atoms_spec (ws := wsL_use) B.pre, B.returns, B.notSynchronized, fun q h => Or.inr h, hK, pAB hD0 hz, hz, hN, hT⟩, hlt, vx_table (x := yL_use) B (atoms_spec (ws := wsL_use) B.pre _ List.mem_cons_self)⟩ L f a0 a1 a2 a3 a4 hw s.heap [] hP (hD0.self (sz := s.heap.size)) va_S.rf ls (lv_sub hl [0, 1, 2, 3, 4] rfl)
theorem lk_L_mend_13 : Cond.classLink RL 13 "java/lang/IllegalArgumentException" ∈ wsL_mend := by decide +kernel
abbrev rm_L_mend : Room := { frames := 9, cells := 1, slots := 6, locals := 208 }
def wp_L_mend_16 (dA : Nat → ClassId) (zz : Nat → Nat) (Q : Int32 → List Nat → pF → Prop) (L : List Nat) (f : pF) (k0 : Int64) (k1 : Int32) (k2 : Nat) : Prop :=
    (aJs L f (dA 2) k2 k1 k0 (fun f_16 =>
      (Q (0 : Int32) L f_16)))
def wp_L_mend_0 (dA : Nat → ClassId) (zz : Nat → Nat) (Q : Int32 → List Nat → pF → Prop) (L : List Nat) (f : pF) (a0 : Nat) (a1 : Int32) (a2 : Int32) (a3 : Nat) : Prop :=
    (isO L f 9 a0 ∧
      (wp_X8_mend_0 dA zz (fun r_5 L_5 f_5 =>
        ((r_5 = 0 →
          (wp_L_mend_16 dA zz Q  L_5 f_5 (0 : Int64) (0 : Int32) a3))
         ∧ (¬ r_5 = 0 →
          (wp_L_mend_16 dA zz Q  L_5 f_5 (1 : Int64) (0 : Int32) a3)))) (fun E9 L9 f9 => (E9 = "java/lang/IllegalArgumentException" → (Q (1 : Int32) L9 f9)) ∧ (E9 = "java/util/NoSuchElementException" → (False)) ∧ (E9 = "java/lang/IllegalArgumentException" ∨ E9 = "java/util/NoSuchElementException")) L f a0 a1 a2))
set_option maxHeartbeats 4000000 in
set_option maxRecDepth 100000 in
theorem tb_L_mend_16 {p : Program} {l : Launch} {e : Env} {s : State} {m : MethodId} {below : List Frame} {meth : Method} {c : Code} {args : Array Value} {dC : Nat → ClassId} {dI : Nat → Nat → Nat} {dA : Nat → ClassId} {zz : Nat → Nat} {base : Nat} {A : Nat → Prop} {Q : Int32 → List Nat → pF → Prop} (C : pCx p s m args meth c cL_mend 5 (some .int) RL wsL_mend A dC dI dA zz base ∧ l.stackTraces = false ∧ c.exceptionTable.toList = tableOf  [(0, 17, 20, 13)]) : ∀ (L : List Nat) (f : pF) (k0 : Int64) (k1 : Int32) (k2 : Nat), wp_L_mend_16 dA zz Q  L f k0 k1 k2 → pAt p l e rm_L_mend s m args below meth c dC dI A (MQ below (va_Qi (fun r (u : List Nat × pF) => Q r u.1 u.2) (pB dC dI dA A) A) args s 1 6 A) 1 6 16 5 [] [.long k0, .int k1, .ref k2] L f := by
  obtain ⟨⟨hx, hb, hml, hown, hts, hr, hlocks, hA, hK, hB, hz, hN, hT⟩, hlt, htab⟩ := id C
  intro L f k0 k1 k2 hw H locs hP hD hS ls hl
  rw [wp_L_mend_16] at hw
  obtain ⟨n_16, h_16, ⟨hL9, hf9, hn9⟩, hw⟩ := hw
  obtain ⟨kq9, hkq9⟩ := p_at hL9 hf9
  refine va_last hx hb hK hP hD hS kq9 2 hkq9 rfl hn9 dL_mend_16 (fun H locs hP2 hD2 hS => ?_)
  rw [p_set hD hL9 hf9 hkq9] at hP2 hD2
  obtain ⟨f_16, ef_16⟩ : ∃ y : pF, y = va_up f k2 (.inl (dA 2, n_16, .inr (.inl (vp_updL h_16 (Int32.toNatClampNeg k1) k0)))) := ⟨_, rfl⟩
  rw [← ef_16] at hP2 hD2
  have hw := hw f_16 ef_16
  have hP := hP2
  have hD := hD2
  refine lv_goto (tgt := 24) hx hb dL_mend_17 (by decide) ?_
  refine lv_iconst (v := 0) hx hb dL_mend_24 (by decide) ?_
  exact W.iret (v := (0 : Int32)) hx hb hr (fun t ht hW => ⟨⟨(0 : Int32), (L, f_16), rfl, hw, by rw [ht]; exact hP, va_K.moved hW.alike hK, hD⟩, hS.F ht⟩) hS.2.2 dL_mend_25
set_option maxHeartbeats 4000000 in
set_option maxRecDepth 100000 in
theorem tb_L_mend_0 {p : Program} {l : Launch} {e : Env} {s : State} {m : MethodId} {below : List Frame} {meth : Method} {c : Code} {args : Array Value} {dC : Nat → ClassId} {dI : Nat → Nat → Nat} {dA : Nat → ClassId} {zz : Nat → Nat} {base : Nat} {A : Nat → Prop} {Q : Int32 → List Nat → pF → Prop} (C : pCx p s m args meth c cL_mend 5 (some .int) RL wsL_mend A dC dI dA zz base ∧ l.stackTraces = false ∧ c.exceptionTable.toList = tableOf  [(0, 17, 20, 13)]) : ∀ (L : List Nat) (f : pF) (a0 : Nat) (a1 : Int32) (a2 : Int32) (a3 : Nat), wp_L_mend_0 dA zz Q  L f a0 a1 a2 a3 → pAt p l e rm_L_mend s m args below meth c dC dI A (MQ below (va_Qi (fun r (u : List Nat × pF) => Q r u.1 u.2) (pB dC dI dA A) A) args s 1 6 A) 0 0 0 5 [(0, .ref a0), (1, .int a1), (2, .int a2), (3, .ref a3)] [] L f := by
  obtain ⟨⟨hx, hb, hml, hown, hts, hr, hlocks, hA, hK, hB, hz, hN, hT⟩, hlt, htab⟩ := id C
  intro L f a0 a1 a2 a3 hw H locs hP hD hS ls hl
  rw [wp_L_mend_0] at hw
  refine lv_aload_n hx hb dL_mend_0 rfl (lv_at hl 3 rfl) ?_
  refine lv_iconst (v := 0) hx hb dL_mend_1 (by decide) ?_
  refine lv_aload_n hx hb dL_mend_2 rfl (lv_at hl 0 rfl) ?_
  refine lv_iload_n hx hb dL_mend_3 rfl (lv_at hl 1 rfl) ?_
  refine lv_iload_n hx hb dL_mend_4 rfl (lv_at hl 2 rfl) ?_
  obtain ⟨hO9, hw⟩ := hw
  have hFc := p_free hD hS hA
  refine vx_calli (vx_runV (As := [.int a1, .int a2]) (rest := [.int (0 : Int32), .ref a3]) ⟨hx, hb, hml, hown, hts⟩ (c_X8_mend l hlt dC dI dA zz base L f H.size a0 a1 a2 _ _ hw) (cwV 2 hts gL_mend_X8_mend rfl rfl rfl (by decide +kernel) ⟨by decide, by decide⟩) (pPreV [.int a1, .int a2] (ci := 9) rfl hO9 hK hP hD hS hB hz hN hT) rfl rfl hl.1 rfl (lv_room (Nat.le_of_ble_eq_true rfl)) dL_mend_5 ⟨by decide, by decide⟩) hS (fun q _ h => hFc q h) hFc (fun q _ h => hFc q h) (fun E ce q9 u t H1 locs ht hvm hw hB1 hz1 hk1 hS hce hcv hcl => by
      obtain ⟨E9, L9, f9⟩ := u
      obtain ⟨hE, hP, -, hD1⟩ := hB1
      rw [ht] at hP
      have hE : E = E9 := hE
      have hP : va_P (dC, dI) vwCl (va_pl L9 f9) H1 := hP
      have hD : va_D A (va_pl L9 f9) := p_gain hD1 hFc
      generalize H1 = H at hP hS hce ⊢
      rw [hE] at hcl
      clear hE
      rcases hw.2.2 with hE | hE
      · have hw := hw.1 hE
        have hE : E9 = _ := hE
        rw [hE] at hcl
        refine vx_catch (own := RL) (name := "java/lang/IllegalArgumentException") hown [] ⟨0, 17, 20, 13⟩ [] (by rw [htab]; rfl) (fun z h => absurd h List.not_mem_nil) (by decide) (by decide) (hts _ lk_L_mend_13) (hN.2.2.2.2.2.2.2.2.2.2.2.2.2.1.use rfl) hce hcv hcl ?_
        refine W.widen (k := 1) (n := 6) (by decide) (by decide) ?_
        refine lv_astore (lv' := [(4, .ref q9), (0, .ref a0), (1, .int a1), (2, .int a2), (3, .ref a3)]) hx hb dL_mend_20 hl (by decide) rfl (fun ls hl => ?_)
        refine lv_iconst (v := 1) hx hb dL_mend_22 (by decide) ?_
        exact W.iret (v := (1 : Int32)) hx hb hr (fun t ht hW => ⟨⟨(1 : Int32), (L9, f9), rfl, hw, by rw [ht]; exact hP, va_K.moved hW.alike hK, hD⟩, hS.F ht⟩) hS.2.2 dL_mend_23
      · have hw := hw.2.1 hE
        have hE : E9 = _ := hE
        rw [hE] at hcl
        exact hw.elim) (fun r_5 u t H1 locs ht hvm hw hB1 hz1 hk1 hS => ?_)
  obtain ⟨L_5, f_5⟩ := u
  obtain ⟨hP, -, hD1⟩ := hB1
  rw [ht] at hP
  have hw := id hw
  have hP : va_P (dC, dI) vwCl (va_pl L_5 f_5) H1 := hP
  have hD : va_D A (va_pl L_5 f_5) := p_gain hD1 hFc
  generalize H1 = H at hP hS ⊢
  refine W.widen (k := 1) (n := 6) (by decide) (by decide) ?_
  refine lv_if_eq (tgt := 15) hx hb dL_mend_8 (by decide) (fun c_8 => ?_) (fun c_8 => ?_)
  · have hw := hw.1 c_8
    refine lv_lconst (v := 0) hx hb dL_mend_15 (by decide) ?_
    exact tb_L_mend_16 C  L_5 f_5 (0 : Int64) (0 : Int32) a3 hw H locs hP hD hS ls (lv_sub hl [] rfl)
  · have hw := hw.2 c_8
    refine lv_lconst (v := 1) hx hb dL_mend_11 (by decide) ?_
    refine lv_goto (tgt := 16) hx hb dL_mend_12 (by decide) ?_
    exact tb_L_mend_16 C  L_5 f_5 (1 : Int64) (0 : Int32) a3 hw H locs hP hD hS ls (lv_sub hl [] rfl)
set_option maxHeartbeats 4000000 in
set_option maxRecDepth 100000 in
theorem c_L_mend (l : Launch) (hlt : l.stackTraces = false) (dC : Nat → ClassId) (dI : Nat → Nat → Nat) (dA : Nat → ClassId) (zz : Nat → Nat) (base : Nat) (L : List Nat) (f : pF) (sz : Nat) (a0 : Nat) (a1 : Int32) (a2 : Int32) (a3 : Nat) (Q : Int32 → List Nat → pF → Prop) (hw : wp_L_mend_0 dA zz Q L f a0 a1 a2 a3) : Met l yL_mend wsL_mend rm_L_mend (va_Pc [.ref a0, .int a1, .int a2, .ref a3] (pPre dC dI dA zz base L f sz)) (va_Qi (fun r (u : List Nat × pF) => Q r u.1 u.2) (pB dC dI dA (va_A (va_pl L f) sz)) (va_A (va_pl L f) sz)) 1 6 (va_A (va_pl L f) sz) := by
  refine va_MetW (cc := cL_mend) (maxL := 5) (ret := (some .int)) (by decide) rfl ?_
  intro p e s m args below meth c s₁ B hml hv
  obtain ⟨rfl, hsz, hP, hK, hD0, hz, hN, hT⟩ := hv
  subst hsz
  have hl := lv_entry ([.ref a0, .int a1, .int a2, .ref a3]) (n := 5) (Nat.le_of_ble_eq_true rfl)
  rw [lg_entry_eq]
  generalize (lg_sl ([.ref a0, .int a1, .int a2, .ref a3]) ++ List.replicate (5 - (lg_sl ([.ref a0, .int a1, .int a2, .ref a3])).length) Slot.unset).toArray = ls at hl ⊢
  exact tb_L_mend_0 (Q := Q) (p := p) ⟨⟨B.exec, B.bytes, hml, findClass_of_methodNamed B.named, atoms_spec (ws := wsL_mend) B.pre, B.returns, B.notSynchronized, fun q h => Or.inr h, hK, pAB hD0 hz, hz, hN, hT⟩, hlt, vx_table (x := yL_mend) B (atoms_spec (ws := wsL_mend) B.pre _ List.mem_cons_self)⟩ L f a0 a1 a2 a3 hw s.heap [] hP (hD0.self (sz := s.heap.size)) va_S.rf ls (lv_sub hl [0, 1, 2, 3] rfl)
theorem lk_L_mendAll_13 : Cond.classLink RL 13 "java/lang/IllegalArgumentException" ∈ wsL_mendAll := by decide +kernel
abbrev rm_L_mendAll : Room := { frames := 9, cells := 1, slots := 6, locals := 208 }
def wp_L_mendAll_0 (dA : Nat → ClassId) (zz : Nat → Nat) (Q : Int32 → List Nat → pF → Prop) (L : List Nat) (f : pF) (a0 : Nat) (a1 : Int32) (a2 : Nat) : Prop :=
    (isO L f 9 a0 ∧
      (wp_X8_mendAll_0 dA zz (fun r_4 L_4 f_4 =>
        (aJs L_4 f_4 (dA 2) a2 (0 : Int32) (Int32.toInt64 r_4) (fun f_8 =>
          (Q (0 : Int32) L_4 f_8)))) (fun E9 L9 f9 => (E9 = "java/lang/IllegalArgumentException" → (Q (1 : Int32) L9 f9)) ∧ (E9 = "java/util/NoSuchElementException" → (False)) ∧ (E9 = "java/lang/IllegalArgumentException" ∨ E9 = "java/util/NoSuchElementException")) L f a0 a1))
set_option maxHeartbeats 4000000 in
set_option maxRecDepth 100000 in
theorem tb_L_mendAll_0 {p : Program} {l : Launch} {e : Env} {s : State} {m : MethodId} {below : List Frame} {meth : Method} {c : Code} {args : Array Value} {dC : Nat → ClassId} {dI : Nat → Nat → Nat} {dA : Nat → ClassId} {zz : Nat → Nat} {base : Nat} {A : Nat → Prop} {Q : Int32 → List Nat → pF → Prop} (C : pCx p s m args meth c cL_mendAll 4 (some .int) RL wsL_mendAll A dC dI dA zz base ∧ l.stackTraces = false ∧ c.exceptionTable.toList = tableOf  [(0, 9, 12, 13)]) : ∀ (L : List Nat) (f : pF) (a0 : Nat) (a1 : Int32) (a2 : Nat), wp_L_mendAll_0 dA zz Q  L f a0 a1 a2 → pAt p l e rm_L_mendAll s m args below meth c dC dI A (MQ below (va_Qi (fun r (u : List Nat × pF) => Q r u.1 u.2) (pB dC dI dA A) A) args s 1 6 A) 0 0 0 4 [(0, .ref a0), (1, .int a1), (2, .ref a2)] [] L f := by
  obtain ⟨⟨hx, hb, hml, hown, hts, hr, hlocks, hA, hK, hB, hz, hN, hT⟩, hlt, htab⟩ := id C
  intro L f a0 a1 a2 hw H locs hP hD hS ls hl
  rw [wp_L_mendAll_0] at hw
  refine lv_aload_n hx hb dL_mendAll_0 rfl (lv_at hl 2 rfl) ?_
  refine lv_iconst (v := 0) hx hb dL_mendAll_1 (by decide) ?_
  refine lv_aload_n hx hb dL_mendAll_2 rfl (lv_at hl 0 rfl) ?_
  refine lv_iload_n hx hb dL_mendAll_3 rfl (lv_at hl 1 rfl) ?_
  obtain ⟨hO9, hw⟩ := hw
  have hFc := p_free hD hS hA
  refine vx_calli (vx_runV (As := [.int a1]) (rest := [.int (0 : Int32), .ref a2]) ⟨hx, hb, hml, hown, hts⟩ (c_X8_mendAll l hlt dC dI dA zz base L f H.size a0 a1 _ _ hw) (cwV 1 hts gL_mendAll_X8_mendAll rfl rfl rfl (by decide +kernel) ⟨by decide, by decide⟩) (pPreV [.int a1] (ci := 9) rfl hO9 hK hP hD hS hB hz hN hT) rfl rfl hl.1 rfl (lv_room (Nat.le_of_ble_eq_true rfl)) dL_mendAll_4 ⟨by decide, by decide⟩) hS (fun q _ h => hFc q h) hFc (fun q _ h => hFc q h) (fun E ce q9 u t H1 locs ht hvm hw hB1 hz1 hk1 hS hce hcv hcl => by
      obtain ⟨E9, L9, f9⟩ := u
      obtain ⟨hE, hP, -, hD1⟩ := hB1
      rw [ht] at hP
      have hE : E = E9 := hE
      have hP : va_P (dC, dI) vwCl (va_pl L9 f9) H1 := hP
      have hD : va_D A (va_pl L9 f9) := p_gain hD1 hFc
      generalize H1 = H at hP hS hce ⊢
      rw [hE] at hcl
      clear hE
      rcases hw.2.2 with hE | hE
      · have hw := hw.1 hE
        have hE : E9 = _ := hE
        rw [hE] at hcl
        refine vx_catch (own := RL) (name := "java/lang/IllegalArgumentException") hown [] ⟨0, 9, 12, 13⟩ [] (by rw [htab]; rfl) (fun z h => absurd h List.not_mem_nil) (by decide) (by decide) (hts _ lk_L_mendAll_13) (hN.2.2.2.2.2.2.2.2.2.2.2.2.2.1.use rfl) hce hcv hcl ?_
        refine W.widen (k := 1) (n := 6) (by decide) (by decide) ?_
        refine lv_astore_n (lv' := [(3, .ref q9), (0, .ref a0), (1, .int a1), (2, .ref a2)]) hx hb dL_mendAll_12 rfl hl (by decide) rfl (fun ls hl => ?_)
        refine lv_iconst (v := 1) hx hb dL_mendAll_13 (by decide) ?_
        exact W.iret (v := (1 : Int32)) hx hb hr (fun t ht hW => ⟨⟨(1 : Int32), (L9, f9), rfl, hw, by rw [ht]; exact hP, va_K.moved hW.alike hK, hD⟩, hS.F ht⟩) hS.2.2 dL_mendAll_14
      · have hw := hw.2.1 hE
        have hE : E9 = _ := hE
        rw [hE] at hcl
        exact hw.elim) (fun r_4 u t H1 locs ht hvm hw hB1 hz1 hk1 hS => ?_)
  obtain ⟨L_4, f_4⟩ := u
  obtain ⟨hP, -, hD1⟩ := hB1
  rw [ht] at hP
  have hw := id hw
  have hP : va_P (dC, dI) vwCl (va_pl L_4 f_4) H1 := hP
  have hD : va_D A (va_pl L_4 f_4) := p_gain hD1 hFc
  generalize H1 = H at hP hS ⊢
  refine W.widen (k := 1) (n := 6) (by decide) (by decide) ?_
  refine lv_i2l hx hb dL_mendAll_7 rfl ?_
  obtain ⟨n_8, h_8, ⟨hL9, hf9, hn9⟩, hw⟩ := hw
  obtain ⟨kq9, hkq9⟩ := p_at hL9 hf9
  refine va_last hx hb hK hP hD hS kq9 2 hkq9 rfl hn9 dL_mendAll_8 (fun H locs hP2 hD2 hS => ?_)
  rw [p_set hD hL9 hf9 hkq9] at hP2 hD2
  obtain ⟨f_8, ef_8⟩ : ∃ y : pF, y = va_up f_4 a2 (.inl (dA 2, n_8, .inr (.inl (vp_updL h_8 (Int32.toNatClampNeg (0 : Int32)) (Int32.toInt64 r_4))))) := ⟨_, rfl⟩
  rw [← ef_8] at hP2 hD2
  have hw := hw f_8 ef_8
  have hP := hP2
  have hD := hD2
  refine lv_goto (tgt := 15) hx hb dL_mendAll_9 (by decide) ?_
  refine lv_iconst (v := 0) hx hb dL_mendAll_15 (by decide) ?_
  exact W.iret (v := (0 : Int32)) hx hb hr (fun t ht hW => ⟨⟨(0 : Int32), (L_4, f_8), rfl, hw, by rw [ht]; exact hP, va_K.moved hW.alike hK, hD⟩, hS.F ht⟩) hS.2.2 dL_mendAll_16
set_option maxHeartbeats 4000000 in
set_option maxRecDepth 100000 in
theorem c_L_mendAll (l : Launch) (hlt : l.stackTraces = false) (dC : Nat → ClassId) (dI : Nat → Nat → Nat) (dA : Nat → ClassId) (zz : Nat → Nat) (base : Nat) (L : List Nat) (f : pF) (sz : Nat) (a0 : Nat) (a1 : Int32) (a2 : Nat) (Q : Int32 → List Nat → pF → Prop) (hw : wp_L_mendAll_0 dA zz Q L f a0 a1 a2) : Met l yL_mendAll wsL_mendAll rm_L_mendAll (va_Pc [.ref a0, .int a1, .ref a2] (pPre dC dI dA zz base L f sz)) (va_Qi (fun r (u : List Nat × pF) => Q r u.1 u.2) (pB dC dI dA (va_A (va_pl L f) sz)) (va_A (va_pl L f) sz)) 1 6 (va_A (va_pl L f) sz) := by
  refine va_MetW (cc := cL_mendAll) (maxL := 4) (ret := (some .int)) (by decide) rfl ?_
  intro p e s m args below meth c s₁ B hml hv
  obtain ⟨rfl, hsz, hP, hK, hD0, hz, hN, hT⟩ := hv
  subst hsz
  have hl := lv_entry ([.ref a0, .int a1, .ref a2]) (n := 4) (Nat.le_of_ble_eq_true rfl)
  rw [lg_entry_eq]
  generalize (lg_sl ([.ref a0, .int a1, .ref a2]) ++ List.replicate (4 - (lg_sl ([.ref a0, .int a1, .ref a2])).length) Slot.unset).toArray = ls at hl ⊢
  exact tb_L_mendAll_0 (Q := Q) (p := p) ⟨⟨B.exec, B.bytes, hml, findClass_of_methodNamed B.named, atoms_spec (ws := wsL_mendAll) B.pre, B.returns, B.notSynchronized, fun q h => Or.inr h, hK, pAB hD0 hz, hz, hN, hT⟩, hlt, vx_table (x := yL_mendAll) B (atoms_spec (ws := wsL_mendAll) B.pre _ List.mem_cons_self)⟩ L f a0 a1 a2 hw s.heap [] hP (hD0.self (sz := s.heap.size)) va_S.rf ls (lv_sub hl [0, 1, 2] rfl)
theorem lk_L_count_31 : Cond.classLink RL 31 "java/util/NoSuchElementException" ∈ wsL_count := by decide +kernel
abbrev rm_L_count : Room := { frames := 9, cells := 1, slots := 6, locals := 211 }
def wp_L_count_0 (dA : Nat → ClassId) (zz : Nat → Nat) (Q : Int32 → List Nat → pF → Prop) (L : List Nat) (f : pF) (a0 : Nat) (a1 : Int32) (a2 : Nat) : Prop :=
    (isO L f 9 a0 ∧
      (wp_X8_count_0 dA zz (fun r_4 L_4 f_4 =>
        (aJs L_4 f_4 (dA 2) a2 (0 : Int32) (Int32.toInt64 r_4) (fun f_8 =>
          (Q (0 : Int32) L_4 f_8)))) (fun E9 L9 f9 => (E9 = "java/lang/IllegalArgumentException" → (False)) ∧ (E9 = "java/util/NoSuchElementException" → (Q (1 : Int32) L9 f9)) ∧ (E9 = "java/lang/IllegalArgumentException" ∨ E9 = "java/util/NoSuchElementException")) L f a0 a1))
set_option maxHeartbeats 4000000 in
set_option maxRecDepth 100000 in
theorem tb_L_count_0 {p : Program} {l : Launch} {e : Env} {s : State} {m : MethodId} {below : List Frame} {meth : Method} {c : Code} {args : Array Value} {dC : Nat → ClassId} {dI : Nat → Nat → Nat} {dA : Nat → ClassId} {zz : Nat → Nat} {base : Nat} {A : Nat → Prop} {Q : Int32 → List Nat → pF → Prop} (C : pCx p s m args meth c cL_count 4 (some .int) RL wsL_count A dC dI dA zz base ∧ l.stackTraces = false ∧ c.exceptionTable.toList = tableOf  [(0, 9, 12, 31)]) : ∀ (L : List Nat) (f : pF) (a0 : Nat) (a1 : Int32) (a2 : Nat), wp_L_count_0 dA zz Q  L f a0 a1 a2 → pAt p l e rm_L_count s m args below meth c dC dI A (MQ below (va_Qi (fun r (u : List Nat × pF) => Q r u.1 u.2) (pB dC dI dA A) A) args s 1 6 A) 0 0 0 4 [(0, .ref a0), (1, .int a1), (2, .ref a2)] [] L f := by
  obtain ⟨⟨hx, hb, hml, hown, hts, hr, hlocks, hA, hK, hB, hz, hN, hT⟩, hlt, htab⟩ := id C
  intro L f a0 a1 a2 hw H locs hP hD hS ls hl
  rw [wp_L_count_0] at hw
  refine lv_aload_n hx hb dL_count_0 rfl (lv_at hl 2 rfl) ?_
  refine lv_iconst (v := 0) hx hb dL_count_1 (by decide) ?_
  refine lv_aload_n hx hb dL_count_2 rfl (lv_at hl 0 rfl) ?_
  refine lv_iload_n hx hb dL_count_3 rfl (lv_at hl 1 rfl) ?_
  obtain ⟨hO9, hw⟩ := hw
  have hFc := p_free hD hS hA
  refine vx_calli (vx_runV (As := [.int a1]) (rest := [.int (0 : Int32), .ref a2]) ⟨hx, hb, hml, hown, hts⟩ (c_X8_count l hlt dC dI dA zz base L f H.size a0 a1 _ _ hw) (cwV 1 hts gL_count_X8_count rfl rfl rfl (by decide +kernel) ⟨by decide, by decide⟩) (pPreV [.int a1] (ci := 9) rfl hO9 hK hP hD hS hB hz hN hT) rfl rfl hl.1 rfl (lv_room (Nat.le_of_ble_eq_true rfl)) dL_count_4 ⟨by decide, by decide⟩) hS (fun q _ h => hFc q h) hFc (fun q _ h => hFc q h) (fun E ce q9 u t H1 locs ht hvm hw hB1 hz1 hk1 hS hce hcv hcl => by
      obtain ⟨E9, L9, f9⟩ := u
      obtain ⟨hE, hP, -, hD1⟩ := hB1
      rw [ht] at hP
      have hE : E = E9 := hE
      have hP : va_P (dC, dI) vwCl (va_pl L9 f9) H1 := hP
      have hD : va_D A (va_pl L9 f9) := p_gain hD1 hFc
      generalize H1 = H at hP hS hce ⊢
      rw [hE] at hcl
      clear hE
      rcases hw.2.2 with hE | hE
      · have hw := hw.1 hE
        have hE : E9 = _ := hE
        rw [hE] at hcl
        exact hw.elim
      · have hw := hw.2.1 hE
        have hE : E9 = _ := hE
        rw [hE] at hcl
        refine vx_catch (own := RL) (name := "java/util/NoSuchElementException") hown [] ⟨0, 9, 12, 31⟩ [] (by rw [htab]; rfl) (fun z h => absurd h List.not_mem_nil) (by decide) (by decide) (hts _ lk_L_count_31) (hN.2.2.2.2.2.2.2.2.2.2.2.2.2.2.1.use rfl) hce hcv hcl ?_
        refine W.widen (k := 1) (n := 6) (by decide) (by decide) ?_
        refine lv_astore_n (lv' := [(3, .ref q9), (0, .ref a0), (1, .int a1), (2, .ref a2)]) hx hb dL_count_12 rfl hl (by decide) rfl (fun ls hl => ?_)
        refine lv_iconst (v := 1) hx hb dL_count_13 (by decide) ?_
        exact W.iret (v := (1 : Int32)) hx hb hr (fun t ht hW => ⟨⟨(1 : Int32), (L9, f9), rfl, hw, by rw [ht]; exact hP, va_K.moved hW.alike hK, hD⟩, hS.F ht⟩) hS.2.2 dL_count_14) (fun r_4 u t H1 locs ht hvm hw hB1 hz1 hk1 hS => ?_)
  obtain ⟨L_4, f_4⟩ := u
  obtain ⟨hP, -, hD1⟩ := hB1
  rw [ht] at hP
  have hw := id hw
  have hP : va_P (dC, dI) vwCl (va_pl L_4 f_4) H1 := hP
  have hD : va_D A (va_pl L_4 f_4) := p_gain hD1 hFc
  generalize H1 = H at hP hS ⊢
  refine W.widen (k := 1) (n := 6) (by decide) (by decide) ?_
  refine lv_i2l hx hb dL_count_7 rfl ?_
  obtain ⟨n_8, h_8, ⟨hL9, hf9, hn9⟩, hw⟩ := hw
  obtain ⟨kq9, hkq9⟩ := p_at hL9 hf9
  refine va_last hx hb hK hP hD hS kq9 2 hkq9 rfl hn9 dL_count_8 (fun H locs hP2 hD2 hS => ?_)
  rw [p_set hD hL9 hf9 hkq9] at hP2 hD2
  obtain ⟨f_8, ef_8⟩ : ∃ y : pF, y = va_up f_4 a2 (.inl (dA 2, n_8, .inr (.inl (vp_updL h_8 (Int32.toNatClampNeg (0 : Int32)) (Int32.toInt64 r_4))))) := ⟨_, rfl⟩
  rw [← ef_8] at hP2 hD2
  have hw := hw f_8 ef_8
  have hP := hP2
  have hD := hD2
  refine lv_goto (tgt := 15) hx hb dL_count_9 (by decide) ?_
  refine lv_iconst (v := 0) hx hb dL_count_15 (by decide) ?_
  exact W.iret (v := (0 : Int32)) hx hb hr (fun t ht hW => ⟨⟨(0 : Int32), (L_4, f_8), rfl, hw, by rw [ht]; exact hP, va_K.moved hW.alike hK, hD⟩, hS.F ht⟩) hS.2.2 dL_count_16
set_option maxHeartbeats 4000000 in
set_option maxRecDepth 100000 in
theorem c_L_count (l : Launch) (hlt : l.stackTraces = false) (dC : Nat → ClassId) (dI : Nat → Nat → Nat) (dA : Nat → ClassId) (zz : Nat → Nat) (base : Nat) (L : List Nat) (f : pF) (sz : Nat) (a0 : Nat) (a1 : Int32) (a2 : Nat) (Q : Int32 → List Nat → pF → Prop) (hw : wp_L_count_0 dA zz Q L f a0 a1 a2) : Met l yL_count wsL_count rm_L_count (va_Pc [.ref a0, .int a1, .ref a2] (pPre dC dI dA zz base L f sz)) (va_Qi (fun r (u : List Nat × pF) => Q r u.1 u.2) (pB dC dI dA (va_A (va_pl L f) sz)) (va_A (va_pl L f) sz)) 1 6 (va_A (va_pl L f) sz) := by
  refine va_MetW (cc := cL_count) (maxL := 4) (ret := (some .int)) (by decide) rfl ?_
  intro p e s m args below meth c s₁ B hml hv
  obtain ⟨rfl, hsz, hP, hK, hD0, hz, hN, hT⟩ := hv
  subst hsz
  have hl := lv_entry ([.ref a0, .int a1, .ref a2]) (n := 4) (Nat.le_of_ble_eq_true rfl)
  rw [lg_entry_eq]
  generalize (lg_sl ([.ref a0, .int a1, .ref a2]) ++ List.replicate (4 - (lg_sl ([.ref a0, .int a1, .ref a2])).length) Slot.unset).toArray = ls at hl ⊢
  exact tb_L_count_0 (Q := Q) (p := p) ⟨⟨B.exec, B.bytes, hml, findClass_of_methodNamed B.named, atoms_spec (ws := wsL_count) B.pre, B.returns, B.notSynchronized, fun q h => Or.inr h, hK, pAB hD0 hz, hz, hN, hT⟩, hlt, vx_table (x := yL_count) B (atoms_spec (ws := wsL_count) B.pre _ List.mem_cons_self)⟩ L f a0 a1 a2 hw s.heap [] hP (hD0.self (sz := s.heap.size)) va_S.rf ls (lv_sub hl [0, 1, 2] rfl)
theorem lk_L_ring_31 : Cond.classLink RL 31 "java/util/NoSuchElementException" ∈ wsL_ring := by decide +kernel
abbrev rm_L_ring : Room := { frames := 7, cells := 1, slots := 6, locals := 111 }
def wp_L_ring_0 (dA : Nat → ClassId) (zz : Nat → Nat) (Q : Int32 → List Nat → pF → Prop) (L : List Nat) (f : pF) (a0 : Nat) (a1 : Int32) (a2 : Nat) : Prop :=
    (isO L f 9 a0 ∧
      (wp_X8_ring_0 dA zz (fun r_4 L_4 f_4 =>
        (aJs L_4 f_4 (dA 2) a2 (0 : Int32) (Int32.toInt64 r_4) (fun f_8 =>
          (Q (0 : Int32) L_4 f_8)))) (fun E9 L9 f9 => (E9 = "java/lang/IllegalArgumentException" → (False)) ∧ (E9 = "java/util/NoSuchElementException" → (Q (1 : Int32) L9 f9)) ∧ (E9 = "java/lang/IllegalArgumentException" ∨ E9 = "java/util/NoSuchElementException")) L f a0 a1))
set_option maxHeartbeats 4000000 in
set_option maxRecDepth 100000 in
theorem tb_L_ring_0 {p : Program} {l : Launch} {e : Env} {s : State} {m : MethodId} {below : List Frame} {meth : Method} {c : Code} {args : Array Value} {dC : Nat → ClassId} {dI : Nat → Nat → Nat} {dA : Nat → ClassId} {zz : Nat → Nat} {base : Nat} {A : Nat → Prop} {Q : Int32 → List Nat → pF → Prop} (C : pCx p s m args meth c cL_ring 4 (some .int) RL wsL_ring A dC dI dA zz base ∧ l.stackTraces = false ∧ c.exceptionTable.toList = tableOf  [(0, 9, 12, 31)]) : ∀ (L : List Nat) (f : pF) (a0 : Nat) (a1 : Int32) (a2 : Nat), wp_L_ring_0 dA zz Q  L f a0 a1 a2 → pAt p l e rm_L_ring s m args below meth c dC dI A (MQ below (va_Qi (fun r (u : List Nat × pF) => Q r u.1 u.2) (pB dC dI dA A) A) args s 1 6 A) 0 0 0 4 [(0, .ref a0), (1, .int a1), (2, .ref a2)] [] L f := by
  obtain ⟨⟨hx, hb, hml, hown, hts, hr, hlocks, hA, hK, hB, hz, hN, hT⟩, hlt, htab⟩ := id C
  intro L f a0 a1 a2 hw H locs hP hD hS ls hl
  rw [wp_L_ring_0] at hw
  refine lv_aload_n hx hb dL_ring_0 rfl (lv_at hl 2 rfl) ?_
  refine lv_iconst (v := 0) hx hb dL_ring_1 (by decide) ?_
  refine lv_aload_n hx hb dL_ring_2 rfl (lv_at hl 0 rfl) ?_
  refine lv_iload_n hx hb dL_ring_3 rfl (lv_at hl 1 rfl) ?_
  obtain ⟨hO9, hw⟩ := hw
  have hFc := p_free hD hS hA
  refine vx_calli (vx_runV (As := [.int a1]) (rest := [.int (0 : Int32), .ref a2]) ⟨hx, hb, hml, hown, hts⟩ (c_X8_ring l hlt dC dI dA zz base L f H.size a0 a1 _ _ hw) (cwV 1 hts gL_ring_X8_ring rfl rfl rfl (by decide +kernel) ⟨by decide, by decide⟩) (pPreV [.int a1] (ci := 9) rfl hO9 hK hP hD hS hB hz hN hT) rfl rfl hl.1 rfl (lv_room (Nat.le_of_ble_eq_true rfl)) dL_ring_4 ⟨by decide, by decide⟩) hS (fun q _ h => hFc q h) hFc (fun q _ h => hFc q h) (fun E ce q9 u t H1 locs ht hvm hw hB1 hz1 hk1 hS hce hcv hcl => by
      obtain ⟨E9, L9, f9⟩ := u
      obtain ⟨hE, hP, -, hD1⟩ := hB1
      rw [ht] at hP
      have hE : E = E9 := hE
      have hP : va_P (dC, dI) vwCl (va_pl L9 f9) H1 := hP
      have hD : va_D A (va_pl L9 f9) := p_gain hD1 hFc
      generalize H1 = H at hP hS hce ⊢
      rw [hE] at hcl
      clear hE
      rcases hw.2.2 with hE | hE
      · have hw := hw.1 hE
        have hE : E9 = _ := hE
        rw [hE] at hcl
        exact hw.elim
      · have hw := hw.2.1 hE
        have hE : E9 = _ := hE
        rw [hE] at hcl
        refine vx_catch (own := RL) (name := "java/util/NoSuchElementException") hown [] ⟨0, 9, 12, 31⟩ [] (by rw [htab]; rfl) (fun z h => absurd h List.not_mem_nil) (by decide) (by decide) (hts _ lk_L_ring_31) (hN.2.2.2.2.2.2.2.2.2.2.2.2.2.2.1.use rfl) hce hcv hcl ?_
        refine W.widen (k := 1) (n := 6) (by decide) (by decide) ?_
        refine lv_astore_n (lv' := [(3, .ref q9), (0, .ref a0), (1, .int a1), (2, .ref a2)]) hx hb dL_ring_12 rfl hl (by decide) rfl (fun ls hl => ?_)
        refine lv_iconst (v := 1) hx hb dL_ring_13 (by decide) ?_
        exact W.iret (v := (1 : Int32)) hx hb hr (fun t ht hW => ⟨⟨(1 : Int32), (L9, f9), rfl, hw, by rw [ht]; exact hP, va_K.moved hW.alike hK, hD⟩, hS.F ht⟩) hS.2.2 dL_ring_14) (fun r_4 u t H1 locs ht hvm hw hB1 hz1 hk1 hS => ?_)
  obtain ⟨L_4, f_4⟩ := u
  obtain ⟨hP, -, hD1⟩ := hB1
  rw [ht] at hP
  have hw := id hw
  have hP : va_P (dC, dI) vwCl (va_pl L_4 f_4) H1 := hP
  have hD : va_D A (va_pl L_4 f_4) := p_gain hD1 hFc
  generalize H1 = H at hP hS ⊢
  refine W.widen (k := 1) (n := 6) (by decide) (by decide) ?_
  refine lv_i2l hx hb dL_ring_7 rfl ?_
  obtain ⟨n_8, h_8, ⟨hL9, hf9, hn9⟩, hw⟩ := hw
  obtain ⟨kq9, hkq9⟩ := p_at hL9 hf9
  refine va_last hx hb hK hP hD hS kq9 2 hkq9 rfl hn9 dL_ring_8 (fun H locs hP2 hD2 hS => ?_)
  rw [p_set hD hL9 hf9 hkq9] at hP2 hD2
  obtain ⟨f_8, ef_8⟩ : ∃ y : pF, y = va_up f_4 a2 (.inl (dA 2, n_8, .inr (.inl (vp_updL h_8 (Int32.toNatClampNeg (0 : Int32)) (Int32.toInt64 r_4))))) := ⟨_, rfl⟩
  rw [← ef_8] at hP2 hD2
  have hw := hw f_8 ef_8
  have hP := hP2
  have hD := hD2
  refine lv_goto (tgt := 15) hx hb dL_ring_9 (by decide) ?_
  refine lv_iconst (v := 0) hx hb dL_ring_15 (by decide) ?_
  exact W.iret (v := (0 : Int32)) hx hb hr (fun t ht hW => ⟨⟨(0 : Int32), (L_4, f_8), rfl, hw, by rw [ht]; exact hP, va_K.moved hW.alike hK, hD⟩, hS.F ht⟩) hS.2.2 dL_ring_16
set_option maxHeartbeats 4000000 in
set_option maxRecDepth 100000 in
theorem c_L_ring (l : Launch) (hlt : l.stackTraces = false) (dC : Nat → ClassId) (dI : Nat → Nat → Nat) (dA : Nat → ClassId) (zz : Nat → Nat) (base : Nat) (L : List Nat) (f : pF) (sz : Nat) (a0 : Nat) (a1 : Int32) (a2 : Nat) (Q : Int32 → List Nat → pF → Prop) (hw : wp_L_ring_0 dA zz Q L f a0 a1 a2) : Met l yL_ring wsL_ring rm_L_ring (va_Pc [.ref a0, .int a1, .ref a2] (pPre dC dI dA zz base L f sz)) (va_Qi (fun r (u : List Nat × pF) => Q r u.1 u.2) (pB dC dI dA (va_A (va_pl L f) sz)) (va_A (va_pl L f) sz)) 1 6 (va_A (va_pl L f) sz) := by
  refine va_MetW (cc := cL_ring) (maxL := 4) (ret := (some .int)) (by decide) rfl ?_
  intro p e s m args below meth c s₁ B hml hv
  obtain ⟨rfl, hsz, hP, hK, hD0, hz, hN, hT⟩ := hv
  subst hsz
  have hl := lv_entry ([.ref a0, .int a1, .ref a2]) (n := 4) (Nat.le_of_ble_eq_true rfl)
  rw [lg_entry_eq]
  generalize (lg_sl ([.ref a0, .int a1, .ref a2]) ++ List.replicate (4 - (lg_sl ([.ref a0, .int a1, .ref a2])).length) Slot.unset).toArray = ls at hl ⊢
  exact tb_L_ring_0 (Q := Q) (p := p) ⟨⟨B.exec, B.bytes, hml, findClass_of_methodNamed B.named, atoms_spec (ws := wsL_ring) B.pre, B.returns, B.notSynchronized, fun q h => Or.inr h, hK, pAB hD0 hz, hz, hN, hT⟩, hlt, vx_table (x := yL_ring) B (atoms_spec (ws := wsL_ring) B.pre _ List.mem_cons_self)⟩ L f a0 a1 a2 hw s.heap [] hP (hD0.self (sz := s.heap.size)) va_S.rf ls (lv_sub hl [0, 1, 2] rfl)
theorem lk_L_crossing_13 : Cond.classLink RL 13 "java/lang/IllegalArgumentException" ∈ wsL_crossing := by decide +kernel
abbrev rm_L_crossing : Room := { frames := 9, cells := 2, slots := 12, locals := 213 }
def wp_L_crossing_0 (dA : Nat → ClassId) (zz : Nat → Nat) (Q : Int32 → List Nat → pF → Prop) (L : List Nat) (f : pF) (a0 : Nat) (a1 : Int32) (a2 : Int32) (a3 : Nat) : Prop :=
    (isO L f 9 a0 ∧
      (wp_X8_crossing_0 dA zz (fun r_5 L_5 f_5 =>
        (aJs L_5 f_5 (dA 2) a3 (0 : Int32) r_5 (fun f_8 =>
          (Q (0 : Int32) L_5 f_8)))) (fun E9 L9 f9 => (E9 = "java/lang/IllegalArgumentException" → (Q (1 : Int32) L9 f9)) ∧ (E9 = "java/util/NoSuchElementException" → (False)) ∧ (E9 = "java/lang/IllegalArgumentException" ∨ E9 = "java/util/NoSuchElementException")) L f a0 a1 a2))
set_option maxHeartbeats 4000000 in
set_option maxRecDepth 100000 in
theorem tb_L_crossing_0 {p : Program} {l : Launch} {e : Env} {s : State} {m : MethodId} {below : List Frame} {meth : Method} {c : Code} {args : Array Value} {dC : Nat → ClassId} {dI : Nat → Nat → Nat} {dA : Nat → ClassId} {zz : Nat → Nat} {base : Nat} {A : Nat → Prop} {Q : Int32 → List Nat → pF → Prop} (C : pCx p s m args meth c cL_crossing 5 (some .int) RL wsL_crossing A dC dI dA zz base ∧ l.stackTraces = false ∧ c.exceptionTable.toList = tableOf  [(0, 9, 12, 13)]) : ∀ (L : List Nat) (f : pF) (a0 : Nat) (a1 : Int32) (a2 : Int32) (a3 : Nat), wp_L_crossing_0 dA zz Q  L f a0 a1 a2 a3 → pAt p l e rm_L_crossing s m args below meth c dC dI A (MQ below (va_Qi (fun r (u : List Nat × pF) => Q r u.1 u.2) (pB dC dI dA A) A) args s 2 12 A) 0 0 0 5 [(0, .ref a0), (1, .int a1), (2, .int a2), (3, .ref a3)] [] L f := by
  obtain ⟨⟨hx, hb, hml, hown, hts, hr, hlocks, hA, hK, hB, hz, hN, hT⟩, hlt, htab⟩ := id C
  intro L f a0 a1 a2 a3 hw H locs hP hD hS ls hl
  rw [wp_L_crossing_0] at hw
  refine lv_aload_n hx hb dL_crossing_0 rfl (lv_at hl 3 rfl) ?_
  refine lv_iconst (v := 0) hx hb dL_crossing_1 (by decide) ?_
  refine lv_aload_n hx hb dL_crossing_2 rfl (lv_at hl 0 rfl) ?_
  refine lv_iload_n hx hb dL_crossing_3 rfl (lv_at hl 1 rfl) ?_
  refine lv_iload_n hx hb dL_crossing_4 rfl (lv_at hl 2 rfl) ?_
  obtain ⟨hO9, hw⟩ := hw
  have hFc := p_free hD hS hA
  refine vx_calll (vx_runV (As := [.int a1, .int a2]) (rest := [.int (0 : Int32), .ref a3]) ⟨hx, hb, hml, hown, hts⟩ (c_X8_crossing l hlt dC dI dA zz base L f H.size a0 a1 a2 _ _ hw) (cwV 2 hts gL_crossing_X8_crossing rfl rfl rfl (by decide +kernel) ⟨by decide, by decide⟩) (pPreV [.int a1, .int a2] (ci := 9) rfl hO9 hK hP hD hS hB hz hN hT) rfl rfl hl.1 rfl (lv_room (Nat.le_of_ble_eq_true rfl)) dL_crossing_5 ⟨by decide, by decide⟩) hS (fun q _ h => hFc q h) hFc (fun q _ h => hFc q h) (fun E ce q9 u t H1 locs ht hvm hw hB1 hz1 hk1 hS hce hcv hcl => by
      obtain ⟨E9, L9, f9⟩ := u
      obtain ⟨hE, hP, -, hD1⟩ := hB1
      rw [ht] at hP
      have hE : E = E9 := hE
      have hP : va_P (dC, dI) vwCl (va_pl L9 f9) H1 := hP
      have hD : va_D A (va_pl L9 f9) := p_gain hD1 hFc
      generalize H1 = H at hP hS hce ⊢
      rw [hE] at hcl
      clear hE
      rcases hw.2.2 with hE | hE
      · have hw := hw.1 hE
        have hE : E9 = _ := hE
        rw [hE] at hcl
        refine vx_catch (own := RL) (name := "java/lang/IllegalArgumentException") hown [] ⟨0, 9, 12, 13⟩ [] (by rw [htab]; rfl) (fun z h => absurd h List.not_mem_nil) (by decide) (by decide) (hts _ lk_L_crossing_13) (hN.2.2.2.2.2.2.2.2.2.2.2.2.2.1.use rfl) hce hcv hcl ?_
        refine W.widen (k := 2) (n := 12) (by decide) (by decide) ?_
        refine lv_astore (lv' := [(4, .ref q9), (0, .ref a0), (1, .int a1), (2, .int a2), (3, .ref a3)]) hx hb dL_crossing_12 hl (by decide) rfl (fun ls hl => ?_)
        refine lv_iconst (v := 1) hx hb dL_crossing_14 (by decide) ?_
        exact W.iret (v := (1 : Int32)) hx hb hr (fun t ht hW => ⟨⟨(1 : Int32), (L9, f9), rfl, hw, by rw [ht]; exact hP, va_K.moved hW.alike hK, hD⟩, hS.F ht⟩) hS.2.2 dL_crossing_15
      · have hw := hw.2.1 hE
        have hE : E9 = _ := hE
        rw [hE] at hcl
        exact hw.elim) (fun r_5 u t H1 locs ht hvm hw hB1 hz1 hk1 hS => ?_)
  obtain ⟨L_5, f_5⟩ := u
  obtain ⟨hP, -, hD1⟩ := hB1
  rw [ht] at hP
  have hw := id hw
  have hP : va_P (dC, dI) vwCl (va_pl L_5 f_5) H1 := hP
  have hD : va_D A (va_pl L_5 f_5) := p_gain hD1 hFc
  generalize H1 = H at hP hS ⊢
  refine W.widen (k := 2) (n := 12) (by decide) (by decide) ?_
  obtain ⟨n_8, h_8, ⟨hL9, hf9, hn9⟩, hw⟩ := hw
  obtain ⟨kq9, hkq9⟩ := p_at hL9 hf9
  refine va_last hx hb hK hP hD hS kq9 2 hkq9 rfl hn9 dL_crossing_8 (fun H locs hP2 hD2 hS => ?_)
  rw [p_set hD hL9 hf9 hkq9] at hP2 hD2
  obtain ⟨f_8, ef_8⟩ : ∃ y : pF, y = va_up f_5 a3 (.inl (dA 2, n_8, .inr (.inl (vp_updL h_8 (Int32.toNatClampNeg (0 : Int32)) r_5)))) := ⟨_, rfl⟩
  rw [← ef_8] at hP2 hD2
  have hw := hw f_8 ef_8
  have hP := hP2
  have hD := hD2
  refine lv_goto (tgt := 16) hx hb dL_crossing_9 (by decide) ?_
  refine lv_iconst (v := 0) hx hb dL_crossing_16 (by decide) ?_
  exact W.iret (v := (0 : Int32)) hx hb hr (fun t ht hW => ⟨⟨(0 : Int32), (L_5, f_8), rfl, hw, by rw [ht]; exact hP, va_K.moved hW.alike hK, hD⟩, hS.F ht⟩) hS.2.2 dL_crossing_17
set_option maxHeartbeats 4000000 in
set_option maxRecDepth 100000 in
theorem c_L_crossing (l : Launch) (hlt : l.stackTraces = false) (dC : Nat → ClassId) (dI : Nat → Nat → Nat) (dA : Nat → ClassId) (zz : Nat → Nat) (base : Nat) (L : List Nat) (f : pF) (sz : Nat) (a0 : Nat) (a1 : Int32) (a2 : Int32) (a3 : Nat) (Q : Int32 → List Nat → pF → Prop) (hw : wp_L_crossing_0 dA zz Q L f a0 a1 a2 a3) : Met l yL_crossing wsL_crossing rm_L_crossing (va_Pc [.ref a0, .int a1, .int a2, .ref a3] (pPre dC dI dA zz base L f sz)) (va_Qi (fun r (u : List Nat × pF) => Q r u.1 u.2) (pB dC dI dA (va_A (va_pl L f) sz)) (va_A (va_pl L f) sz)) 2 12 (va_A (va_pl L f) sz) := by
  refine va_MetW (cc := cL_crossing) (maxL := 5) (ret := (some .int)) (by decide) rfl ?_
  intro p e s m args below meth c s₁ B hml hv
  obtain ⟨rfl, hsz, hP, hK, hD0, hz, hN, hT⟩ := hv
  subst hsz
  have hl := lv_entry ([.ref a0, .int a1, .int a2, .ref a3]) (n := 5) (Nat.le_of_ble_eq_true rfl)
  rw [lg_entry_eq]
  generalize (lg_sl ([.ref a0, .int a1, .int a2, .ref a3]) ++ List.replicate (5 - (lg_sl ([.ref a0, .int a1, .int a2, .ref a3])).length) Slot.unset).toArray = ls at hl ⊢
  exact tb_L_crossing_0 (Q := Q) (p := p) ⟨⟨B.exec, B.bytes, hml, findClass_of_methodNamed B.named, atoms_spec (ws := wsL_crossing) B.pre, B.returns, B.notSynchronized, fun q h => Or.inr h, hK, pAB hD0 hz, hz, hN, hT⟩, hlt, vx_table (x := yL_crossing) B (atoms_spec (ws := wsL_crossing) B.pre _ List.mem_cons_self)⟩ L f a0 a1 a2 a3 hw s.heap [] hP (hD0.self (sz := s.heap.size)) va_S.rf ls (lv_sub hl [0, 1, 2, 3] rfl)
theorem lk_L_total_31 : Cond.classLink RL 31 "java/util/NoSuchElementException" ∈ wsL_total := by decide +kernel
abbrev rm_L_total : Room := { frames := 7, cells := 1, slots := 6, locals := 111 }
def wp_L_total_0 (dA : Nat → ClassId) (zz : Nat → Nat) (Q : Int32 → List Nat → pF → Prop) (L : List Nat) (f : pF) (a0 : Nat) (a1 : Int32) (a2 : Nat) : Prop :=
    (isO L f 9 a0 ∧
      (wp_X8_total_0 dA zz (fun r_4 L_4 f_4 =>
        (aJs L_4 f_4 (dA 2) a2 (0 : Int32) (Int32.toInt64 r_4) (fun f_8 =>
          (Q (0 : Int32) L_4 f_8)))) (fun E9 L9 f9 => (E9 = "java/lang/IllegalArgumentException" → (False)) ∧ (E9 = "java/util/NoSuchElementException" → (Q (1 : Int32) L9 f9)) ∧ (E9 = "java/lang/IllegalArgumentException" ∨ E9 = "java/util/NoSuchElementException")) L f a0 a1))
set_option maxHeartbeats 4000000 in
set_option maxRecDepth 100000 in
theorem tb_L_total_0 {p : Program} {l : Launch} {e : Env} {s : State} {m : MethodId} {below : List Frame} {meth : Method} {c : Code} {args : Array Value} {dC : Nat → ClassId} {dI : Nat → Nat → Nat} {dA : Nat → ClassId} {zz : Nat → Nat} {base : Nat} {A : Nat → Prop} {Q : Int32 → List Nat → pF → Prop} (C : pCx p s m args meth c cL_total 4 (some .int) RL wsL_total A dC dI dA zz base ∧ l.stackTraces = false ∧ c.exceptionTable.toList = tableOf  [(0, 9, 12, 31)]) : ∀ (L : List Nat) (f : pF) (a0 : Nat) (a1 : Int32) (a2 : Nat), wp_L_total_0 dA zz Q  L f a0 a1 a2 → pAt p l e rm_L_total s m args below meth c dC dI A (MQ below (va_Qi (fun r (u : List Nat × pF) => Q r u.1 u.2) (pB dC dI dA A) A) args s 1 6 A) 0 0 0 4 [(0, .ref a0), (1, .int a1), (2, .ref a2)] [] L f := by
  obtain ⟨⟨hx, hb, hml, hown, hts, hr, hlocks, hA, hK, hB, hz, hN, hT⟩, hlt, htab⟩ := id C
  intro L f a0 a1 a2 hw H locs hP hD hS ls hl
  rw [wp_L_total_0] at hw
  refine lv_aload_n hx hb dL_total_0 rfl (lv_at hl 2 rfl) ?_
  refine lv_iconst (v := 0) hx hb dL_total_1 (by decide) ?_
  refine lv_aload_n hx hb dL_total_2 rfl (lv_at hl 0 rfl) ?_
  refine lv_iload_n hx hb dL_total_3 rfl (lv_at hl 1 rfl) ?_
  obtain ⟨hO9, hw⟩ := hw
  have hFc := p_free hD hS hA
  refine vx_calli (vx_runV (As := [.int a1]) (rest := [.int (0 : Int32), .ref a2]) ⟨hx, hb, hml, hown, hts⟩ (c_X8_total l hlt dC dI dA zz base L f H.size a0 a1 _ _ hw) (cwV 1 hts gL_total_X8_total rfl rfl rfl (by decide +kernel) ⟨by decide, by decide⟩) (pPreV [.int a1] (ci := 9) rfl hO9 hK hP hD hS hB hz hN hT) rfl rfl hl.1 rfl (lv_room (Nat.le_of_ble_eq_true rfl)) dL_total_4 ⟨by decide, by decide⟩) hS (fun q _ h => hFc q h) hFc (fun q _ h => hFc q h) (fun E ce q9 u t H1 locs ht hvm hw hB1 hz1 hk1 hS hce hcv hcl => by
      obtain ⟨E9, L9, f9⟩ := u
      obtain ⟨hE, hP, -, hD1⟩ := hB1
      rw [ht] at hP
      have hE : E = E9 := hE
      have hP : va_P (dC, dI) vwCl (va_pl L9 f9) H1 := hP
      have hD : va_D A (va_pl L9 f9) := p_gain hD1 hFc
      generalize H1 = H at hP hS hce ⊢
      rw [hE] at hcl
      clear hE
      rcases hw.2.2 with hE | hE
      · have hw := hw.1 hE
        have hE : E9 = _ := hE
        rw [hE] at hcl
        exact hw.elim
      · have hw := hw.2.1 hE
        have hE : E9 = _ := hE
        rw [hE] at hcl
        refine vx_catch (own := RL) (name := "java/util/NoSuchElementException") hown [] ⟨0, 9, 12, 31⟩ [] (by rw [htab]; rfl) (fun z h => absurd h List.not_mem_nil) (by decide) (by decide) (hts _ lk_L_total_31) (hN.2.2.2.2.2.2.2.2.2.2.2.2.2.2.1.use rfl) hce hcv hcl ?_
        refine W.widen (k := 1) (n := 6) (by decide) (by decide) ?_
        refine lv_astore_n (lv' := [(3, .ref q9), (0, .ref a0), (1, .int a1), (2, .ref a2)]) hx hb dL_total_12 rfl hl (by decide) rfl (fun ls hl => ?_)
        refine lv_iconst (v := 1) hx hb dL_total_13 (by decide) ?_
        exact W.iret (v := (1 : Int32)) hx hb hr (fun t ht hW => ⟨⟨(1 : Int32), (L9, f9), rfl, hw, by rw [ht]; exact hP, va_K.moved hW.alike hK, hD⟩, hS.F ht⟩) hS.2.2 dL_total_14) (fun r_4 u t H1 locs ht hvm hw hB1 hz1 hk1 hS => ?_)
  obtain ⟨L_4, f_4⟩ := u
  obtain ⟨hP, -, hD1⟩ := hB1
  rw [ht] at hP
  have hw := id hw
  have hP : va_P (dC, dI) vwCl (va_pl L_4 f_4) H1 := hP
  have hD : va_D A (va_pl L_4 f_4) := p_gain hD1 hFc
  generalize H1 = H at hP hS ⊢
  refine W.widen (k := 1) (n := 6) (by decide) (by decide) ?_
  refine lv_i2l hx hb dL_total_7 rfl ?_
  obtain ⟨n_8, h_8, ⟨hL9, hf9, hn9⟩, hw⟩ := hw
  obtain ⟨kq9, hkq9⟩ := p_at hL9 hf9
  refine va_last hx hb hK hP hD hS kq9 2 hkq9 rfl hn9 dL_total_8 (fun H locs hP2 hD2 hS => ?_)
  rw [p_set hD hL9 hf9 hkq9] at hP2 hD2
  obtain ⟨f_8, ef_8⟩ : ∃ y : pF, y = va_up f_4 a2 (.inl (dA 2, n_8, .inr (.inl (vp_updL h_8 (Int32.toNatClampNeg (0 : Int32)) (Int32.toInt64 r_4))))) := ⟨_, rfl⟩
  rw [← ef_8] at hP2 hD2
  have hw := hw f_8 ef_8
  have hP := hP2
  have hD := hD2
  refine lv_goto (tgt := 15) hx hb dL_total_9 (by decide) ?_
  refine lv_iconst (v := 0) hx hb dL_total_15 (by decide) ?_
  exact W.iret (v := (0 : Int32)) hx hb hr (fun t ht hW => ⟨⟨(0 : Int32), (L_4, f_8), rfl, hw, by rw [ht]; exact hP, va_K.moved hW.alike hK, hD⟩, hS.F ht⟩) hS.2.2 dL_total_16
set_option maxHeartbeats 4000000 in
set_option maxRecDepth 100000 in
theorem c_L_total (l : Launch) (hlt : l.stackTraces = false) (dC : Nat → ClassId) (dI : Nat → Nat → Nat) (dA : Nat → ClassId) (zz : Nat → Nat) (base : Nat) (L : List Nat) (f : pF) (sz : Nat) (a0 : Nat) (a1 : Int32) (a2 : Nat) (Q : Int32 → List Nat → pF → Prop) (hw : wp_L_total_0 dA zz Q L f a0 a1 a2) : Met l yL_total wsL_total rm_L_total (va_Pc [.ref a0, .int a1, .ref a2] (pPre dC dI dA zz base L f sz)) (va_Qi (fun r (u : List Nat × pF) => Q r u.1 u.2) (pB dC dI dA (va_A (va_pl L f) sz)) (va_A (va_pl L f) sz)) 1 6 (va_A (va_pl L f) sz) := by
  refine va_MetW (cc := cL_total) (maxL := 4) (ret := (some .int)) (by decide) rfl ?_
  intro p e s m args below meth c s₁ B hml hv
  obtain ⟨rfl, hsz, hP, hK, hD0, hz, hN, hT⟩ := hv
  subst hsz
  have hl := lv_entry ([.ref a0, .int a1, .ref a2]) (n := 4) (Nat.le_of_ble_eq_true rfl)
  rw [lg_entry_eq]
  generalize (lg_sl ([.ref a0, .int a1, .ref a2]) ++ List.replicate (4 - (lg_sl ([.ref a0, .int a1, .ref a2])).length) Slot.unset).toArray = ls at hl ⊢
  exact tb_L_total_0 (Q := Q) (p := p) ⟨⟨B.exec, B.bytes, hml, findClass_of_methodNamed B.named, atoms_spec (ws := wsL_total) B.pre, B.returns, B.notSynchronized, fun q h => Or.inr h, hK, pAB hD0 hz, hz, hN, hT⟩, hlt, vx_table (x := yL_total) B (atoms_spec (ws := wsL_total) B.pre _ List.mem_cons_self)⟩ L f a0 a1 a2 hw s.heap [] hP (hD0.self (sz := s.heap.size)) va_S.rf ls (lv_sub hl [0, 1, 2] rfl)
