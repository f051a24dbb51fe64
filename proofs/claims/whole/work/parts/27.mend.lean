theorem iw_X2_init_RX2 : ∀ w ∈ u_ws RX2 TX2 3, w ∈ wsX2_init := by decide +kernel
theorem iw_X2_init_RX4 : ∀ w ∈ u_ws RX4 TX4 2, w ∈ wsX2_init := by decide +kernel
theorem lk_X2_init_9 : Cond.classLink RX2 9 RX4 ∈ wsX2_init := by decide +kernel
theorem lk_X2_init_14 : Cond.fieldLink RX2 14 "TermKeeper$Mender" "instead" "LTermKeeper$Row;" ∈ wsX2_init := by decide +kernel
theorem lk_X2_init_20 : Cond.fieldLink RX2 20 "TermKeeper$Mender" "glossary" "LTermKeeper$Glossary;" ∈ wsX2_init := by decide +kernel
theorem li_X2_init_RX4 : Cond.instantiable RX4 2 ∈ wsX2_init := by decide +kernel
theorem lim_X2_init_X4_init : Cond.instanceMethod yX4_init ∈ wsX2_init := by decide +kernel
theorem lm_X2_init_11 : Cond.methodLink RX2 11 yX4_init ∈ wsX2_init := by decide +kernel
theorem lo1_X2_init : Cond.instanceMethod objectInit ∈ wsX2_init := by decide +kernel
theorem lo2_X2_init : Cond.code objectInit ⟨#[0xb1]⟩ 1 none ∈ wsX2_init := by decide +kernel
theorem lm_X2_init_3 : Cond.methodLink RX2 3 objectInit ∈ wsX2_init := by decide +kernel
theorem lz_X2_init_RX4 : Cond.initialized RX4 ∈ wsX2_init := by decide +kernel
abbrev rm_X2_init : Room := { frames := 2, cells := 2, slots := 602, locals := 35 }
def wp_X2_init_0 (dA : Nat → ClassId) (zz : Nat → Nat) (Q : List Nat → pF → Prop) (L : List Nat) (f : pF) (a0 : Nat) (a1 : Nat) : Prop :=
    (nO zz L f (.inr (5, [.null, .int 0])) (fun q_5 L_5 f_5 =>
      (wp_X4_init_0 dA zz (fun L_11 f_11 =>
        (gP L_11 f_11 3 a0 1 (.ref q_5) (fun f_14 =>
          (gP L_11 f_14 3 a0 0 (.ref a1) (fun f_19 =>
            (Q L_11 f_19)))))) L_5 f_5 q_5 (44 : Int32))))
set_option maxHeartbeats 4000000 in
set_option maxRecDepth 100000 in
theorem tb_X2_init_0 {p : Program} {l : Launch} {e : Env} {s : State} {m : MethodId} {below : List Frame} {meth : Method} {c : Code} {args : Array Value} {dC : Nat → ClassId} {dI : Nat → Nat → Nat} {dA : Nat → ClassId} {zz : Nat → Nat} {base : Nat} {A : Nat → Prop} {Q : List Nat → pF → Prop} (C : pCx p s m args meth c cX2_init 2 none RX2 wsX2_init A dC dI dA zz base ∧ meth.name = "<init>") : ∀ (L : List Nat) (f : pF) (a0 : Nat) (a1 : Nat), wp_X2_init_0 dA zz Q  L f a0 a1 → pAt p l e rm_X2_init s m args below meth c dC dI A (MQ below (va_Qv (fun (u : List Nat × pF) => Q u.1 u.2) (pB dC dI dA A) A) args s 2 602 A) 0 0 0 2 [(0, .ref a0), (1, .ref a1)] [] L f := by
  obtain ⟨⟨hx, hb, hml, hown, hts, hr, hlocks, hA, hK, hB, hz, hN, hT⟩, hin⟩ := id C
  intro L f a0 a1 hw H locs hP hD hS ls hl
  rw [wp_X2_init_0] at hw
  refine lv_aload_n hx hb dX2_init_0 rfl (lv_at hl 0 rfl) ?_
  refine W.objInit hx hb hown (hts _ lm_X2_init_3) (hts _ lo1_X2_init) (hts _ lo2_X2_init) rfl (by rw [hml]; exact hl.1) rfl dX2_init_1 (Nat.le_of_ble_eq_true rfl) (Nat.le_of_ble_eq_true rfl) ?_
  refine W.eq (g2 := F0 m 4 ls []) rfl ?_
  refine lv_aload_n hx hb dX2_init_4 rfl (lv_at hl 0 rfl) ?_
  refine va_new (ci := 5) (fs := [.null, .int 0]) (C := RX4) (T := TX4) (N := 2) hx hb hts iw_X2_init_RX4 tyX4 tyX4_ok hown (hts _ lk_X2_init_9) (hts _ li_X2_init_RX4) (hts _ lz_X2_init_RX4) hK hP hD hS hA rfl (fun j hj => by rcases (show j = 0 ∨ j = 1 by omega) with rfl | rfl <;> rfl) (by decide) (by decide) dX2_init_5 (fun q_5 H hP2 hD2 hS => ?_)
  have hq9 := p_fresh hD2
  have hz9 := p_nz hB hT hD2
  rw [va_pl_push hq9] at hP2 hD2
  obtain ⟨L_5, eL_5⟩ : ∃ y : List Nat, y = L ++ [q_5] := ⟨_, rfl⟩
  obtain ⟨f_5, ef_5⟩ : ∃ y : pF, y = va_up f q_5 (.inr (5, [.null, .int 0])) := ⟨_, rfl⟩
  have hw := hw q_5 hq9 hz9 L_5 f_5 eL_5 ef_5
  have hP : va_P (dC, dI) vwCl (va_pl L_5 f_5) H := by rw [eL_5, ef_5]; exact hP2
  have hD : va_D A (va_pl L_5 f_5) := by rw [eL_5, ef_5]; exact hD2
  refine lv_dup hx hb dX2_init_8 rfl ?_
  refine lv_bipush (v := 44) hx hb dX2_init_9 (by decide) ?_
  have hFc := p_free hD hS hA
  refine va_callv (va_runI (As := [.int (44 : Int32)]) (rest := [.ref q_5, .ref a0]) ⟨hx, hb, hml, hown, hts⟩ (c_X4_init l dC dI dA zz base L_5 f_5 H.size q_5 (44 : Int32) _ hw) (cwI 1 hts gX2_init_X4_init rfl rfl rfl (hts _ lz_X2_init_RX4) (hts _ lm_X2_init_11) (hts _ lim_X2_init_X4_init) rfl (by decide +kernel) ⟨by decide, by decide⟩) (pPreS [.ref q_5, .int (44 : Int32)] hK hP hD hS hB hz hN hT) rfl rfl hl.1 rfl (lv_room (Nat.le_of_ble_eq_true rfl)) dX2_init_11 ⟨by decide, by decide⟩) hS (fun q _ h => hFc q h) hFc (fun u t H1 locs ht hvm hw hB1 hz1 hk1 hS => ?_)
  obtain ⟨L_11, f_11⟩ := u
  obtain ⟨hP, -, hD1⟩ := hB1
  rw [ht] at hP
  have hw := id hw
  have hP : va_P (dC, dI) vwCl (va_pl L_11 f_11) H1 := hP
  have hD : va_D A (va_pl L_11 f_11) := p_gain hD1 hFc
  generalize H1 = H at hP hS ⊢
  refine W.widen (k := 2) (n := 602) (by decide) (by decide) ?_
  obtain ⟨fs_14, ⟨hL9, hf9, hn9⟩, hw⟩ := hw
  obtain ⟨kq9, hkq9⟩ := p_at hL9 hf9
  refine va_putF (D := (dC, dI)) (ci := 3) (v := .ref q_5) (C := RX2) (T := TX2) (N := 3) hx hb hts iw_X2_init_RX2 tyX2 tyX2_ok nmX2 hown hK hP hD hS kq9 hkq9 rfl 1 (by decide) (hts _ lk_X2_init_14) (fun _ h9 => h9) rfl hin rfl (tyX2_ok 1 (by decide)) rfl rfl hn9 dX2_init_14 (fun H locs hP2 hD2 hS => ?_)
  rw [p_set hD hL9 hf9 hkq9] at hP2 hD2
  obtain ⟨f_14, ef_14⟩ : ∃ y : pF, y = va_up f_11 a0 (.inr (3, fs_14.set 1 (.ref q_5))) := ⟨_, rfl⟩
  rw [← ef_14] at hP2 hD2
  have hw := hw f_14 ef_14
  have hP := hP2
  have hD := hD2
  refine lv_aload_n hx hb dX2_init_17 rfl (lv_at hl 0 rfl) ?_
  refine lv_aload_n hx hb dX2_init_18 rfl (lv_at hl 1 rfl) ?_
  obtain ⟨fs_19, ⟨hL9, hf9, hn9⟩, hw⟩ := hw
  obtain ⟨kq9, hkq9⟩ := p_at hL9 hf9
  refine va_putF (D := (dC, dI)) (ci := 3) (v := .ref a1) (C := RX2) (T := TX2) (N := 3) hx hb hts iw_X2_init_RX2 tyX2 tyX2_ok nmX2 hown hK hP hD hS kq9 hkq9 rfl 0 (by decide) (hts _ lk_X2_init_20) (fun _ h9 => h9) rfl hin rfl (tyX2_ok 0 (by decide)) rfl rfl hn9 dX2_init_19 (fun H locs hP2 hD2 hS => ?_)
  rw [p_set hD hL9 hf9 hkq9] at hP2 hD2
  obtain ⟨f_19, ef_19⟩ : ∃ y : pF, y = va_up f_14 a0 (.inr (3, fs_19.set 0 (.ref a1))) := ⟨_, rfl⟩
  rw [← ef_19] at hP2 hD2
  have hw := hw f_19 ef_19
  have hP := hP2
  have hD := hD2
  exact W.vret hx hb hr (fun t ht hW => ⟨⟨(L_11, f_19), rfl, hw, by rw [ht]; exact hP, va_K.moved hW.alike hK, hD⟩, hS.F ht⟩) hS.2.2 dX2_init_22
set_option maxHeartbeats 4000000 in
set_option maxRecDepth 100000 in
theorem c_X2_init (l : Launch) (dC : Nat → ClassId) (dI : Nat → Nat → Nat) (dA : Nat → ClassId) (zz : Nat → Nat) (base : Nat) (L : List Nat) (f : pF) (sz : Nat) (a0 : Nat) (a1 : Nat) (Q : List Nat → pF → Prop) (hw : wp_X2_init_0 dA zz Q L f a0 a1) : Met l yX2_init wsX2_init rm_X2_init (va_Pc [.ref a0, .ref a1] (pPre dC dI dA zz base L f sz)) (va_Qv (fun (u : List Nat × pF) => Q u.1 u.2) (pB dC dI dA (va_A (va_pl L f) sz)) (va_A (va_pl L f) sz)) 2 602 (va_A (va_pl L f) sz) := by
  refine Met.ofW (cc := cX2_init) (maxL := 2) (ret := none) (by decide) rfl ?_
  intro p e s m args below meth c s₁ B hml hv
  obtain ⟨rfl, hsz, hP, hK, hD0, hz, hN, hT⟩ := hv
  subst hsz
  have hl := lv_entry ([.ref a0, .ref a1]) (n := 2) (Nat.le_of_ble_eq_true rfl)
  rw [lg_entry_eq]
  generalize (lg_sl ([.ref a0, .ref a1]) ++ List.replicate (2 - (lg_sl ([.ref a0, .ref a1])).length) Slot.unset).toArray = ls at hl ⊢
  exact tb_X2_init_0 (Q := Q) (p := p) ⟨⟨B.exec, B.bytes, hml, findClass_of_methodNamed B.named, atoms_spec (ws := wsX2_init) B.pre, B.returns, B.notSynchronized, fun q h => Or.inr h, hK, pAB hD0 hz, hz, hN, hT⟩, (name_of_methodNamed B.named B.method).1⟩ L f a0 a1 hw s.heap [] hP (hD0.self (sz := s.heap.size)) va_S.rf ls (lv_sub hl [0, 1] rfl)
theorem iw_X2_mendsEver_RX2 : ∀ w ∈ u_ws RX2 TX2 3, w ∈ wsX2_mendsEver := by decide +kernel
theorem lk_X2_mendsEver_24 : Cond.fieldLink RX2 24 "TermKeeper$Mender" "mends" "I" ∈ wsX2_mendsEver := by decide +kernel
abbrev rm_X2_mendsEver : Room := { frames := 0, cells := 0, slots := 0, locals := 0 }
def wp_X2_mendsEver_0 (dA : Nat → ClassId) (zz : Nat → Nat) (Q : Int32 → List Nat → pF → Prop) (L : List Nat) (f : pF) (a0 : Nat) : Prop :=
    (gI L f 3 a0 2 (fun g_1 =>
      (Q g_1 L f)))
set_option maxHeartbeats 4000000 in
set_option maxRecDepth 100000 in
theorem tb_X2_mendsEver_0 {p : Program} {l : Launch} {e : Env} {s : State} {m : MethodId} {below : List Frame} {meth : Method} {c : Code} {args : Array Value} {dC : Nat → ClassId} {dI : Nat → Nat → Nat} {dA : Nat → ClassId} {zz : Nat → Nat} {base : Nat} {A : Nat → Prop} {Q : Int32 → List Nat → pF → Prop} (C : pCx p s m args meth c cX2_mendsEver 1 (some .int) RX2 wsX2_mendsEver A dC dI dA zz base) : ∀ (L : List Nat) (f : pF) (a0 : Nat), wp_X2_mendsEver_0 dA zz Q  L f a0 → pAt p l e rm_X2_mendsEver s m args below meth c dC dI A (MQ below (va_Qi (fun r (u : List Nat × pF) => Q r u.1 u.2) (pB dC dI dA A) A) args s 0 0 A) 0 0 0 1 [(0, .ref a0)] [] L f := by
  obtain ⟨hx, hb, hml, hown, hts, hr, hlocks, hA, hK, hB, hz, hN, hT⟩ := id C
  intro L f a0 hw H locs hP hD hS ls hl
  rw [wp_X2_mendsEver_0] at hw
  refine lv_aload_n hx hb dX2_mendsEver_0 rfl (lv_at hl 0 rfl) ?_
  obtain ⟨fs_1, g_1, ⟨hL9, hf9, hn9⟩, hw⟩ := hw
  refine va_get (D := (dC, dI)) (ci := 3) (v := .int g_1) (C := RX2) (T := TX2) (N := 3) hx hb hts iw_X2_mendsEver_RX2 hown hK (p_one hP hL9 hf9) 0 rfl rfl 2 (by decide) (hts _ lk_X2_mendsEver_24) (fun _ h9 => h9) hn9 dX2_mendsEver_1 ?_
  exact W.iret (v := g_1) hx hb hr (fun t ht hW => ⟨⟨g_1, (L, f), rfl, hw, by rw [ht]; exact hP, va_K.moved hW.alike hK, hD⟩, hS.F ht⟩) hS.2.2 dX2_mendsEver_4
set_option maxHeartbeats 4000000 in
set_option maxRecDepth 100000 in
theorem c_X2_mendsEver (l : Launch) (dC : Nat → ClassId) (dI : Nat → Nat → Nat) (dA : Nat → ClassId) (zz : Nat → Nat) (base : Nat) (L : List Nat) (f : pF) (sz : Nat) (a0 : Nat) (Q : Int32 → List Nat → pF → Prop) (hw : wp_X2_mendsEver_0 dA zz Q L f a0) : Met l yX2_mendsEver wsX2_mendsEver rm_X2_mendsEver (va_Pc [.ref a0] (pPre dC dI dA zz base L f sz)) (va_Qi (fun r (u : List Nat × pF) => Q r u.1 u.2) (pB dC dI dA (va_A (va_pl L f) sz)) (va_A (va_pl L f) sz)) 0 0 (va_A (va_pl L f) sz) := by
  refine Met.ofW (cc := cX2_mendsEver) (maxL := 1) (ret := (some .int)) (by decide) rfl ?_
  intro p e s m args below meth c s₁ B hml hv
  obtain ⟨rfl, hsz, hP, hK, hD0, hz, hN, hT⟩ := hv
  subst hsz
  have hl := lv_entry ([.ref a0]) (n := 1) (Nat.le_of_ble_eq_true rfl)
  rw [lg_entry_eq]
  generalize (lg_sl ([.ref a0]) ++ List.replicate (1 - (lg_sl ([.ref a0])).length) Slot.unset).toArray = ls at hl ⊢
  exact tb_X2_mendsEver_0 (Q := Q) (p := p) ⟨B.exec, B.bytes, hml, findClass_of_methodNamed B.named, atoms_spec (ws := wsX2_mendsEver) B.pre, B.returns, B.notSynchronized, fun q h => Or.inr h, hK, pAB hD0 hz, hz, hN, hT⟩ L f a0 hw s.heap [] hP (hD0.self (sz := s.heap.size)) va_S.rf ls (lv_sub hl [0] rfl)
theorem iw_X2_greatBytes_RX2 : ∀ w ∈ u_ws RX2 TX2 3, w ∈ wsX2_greatBytes := by decide +kernel
theorem lk_X2_greatBytes_14 : Cond.fieldLink RX2 14 "TermKeeper$Mender" "instead" "LTermKeeper$Row;" ∈ wsX2_greatBytes := by decide +kernel
theorem lt_X2_greatBytes_X8_isGreat : Cond.static yX8_isGreat ∈ wsX2_greatBytes := by decide +kernel
theorem lz_X2_greatBytes_RX8 : Cond.initialized RX8 ∈ wsX2_greatBytes := by decide +kernel
abbrev rm_X2_greatBytes : Room := { frames := 3, cells := 0, slots := 0, locals := 61 }
def wp_X2_greatBytes_42 (dA : Nat → ClassId) (zz : Nat → Nat) (Q : Int32 → List Nat → pF → Prop) (k9_ : List Nat → pF → Nat → Nat → Int32 → Int32 → Int32 → Int32 → Int32 → Prop) (L : List Nat) (f : pF) (a0 : Nat) (a1 : Nat) (a2 : Int32) (a3 : Int32) (a4 : Int32) (a5 : Int32) (a6 : Int32) : Prop :=
    (∀ v6_42 : Int32, v6_42 = a6 + (1 : Int32) →
      (k9_ L f a0 a1 a2 a3 a4 a5 v6_42))
def wp_X2_greatBytes_69 (dA : Nat → ClassId) (zz : Nat → Nat) (Q : Int32 → List Nat → pF → Prop) (L : List Nat) (f : pF) (a1 : Nat) (a2 : Int32) : Prop :=
    (isO L f 5 a1 ∧
      (wp_X4_at_0 dA zz (fun r_71 L_71 f_71 =>
        (wp_X8_isGreat_0 (fun r_74 =>
          ((r_74 = 0 →
            (Q (0 : Int32) L_71 f_71))
           ∧ (¬ r_74 = 0 →
            (Q (1 : Int32) L_71 f_71)))) r_71)) L f a1 a2))
def wp_X2_greatBytes_48 (dA : Nat → ClassId) (zz : Nat → Nat) (Q : Int32 → List Nat → pF → Prop) (L : List Nat) (f : pF) (a0 : Nat) (a1 : Nat) (a2 : Int32) (a4 : Int32) (a5 : Int32) : Prop :=
    ((a4 < (2 : Int32) →
      (wp_X2_greatBytes_69 dA zz Q  L f a1 a2))
     ∧ (¬ a4 < (2 : Int32) →
      ((¬ a5 = a4 →
        (wp_X2_greatBytes_69 dA zz Q  L f a1 a2))
       ∧ (a5 = a4 →
        (gR L f 3 a0 1 (fun g_62 =>
          (isO L f 5 g_62 ∧
            (wp_X4_size_0 dA zz (fun r_65 L_65 f_65 =>
              (Q r_65 L_65 f_65)) L f g_62 ))))))))
def wp_X2_greatBytes_9 (dA : Nat → ClassId) (zz : Nat → Nat) (Q : Int32 → List Nat → pF → Prop) : Nat → List Nat → pF → Nat → Nat → Int32 → Int32 → Int32 → Int32 → Int32 → Prop
  | 0, _, _, _, _, _, _, _, _, _ => False
  | n + 1, L, f, a0, a1, a2, a3, a4, a5, a6 =>
    ((a3 ≤ a6 →
      (wp_X2_greatBytes_48 dA zz Q  L f a0 a1 a2 a4 a5))
     ∧ (¬ a3 ≤ a6 →
      (isO L f 5 a1 ∧
        (wp_X4_letterAt_0 dA zz (fun r_18 L_18 f_18 =>
          ((r_18 = 0 →
            (wp_X2_greatBytes_42 dA zz Q (wp_X2_greatBytes_9 dA zz Q  n) L_18 f_18 a0 a1 a2 a3 a4 a5 a6))
           ∧ (¬ r_18 = 0 →
            (∀ v4_24 : Int32, v4_24 = a4 + (1 : Int32) →
              (isO L_18 f_18 5 a1 ∧
                (wp_X4_at_0 dA zz (fun r_30 L_30 f_30 =>
                  (wp_X8_isGreat_0 (fun r_33 =>
                    ((r_33 = 0 →
                      (wp_X2_greatBytes_42 dA zz Q (wp_X2_greatBytes_9 dA zz Q  n) L_30 f_30 a0 a1 a2 a3 v4_24 a5 a6))
                     ∧ (¬ r_33 = 0 →
                      (∀ v5_39 : Int32, v5_39 = a5 + (1 : Int32) →
                        (wp_X2_greatBytes_42 dA zz Q (wp_X2_greatBytes_9 dA zz Q  n) L_30 f_30 a0 a1 a2 a3 v4_24 v5_39 a6))))) r_30)) L_18 f_18 a1 a6)))))) L f a1 a6))))
def wp_X2_greatBytes_0 (dA : Nat → ClassId) (zz : Nat → Nat) (Q : Int32 → List Nat → pF → Prop) (L : List Nat) (f : pF) (a0 : Nat) (a1 : Nat) (a2 : Int32) (a3 : Int32) : Prop :=
    (∃ n9 : Nat, wp_X2_greatBytes_9 dA zz Q  n9 L f a0 a1 a2 a3 (0 : Int32) (0 : Int32) a2)
set_option maxHeartbeats 4000000 in
set_option maxRecDepth 100000 in
theorem tb_X2_greatBytes_42 {p : Program} {l : Launch} {e : Env} {s : State} {m : MethodId} {below : List Frame} {meth : Method} {c : Code} {args : Array Value} {dC : Nat → ClassId} {dI : Nat → Nat → Nat} {dA : Nat → ClassId} {zz : Nat → Nat} {base : Nat} {A : Nat → Prop} {Q : Int32 → List Nat → pF → Prop} (C : pCx p s m args meth c cX2_greatBytes 7 (some .int) RX2 wsX2_greatBytes A dC dI dA zz base) {k9_ : List Nat → pF → Nat → Nat → Int32 → Int32 → Int32 → Int32 → Int32 → Prop} (h9_ : ∀ (L : List Nat) (f : pF) (a0 : Nat) (a1 : Nat) (a2 : Int32) (a3 : Int32) (a4 : Int32) (a5 : Int32) (a6 : Int32), k9_ L f a0 a1 a2 a3 a4 a5 a6 → pAt p l e rm_X2_greatBytes s m args below meth c dC dI A (MQ below (va_Qi (fun r (u : List Nat × pF) => Q r u.1 u.2) (pB dC dI dA A) A) args s 0 0 A) 0 0 9 7 [(0, .ref a0), (1, .ref a1), (2, .int a2), (3, .int a3), (4, .int a4), (5, .int a5), (6, .int a6)] [] L f) : ∀ (L : List Nat) (f : pF) (a0 : Nat) (a1 : Nat) (a2 : Int32) (a3 : Int32) (a4 : Int32) (a5 : Int32) (a6 : Int32), wp_X2_greatBytes_42 dA zz Q k9_ L f a0 a1 a2 a3 a4 a5 a6 → pAt p l e rm_X2_greatBytes s m args below meth c dC dI A (MQ below (va_Qi (fun r (u : List Nat × pF) => Q r u.1 u.2) (pB dC dI dA A) A) args s 0 0 A) 0 0 42 7 [(0, .ref a0), (1, .ref a1), (2, .int a2), (3, .int a3), (4, .int a4), (5, .int a5), (6, .int a6)] [] L f := by
  obtain ⟨hx, hb, hml, hown, hts, hr, hlocks, hA, hK, hB, hz, hN, hT⟩ := id C
  intro L f a0 a1 a2 a3 a4 a5 a6 hw H locs hP hD hS ls hl
  rw [wp_X2_greatBytes_42] at hw
  obtain ⟨v6_42, ev6_42⟩ : ∃ y : Int32, y = a6 + (1 : Int32) := ⟨_, rfl⟩
  have hw := hw v6_42 ev6_42
  refine lv_iinc (v := v6_42) (lv' := [(6, .int v6_42), (0, .ref a0), (1, .ref a1), (2, .int a2), (3, .int a3), (4, .int a4), (5, .int a5)]) hx hb dX2_greatBytes_42 hl (k := 6) rfl (by rw [ev6_42]; rfl) (by decide) rfl (fun ls hl => ?_)
  refine lv_goto (tgt := 9) hx hb dX2_greatBytes_45 (by decide) ?_
  exact h9_ L f a0 a1 a2 a3 a4 a5 v6_42 hw H locs hP hD hS ls (lv_sub hl [1, 2, 3, 4, 5, 6, 0] rfl)
set_option maxHeartbeats 4000000 in
set_option maxRecDepth 100000 in
theorem tb_X2_greatBytes_69 {p : Program} {l : Launch} {e : Env} {s : State} {m : MethodId} {below : List Frame} {meth : Method} {c : Code} {args : Array Value} {dC : Nat → ClassId} {dI : Nat → Nat → Nat} {dA : Nat → ClassId} {zz : Nat → Nat} {base : Nat} {A : Nat → Prop} {Q : Int32 → List Nat → pF → Prop} (C : pCx p s m args meth c cX2_greatBytes 7 (some .int) RX2 wsX2_greatBytes A dC dI dA zz base) : ∀ (L : List Nat) (f : pF) (a1 : Nat) (a2 : Int32), wp_X2_greatBytes_69 dA zz Q  L f a1 a2 → pAt p l e rm_X2_greatBytes s m args below meth c dC dI A (MQ below (va_Qi (fun r (u : List Nat × pF) => Q r u.1 u.2) (pB dC dI dA A) A) args s 0 0 A) 0 0 69 7 [(1, .ref a1), (2, .int a2)] [] L f := by
  obtain ⟨hx, hb, hml, hown, hts, hr, hlocks, hA, hK, hB, hz, hN, hT⟩ := id C
  intro L f a1 a2 hw H locs hP hD hS ls hl
  rw [wp_X2_greatBytes_69] at hw
  refine lv_aload_n hx hb dX2_greatBytes_69 rfl (lv_at hl 0 rfl) ?_
  refine lv_iload_n hx hb dX2_greatBytes_70 rfl (lv_at hl 1 rfl) ?_
  obtain ⟨hO9, hw⟩ := hw
  have hFc := p_free hD hS hA
  refine va_calli (va_runV (As := [.int a2]) (rest := []) ⟨hx, hb, hml, hown, hts⟩ (c_X4_at l dC dI dA zz base L f H.size a1 a2 _ hw) (cwV 1 hts gX2_greatBytes_X4_at rfl rfl rfl (by decide +kernel) ⟨by decide, by decide⟩) (pPreV [.int a2] (ci := 5) rfl hO9 hK hP hD hS hB hz hN hT) rfl rfl hl.1 rfl (lv_room (Nat.le_of_ble_eq_true rfl)) dX2_greatBytes_71 ⟨by decide, by decide⟩) hS (fun q _ h => hFc q h) hFc (fun r_71 u t H1 locs ht hvm hw hB1 hz1 hk1 hS => ?_)
  obtain ⟨L_71, f_71⟩ := u
  obtain ⟨hP, -, hD1⟩ := hB1
  rw [ht] at hP
  have hw := id hw
  have hP : va_P (dC, dI) vwCl (va_pl L_71 f_71) H1 := hP
  have hD : va_D A (va_pl L_71 f_71) := p_gain hD1 hFc
  generalize H1 = H at hP hS ⊢
  refine vp_callSi (va_runSN (As := [.int r_71]) (rest := []) ⟨hx, hb, hml, hown, hts⟩ (c_X8_isGreat l r_71 _ hw) ⟨va_cnB 1 hts gX2_greatBytes_X8_isGreat_n99 rfl rfl rfl hN.1 (hts _ lz_X2_greatBytes_RX8) (by decide +kernel) ⟨by decide, by decide⟩, hts _ lt_X2_greatBytes_X8_isGreat, trivial⟩ preEq rfl rfl hl.1 rfl (lv_room (Nat.le_of_ble_eq_true rfl)) dX2_greatBytes_74 ⟨by decide, by decide⟩).run (fun r_74 hw => ?_)
  refine lv_if_eq (tgt := 84) hx hb dX2_greatBytes_77 (by decide) (fun c_77 => ?_) (fun c_77 => ?_)
  · have hw := hw.1 c_77
    refine lv_iconst (v := 0) hx hb dX2_greatBytes_84 (by decide) ?_
    exact W.iret (v := (0 : Int32)) hx hb hr (fun t ht hW => ⟨⟨(0 : Int32), (L_71, f_71), rfl, hw, by rw [ht]; exact hP, va_K.moved hW.alike hK, hD⟩, hS.F ht⟩) hS.2.2 dX2_greatBytes_85
  · have hw := hw.2 c_77
    refine lv_iconst (v := 1) hx hb dX2_greatBytes_80 (by decide) ?_
    refine lv_goto (tgt := 85) hx hb dX2_greatBytes_81 (by decide) ?_
    exact W.iret (v := (1 : Int32)) hx hb hr (fun t ht hW => ⟨⟨(1 : Int32), (L_71, f_71), rfl, hw, by rw [ht]; exact hP, va_K.moved hW.alike hK, hD⟩, hS.F ht⟩) hS.2.2 dX2_greatBytes_85
set_option maxHeartbeats 4000000 in
set_option maxRecDepth 100000 in
theorem tb_X2_greatBytes_48 {p : Program} {l : Launch} {e : Env} {s : State} {m : MethodId} {below : List Frame} {meth : Method} {c : Code} {args : Array Value} {dC : Nat → ClassId} {dI : Nat → Nat → Nat} {dA : Nat → ClassId} {zz : Nat → Nat} {base : Nat} {A : Nat → Prop} {Q : Int32 → List Nat → pF → Prop} (C : pCx p s m args meth c cX2_greatBytes 7 (some .int) RX2 wsX2_greatBytes A dC dI dA zz base) : ∀ (L : List Nat) (f : pF) (a0 : Nat) (a1 : Nat) (a2 : Int32) (a4 : Int32) (a5 : Int32), wp_X2_greatBytes_48 dA zz Q  L f a0 a1 a2 a4 a5 → pAt p l e rm_X2_greatBytes s m args below meth c dC dI A (MQ below (va_Qi (fun r (u : List Nat × pF) => Q r u.1 u.2) (pB dC dI dA A) A) args s 0 0 A) 0 0 48 7 [(0, .ref a0), (1, .ref a1), (2, .int a2), (4, .int a4), (5, .int a5)] [] L f := by
  obtain ⟨hx, hb, hml, hown, hts, hr, hlocks, hA, hK, hB, hz, hN, hT⟩ := id C
  intro L f a0 a1 a2 a4 a5 hw H locs hP hD hS ls hl
  rw [wp_X2_greatBytes_48] at hw
  refine lv_iload hx hb dX2_greatBytes_48 (lv_at hl 3 rfl) ?_
  refine lv_iconst (v := 2) hx hb dX2_greatBytes_50 (by decide) ?_
  refine lv_icmp_lt (tgt := 69) hx hb dX2_greatBytes_51 (by decide) (fun c_51 => ?_) (fun c_51 => ?_)
  · have hw := hw.1 c_51
    exact tb_X2_greatBytes_69 C  L f a1 a2 hw H locs hP hD hS ls (lv_sub hl [1, 2] rfl)
  · have hw := hw.2 c_51
    refine lv_iload hx hb dX2_greatBytes_54 (lv_at hl 4 rfl) ?_
    refine lv_iload hx hb dX2_greatBytes_56 (lv_at hl 3 rfl) ?_
    refine lv_icmp_ne (tgt := 69) hx hb dX2_greatBytes_58 (by decide) (fun c_58 => ?_) (fun c_58 => ?_)
    · have hw := hw.1 c_58
      exact tb_X2_greatBytes_69 C  L f a1 a2 hw H locs hP hD hS ls (lv_sub hl [1, 2] rfl)
    · have hw := hw.2 c_58
      refine lv_aload_n hx hb dX2_greatBytes_61 rfl (lv_at hl 0 rfl) ?_
      obtain ⟨fs_62, g_62, ⟨hL9, hf9, hn9⟩, hw⟩ := hw
      refine va_get (D := (dC, dI)) (ci := 3) (v := .ref g_62) (C := RX2) (T := TX2) (N := 3) hx hb hts iw_X2_greatBytes_RX2 hown hK (p_one hP hL9 hf9) 0 rfl rfl 1 (by decide) (hts _ lk_X2_greatBytes_14) (fun _ h9 => h9) hn9 dX2_greatBytes_62 ?_
      obtain ⟨hO9, hw⟩ := hw
      have hFc := p_free hD hS hA
      refine va_calli (va_runV (As := []) (rest := []) ⟨hx, hb, hml, hown, hts⟩ (c_X4_size l dC dI dA zz base L f H.size g_62  _ hw) (cwV 0 hts gX2_greatBytes_X4_size rfl rfl rfl (by decide +kernel) ⟨by decide, by decide⟩) (pPreV [] (ci := 5) rfl hO9 hK hP hD hS hB hz hN hT) rfl rfl hl.1 rfl (lv_room (Nat.le_of_ble_eq_true rfl)) dX2_greatBytes_65 ⟨by decide, by decide⟩) hS (fun q _ h => hFc q h) hFc (fun r_65 u t H1 locs ht hvm hw hB1 hz1 hk1 hS => ?_)
      obtain ⟨L_65, f_65⟩ := u
      obtain ⟨hP, -, hD1⟩ := hB1
      rw [ht] at hP
      have hw := id hw
      have hP : va_P (dC, dI) vwCl (va_pl L_65 f_65) H1 := hP
      have hD : va_D A (va_pl L_65 f_65) := p_gain hD1 hFc
      generalize H1 = H at hP hS ⊢
      exact W.iret (v := r_65) hx hb hr (fun t ht hW => ⟨⟨r_65, (L_65, f_65), rfl, hw, by rw [ht]; exact hP, va_K.moved hW.alike hK, hD⟩, hS.F ht⟩) hS.2.2 dX2_greatBytes_68
set_option maxHeartbeats 4000000 in
set_option maxRecDepth 100000 in
theorem tb_X2_greatBytes_9 {p : Program} {l : Launch} {e : Env} {s : State} {m : MethodId} {below : List Frame} {meth : Method} {c : Code} {args : Array Value} {dC : Nat → ClassId} {dI : Nat → Nat → Nat} {dA : Nat → ClassId} {zz : Nat → Nat} {base : Nat} {A : Nat → Prop} {Q : Int32 → List Nat → pF → Prop} (C : pCx p s m args meth c cX2_greatBytes 7 (some .int) RX2 wsX2_greatBytes A dC dI dA zz base) : ∀ (n : Nat) (L : List Nat) (f : pF) (a0 : Nat) (a1 : Nat) (a2 : Int32) (a3 : Int32) (a4 : Int32) (a5 : Int32) (a6 : Int32), wp_X2_greatBytes_9 dA zz Q  n L f a0 a1 a2 a3 a4 a5 a6 → pAt p l e rm_X2_greatBytes s m args below meth c dC dI A (MQ below (va_Qi (fun r (u : List Nat × pF) => Q r u.1 u.2) (pB dC dI dA A) A) args s 0 0 A) 0 0 9 7 [(0, .ref a0), (1, .ref a1), (2, .int a2), (3, .int a3), (4, .int a4), (5, .int a5), (6, .int a6)] [] L f := by
  obtain ⟨hx, hb, hml, hown, hts, hr, hlocks, hA, hK, hB, hz, hN, hT⟩ := id C
  intro n
  induction n with
  | zero => intro L f a0 a1 a2 a3 a4 a5 a6 hw; exact hw.elim
  | succ n ih =>
    intro L f a0 a1 a2 a3 a4 a5 a6 hw H locs hP hD hS ls hl
    rw [wp_X2_greatBytes_9] at hw
    refine lv_iload hx hb dX2_greatBytes_9 (lv_at hl 6 rfl) ?_
    refine lv_iload_n hx hb dX2_greatBytes_11 rfl (lv_at hl 3 rfl) ?_
    refine lv_icmp_ge (tgt := 48) hx hb dX2_greatBytes_12 (by decide) (fun c_12 => ?_) (fun c_12 => ?_)
    · have hw := hw.1 c_12
      exact tb_X2_greatBytes_48 C  L f a0 a1 a2 a4 a5 hw H locs hP hD hS ls (lv_sub hl [0, 1, 2, 4, 5] rfl)
    · have hw := hw.2 c_12
      refine lv_aload_n hx hb dX2_greatBytes_15 rfl (lv_at hl 1 rfl) ?_
      refine lv_iload hx hb dX2_greatBytes_16 (lv_at hl 6 rfl) ?_
      obtain ⟨hO9, hw⟩ := hw
      have hFc := p_free hD hS hA
      refine va_calli (va_runV (As := [.int a6]) (rest := []) ⟨hx, hb, hml, hown, hts⟩ (c_X4_letterAt l dC dI dA zz base L f H.size a1 a6 _ hw) (cwV 1 hts gX2_greatBytes_X4_letterAt rfl rfl rfl (by decide +kernel) ⟨by decide, by decide⟩) (pPreV [.int a6] (ci := 5) rfl hO9 hK hP hD hS hB hz hN hT) rfl rfl hl.1 rfl (lv_room (Nat.le_of_ble_eq_true rfl)) dX2_greatBytes_18 ⟨by decide, by decide⟩) hS (fun q _ h => hFc q h) hFc (fun r_18 u t H1 locs ht hvm hw hB1 hz1 hk1 hS => ?_)
      obtain ⟨L_18, f_18⟩ := u
      obtain ⟨hP, -, hD1⟩ := hB1
      rw [ht] at hP
      have hw := id hw
      have hP : va_P (dC, dI) vwCl (va_pl L_18 f_18) H1 := hP
      have hD : va_D A (va_pl L_18 f_18) := p_gain hD1 hFc
      generalize H1 = H at hP hS ⊢
      refine lv_if_eq (tgt := 42) hx hb dX2_greatBytes_21 (by decide) (fun c_21 => ?_) (fun c_21 => ?_)
      · have hw := hw.1 c_21
        exact tb_X2_greatBytes_42 C ih L_18 f_18 a0 a1 a2 a3 a4 a5 a6 hw H locs hP hD hS ls (lv_sub hl [0, 1, 2, 3, 4, 5, 6] rfl)
      · have hw := hw.2 c_21
        obtain ⟨v4_24, ev4_24⟩ : ∃ y : Int32, y = a4 + (1 : Int32) := ⟨_, rfl⟩
        have hw := hw v4_24 ev4_24
        refine lv_iinc (v := v4_24) (lv' := [(4, .int v4_24), (0, .ref a0), (1, .ref a1), (2, .int a2), (3, .int a3), (5, .int a5), (6, .int a6)]) hx hb dX2_greatBytes_24 hl (k := 4) rfl (by rw [ev4_24]; rfl) (by decide) rfl (fun ls hl => ?_)
        refine lv_aload_n hx hb dX2_greatBytes_27 rfl (lv_at hl 2 rfl) ?_
        refine lv_iload hx hb dX2_greatBytes_28 (lv_at hl 6 rfl) ?_
        obtain ⟨hO9, hw⟩ := hw
        have hFc := p_free hD hS hA
        refine va_calli (va_runV (As := [.int a6]) (rest := []) ⟨hx, hb, hml, hown, hts⟩ (c_X4_at l dC dI dA zz base L_18 f_18 H.size a1 a6 _ hw) (cwV 1 hts gX2_greatBytes_X4_at rfl rfl rfl (by decide +kernel) ⟨by decide, by decide⟩) (pPreV [.int a6] (ci := 5) rfl hO9 hK hP hD hS hB hz hN hT) rfl rfl hl.1 rfl (lv_room (Nat.le_of_ble_eq_true rfl)) dX2_greatBytes_30 ⟨by decide, by decide⟩) hS (fun q _ h => hFc q h) hFc (fun r_30 u t H1 locs ht hvm hw hB1 hz1 hk1 hS => ?_)
        obtain ⟨L_30, f_30⟩ := u
        obtain ⟨hP, -, hD1⟩ := hB1
        rw [ht] at hP
        have hw := id hw
        have hP : va_P (dC, dI) vwCl (va_pl L_30 f_30) H1 := hP
        have hD : va_D A (va_pl L_30 f_30) := p_gain hD1 hFc
        generalize H1 = H at hP hS ⊢
        refine vp_callSi (va_runSN (As := [.int r_30]) (rest := []) ⟨hx, hb, hml, hown, hts⟩ (c_X8_isGreat l r_30 _ hw) ⟨va_cnB 1 hts gX2_greatBytes_X8_isGreat_n99 rfl rfl rfl hN.1 (hts _ lz_X2_greatBytes_RX8) (by decide +kernel) ⟨by decide, by decide⟩, hts _ lt_X2_greatBytes_X8_isGreat, trivial⟩ preEq rfl rfl hl.1 rfl (lv_room (Nat.le_of_ble_eq_true rfl)) dX2_greatBytes_33 ⟨by decide, by decide⟩).run (fun r_33 hw => ?_)
        refine lv_if_eq (tgt := 42) hx hb dX2_greatBytes_36 (by decide) (fun c_36 => ?_) (fun c_36 => ?_)
        · have hw := hw.1 c_36
          exact tb_X2_greatBytes_42 C ih L_30 f_30 a0 a1 a2 a3 v4_24 a5 a6 hw H locs hP hD hS ls (lv_sub hl [1, 2, 3, 4, 0, 5, 6] rfl)
        · have hw := hw.2 c_36
          obtain ⟨v5_39, ev5_39⟩ : ∃ y : Int32, y = a5 + (1 : Int32) := ⟨_, rfl⟩
          have hw := hw v5_39 ev5_39
          refine lv_iinc (v := v5_39) (lv' := [(5, .int v5_39), (4, .int v4_24), (0, .ref a0), (1, .ref a1), (2, .int a2), (3, .int a3), (6, .int a6)]) hx hb dX2_greatBytes_39 hl (k := 5) rfl (by rw [ev5_39]; rfl) (by decide) rfl (fun ls hl => ?_)
          exact tb_X2_greatBytes_42 C ih L_30 f_30 a0 a1 a2 a3 v4_24 v5_39 a6 hw H locs hP hD hS ls (lv_sub hl [2, 3, 4, 5, 1, 0, 6] rfl)
set_option maxHeartbeats 4000000 in
set_option maxRecDepth 100000 in
theorem tb_X2_greatBytes_0 {p : Program} {l : Launch} {e : Env} {s : State} {m : MethodId} {below : List Frame} {meth : Method} {c : Code} {args : Array Value} {dC : Nat → ClassId} {dI : Nat → Nat → Nat} {dA : Nat → ClassId} {zz : Nat → Nat} {base : Nat} {A : Nat → Prop} {Q : Int32 → List Nat → pF → Prop} (C : pCx p s m args meth c cX2_greatBytes 7 (some .int) RX2 wsX2_greatBytes A dC dI dA zz base) : ∀ (L : List Nat) (f : pF) (a0 : Nat) (a1 : Nat) (a2 : Int32) (a3 : Int32), wp_X2_greatBytes_0 dA zz Q  L f a0 a1 a2 a3 → pAt p l e rm_X2_greatBytes s m args below meth c dC dI A (MQ below (va_Qi (fun r (u : List Nat × pF) => Q r u.1 u.2) (pB dC dI dA A) A) args s 0 0 A) 0 0 0 7 [(0, .ref a0), (1, .ref a1), (2, .int a2), (3, .int a3)] [] L f := by
  obtain ⟨hx, hb, hml, hown, hts, hr, hlocks, hA, hK, hB, hz, hN, hT⟩ := id C
  intro L f a0 a1 a2 a3 hw H locs hP hD hS ls hl
  rw [wp_X2_greatBytes_0] at hw
  refine lv_iconst (v := 0) hx hb dX2_greatBytes_0 (by decide) ?_
  refine lv_istore (lv' := [(4, .int (0 : Int32)), (0, .ref a0), (1, .ref a1), (2, .int a2), (3, .int a3)]) hx hb dX2_greatBytes_1 hl (by decide) rfl (fun ls hl => ?_)
  refine lv_iconst (v := 0) hx hb dX2_greatBytes_3 (by decide) ?_
  refine lv_istore (lv' := [(5, .int (0 : Int32)), (4, .int (0 : Int32)), (0, .ref a0), (1, .ref a1), (2, .int a2), (3, .int a3)]) hx hb dX2_greatBytes_4 hl (by decide) rfl (fun ls hl => ?_)
  refine lv_iload_n hx hb dX2_greatBytes_6 rfl (lv_at hl 4 rfl) ?_
  refine lv_istore (lv' := [(6, .int a2), (5, .int (0 : Int32)), (4, .int (0 : Int32)), (0, .ref a0), (1, .ref a1), (2, .int a2), (3, .int a3)]) hx hb dX2_greatBytes_7 hl (by decide) rfl (fun ls hl => ?_)
  obtain ⟨n9, hw⟩ := hw
  exact tb_X2_greatBytes_9 C  n9 L f a0 a1 a2 a3 (0 : Int32) (0 : Int32) a2 hw H locs hP hD hS ls (lv_sub hl [3, 4, 5, 6, 2, 1, 0] rfl)
set_option maxHeartbeats 4000000 in
set_option maxRecDepth 100000 in
theorem c_X2_greatBytes (l : Launch) (dC : Nat → ClassId) (dI : Nat → Nat → Nat) (dA : Nat → ClassId) (zz : Nat → Nat) (base : Nat) (L : List Nat) (f : pF) (sz : Nat) (a0 : Nat) (a1 : Nat) (a2 : Int32) (a3 : Int32) (Q : Int32 → List Nat → pF → Prop) (hw : wp_X2_greatBytes_0 dA zz Q L f a0 a1 a2 a3) : Met l yX2_greatBytes wsX2_greatBytes rm_X2_greatBytes (va_Pc [.ref a0, .ref a1, .int a2, .int a3] (pPre dC dI dA zz base L f sz)) (va_Qi (fun r (u : List Nat × pF) => Q r u.1 u.2) (pB dC dI dA (va_A (va_pl L f) sz)) (va_A (va_pl L f) sz)) 0 0 (va_A (va_pl L f) sz) := by
  refine Met.ofW (cc := cX2_greatBytes) (maxL := 7) (ret := (some .int)) (by decide) rfl ?_
  intro p e s m args below meth c s₁ B hml hv
  obtain ⟨rfl, hsz, hP, hK, hD0, hz, hN, hT⟩ := hv
  subst hsz
  have hl := lv_entry ([.ref a0, .ref a1, .int a2, .int a3]) (n := 7) (Nat.le_of_ble_eq_true rfl)
  rw [lg_entry_eq]
  generalize (lg_sl ([.ref a0, .ref a1, .int a2, .int a3]) ++ List.replicate (7 - (lg_sl ([.ref a0, .ref a1, .int a2, .int a3])).length) Slot.unset).toArray = ls at hl ⊢
  exact tb_X2_greatBytes_0 (Q := Q) (p := p) ⟨B.exec, B.bytes, hml, findClass_of_methodNamed B.named, atoms_spec (ws := wsX2_greatBytes) B.pre, B.returns, B.notSynchronized, fun q h => Or.inr h, hK, pAB hD0 hz, hz, hN, hT⟩ L f a0 a1 a2 a3 hw s.heap [] hP (hD0.self (sz := s.heap.size)) va_S.rf ls (lv_sub hl [0, 1, 2, 3] rfl)
theorem iw_X2_mendsUse_RX2 : ∀ w ∈ u_ws RX2 TX2 3, w ∈ wsX2_mendsUse := by decide +kernel
theorem iw_X2_mendsUse_RX5 : ∀ w ∈ u_ws RX5 TX5 5, w ∈ wsX2_mendsUse := by decide +kernel
theorem lk_X2_mendsUse_14 : Cond.fieldLink RX2 14 "TermKeeper$Mender" "instead" "LTermKeeper$Row;" ∈ wsX2_mendsUse := by decide +kernel
theorem lk_X2_mendsUse_20 : Cond.fieldLink RX2 20 "TermKeeper$Mender" "glossary" "LTermKeeper$Glossary;" ∈ wsX2_mendsUse := by decide +kernel
theorem lk_X2_mendsUse_24 : Cond.fieldLink RX2 24 "TermKeeper$Mender" "mends" "I" ∈ wsX2_mendsUse := by decide +kernel
theorem lk_X2_mendsUse_52 : Cond.fieldLink RX2 52 "TermKeeper$Term" "thing" "I" ∈ wsX2_mendsUse := by decide +kernel
theorem lk_X2_mendsUse_60 : Cond.fieldLink RX2 60 "TermKeeper$Term" "kind" "I" ∈ wsX2_mendsUse := by decide +kernel
abbrev rm_X2_mendsUse : Room := { frames := 4, cells := 0, slots := 0, locals := 89 }
def wp_X2_mendsUse_126 (dA : Nat → ClassId) (zz : Nat → Nat) (Q : Int32 → List Nat → pF → Prop) (L : List Nat) (f : pF) (a0 : Nat) (a1 : Nat) (a2 : Nat) (a3 : Int32) (a8 : Nat) (a9 : Int32) : Prop :=
    (isO L f 7 a2 ∧
      (wp_X6_beginOf_0 dA zz (fun r_128 L_128 f_128 =>
        (isO L_128 f_128 7 a2 ∧
          (wp_X6_endOf_0 dA zz (fun r_135 L_135 f_135 =>
            (gR L_135 f_135 3 a0 1 (fun g_141 =>
              (isO L_135 f_135 5 g_141 ∧
                (wp_X4_shorten_0 dA zz (fun L_145 f_145 =>
                  (gR L_145 f_145 3 a0 0 (fun g_149 =>
                    (gR L_145 f_145 3 a0 1 (fun g_153 =>
                      (isO L_145 f_145 2 g_149 ∧
                        (wp_X1_pushForm_0 dA zz (fun L_160 f_160 =>
                          (gR L_160 f_160 3 a0 1 (fun g_164 =>
                            (isO L_160 f_160 3 a0 ∧
                              (wp_X2_greatBytes_0 dA zz (fun r_173 L_173 f_173 =>
                                (isO L_173 f_173 5 g_164 ∧
                                  (wp_X4_greaten_0 dA zz (fun L_176 f_176 =>
                                    (gR L_176 f_176 3 a0 1 (fun g_185 =>
                                      (isO L_176 f_176 5 a1 ∧
                                        (wp_X4_takesInstead_0 dA zz (fun r_188 L_188 f_188 =>
                                          ((¬ r_188 = 0 →
                                            (gI L_188 f_188 3 a0 2 (fun g_198 =>
                                              (gP L_188 f_188 3 a0 2 (.int (g_198 + (1 : Int32))) (fun f_203 =>
                                                (Q (1 : Int32) L_188 f_203))))))
                                           ∧ (r_188 = 0 →
                                            (Q (0 : Int32) L_188 f_188)))) L_176 f_176 a1 r_128 r_135 g_185))))) L_173 f_173 g_164 r_173))) L_160 f_160 a0 a1 r_128 r_135))))) L_145 f_145 g_149 g_153 a8 a9))))))) L_135 f_135 g_141 (0 : Int32)))))) L_128 f_128 a2 a3))) L f a2 a3))
def wp_X2_mendsUse_69 (dA : Nat → ClassId) (zz : Nat → Nat) (Q : Int32 → List Nat → pF → Prop) (L : List Nat) (f : pF) (a0 : Nat) (a1 : Nat) (a2 : Nat) (a3 : Int32) (a6 : Int32) (k0 : Int32) : Prop :=
    ((k0 = 0 →
      (Q (0 : Int32) L f))
     ∧ (¬ k0 = 0 →
      (gR L f 3 a0 0 (fun g_77 =>
        (isO L f 2 g_77 ∧
          (wp_X1_holdsTerm_0 dA zz (fun r_82 L_82 f_82 =>
            ((¬ r_82 = 0 →
              (gR L_82 f_82 3 a0 0 (fun g_91 =>
                (isO L_82 f_82 2 g_91 ∧
                  (wp_X1_termAt_0 dA zz (fun r_96 L_96 f_96 =>
                    (isO L_96 f_96 7 a2 ∧
                      (wp_X6_endingOf_0 dA zz (fun r_103 L_103 f_103 =>
                        ((r_103 = (-1 : Int32) →
                          (wp_X2_mendsUse_126 dA zz Q  L_103 f_103 a0 a1 a2 a3 r_96 r_103))
                         ∧ (¬ r_103 = (-1 : Int32) →
                          (isO L_103 f_103 6 r_96 ∧
                            (wp_X5_takesEnding_0 dA zz (fun r_118 L_118 f_118 =>
                              ((¬ r_118 = 0 →
                                (wp_X2_mendsUse_126 dA zz Q  L_118 f_118 a0 a1 a2 a3 r_96 r_103))
                               ∧ (r_118 = 0 →
                                (Q (0 : Int32) L_118 f_118)))) L_103 f_103 r_96 r_103))))) L_96 f_96 a2 a3))) L_82 f_82 g_91 a6)))))
             ∧ (r_82 = 0 →
              (Q (0 : Int32) L_82 f_82)))) L f g_77 a6))))))
def wp_X2_mendsUse_64 (dA : Nat → ClassId) (zz : Nat → Nat) (Q : Int32 → List Nat → pF → Prop) (L : List Nat) (f : pF) (a0 : Nat) (a1 : Nat) (a2 : Nat) (a3 : Int32) (a6 : Int32) : Prop :=
    (wp_X2_mendsUse_69 dA zz Q  L f a0 a1 a2 a3 a6 (1 : Int32))
def wp_X2_mendsUse_0 (dA : Nat → ClassId) (zz : Nat → Nat) (Q : Int32 → List Nat → pF → Prop) (L : List Nat) (f : pF) (a0 : Nat) (a1 : Nat) (a2 : Nat) (a3 : Int32) : Prop :=
    (isO L f 7 a2 ∧
      (wp_X6_termOf_0 dA zz (fun r_2 L_2 f_2 =>
        (gR L_2 f_2 3 a0 0 (fun g_8 =>
          (isO L_2 f_2 2 g_8 ∧
            (wp_X1_holdsTerm_0 dA zz (fun r_13 L_13 f_13 =>
              ((¬ r_13 = 0 →
                (gR L_13 f_13 3 a0 0 (fun g_22 =>
                  (isO L_13 f_13 2 g_22 ∧
                    (wp_X1_termAt_0 dA zz (fun r_27 L_27 f_27 =>
                      (gR L_27 f_27 3 a0 0 (fun g_33 =>
                        (gI L_27 f_27 6 r_27 2 (fun g_38 =>
                          (isO L_27 f_27 2 g_33 ∧
                            (wp_X1_goodTermOf_0 dA zz (fun r_41 L_41 f_41 =>
                              (gI L_41 f_41 6 r_27 4 (fun g_48 =>
                                ((g_48 = (1 : Int32) →
                                  (wp_X2_mendsUse_64 dA zz Q  L_41 f_41 a0 a1 a2 a3 r_41))
                                 ∧ (¬ g_48 = (1 : Int32) →
                                  (gI L_41 f_41 6 r_27 4 (fun g_57 =>
                                    ((¬ g_57 = (3 : Int32) →
                                      (wp_X2_mendsUse_69 dA zz Q  L_41 f_41 a0 a1 a2 a3 r_41 (0 : Int32)))
                                     ∧ (g_57 = (3 : Int32) →
                                      (wp_X2_mendsUse_64 dA zz Q  L_41 f_41 a0 a1 a2 a3 r_41)))))))))) L_27 f_27 g_33 g_38))))))) L_13 f_13 g_22 r_2)))))
               ∧ (r_13 = 0 →
                (Q (0 : Int32) L_13 f_13)))) L_2 f_2 g_8 r_2))))) L f a2 a3))
set_option maxHeartbeats 4000000 in
set_option maxRecDepth 100000 in
theorem tb_X2_mendsUse_126 {p : Program} {l : Launch} {e : Env} {s : State} {m : MethodId} {below : List Frame} {meth : Method} {c : Code} {args : Array Value} {dC : Nat → ClassId} {dI : Nat → Nat → Nat} {dA : Nat → ClassId} {zz : Nat → Nat} {base : Nat} {A : Nat → Prop} {Q : Int32 → List Nat → pF → Prop} (C : pCx p s m args meth c cX2_mendsUse 12 (some .boolean) RX2 wsX2_mendsUse A dC dI dA zz base) : ∀ (L : List Nat) (f : pF) (a0 : Nat) (a1 : Nat) (a2 : Nat) (a3 : Int32) (a8 : Nat) (a9 : Int32), wp_X2_mendsUse_126 dA zz Q  L f a0 a1 a2 a3 a8 a9 → pAt p l e rm_X2_mendsUse s m args below meth c dC dI A (MQ below (va_Qi (fun r (u : List Nat × pF) => Q r u.1 u.2) (pB dC dI dA A) A) args s 0 0 A) 0 0 126 12 [(0, .ref a0), (1, .ref a1), (2, .ref a2), (3, .int a3), (8, .ref a8), (9, .int a9)] [] L f := by
  obtain ⟨hx, hb, hml, hown, hts, hr, hlocks, hA, hK, hB, hz, hN, hT⟩ := id C
  intro L f a0 a1 a2 a3 a8 a9 hw H locs hP hD hS ls hl
  rw [wp_X2_mendsUse_126] at hw
  refine lv_aload_n hx hb dX2_mendsUse_126 rfl (lv_at hl 2 rfl) ?_
  refine lv_iload_n hx hb dX2_mendsUse_127 rfl (lv_at hl 3 rfl) ?_
  obtain ⟨hO9, hw⟩ := hw
  have hFc := p_free hD hS hA
  refine va_calli (va_runV (As := [.int a3]) (rest := []) ⟨hx, hb, hml, hown, hts⟩ (c_X6_beginOf l dC dI dA zz base L f H.size a2 a3 _ hw) (cwV 1 hts gX2_mendsUse_X6_beginOf rfl rfl rfl (by decide +kernel) ⟨by decide, by decide⟩) (pPreV [.int a3] (ci := 7) rfl hO9 hK hP hD hS hB hz hN hT) rfl rfl hl.1 rfl (lv_room (Nat.le_of_ble_eq_true rfl)) dX2_mendsUse_128 ⟨by decide, by decide⟩) hS (fun q _ h => hFc q h) hFc (fun r_128 u t H1 locs ht hvm hw hB1 hz1 hk1 hS => ?_)
  obtain ⟨L_128, f_128⟩ := u
  obtain ⟨hP, -, hD1⟩ := hB1
  rw [ht] at hP
  have hw := id hw
  have hP : va_P (dC, dI) vwCl (va_pl L_128 f_128) H1 := hP
  have hD : va_D A (va_pl L_128 f_128) := p_gain hD1 hFc
  generalize H1 = H at hP hS ⊢
  refine lv_istore (lv' := [(10, .int r_128), (0, .ref a0), (1, .ref a1), (2, .ref a2), (3, .int a3), (8, .ref a8), (9, .int a9)]) hx hb dX2_mendsUse_131 hl (by decide) rfl (fun ls hl => ?_)
  refine lv_aload_n hx hb dX2_mendsUse_133 rfl (lv_at hl 3 rfl) ?_
  refine lv_iload_n hx hb dX2_mendsUse_134 rfl (lv_at hl 4 rfl) ?_
  obtain ⟨hO9, hw⟩ := hw
  have hFc := p_free hD hS hA
  refine va_calli (va_runV (As := [.int a3]) (rest := []) ⟨hx, hb, hml, hown, hts⟩ (c_X6_endOf l dC dI dA zz base L_128 f_128 H.size a2 a3 _ hw) (cwV 1 hts gX2_mendsUse_X6_endOf rfl rfl rfl (by decide +kernel) ⟨by decide, by decide⟩) (pPreV [.int a3] (ci := 7) rfl hO9 hK hP hD hS hB hz hN hT) rfl rfl hl.1 rfl (lv_room (Nat.le_of_ble_eq_true rfl)) dX2_mendsUse_135 ⟨by decide, by decide⟩) hS (fun q _ h => hFc q h) hFc (fun r_135 u t H1 locs ht hvm hw hB1 hz1 hk1 hS => ?_)
  obtain ⟨L_135, f_135⟩ := u
  obtain ⟨hP, -, hD1⟩ := hB1
  rw [ht] at hP
  have hw := id hw
  have hP : va_P (dC, dI) vwCl (va_pl L_135 f_135) H1 := hP
  have hD : va_D A (va_pl L_135 f_135) := p_gain hD1 hFc
  generalize H1 = H at hP hS ⊢
  refine lv_istore (lv' := [(11, .int r_135), (10, .int r_128), (0, .ref a0), (1, .ref a1), (2, .ref a2), (3, .int a3), (8, .ref a8), (9, .int a9)]) hx hb dX2_mendsUse_138 hl (by decide) rfl (fun ls hl => ?_)
  refine lv_aload_n hx hb dX2_mendsUse_140 rfl (lv_at hl 2 rfl) ?_
  obtain ⟨fs_141, g_141, ⟨hL9, hf9, hn9⟩, hw⟩ := hw
  refine va_get (D := (dC, dI)) (ci := 3) (v := .ref g_141) (C := RX2) (T := TX2) (N := 3) hx hb hts iw_X2_mendsUse_RX2 hown hK (p_one hP hL9 hf9) 0 rfl rfl 1 (by decide) (hts _ lk_X2_mendsUse_14) (fun _ h9 => h9) hn9 dX2_mendsUse_141 ?_
  refine lv_iconst (v := 0) hx hb dX2_mendsUse_144 (by decide) ?_
  obtain ⟨hO9, hw⟩ := hw
  have hFc := p_free hD hS hA
  refine va_callv (va_runV (As := [.int (0 : Int32)]) (rest := []) ⟨hx, hb, hml, hown, hts⟩ (c_X4_shorten l dC dI dA zz base L_135 f_135 H.size g_141 (0 : Int32) _ hw) (cwV 1 hts gX2_mendsUse_X4_shorten rfl rfl rfl (by decide +kernel) ⟨by decide, by decide⟩) (pPreV [.int (0 : Int32)] (ci := 5) rfl hO9 hK hP hD hS hB hz hN hT) rfl rfl hl.1 rfl (lv_room (Nat.le_of_ble_eq_true rfl)) dX2_mendsUse_145 ⟨by decide, by decide⟩) hS (fun q _ h => hFc q h) hFc (fun u t H1 locs ht hvm hw hB1 hz1 hk1 hS => ?_)
  obtain ⟨L_145, f_145⟩ := u
  obtain ⟨hP, -, hD1⟩ := hB1
  rw [ht] at hP
  have hw := id hw
  have hP : va_P (dC, dI) vwCl (va_pl L_145 f_145) H1 := hP
  have hD : va_D A (va_pl L_145 f_145) := p_gain hD1 hFc
  generalize H1 = H at hP hS ⊢
  refine lv_aload_n hx hb dX2_mendsUse_148 rfl (lv_at hl 2 rfl) ?_
  obtain ⟨fs_149, g_149, ⟨hL9, hf9, hn9⟩, hw⟩ := hw
  refine va_get (D := (dC, dI)) (ci := 3) (v := .ref g_149) (C := RX2) (T := TX2) (N := 3) hx hb hts iw_X2_mendsUse_RX2 hown hK (p_one hP hL9 hf9) 0 rfl rfl 0 (by decide) (hts _ lk_X2_mendsUse_20) (fun _ h9 => h9) hn9 dX2_mendsUse_149 ?_
  refine lv_aload_n hx hb dX2_mendsUse_152 rfl (lv_at hl 2 rfl) ?_
  obtain ⟨fs_153, g_153, ⟨hL9, hf9, hn9⟩, hw⟩ := hw
  refine va_get (D := (dC, dI)) (ci := 3) (v := .ref g_153) (C := RX2) (T := TX2) (N := 3) hx hb hts iw_X2_mendsUse_RX2 hown hK (p_one hP hL9 hf9) 0 rfl rfl 1 (by decide) (hts _ lk_X2_mendsUse_14) (fun _ h9 => h9) hn9 dX2_mendsUse_153 ?_
  refine lv_aload hx hb dX2_mendsUse_156 (lv_at hl 6 rfl) ?_
  refine lv_iload hx hb dX2_mendsUse_158 (lv_at hl 7 rfl) ?_
  obtain ⟨hO9, hw⟩ := hw
  have hFc := p_free hD hS hA
  refine va_callv (va_runV (As := [.ref g_153, .ref a8, .int a9]) (rest := []) ⟨hx, hb, hml, hown, hts⟩ (c_X1_pushForm l dC dI dA zz base L_145 f_145 H.size g_149 g_153 a8 a9 _ hw) (cwV 3 hts gX2_mendsUse_X1_pushForm rfl rfl rfl (by decide +kernel) ⟨by decide, by decide⟩) (pPreV [.ref g_153, .ref a8, .int a9] (ci := 2) rfl hO9 hK hP hD hS hB hz hN hT) rfl rfl hl.1 rfl (lv_room (Nat.le_of_ble_eq_true rfl)) dX2_mendsUse_160 ⟨by decide, by decide⟩) hS (fun q _ h => hFc q h) hFc (fun u t H1 locs ht hvm hw hB1 hz1 hk1 hS => ?_)
  obtain ⟨L_160, f_160⟩ := u
  obtain ⟨hP, -, hD1⟩ := hB1
  rw [ht] at hP
  have hw := id hw
  have hP : va_P (dC, dI) vwCl (va_pl L_160 f_160) H1 := hP
  have hD : va_D A (va_pl L_160 f_160) := p_gain hD1 hFc
  generalize H1 = H at hP hS ⊢
  refine lv_aload_n hx hb dX2_mendsUse_163 rfl (lv_at hl 2 rfl) ?_
  obtain ⟨fs_164, g_164, ⟨hL9, hf9, hn9⟩, hw⟩ := hw
  refine va_get (D := (dC, dI)) (ci := 3) (v := .ref g_164) (C := RX2) (T := TX2) (N := 3) hx hb hts iw_X2_mendsUse_RX2 hown hK (p_one hP hL9 hf9) 0 rfl rfl 1 (by decide) (hts _ lk_X2_mendsUse_14) (fun _ h9 => h9) hn9 dX2_mendsUse_164 ?_
  refine lv_aload_n hx hb dX2_mendsUse_167 rfl (lv_at hl 2 rfl) ?_
  refine lv_aload_n hx hb dX2_mendsUse_168 rfl (lv_at hl 3 rfl) ?_
  refine lv_iload hx hb dX2_mendsUse_169 (lv_at hl 1 rfl) ?_
  refine lv_iload hx hb dX2_mendsUse_171 (lv_at hl 0 rfl) ?_
  obtain ⟨hO9, hw⟩ := hw
  have hFc := p_free hD hS hA
  refine va_calli (va_runV (As := [.ref a1, .int r_128, .int r_135]) (rest := [.ref g_164]) ⟨hx, hb, hml, hown, hts⟩ (c_X2_greatBytes l dC dI dA zz base L_160 f_160 H.size a0 a1 r_128 r_135 _ hw) (cwV 3 hts gX2_mendsUse_X2_greatBytes rfl rfl rfl (by decide +kernel) ⟨by decide, by decide⟩) (pPreV [.ref a1, .int r_128, .int r_135] (ci := 3) rfl hO9 hK hP hD hS hB hz hN hT) rfl rfl hl.1 rfl (lv_room (Nat.le_of_ble_eq_true rfl)) dX2_mendsUse_173 ⟨by decide, by decide⟩) hS (fun q _ h => hFc q h) hFc (fun r_173 u t H1 locs ht hvm hw hB1 hz1 hk1 hS => ?_)
  obtain ⟨L_173, f_173⟩ := u
  obtain ⟨hP, -, hD1⟩ := hB1
  rw [ht] at hP
  have hw := id hw
  have hP : va_P (dC, dI) vwCl (va_pl L_173 f_173) H1 := hP
  have hD : va_D A (va_pl L_173 f_173) := p_gain hD1 hFc
  generalize H1 = H at hP hS ⊢
  obtain ⟨hO9, hw⟩ := hw
  have hFc := p_free hD hS hA
  refine va_callv (va_runV (As := [.int r_173]) (rest := []) ⟨hx, hb, hml, hown, hts⟩ (c_X4_greaten l dC dI dA zz base L_173 f_173 H.size g_164 r_173 _ hw) (cwV 1 hts gX2_mendsUse_X4_greaten rfl rfl rfl (by decide +kernel) ⟨by decide, by decide⟩) (pPreV [.int r_173] (ci := 5) rfl hO9 hK hP hD hS hB hz hN hT) rfl rfl hl.1 rfl (lv_room (Nat.le_of_ble_eq_true rfl)) dX2_mendsUse_176 ⟨by decide, by decide⟩) hS (fun q _ h => hFc q h) hFc (fun u t H1 locs ht hvm hw hB1 hz1 hk1 hS => ?_)
  obtain ⟨L_176, f_176⟩ := u
  obtain ⟨hP, -, hD1⟩ := hB1
  rw [ht] at hP
  have hw := id hw
  have hP : va_P (dC, dI) vwCl (va_pl L_176 f_176) H1 := hP
  have hD : va_D A (va_pl L_176 f_176) := p_gain hD1 hFc
  generalize H1 = H at hP hS ⊢
  refine lv_aload_n hx hb dX2_mendsUse_179 rfl (lv_at hl 3 rfl) ?_
  refine lv_iload hx hb dX2_mendsUse_180 (lv_at hl 1 rfl) ?_
  refine lv_iload hx hb dX2_mendsUse_182 (lv_at hl 0 rfl) ?_
  refine lv_aload_n hx hb dX2_mendsUse_184 rfl (lv_at hl 2 rfl) ?_
  obtain ⟨fs_185, g_185, ⟨hL9, hf9, hn9⟩, hw⟩ := hw
  refine va_get (D := (dC, dI)) (ci := 3) (v := .ref g_185) (C := RX2) (T := TX2) (N := 3) hx hb hts iw_X2_mendsUse_RX2 hown hK (p_one hP hL9 hf9) 0 rfl rfl 1 (by decide) (hts _ lk_X2_mendsUse_14) (fun _ h9 => h9) hn9 dX2_mendsUse_185 ?_
  obtain ⟨hO9, hw⟩ := hw
  have hFc := p_free hD hS hA
  refine va_calli (va_runV (As := [.int r_128, .int r_135, .ref g_185]) (rest := []) ⟨hx, hb, hml, hown, hts⟩ (c_X4_takesInstead l dC dI dA zz base L_176 f_176 H.size a1 r_128 r_135 g_185 _ hw) (cwV 3 hts gX2_mendsUse_X4_takesInstead rfl rfl rfl (by decide +kernel) ⟨by decide, by decide⟩) (pPreV [.int r_128, .int r_135, .ref g_185] (ci := 5) rfl hO9 hK hP hD hS hB hz hN hT) rfl rfl hl.1 rfl (lv_room (Nat.le_of_ble_eq_true rfl)) dX2_mendsUse_188 ⟨by decide, by decide⟩) hS (fun q _ h => hFc q h) hFc (fun r_188 u t H1 locs ht hvm hw hB1 hz1 hk1 hS => ?_)
  obtain ⟨L_188, f_188⟩ := u
  obtain ⟨hP, -, hD1⟩ := hB1
  rw [ht] at hP
  have hw := id hw
  have hP : va_P (dC, dI) vwCl (va_pl L_188 f_188) H1 := hP
  have hD : va_D A (va_pl L_188 f_188) := p_gain hD1 hFc
  generalize H1 = H at hP hS ⊢
  refine lv_if_ne (tgt := 196) hx hb dX2_mendsUse_191 (by decide) (fun c_191 => ?_) (fun c_191 => ?_)
  · have hw := hw.1 c_191
    refine lv_aload_n hx hb dX2_mendsUse_196 rfl (lv_at hl 2 rfl) ?_
    refine lv_dup hx hb dX2_mendsUse_197 rfl ?_
    obtain ⟨fs_198, g_198, ⟨hL9, hf9, hn9⟩, hw⟩ := hw
    refine va_get (D := (dC, dI)) (ci := 3) (v := .int g_198) (C := RX2) (T := TX2) (N := 3) hx hb hts iw_X2_mendsUse_RX2 hown hK (p_one hP hL9 hf9) 0 rfl rfl 2 (by decide) (hts _ lk_X2_mendsUse_24) (fun _ h9 => h9) hn9 dX2_mendsUse_198 ?_
    refine lv_iconst (v := 1) hx hb dX2_mendsUse_201 (by decide) ?_
    refine lv_iadd hx hb dX2_mendsUse_202 ?_
    obtain ⟨fs_203, ⟨hL9, hf9, hn9⟩, hw⟩ := hw
    obtain ⟨kq9, hkq9⟩ := p_at hL9 hf9
    refine va_put (D := (dC, dI)) (ci := 3) (v := .int (g_198 + (1 : Int32))) (C := RX2) (T := TX2) (N := 3) hx hb hts iw_X2_mendsUse_RX2 tyX2 tyX2_ok nmX2 hown hK hP hD hS kq9 hkq9 rfl 2 (by decide) (hts _ lk_X2_mendsUse_24) (fun _ h9 => h9) rfl (tyX2_ok 2 (by decide)) rfl rfl hn9 dX2_mendsUse_203 (fun H locs hP2 hD2 hS => ?_)
    rw [p_set hD hL9 hf9 hkq9] at hP2 hD2
    obtain ⟨f_203, ef_203⟩ : ∃ y : pF, y = va_up f_188 a0 (.inr (3, fs_203.set 2 (.int (g_198 + (1 : Int32))))) := ⟨_, rfl⟩
    rw [← ef_203] at hP2 hD2
    have hw := hw f_203 ef_203
    have hP := hP2
    have hD := hD2
    refine lv_iconst (v := 1) hx hb dX2_mendsUse_206 (by decide) ?_
    exact W.zret (v := (1 : Int32)) hx hb hr rfl (fun t ht hW => ⟨⟨(1 : Int32), (L_188, f_203), rfl, hw, by rw [ht]; exact hP, va_K.moved hW.alike hK, hD⟩, hS.F ht⟩) hS.2.2 dX2_mendsUse_207
  · have hw := hw.2 c_191
    refine lv_iconst (v := 0) hx hb dX2_mendsUse_194 (by decide) ?_
    exact W.zret (v := (0 : Int32)) hx hb hr rfl (fun t ht hW => ⟨⟨(0 : Int32), (L_188, f_188), rfl, hw, by rw [ht]; exact hP, va_K.moved hW.alike hK, hD⟩, hS.F ht⟩) hS.2.2 dX2_mendsUse_195
set_option maxHeartbeats 4000000 in
set_option maxRecDepth 100000 in
theorem tb_X2_mendsUse_69 {p : Program} {l : Launch} {e : Env} {s : State} {m : MethodId} {below : List Frame} {meth : Method} {c : Code} {args : Array Value} {dC : Nat → ClassId} {dI : Nat → Nat → Nat} {dA : Nat → ClassId} {zz : Nat → Nat} {base : Nat} {A : Nat → Prop} {Q : Int32 → List Nat → pF → Prop} (C : pCx p s m args meth c cX2_mendsUse 12 (some .boolean) RX2 wsX2_mendsUse A dC dI dA zz base) : ∀ (L : List Nat) (f : pF) (a0 : Nat) (a1 : Nat) (a2 : Nat) (a3 : Int32) (a6 : Int32) (k0 : Int32), wp_X2_mendsUse_69 dA zz Q  L f a0 a1 a2 a3 a6 k0 → pAt p l e rm_X2_mendsUse s m args below meth c dC dI A (MQ below (va_Qi (fun r (u : List Nat × pF) => Q r u.1 u.2) (pB dC dI dA A) A) args s 0 0 A) 0 0 69 12 [(0, .ref a0), (1, .ref a1), (2, .ref a2), (3, .int a3), (6, .int a6)] [.int k0] L f := by
  obtain ⟨hx, hb, hml, hown, hts, hr, hlocks, hA, hK, hB, hz, hN, hT⟩ := id C
  intro L f a0 a1 a2 a3 a6 k0 hw H locs hP hD hS ls hl
  rw [wp_X2_mendsUse_69] at hw
  refine lv_istore (lv' := [(7, .int k0), (0, .ref a0), (1, .ref a1), (2, .ref a2), (3, .int a3), (6, .int a6)]) hx hb dX2_mendsUse_69 hl (by decide) rfl (fun ls hl => ?_)
  refine lv_iload hx hb dX2_mendsUse_71 (lv_at hl 0 rfl) ?_
  refine lv_if_eq (tgt := 88) hx hb dX2_mendsUse_73 (by decide) (fun c_73 => ?_) (fun c_73 => ?_)
  · have hw := hw.1 c_73
    refine lv_iconst (v := 0) hx hb dX2_mendsUse_88 (by decide) ?_
    exact W.zret (v := (0 : Int32)) hx hb hr rfl (fun t ht hW => ⟨⟨(0 : Int32), (L, f), rfl, hw, by rw [ht]; exact hP, va_K.moved hW.alike hK, hD⟩, hS.F ht⟩) hS.2.2 dX2_mendsUse_89
  · have hw := hw.2 c_73
    refine lv_aload_n hx hb dX2_mendsUse_76 rfl (lv_at hl 1 rfl) ?_
    obtain ⟨fs_77, g_77, ⟨hL9, hf9, hn9⟩, hw⟩ := hw
    refine va_get (D := (dC, dI)) (ci := 3) (v := .ref g_77) (C := RX2) (T := TX2) (N := 3) hx hb hts iw_X2_mendsUse_RX2 hown hK (p_one hP hL9 hf9) 0 rfl rfl 0 (by decide) (hts _ lk_X2_mendsUse_20) (fun _ h9 => h9) hn9 dX2_mendsUse_77 ?_
    refine lv_iload hx hb dX2_mendsUse_80 (lv_at hl 5 rfl) ?_
    obtain ⟨hO9, hw⟩ := hw
    have hFc := p_free hD hS hA
    refine va_calli (va_runV (As := [.int a6]) (rest := []) ⟨hx, hb, hml, hown, hts⟩ (c_X1_holdsTerm l dC dI dA zz base L f H.size g_77 a6 _ hw) (cwV 1 hts gX2_mendsUse_X1_holdsTerm rfl rfl rfl (by decide +kernel) ⟨by decide, by decide⟩) (pPreV [.int a6] (ci := 2) rfl hO9 hK hP hD hS hB hz hN hT) rfl rfl hl.1 rfl (lv_room (Nat.le_of_ble_eq_true rfl)) dX2_mendsUse_82 ⟨by decide, by decide⟩) hS (fun q _ h => hFc q h) hFc (fun r_82 u t H1 locs ht hvm hw hB1 hz1 hk1 hS => ?_)
    obtain ⟨L_82, f_82⟩ := u
    obtain ⟨hP, -, hD1⟩ := hB1
    rw [ht] at hP
    have hw := id hw
    have hP : va_P (dC, dI) vwCl (va_pl L_82 f_82) H1 := hP
    have hD : va_D A (va_pl L_82 f_82) := p_gain hD1 hFc
    generalize H1 = H at hP hS ⊢
    refine lv_if_ne (tgt := 90) hx hb dX2_mendsUse_85 (by decide) (fun c_85 => ?_) (fun c_85 => ?_)
    · have hw := hw.1 c_85
      refine lv_aload_n hx hb dX2_mendsUse_90 rfl (lv_at hl 1 rfl) ?_
      obtain ⟨fs_91, g_91, ⟨hL9, hf9, hn9⟩, hw⟩ := hw
      refine va_get (D := (dC, dI)) (ci := 3) (v := .ref g_91) (C := RX2) (T := TX2) (N := 3) hx hb hts iw_X2_mendsUse_RX2 hown hK (p_one hP hL9 hf9) 0 rfl rfl 0 (by decide) (hts _ lk_X2_mendsUse_20) (fun _ h9 => h9) hn9 dX2_mendsUse_91 ?_
      refine lv_iload hx hb dX2_mendsUse_94 (lv_at hl 5 rfl) ?_
      obtain ⟨hO9, hw⟩ := hw
      have hFc := p_free hD hS hA
      refine va_callr (va_runV (As := [.int a6]) (rest := []) ⟨hx, hb, hml, hown, hts⟩ (c_X1_termAt l dC dI dA zz base L_82 f_82 H.size g_91 a6 _ hw) (cwV 1 hts gX2_mendsUse_X1_termAt rfl rfl rfl (by decide +kernel) ⟨by decide, by decide⟩) (pPreV [.int a6] (ci := 2) rfl hO9 hK hP hD hS hB hz hN hT) rfl rfl hl.1 rfl (lv_room (Nat.le_of_ble_eq_true rfl)) dX2_mendsUse_96 ⟨by decide, by decide⟩) hS (fun q _ h => hFc q h) hFc (fun u ra t H1 locs ht hvm hw hB1 hz1 hk1 hS => ?_)
      obtain ⟨r_96, L_96, f_96⟩ := u
      obtain ⟨hra, hP, -, hD1⟩ := hB1
      rw [show ra = r_96 from hra]
      rw [ht] at hP
      have hw := id hw
      have hP : va_P (dC, dI) vwCl (va_pl L_96 f_96) H1 := hP
      have hD : va_D A (va_pl L_96 f_96) := p_gain hD1 hFc
      generalize H1 = H at hP hS ⊢
      refine W.eq (g2 := F0 m 99 ls (.ref r_96 :: [])) rfl ?_
      refine lv_astore (lv' := [(8, .ref r_96), (7, .int k0), (0, .ref a0), (1, .ref a1), (2, .ref a2), (3, .int a3), (6, .int a6)]) hx hb dX2_mendsUse_99 hl (by decide) rfl (fun ls hl => ?_)
      refine lv_aload_n hx hb dX2_mendsUse_101 rfl (lv_at hl 4 rfl) ?_
      refine lv_iload_n hx hb dX2_mendsUse_102 rfl (lv_at hl 5 rfl) ?_
      obtain ⟨hO9, hw⟩ := hw
      have hFc := p_free hD hS hA
      refine va_calli (va_runV (As := [.int a3]) (rest := []) ⟨hx, hb, hml, hown, hts⟩ (c_X6_endingOf l dC dI dA zz base L_96 f_96 H.size a2 a3 _ hw) (cwV 1 hts gX2_mendsUse_X6_endingOf rfl rfl rfl (by decide +kernel) ⟨by decide, by decide⟩) (pPreV [.int a3] (ci := 7) rfl hO9 hK hP hD hS hB hz hN hT) rfl rfl hl.1 rfl (lv_room (Nat.le_of_ble_eq_true rfl)) dX2_mendsUse_103 ⟨by decide, by decide⟩) hS (fun q _ h => hFc q h) hFc (fun r_103 u t H1 locs ht hvm hw hB1 hz1 hk1 hS => ?_)
      obtain ⟨L_103, f_103⟩ := u
      obtain ⟨hP, -, hD1⟩ := hB1
      rw [ht] at hP
      have hw := id hw
      have hP : va_P (dC, dI) vwCl (va_pl L_103 f_103) H1 := hP
      have hD : va_D A (va_pl L_103 f_103) := p_gain hD1 hFc
      generalize H1 = H at hP hS ⊢
      refine lv_istore (lv' := [(9, .int r_103), (8, .ref r_96), (7, .int k0), (0, .ref a0), (1, .ref a1), (2, .ref a2), (3, .int a3), (6, .int a6)]) hx hb dX2_mendsUse_106 hl (by decide) rfl (fun ls hl => ?_)
      refine lv_iload hx hb dX2_mendsUse_108 (lv_at hl 0 rfl) ?_
      refine lv_iconst (v := -1) hx hb dX2_mendsUse_110 (by decide) ?_
      refine lv_icmp_eq (tgt := 126) hx hb dX2_mendsUse_111 (by decide) (fun c_111 => ?_) (fun c_111 => ?_)
      · have hw := hw.1 c_111
        exact tb_X2_mendsUse_126 C  L_103 f_103 a0 a1 a2 a3 r_96 r_103 hw H locs hP hD hS ls (lv_sub hl [3, 4, 5, 6, 1, 0] rfl)
      · have hw := hw.2 c_111
        refine lv_aload hx hb dX2_mendsUse_114 (lv_at hl 1 rfl) ?_
        refine lv_iload hx hb dX2_mendsUse_116 (lv_at hl 0 rfl) ?_
        obtain ⟨hO9, hw⟩ := hw
        have hFc := p_free hD hS hA
        refine va_calli (va_runV (As := [.int r_103]) (rest := []) ⟨hx, hb, hml, hown, hts⟩ (c_X5_takesEnding l dC dI dA zz base L_103 f_103 H.size r_96 r_103 _ hw) (cwV 1 hts gX2_mendsUse_X5_takesEnding rfl rfl rfl (by decide +kernel) ⟨by decide, by decide⟩) (pPreV [.int r_103] (ci := 6) rfl hO9 hK hP hD hS hB hz hN hT) rfl rfl hl.1 rfl (lv_room (Nat.le_of_ble_eq_true rfl)) dX2_mendsUse_118 ⟨by decide, by decide⟩) hS (fun q _ h => hFc q h) hFc (fun r_118 u t H1 locs ht hvm hw hB1 hz1 hk1 hS => ?_)
        obtain ⟨L_118, f_118⟩ := u
        obtain ⟨hP, -, hD1⟩ := hB1
        rw [ht] at hP
        have hw := id hw
        have hP : va_P (dC, dI) vwCl (va_pl L_118 f_118) H1 := hP
        have hD : va_D A (va_pl L_118 f_118) := p_gain hD1 hFc
        generalize H1 = H at hP hS ⊢
        refine lv_if_ne (tgt := 126) hx hb dX2_mendsUse_121 (by decide) (fun c_121 => ?_) (fun c_121 => ?_)
        · have hw := hw.1 c_121
          exact tb_X2_mendsUse_126 C  L_118 f_118 a0 a1 a2 a3 r_96 r_103 hw H locs hP hD hS ls (lv_sub hl [3, 4, 5, 6, 1, 0] rfl)
        · have hw := hw.2 c_121
          refine lv_iconst (v := 0) hx hb dX2_mendsUse_124 (by decide) ?_
          exact W.zret (v := (0 : Int32)) hx hb hr rfl (fun t ht hW => ⟨⟨(0 : Int32), (L_118, f_118), rfl, hw, by rw [ht]; exact hP, va_K.moved hW.alike hK, hD⟩, hS.F ht⟩) hS.2.2 dX2_mendsUse_125
    · have hw := hw.2 c_85
      refine lv_iconst (v := 0) hx hb dX2_mendsUse_88 (by decide) ?_
      exact W.zret (v := (0 : Int32)) hx hb hr rfl (fun t ht hW => ⟨⟨(0 : Int32), (L_82, f_82), rfl, hw, by rw [ht]; exact hP, va_K.moved hW.alike hK, hD⟩, hS.F ht⟩) hS.2.2 dX2_mendsUse_89
set_option maxHeartbeats 4000000 in
set_option maxRecDepth 100000 in
theorem tb_X2_mendsUse_64 {p : Program} {l : Launch} {e : Env} {s : State} {m : MethodId} {below : List Frame} {meth : Method} {c : Code} {args : Array Value} {dC : Nat → ClassId} {dI : Nat → Nat → Nat} {dA : Nat → ClassId} {zz : Nat → Nat} {base : Nat} {A : Nat → Prop} {Q : Int32 → List Nat → pF → Prop} (C : pCx p s m args meth c cX2_mendsUse 12 (some .boolean) RX2 wsX2_mendsUse A dC dI dA zz base) : ∀ (L : List Nat) (f : pF) (a0 : Nat) (a1 : Nat) (a2 : Nat) (a3 : Int32) (a6 : Int32), wp_X2_mendsUse_64 dA zz Q  L f a0 a1 a2 a3 a6 → pAt p l e rm_X2_mendsUse s m args below meth c dC dI A (MQ below (va_Qi (fun r (u : List Nat × pF) => Q r u.1 u.2) (pB dC dI dA A) A) args s 0 0 A) 0 0 64 12 [(0, .ref a0), (1, .ref a1), (2, .ref a2), (3, .int a3), (6, .int a6)] [] L f := by
  obtain ⟨hx, hb, hml, hown, hts, hr, hlocks, hA, hK, hB, hz, hN, hT⟩ := id C
  intro L f a0 a1 a2 a3 a6 hw H locs hP hD hS ls hl
  rw [wp_X2_mendsUse_64] at hw
  refine lv_iconst (v := 1) hx hb dX2_mendsUse_64 (by decide) ?_
  refine lv_goto (tgt := 69) hx hb dX2_mendsUse_65 (by decide) ?_
  exact tb_X2_mendsUse_69 C  L f a0 a1 a2 a3 a6 (1 : Int32) hw H locs hP hD hS ls (lv_sub hl [0, 1, 2, 3, 4] rfl)
set_option maxHeartbeats 4000000 in
set_option maxRecDepth 100000 in
theorem tb_X2_mendsUse_0 {p : Program} {l : Launch} {e : Env} {s : State} {m : MethodId} {below : List Frame} {meth : Method} {c : Code} {args : Array Value} {dC : Nat → ClassId} {dI : Nat → Nat → Nat} {dA : Nat → ClassId} {zz : Nat → Nat} {base : Nat} {A : Nat → Prop} {Q : Int32 → List Nat → pF → Prop} (C : pCx p s m args meth c cX2_mendsUse 12 (some .boolean) RX2 wsX2_mendsUse A dC dI dA zz base) : ∀ (L : List Nat) (f : pF) (a0 : Nat) (a1 : Nat) (a2 : Nat) (a3 : Int32), wp_X2_mendsUse_0 dA zz Q  L f a0 a1 a2 a3 → pAt p l e rm_X2_mendsUse s m args below meth c dC dI A (MQ below (va_Qi (fun r (u : List Nat × pF) => Q r u.1 u.2) (pB dC dI dA A) A) args s 0 0 A) 0 0 0 12 [(0, .ref a0), (1, .ref a1), (2, .ref a2), (3, .int a3)] [] L f := by
  obtain ⟨hx, hb, hml, hown, hts, hr, hlocks, hA, hK, hB, hz, hN, hT⟩ := id C
  intro L f a0 a1 a2 a3 hw H locs hP hD hS ls hl
  rw [wp_X2_mendsUse_0] at hw
  refine lv_aload_n hx hb dX2_mendsUse_0 rfl (lv_at hl 2 rfl) ?_
  refine lv_iload_n hx hb dX2_mendsUse_1 rfl (lv_at hl 3 rfl) ?_
  obtain ⟨hO9, hw⟩ := hw
  have hFc := p_free hD hS hA
  refine va_calli (va_runV (As := [.int a3]) (rest := []) ⟨hx, hb, hml, hown, hts⟩ (c_X6_termOf l dC dI dA zz base L f H.size a2 a3 _ hw) (cwV 1 hts gX2_mendsUse_X6_termOf rfl rfl rfl (by decide +kernel) ⟨by decide, by decide⟩) (pPreV [.int a3] (ci := 7) rfl hO9 hK hP hD hS hB hz hN hT) rfl rfl hl.1 rfl (lv_room (Nat.le_of_ble_eq_true rfl)) dX2_mendsUse_2 ⟨by decide, by decide⟩) hS (fun q _ h => hFc q h) hFc (fun r_2 u t H1 locs ht hvm hw hB1 hz1 hk1 hS => ?_)
  obtain ⟨L_2, f_2⟩ := u
  obtain ⟨hP, -, hD1⟩ := hB1
  rw [ht] at hP
  have hw := id hw
  have hP : va_P (dC, dI) vwCl (va_pl L_2 f_2) H1 := hP
  have hD : va_D A (va_pl L_2 f_2) := p_gain hD1 hFc
  generalize H1 = H at hP hS ⊢
  refine lv_istore (lv' := [(4, .int r_2), (0, .ref a0), (1, .ref a1), (2, .ref a2), (3, .int a3)]) hx hb dX2_mendsUse_5 hl (by decide) rfl (fun ls hl => ?_)
  refine lv_aload_n hx hb dX2_mendsUse_7 rfl (lv_at hl 1 rfl) ?_
  obtain ⟨fs_8, g_8, ⟨hL9, hf9, hn9⟩, hw⟩ := hw
  refine va_get (D := (dC, dI)) (ci := 3) (v := .ref g_8) (C := RX2) (T := TX2) (N := 3) hx hb hts iw_X2_mendsUse_RX2 hown hK (p_one hP hL9 hf9) 0 rfl rfl 0 (by decide) (hts _ lk_X2_mendsUse_20) (fun _ h9 => h9) hn9 dX2_mendsUse_8 ?_
  refine lv_iload hx hb dX2_mendsUse_11 (lv_at hl 0 rfl) ?_
  obtain ⟨hO9, hw⟩ := hw
  have hFc := p_free hD hS hA
  refine va_calli (va_runV (As := [.int r_2]) (rest := []) ⟨hx, hb, hml, hown, hts⟩ (c_X1_holdsTerm l dC dI dA zz base L_2 f_2 H.size g_8 r_2 _ hw) (cwV 1 hts gX2_mendsUse_X1_holdsTerm rfl rfl rfl (by decide +kernel) ⟨by decide, by decide⟩) (pPreV [.int r_2] (ci := 2) rfl hO9 hK hP hD hS hB hz hN hT) rfl rfl hl.1 rfl (lv_room (Nat.le_of_ble_eq_true rfl)) dX2_mendsUse_13 ⟨by decide, by decide⟩) hS (fun q _ h => hFc q h) hFc (fun r_13 u t H1 locs ht hvm hw hB1 hz1 hk1 hS => ?_)
  obtain ⟨L_13, f_13⟩ := u
  obtain ⟨hP, -, hD1⟩ := hB1
  rw [ht] at hP
  have hw := id hw
  have hP : va_P (dC, dI) vwCl (va_pl L_13 f_13) H1 := hP
  have hD : va_D A (va_pl L_13 f_13) := p_gain hD1 hFc
  generalize H1 = H at hP hS ⊢
  refine lv_if_ne (tgt := 21) hx hb dX2_mendsUse_16 (by decide) (fun c_16 => ?_) (fun c_16 => ?_)
  · have hw := hw.1 c_16
    refine lv_aload_n hx hb dX2_mendsUse_21 rfl (lv_at hl 1 rfl) ?_
    obtain ⟨fs_22, g_22, ⟨hL9, hf9, hn9⟩, hw⟩ := hw
    refine va_get (D := (dC, dI)) (ci := 3) (v := .ref g_22) (C := RX2) (T := TX2) (N := 3) hx hb hts iw_X2_mendsUse_RX2 hown hK (p_one hP hL9 hf9) 0 rfl rfl 0 (by decide) (hts _ lk_X2_mendsUse_20) (fun _ h9 => h9) hn9 dX2_mendsUse_22 ?_
    refine lv_iload hx hb dX2_mendsUse_25 (lv_at hl 0 rfl) ?_
    obtain ⟨hO9, hw⟩ := hw
    have hFc := p_free hD hS hA
    refine va_callr (va_runV (As := [.int r_2]) (rest := []) ⟨hx, hb, hml, hown, hts⟩ (c_X1_termAt l dC dI dA zz base L_13 f_13 H.size g_22 r_2 _ hw) (cwV 1 hts gX2_mendsUse_X1_termAt rfl rfl rfl (by decide +kernel) ⟨by decide, by decide⟩) (pPreV [.int r_2] (ci := 2) rfl hO9 hK hP hD hS hB hz hN hT) rfl rfl hl.1 rfl (lv_room (Nat.le_of_ble_eq_true rfl)) dX2_mendsUse_27 ⟨by decide, by decide⟩) hS (fun q _ h => hFc q h) hFc (fun u ra t H1 locs ht hvm hw hB1 hz1 hk1 hS => ?_)
    obtain ⟨r_27, L_27, f_27⟩ := u
    obtain ⟨hra, hP, -, hD1⟩ := hB1
    rw [show ra = r_27 from hra]
    rw [ht] at hP
    have hw := id hw
    have hP : va_P (dC, dI) vwCl (va_pl L_27 f_27) H1 := hP
    have hD : va_D A (va_pl L_27 f_27) := p_gain hD1 hFc
    generalize H1 = H at hP hS ⊢
    refine W.eq (g2 := F0 m 30 ls (.ref r_27 :: [])) rfl ?_
    refine lv_astore (lv' := [(5, .ref r_27), (4, .int r_2), (0, .ref a0), (1, .ref a1), (2, .ref a2), (3, .int a3)]) hx hb dX2_mendsUse_30 hl (by decide) rfl (fun ls hl => ?_)
    refine lv_aload_n hx hb dX2_mendsUse_32 rfl (lv_at hl 2 rfl) ?_
    obtain ⟨fs_33, g_33, ⟨hL9, hf9, hn9⟩, hw⟩ := hw
    refine va_get (D := (dC, dI)) (ci := 3) (v := .ref g_33) (C := RX2) (T := TX2) (N := 3) hx hb hts iw_X2_mendsUse_RX2 hown hK (p_one hP hL9 hf9) 0 rfl rfl 0 (by decide) (hts _ lk_X2_mendsUse_20) (fun _ h9 => h9) hn9 dX2_mendsUse_33 ?_
    refine lv_aload hx hb dX2_mendsUse_36 (lv_at hl 0 rfl) ?_
    obtain ⟨fs_38, g_38, ⟨hL9, hf9, hn9⟩, hw⟩ := hw
    refine va_get (D := (dC, dI)) (ci := 6) (v := .int g_38) (C := RX5) (T := TX5) (N := 5) hx hb hts iw_X2_mendsUse_RX5 hown hK (p_one hP hL9 hf9) 0 rfl rfl 2 (by decide) (hts _ lk_X2_mendsUse_52) (fun _ h9 => h9) hn9 dX2_mendsUse_38 ?_
    obtain ⟨hO9, hw⟩ := hw
    have hFc := p_free hD hS hA
    refine va_calli (va_runV (As := [.int g_38]) (rest := []) ⟨hx, hb, hml, hown, hts⟩ (c_X1_goodTermOf l dC dI dA zz base L_27 f_27 H.size g_33 g_38 _ hw) (cwV 1 hts gX2_mendsUse_X1_goodTermOf rfl rfl rfl (by decide +kernel) ⟨by decide, by decide⟩) (pPreV [.int g_38] (ci := 2) rfl hO9 hK hP hD hS hB hz hN hT) rfl rfl hl.1 rfl (lv_room (Nat.le_of_ble_eq_true rfl)) dX2_mendsUse_41 ⟨by decide, by decide⟩) hS (fun q _ h => hFc q h) hFc (fun r_41 u t H1 locs ht hvm hw hB1 hz1 hk1 hS => ?_)
    obtain ⟨L_41, f_41⟩ := u
    obtain ⟨hP, -, hD1⟩ := hB1
    rw [ht] at hP
    have hw := id hw
    have hP : va_P (dC, dI) vwCl (va_pl L_41 f_41) H1 := hP
    have hD : va_D A (va_pl L_41 f_41) := p_gain hD1 hFc
    generalize H1 = H at hP hS ⊢
    refine lv_istore (lv' := [(6, .int r_41), (5, .ref r_27), (4, .int r_2), (0, .ref a0), (1, .ref a1), (2, .ref a2), (3, .int a3)]) hx hb dX2_mendsUse_44 hl (by decide) rfl (fun ls hl => ?_)
    refine lv_aload hx hb dX2_mendsUse_46 (lv_at hl 1 rfl) ?_
    obtain ⟨fs_48, g_48, ⟨hL9, hf9, hn9⟩, hw⟩ := hw
    refine va_get (D := (dC, dI)) (ci := 6) (v := .int g_48) (C := RX5) (T := TX5) (N := 5) hx hb hts iw_X2_mendsUse_RX5 hown hK (p_one hP hL9 hf9) 0 rfl rfl 4 (by decide) (hts _ lk_X2_mendsUse_60) (fun _ h9 => h9) hn9 dX2_mendsUse_48 ?_
    refine lv_iconst (v := 1) hx hb dX2_mendsUse_51 (by decide) ?_
    refine lv_icmp_eq (tgt := 64) hx hb dX2_mendsUse_52 (by decide) (fun c_52 => ?_) (fun c_52 => ?_)
    · have hw := hw.1 c_52
      exact tb_X2_mendsUse_64 C  L_41 f_41 a0 a1 a2 a3 r_41 hw H locs hP hD hS ls (lv_sub hl [3, 4, 5, 6, 0] rfl)
    · have hw := hw.2 c_52
      refine lv_aload hx hb dX2_mendsUse_55 (lv_at hl 1 rfl) ?_
      obtain ⟨fs_57, g_57, ⟨hL9, hf9, hn9⟩, hw⟩ := hw
      refine va_get (D := (dC, dI)) (ci := 6) (v := .int g_57) (C := RX5) (T := TX5) (N := 5) hx hb hts iw_X2_mendsUse_RX5 hown hK (p_one hP hL9 hf9) 0 rfl rfl 4 (by decide) (hts _ lk_X2_mendsUse_60) (fun _ h9 => h9) hn9 dX2_mendsUse_57 ?_
      refine lv_iconst (v := 3) hx hb dX2_mendsUse_60 (by decide) ?_
      refine lv_icmp_ne (tgt := 68) hx hb dX2_mendsUse_61 (by decide) (fun c_61 => ?_) (fun c_61 => ?_)
      · have hw := hw.1 c_61
        refine lv_iconst (v := 0) hx hb dX2_mendsUse_68 (by decide) ?_
        exact tb_X2_mendsUse_69 C  L_41 f_41 a0 a1 a2 a3 r_41 (0 : Int32) hw H locs hP hD hS ls (lv_sub hl [3, 4, 5, 6, 0] rfl)
      · have hw := hw.2 c_61
        exact tb_X2_mendsUse_64 C  L_41 f_41 a0 a1 a2 a3 r_41 hw H locs hP hD hS ls (lv_sub hl [3, 4, 5, 6, 0] rfl)
  · have hw := hw.2 c_16
    refine lv_iconst (v := 0) hx hb dX2_mendsUse_19 (by decide) ?_
    exact W.zret (v := (0 : Int32)) hx hb hr rfl (fun t ht hW => ⟨⟨(0 : Int32), (L_13, f_13), rfl, hw, by rw [ht]; exact hP, va_K.moved hW.alike hK, hD⟩, hS.F ht⟩) hS.2.2 dX2_mendsUse_20
set_option maxHeartbeats 4000000 in
set_option maxRecDepth 100000 in
theorem c_X2_mendsUse (l : Launch) (dC : Nat → ClassId) (dI : Nat → Nat → Nat) (dA : Nat → ClassId) (zz : Nat → Nat) (base : Nat) (L : List Nat) (f : pF) (sz : Nat) (a0 : Nat) (a1 : Nat) (a2 : Nat) (a3 : Int32) (Q : Int32 → List Nat → pF → Prop) (hw : wp_X2_mendsUse_0 dA zz Q L f a0 a1 a2 a3) : Met l yX2_mendsUse wsX2_mendsUse rm_X2_mendsUse (va_Pc [.ref a0, .ref a1, .ref a2, .int a3] (pPre dC dI dA zz base L f sz)) (va_Qi (fun r (u : List Nat × pF) => Q r u.1 u.2) (pB dC dI dA (va_A (va_pl L f) sz)) (va_A (va_pl L f) sz)) 0 0 (va_A (va_pl L f) sz) := by
  refine Met.ofW (cc := cX2_mendsUse) (maxL := 12) (ret := (some .boolean)) (by decide) rfl ?_
  intro p e s m args below meth c s₁ B hml hv
  obtain ⟨rfl, hsz, hP, hK, hD0, hz, hN, hT⟩ := hv
  subst hsz
  have hl := lv_entry ([.ref a0, .ref a1, .ref a2, .int a3]) (n := 12) (Nat.le_of_ble_eq_true rfl)
  rw [lg_entry_eq]
  generalize (lg_sl ([.ref a0, .ref a1, .ref a2, .int a3]) ++ List.replicate (12 - (lg_sl ([.ref a0, .ref a1, .ref a2, .int a3])).length) Slot.unset).toArray = ls at hl ⊢
  exact tb_X2_mendsUse_0 (Q := Q) (p := p) ⟨B.exec, B.bytes, hml, findClass_of_methodNamed B.named, atoms_spec (ws := wsX2_mendsUse) B.pre, B.returns, B.notSynchronized, fun q h => Or.inr h, hK, pAB hD0 hz, hz, hN, hT⟩ L f a0 a1 a2 a3 hw s.heap [] hP (hD0.self (sz := s.heap.size)) va_S.rf ls (lv_sub hl [0, 1, 2, 3] rfl)
abbrev rm_X2_mendsFirst : Room := { frames := 5, cells := 0, slots := 0, locals := 120 }
def wp_X2_mendsFirst_2 (dA : Nat → ClassId) (zz : Nat → Nat) (Q : Int32 → List Nat → pF → Prop) : Nat → List Nat → pF → Nat → Nat → Nat → Int32 → Prop
  | 0, _, _, _, _, _, _ => False
  | n + 1, L, f, a0, a1, a2, a3 =>
    (isO L f 7 a2 ∧
      (wp_X6_size_0 dA zz (fun r_4 L_4 f_4 =>
        ((r_4 ≤ a3 →
          (Q (0 : Int32) L_4 f_4))
         ∧ (¬ r_4 ≤ a3 →
          (isO L_4 f_4 3 a0 ∧
            (wp_X2_mendsUse_0 dA zz (fun r_14 L_14 f_14 =>
              ((r_14 = 0 →
                (∀ v3_22 : Int32, v3_22 = a3 + (1 : Int32) →
                  ((wp_X2_mendsFirst_2 dA zz Q  n) L_14 f_14 a0 a1 a2 v3_22)))
               ∧ (¬ r_14 = 0 →
                (Q (1 : Int32) L_14 f_14)))) L_4 f_4 a0 a1 a2 a3))))) L f a2 ))
def wp_X2_mendsFirst_0 (dA : Nat → ClassId) (zz : Nat → Nat) (Q : Int32 → List Nat → pF → Prop) (L : List Nat) (f : pF) (a0 : Nat) (a1 : Nat) (a2 : Nat) : Prop :=
    (∃ n9 : Nat, wp_X2_mendsFirst_2 dA zz Q  n9 L f a0 a1 a2 (0 : Int32))
set_option maxHeartbeats 4000000 in
set_option maxRecDepth 100000 in
theorem tb_X2_mendsFirst_2 {p : Program} {l : Launch} {e : Env} {s : State} {m : MethodId} {below : List Frame} {meth : Method} {c : Code} {args : Array Value} {dC : Nat → ClassId} {dI : Nat → Nat → Nat} {dA : Nat → ClassId} {zz : Nat → Nat} {base : Nat} {A : Nat → Prop} {Q : Int32 → List Nat → pF → Prop} (C : pCx p s m args meth c cX2_mendsFirst 4 (some .boolean) RX2 wsX2_mendsFirst A dC dI dA zz base) : ∀ (n : Nat) (L : List Nat) (f : pF) (a0 : Nat) (a1 : Nat) (a2 : Nat) (a3 : Int32), wp_X2_mendsFirst_2 dA zz Q  n L f a0 a1 a2 a3 → pAt p l e rm_X2_mendsFirst s m args below meth c dC dI A (MQ below (va_Qi (fun r (u : List Nat × pF) => Q r u.1 u.2) (pB dC dI dA A) A) args s 0 0 A) 0 0 2 4 [(0, .ref a0), (1, .ref a1), (2, .ref a2), (3, .int a3)] [] L f := by
  obtain ⟨hx, hb, hml, hown, hts, hr, hlocks, hA, hK, hB, hz, hN, hT⟩ := id C
  intro n
  induction n with
  | zero => intro L f a0 a1 a2 a3 hw; exact hw.elim
  | succ n ih =>
    intro L f a0 a1 a2 a3 hw H locs hP hD hS ls hl
    rw [wp_X2_mendsFirst_2] at hw
    refine lv_iload_n hx hb dX2_mendsFirst_2 rfl (lv_at hl 3 rfl) ?_
    refine lv_aload_n hx hb dX2_mendsFirst_3 rfl (lv_at hl 2 rfl) ?_
    obtain ⟨hO9, hw⟩ := hw
    have hFc := p_free hD hS hA
    refine va_calli (va_runV (As := []) (rest := [.int a3]) ⟨hx, hb, hml, hown, hts⟩ (c_X6_size l dC dI dA zz base L f H.size a2  _ hw) (cwV 0 hts gX2_mendsFirst_X6_size rfl rfl rfl (by decide +kernel) ⟨by decide, by decide⟩) (pPreV [] (ci := 7) rfl hO9 hK hP hD hS hB hz hN hT) rfl rfl hl.1 rfl (lv_room (Nat.le_of_ble_eq_true rfl)) dX2_mendsFirst_4 ⟨by decide, by decide⟩) hS (fun q _ h => hFc q h) hFc (fun r_4 u t H1 locs ht hvm hw hB1 hz1 hk1 hS => ?_)
    obtain ⟨L_4, f_4⟩ := u
    obtain ⟨hP, -, hD1⟩ := hB1
    rw [ht] at hP
    have hw := id hw
    have hP : va_P (dC, dI) vwCl (va_pl L_4 f_4) H1 := hP
    have hD : va_D A (va_pl L_4 f_4) := p_gain hD1 hFc
    generalize H1 = H at hP hS ⊢
    refine lv_icmp_ge (tgt := 28) hx hb dX2_mendsFirst_7 (by decide) (fun c_7 => ?_) (fun c_7 => ?_)
    · have hw := hw.1 c_7
      refine lv_iconst (v := 0) hx hb dX2_mendsFirst_28 (by decide) ?_
      exact W.zret (v := (0 : Int32)) hx hb hr rfl (fun t ht hW => ⟨⟨(0 : Int32), (L_4, f_4), rfl, hw, by rw [ht]; exact hP, va_K.moved hW.alike hK, hD⟩, hS.F ht⟩) hS.2.2 dX2_mendsFirst_29
    · have hw := hw.2 c_7
      refine lv_aload_n hx hb dX2_mendsFirst_10 rfl (lv_at hl 0 rfl) ?_
      refine lv_aload_n hx hb dX2_mendsFirst_11 rfl (lv_at hl 1 rfl) ?_
      refine lv_aload_n hx hb dX2_mendsFirst_12 rfl (lv_at hl 2 rfl) ?_
      refine lv_iload_n hx hb dX2_mendsFirst_13 rfl (lv_at hl 3 rfl) ?_
      obtain ⟨hO9, hw⟩ := hw
      have hFc := p_free hD hS hA
      refine va_calli (va_runV (As := [.ref a1, .ref a2, .int a3]) (rest := []) ⟨hx, hb, hml, hown, hts⟩ (c_X2_mendsUse l dC dI dA zz base L_4 f_4 H.size a0 a1 a2 a3 _ hw) (cwV 3 hts gX2_mendsFirst_X2_mendsUse rfl rfl rfl (by decide +kernel) ⟨by decide, by decide⟩) (pPreV [.ref a1, .ref a2, .int a3] (ci := 3) rfl hO9 hK hP hD hS hB hz hN hT) rfl rfl hl.1 rfl (lv_room (Nat.le_of_ble_eq_true rfl)) dX2_mendsFirst_14 ⟨by decide, by decide⟩) hS (fun q _ h => hFc q h) hFc (fun r_14 u t H1 locs ht hvm hw hB1 hz1 hk1 hS => ?_)
      obtain ⟨L_14, f_14⟩ := u
      obtain ⟨hP, -, hD1⟩ := hB1
      rw [ht] at hP
      have hw := id hw
      have hP : va_P (dC, dI) vwCl (va_pl L_14 f_14) H1 := hP
      have hD : va_D A (va_pl L_14 f_14) := p_gain hD1 hFc
      generalize H1 = H at hP hS ⊢
      refine lv_if_eq (tgt := 22) hx hb dX2_mendsFirst_17 (by decide) (fun c_17 => ?_) (fun c_17 => ?_)
      · have hw := hw.1 c_17
        obtain ⟨v3_22, ev3_22⟩ : ∃ y : Int32, y = a3 + (1 : Int32) := ⟨_, rfl⟩
        have hw := hw v3_22 ev3_22
        refine lv_iinc (v := v3_22) (lv' := [(3, .int v3_22), (0, .ref a0), (1, .ref a1), (2, .ref a2)]) hx hb dX2_mendsFirst_22 hl (k := 3) rfl (by rw [ev3_22]; rfl) (by decide) rfl (fun ls hl => ?_)
        refine lv_goto (tgt := 2) hx hb dX2_mendsFirst_25 (by decide) ?_
        exact ih L_14 f_14 a0 a1 a2 v3_22 hw H locs hP hD hS ls (lv_sub hl [1, 2, 3, 0] rfl)
      · have hw := hw.2 c_17
        refine lv_iconst (v := 1) hx hb dX2_mendsFirst_20 (by decide) ?_
        exact W.zret (v := (1 : Int32)) hx hb hr rfl (fun t ht hW => ⟨⟨(1 : Int32), (L_14, f_14), rfl, hw, by rw [ht]; exact hP, va_K.moved hW.alike hK, hD⟩, hS.F ht⟩) hS.2.2 dX2_mendsFirst_21
set_option maxHeartbeats 4000000 in
set_option maxRecDepth 100000 in
theorem tb_X2_mendsFirst_0 {p : Program} {l : Launch} {e : Env} {s : State} {m : MethodId} {below : List Frame} {meth : Method} {c : Code} {args : Array Value} {dC : Nat → ClassId} {dI : Nat → Nat → Nat} {dA : Nat → ClassId} {zz : Nat → Nat} {base : Nat} {A : Nat → Prop} {Q : Int32 → List Nat → pF → Prop} (C : pCx p s m args meth c cX2_mendsFirst 4 (some .boolean) RX2 wsX2_mendsFirst A dC dI dA zz base) : ∀ (L : List Nat) (f : pF) (a0 : Nat) (a1 : Nat) (a2 : Nat), wp_X2_mendsFirst_0 dA zz Q  L f a0 a1 a2 → pAt p l e rm_X2_mendsFirst s m args below meth c dC dI A (MQ below (va_Qi (fun r (u : List Nat × pF) => Q r u.1 u.2) (pB dC dI dA A) A) args s 0 0 A) 0 0 0 4 [(0, .ref a0), (1, .ref a1), (2, .ref a2)] [] L f := by
  obtain ⟨hx, hb, hml, hown, hts, hr, hlocks, hA, hK, hB, hz, hN, hT⟩ := id C
  intro L f a0 a1 a2 hw H locs hP hD hS ls hl
  rw [wp_X2_mendsFirst_0] at hw
  refine lv_iconst (v := 0) hx hb dX2_mendsFirst_0 (by decide) ?_
  refine lv_istore_n (lv' := [(3, .int (0 : Int32)), (0, .ref a0), (1, .ref a1), (2, .ref a2)]) hx hb dX2_mendsFirst_1 rfl hl (by decide) rfl (fun ls hl => ?_)
  obtain ⟨n9, hw⟩ := hw
  exact tb_X2_mendsFirst_2 C  n9 L f a0 a1 a2 (0 : Int32) hw H locs hP hD hS ls (lv_sub hl [1, 2, 3, 0] rfl)
set_option maxHeartbeats 4000000 in
set_option maxRecDepth 100000 in
theorem c_X2_mendsFirst (l : Launch) (dC : Nat → ClassId) (dI : Nat → Nat → Nat) (dA : Nat → ClassId) (zz : Nat → Nat) (base : Nat) (L : List Nat) (f : pF) (sz : Nat) (a0 : Nat) (a1 : Nat) (a2 : Nat) (Q : Int32 → List Nat → pF → Prop) (hw : wp_X2_mendsFirst_0 dA zz Q L f a0 a1 a2) : Met l yX2_mendsFirst wsX2_mendsFirst rm_X2_mendsFirst (va_Pc [.ref a0, .ref a1, .ref a2] (pPre dC dI dA zz base L f sz)) (va_Qi (fun r (u : List Nat × pF) => Q r u.1 u.2) (pB dC dI dA (va_A (va_pl L f) sz)) (va_A (va_pl L f) sz)) 0 0 (va_A (va_pl L f) sz) := by
  refine Met.ofW (cc := cX2_mendsFirst) (maxL := 4) (ret := (some .boolean)) (by decide) rfl ?_
  intro p e s m args below meth c s₁ B hml hv
  obtain ⟨rfl, hsz, hP, hK, hD0, hz, hN, hT⟩ := hv
  subst hsz
  have hl := lv_entry ([.ref a0, .ref a1, .ref a2]) (n := 4) (Nat.le_of_ble_eq_true rfl)
  rw [lg_entry_eq]
  generalize (lg_sl ([.ref a0, .ref a1, .ref a2]) ++ List.replicate (4 - (lg_sl ([.ref a0, .ref a1, .ref a2])).length) Slot.unset).toArray = ls at hl ⊢
  exact tb_X2_mendsFirst_0 (Q := Q) (p := p) ⟨B.exec, B.bytes, hml, findClass_of_methodNamed B.named, atoms_spec (ws := wsX2_mendsFirst) B.pre, B.returns, B.notSynchronized, fun q h => Or.inr h, hK, pAB hD0 hz, hz, hN, hT⟩ L f a0 a1 a2 hw s.heap [] hP (hD0.self (sz := s.heap.size)) va_S.rf ls (lv_sub hl [0, 1, 2] rfl)
