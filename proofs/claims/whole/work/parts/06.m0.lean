theorem iw_X9_thrown : ∀ w ∈ u_ws RX9 TX9 38, w ∈ wsX9_thrown := fun w h => List.mem_cons_of_mem _ (by first | exact List.mem_append_right _ h | decide +kernel +revert)
theorem lk_X9_thrown_105 : Cond.fieldLink RX9 105 "TermKeeperModel" "thrown" "I" ∈ wsX9_thrown := by decide +kernel
abbrev rm_X9_thrown : Room := { frames := 0, cells := 0, slots := 0, locals := 0 }
def wp_X9_thrown_0 (Q : Int32 → mS → mG → Prop) (S : mS) (G : mG) : Prop :=
    (Q (S 0 0) S G)
set_option maxHeartbeats 4000000 in
set_option maxRecDepth 100000 in
theorem tb_X9_thrown_0 {p : Program} {l : Launch} {e : Env} {s : State} {m : MethodId} {below : List Frame} {meth : Method} {c : Code} {args : Array Value} {dC : Nat → ClassId} {dI : Nat → Nat → Nat} {cI cJ cZ : ClassId} {o : Nat} {ad : Nat → Nat} {A : Nat → Prop} {Q : Int32 → mS → mG → Prop} (C : mCx p s m args meth c cX9_thrown 1 (some .int) wsX9_thrown A dC dI cI cJ cZ) : ∀ (S : mS) (G : mG) , wp_X9_thrown_0 Q  S G  → mAt p l e rm_X9_thrown s m args below meth c dC dI cI cJ cZ o ad A (MQ below (va_Qi (fun r (u : mS × mG) => Q r u.1 u.2) (mB dC dI cI cJ cZ o ad A) A) args s 0 0 A) 0 1 [(0, .ref o)] [] S G := by
  obtain ⟨hx, hb, hml, hown, hts, hr, hlocks, hA, hK⟩ := id C
  intro S G  hw H locs hP hD hS ls hl
  rw [wp_X9_thrown_0] at hw
  refine lv_aload_n hx hb dX9_thrown_0 rfl (lv_at hl 0 rfl) ?_
  refine va_get (D := (dC, dI)) (ci := 10) (v := .int (S 0 0)) (C := RX9) (T := TX9) (N := 38) hx hb hts iw_X9_thrown hown hK hP 0 rfl rfl 0 (by decide) (hts _ lk_X9_thrown_105) (fun _ h9 => h9) rfl dX9_thrown_1 ?_
  exact W.iret (v := (S 0 0)) hx hb hr (fun t ht hW => ⟨⟨(S 0 0), (S, G), rfl, hw, by rw [ht]; exact hP, va_K.moved hW.alike hK, hD⟩, hS.F ht⟩) hS.2.2 dX9_thrown_4
set_option maxHeartbeats 4000000 in
set_option maxRecDepth 100000 in
theorem c_X9_thrown (l : Launch) (dC : Nat → ClassId) (dI : Nat → Nat → Nat) (cI cJ cZ : ClassId) (o : Nat) (ad : Nat → Nat) (S : mS) (G : mG) (sz : Nat)  (Q : Int32 → mS → mG → Prop) (hw : wp_X9_thrown_0 Q S G ) : Met l yX9_thrown wsX9_thrown rm_X9_thrown (va_Pc [.ref o] (mPre dC dI cI cJ cZ o ad S G sz)) (va_Qi (fun r (u : mS × mG) => Q r u.1 u.2) (mB dC dI cI cJ cZ o ad (mA cI cJ cZ o ad S G sz)) (mA cI cJ cZ o ad S G sz)) 0 0 (mA cI cJ cZ o ad S G sz) := by
  refine Met.ofW (cc := cX9_thrown) (maxL := 1) (ret := (some .int)) (by decide) rfl ?_
  intro p e s m args below meth c s₁ B hml hv
  obtain ⟨rfl, hsz, hP, hK, hD0⟩ := hv
  subst hsz
  have hl := lv_entry ([.ref o]) (n := 1) (Nat.le_of_ble_eq_true rfl)
  rw [lg_entry_eq]
  generalize (lg_sl ([.ref o]) ++ List.replicate (1 - (lg_sl ([.ref o])).length) Slot.unset).toArray = ls at hl ⊢
  exact tb_X9_thrown_0 (Q := Q) (p := p) ⟨B.exec, B.bytes, hml, findClass_of_methodNamed B.named, atoms_spec (ws := wsX9_thrown) B.pre, B.returns, B.notSynchronized, fun q h => Or.inr h, hK⟩ S G  hw s.heap [] hP (hD0.self (sz := s.heap.size)) va_S.rf ls hl
theorem iw_X9_right : ∀ w ∈ u_ws RX9 TX9 38, w ∈ wsX9_right := fun w h => List.mem_cons_of_mem _ (by first | exact List.mem_append_right _ h | decide +kernel +revert)
theorem lk_X9_right_105 : Cond.fieldLink RX9 105 "TermKeeperModel" "thrown" "I" ∈ wsX9_right := by decide +kernel
abbrev rm_X9_right : Room := { frames := 0, cells := 0, slots := 0, locals := 0 }
def wp_X9_right_16 (Q : Int32 → mS → mG → Prop) (S : mS) (G : mG) : Prop :=
    ((¬ (S 0 0) = 0 →
      (Q (0 : Int32) S G))
     ∧ ((S 0 0) = 0 →
      (Q (1 : Int32) S G)))
def wp_X9_right_0 (Q : Int32 → mS → mG → Prop) (S : mS) (G : mG) (a1 : Int32) (a2 : Int32) : Prop :=
    ((¬ (S 0 0) = 0 →
      (wp_X9_right_16 Q  S G ))
     ∧ ((S 0 0) = 0 →
      ((¬ a1 = 0 →
        (wp_X9_right_16 Q  S G ))
       ∧ (a1 = 0 →
        (∀ S_13 : mS, S_13 = mst S 0 0 a2 →
          (wp_X9_right_16 Q  S_13 G ))))))
set_option maxHeartbeats 4000000 in
set_option maxRecDepth 100000 in
theorem tb_X9_right_16 {p : Program} {l : Launch} {e : Env} {s : State} {m : MethodId} {below : List Frame} {meth : Method} {c : Code} {args : Array Value} {dC : Nat → ClassId} {dI : Nat → Nat → Nat} {cI cJ cZ : ClassId} {o : Nat} {ad : Nat → Nat} {A : Nat → Prop} {Q : Int32 → mS → mG → Prop} (C : mCx p s m args meth c cX9_right 3 (some .boolean) wsX9_right A dC dI cI cJ cZ) : ∀ (S : mS) (G : mG) , wp_X9_right_16 Q  S G  → mAt p l e rm_X9_right s m args below meth c dC dI cI cJ cZ o ad A (MQ below (va_Qi (fun r (u : mS × mG) => Q r u.1 u.2) (mB dC dI cI cJ cZ o ad A) A) args s 0 0 A) 16 3 [(0, .ref o)] [] S G := by
  obtain ⟨hx, hb, hml, hown, hts, hr, hlocks, hA, hK⟩ := id C
  intro S G  hw H locs hP hD hS ls hl
  rw [wp_X9_right_16] at hw
  refine lv_aload_n hx hb dX9_right_16 rfl (lv_at hl 0 rfl) ?_
  refine va_get (D := (dC, dI)) (ci := 10) (v := .int (S 0 0)) (C := RX9) (T := TX9) (N := 38) hx hb hts iw_X9_right hown hK hP 0 rfl rfl 0 (by decide) (hts _ lk_X9_right_105) (fun _ h9 => h9) rfl dX9_right_17 ?_
  refine lv_if_ne (tgt := 27) hx hb dX9_right_20 (by decide) (fun c_20 => ?_) (fun c_20 => ?_)
  · have hw := hw.1 c_20
    refine lv_iconst (v := 0) hx hb dX9_right_27 (by decide) ?_
    exact W.zret (v := (0 : Int32)) hx hb hr rfl (fun t ht hW => ⟨⟨(0 : Int32), (S, G), rfl, hw, by rw [ht]; exact hP, va_K.moved hW.alike hK, hD⟩, hS.F ht⟩) hS.2.2 dX9_right_28
  · have hw := hw.2 c_20
    refine lv_iconst (v := 1) hx hb dX9_right_23 (by decide) ?_
    refine lv_goto (tgt := 28) hx hb dX9_right_24 (by decide) ?_
    exact W.zret (v := (1 : Int32)) hx hb hr rfl (fun t ht hW => ⟨⟨(1 : Int32), (S, G), rfl, hw, by rw [ht]; exact hP, va_K.moved hW.alike hK, hD⟩, hS.F ht⟩) hS.2.2 dX9_right_28
set_option maxHeartbeats 4000000 in
set_option maxRecDepth 100000 in
theorem tb_X9_right_0 {p : Program} {l : Launch} {e : Env} {s : State} {m : MethodId} {below : List Frame} {meth : Method} {c : Code} {args : Array Value} {dC : Nat → ClassId} {dI : Nat → Nat → Nat} {cI cJ cZ : ClassId} {o : Nat} {ad : Nat → Nat} {A : Nat → Prop} {Q : Int32 → mS → mG → Prop} (C : mCx p s m args meth c cX9_right 3 (some .boolean) wsX9_right A dC dI cI cJ cZ) : ∀ (S : mS) (G : mG) (a1 : Int32) (a2 : Int32), wp_X9_right_0 Q  S G a1 a2 → mAt p l e rm_X9_right s m args below meth c dC dI cI cJ cZ o ad A (MQ below (va_Qi (fun r (u : mS × mG) => Q r u.1 u.2) (mB dC dI cI cJ cZ o ad A) A) args s 0 0 A) 0 3 [(0, .ref o), (1, .int a1), (2, .int a2)] [] S G := by
  obtain ⟨hx, hb, hml, hown, hts, hr, hlocks, hA, hK⟩ := id C
  intro S G a1 a2 hw H locs hP hD hS ls hl
  rw [wp_X9_right_0] at hw
  refine lv_aload_n hx hb dX9_right_0 rfl (lv_at hl 0 rfl) ?_
  refine va_get (D := (dC, dI)) (ci := 10) (v := .int (S 0 0)) (C := RX9) (T := TX9) (N := 38) hx hb hts iw_X9_right hown hK hP 0 rfl rfl 0 (by decide) (hts _ lk_X9_right_105) (fun _ h9 => h9) rfl dX9_right_1 ?_
  refine lv_if_ne (tgt := 16) hx hb dX9_right_4 (by decide) (fun c_4 => ?_) (fun c_4 => ?_)
  · have hw := hw.1 c_4
    exact tb_X9_right_16 C  S G  hw H locs hP hD hS ls (lv_sub hl [0] rfl)
  · have hw := hw.2 c_4
    refine lv_iload_n hx hb dX9_right_7 rfl (lv_at hl 1 rfl) ?_
    refine lv_if_ne (tgt := 16) hx hb dX9_right_8 (by decide) (fun c_8 => ?_) (fun c_8 => ?_)
    · have hw := hw.1 c_8
      exact tb_X9_right_16 C  S G  hw H locs hP hD hS ls (lv_sub hl [0] rfl)
    · have hw := hw.2 c_8
      refine lv_aload_n hx hb dX9_right_11 rfl (lv_at hl 0 rfl) ?_
      refine lv_iload_n hx hb dX9_right_12 rfl (lv_at hl 2 rfl) ?_
      refine va_put (D := (dC, dI)) (ci := 10) (v := .int a2) (C := RX9) (T := TX9) (N := 38) hx hb hts iw_X9_right tyX9 tyX9_ok nmX9 hown hK hP hD hS 0 rfl rfl 0 (by decide) (hts _ lk_X9_right_105) (fun _ h9 => h9) rfl (tyX9_ok 0 (by decide)) rfl rfl (Nat.le_of_ble_eq_true rfl) dX9_right_13 (fun H locs hP hD hS => ?_)
      obtain ⟨S_13, eS_13⟩ : ∃ y : mS, y = mst S 0 0 a2 := ⟨_, rfl⟩
      have hw := hw S_13 eS_13
      have hP : va_P (dC, dI) vwCl (mW cI cJ cZ o ad S_13 G) H := by rw [eS_13]; exact hP
      have hD : va_D A (mW cI cJ cZ o ad S_13 G) := by rw [eS_13]; exact hD
      exact tb_X9_right_16 C  S_13 G  hw H locs hP hD hS ls (lv_sub hl [0] rfl)
set_option maxHeartbeats 4000000 in
set_option maxRecDepth 100000 in
theorem c_X9_right (l : Launch) (dC : Nat → ClassId) (dI : Nat → Nat → Nat) (cI cJ cZ : ClassId) (o : Nat) (ad : Nat → Nat) (S : mS) (G : mG) (sz : Nat) (a1 : Int32) (a2 : Int32) (Q : Int32 → mS → mG → Prop) (hw : wp_X9_right_0 Q S G a1 a2) : Met l yX9_right wsX9_right rm_X9_right (va_Pc [.ref o, .int a1, .int a2] (mPre dC dI cI cJ cZ o ad S G sz)) (va_Qi (fun r (u : mS × mG) => Q r u.1 u.2) (mB dC dI cI cJ cZ o ad (mA cI cJ cZ o ad S G sz)) (mA cI cJ cZ o ad S G sz)) 0 0 (mA cI cJ cZ o ad S G sz) := by
  refine Met.ofW (cc := cX9_right) (maxL := 3) (ret := (some .boolean)) (by decide) rfl ?_
  intro p e s m args below meth c s₁ B hml hv
  obtain ⟨rfl, hsz, hP, hK, hD0⟩ := hv
  subst hsz
  have hl := lv_entry ([.ref o, .int a1, .int a2]) (n := 3) (Nat.le_of_ble_eq_true rfl)
  rw [lg_entry_eq]
  generalize (lg_sl ([.ref o, .int a1, .int a2]) ++ List.replicate (3 - (lg_sl ([.ref o, .int a1, .int a2])).length) Slot.unset).toArray = ls at hl ⊢
  exact tb_X9_right_0 (Q := Q) (p := p) ⟨B.exec, B.bytes, hml, findClass_of_methodNamed B.named, atoms_spec (ws := wsX9_right) B.pre, B.returns, B.notSynchronized, fun q h => Or.inr h, hK⟩ S G a1 a2 hw s.heap [] hP (hD0.self (sz := s.heap.size)) va_S.rf ls hl
theorem iw_X9_letter : ∀ w ∈ u_ws RX9 TX9 38, w ∈ wsX9_letter := fun w h => List.mem_cons_of_mem _ (by first | exact List.mem_append_right _ h | decide +kernel +revert)
theorem lk_X9_letter_7 : Cond.fieldLink RX9 7 "TermKeeperModel" "wait" "[I" ∈ wsX9_letter := by decide +kernel
theorem lk_X9_letter_105 : Cond.fieldLink RX9 105 "TermKeeperModel" "thrown" "I" ∈ wsX9_letter := by decide +kernel
theorem lk_X9_letter_109 : Cond.fieldLink RX9 109 "TermKeeperModel" "waiting" "I" ∈ wsX9_letter := by decide +kernel
abbrev rm_X9_letter : Room := { frames := 0, cells := 0, slots := 0, locals := 0 }
def wp_X9_letter_47 (Q : Int32 → mS → mG → Prop) (S : mS) (G : mG) (k0 : Int32) (k1 : Int32) : Prop :=
    (vp_in k1 40 ∧ ∀ S_47 : mS, S_47 = mst S 2 (Int32.toNatClampNeg k1) k0 →
      (∀ S_55 : mS, S_55 = mst S_47 1 0 ((S_47 1 0) + (1 : Int32)) →
        (Q (S_55 1 0) S_55 G)))
def wp_X9_letter_0 (Q : Int32 → mS → mG → Prop) (S : mS) (G : mG) (a1 : Int32) : Prop :=
    (∀ S_2 : mS, S_2 = mst S 0 0 (0 : Int32) →
      (((S_2 1 0) = (40 : Int32) →
        (Q (-1 : Int32) S_2 G))
       ∧ (¬ (S_2 1 0) = (40 : Int32) →
        ((a1 < 0 →
          (Q (-1 : Int32) S_2 G))
         ∧ (¬ a1 < 0 →
          ((a1 ≤ (26 : Int32) →
            ((¬ a1 = (26 : Int32) →
              (wp_X9_letter_47 Q  S_2 G (a1 + (1 : Int32)) (S_2 1 0)))
             ∧ (a1 = (26 : Int32) →
              (wp_X9_letter_47 Q  S_2 G (0 : Int32) (S_2 1 0)))))
           ∧ (¬ a1 ≤ (26 : Int32) →
            (Q (-1 : Int32) S_2 G))))))))
set_option maxHeartbeats 4000000 in
set_option maxRecDepth 100000 in
theorem tb_X9_letter_47 {p : Program} {l : Launch} {e : Env} {s : State} {m : MethodId} {below : List Frame} {meth : Method} {c : Code} {args : Array Value} {dC : Nat → ClassId} {dI : Nat → Nat → Nat} {cI cJ cZ : ClassId} {o : Nat} {ad : Nat → Nat} {A : Nat → Prop} {Q : Int32 → mS → mG → Prop} (C : mCx p s m args meth c cX9_letter 2 (some .int) wsX9_letter A dC dI cI cJ cZ) : ∀ (S : mS) (G : mG) (k0 : Int32) (k1 : Int32), wp_X9_letter_47 Q  S G k0 k1 → mAt p l e rm_X9_letter s m args below meth c dC dI cI cJ cZ o ad A (MQ below (va_Qi (fun r (u : mS × mG) => Q r u.1 u.2) (mB dC dI cI cJ cZ o ad A) A) args s 0 0 A) 47 2 [(0, .ref o)] [.int k0, .int k1, .ref (ad 2)] S G := by
  obtain ⟨hx, hb, hml, hown, hts, hr, hlocks, hA, hK⟩ := id C
  intro S G k0 k1 hw H locs hP hD hS ls hl
  rw [wp_X9_letter_47] at hw
  refine va_iast hx hb hK hP hD hS 1 0 rfl rfl hw.1 dX9_letter_47 (fun H locs hP hD hS => ?_)
  obtain ⟨S_47, eS_47⟩ : ∃ y : mS, y = mst S 2 (Int32.toNatClampNeg k1) k0 := ⟨_, rfl⟩
  have hw := hw.2 S_47 eS_47
  have hP : va_P (dC, dI) vwCl (mW cI cJ cZ o ad S_47 G) H := by rw [eS_47]; exact hP
  have hD : va_D A (mW cI cJ cZ o ad S_47 G) := by rw [eS_47]; exact hD
  refine lv_aload_n hx hb dX9_letter_48 rfl (lv_at hl 0 rfl) ?_
  refine lv_dup hx hb dX9_letter_49 rfl ?_
  refine va_get (D := (dC, dI)) (ci := 10) (v := .int (S_47 1 0)) (C := RX9) (T := TX9) (N := 38) hx hb hts iw_X9_letter hown hK hP 0 rfl rfl 1 (by decide) (hts _ lk_X9_letter_109) (fun _ h9 => h9) rfl dX9_letter_50 ?_
  refine lv_iconst (v := 1) hx hb dX9_letter_53 (by decide) ?_
  refine lv_iadd hx hb dX9_letter_54 ?_
  refine va_put (D := (dC, dI)) (ci := 10) (v := .int ((S_47 1 0) + (1 : Int32))) (C := RX9) (T := TX9) (N := 38) hx hb hts iw_X9_letter tyX9 tyX9_ok nmX9 hown hK hP hD hS 0 rfl rfl 1 (by decide) (hts _ lk_X9_letter_109) (fun _ h9 => h9) rfl (tyX9_ok 1 (by decide)) rfl rfl (Nat.le_of_ble_eq_true rfl) dX9_letter_55 (fun H locs hP hD hS => ?_)
  obtain ⟨S_55, eS_55⟩ : ∃ y : mS, y = mst S_47 1 0 ((S_47 1 0) + (1 : Int32)) := ⟨_, rfl⟩
  have hw := hw S_55 eS_55
  have hP : va_P (dC, dI) vwCl (mW cI cJ cZ o ad S_55 G) H := by rw [eS_55]; exact hP
  have hD : va_D A (mW cI cJ cZ o ad S_55 G) := by rw [eS_55]; exact hD
  refine lv_aload_n hx hb dX9_letter_58 rfl (lv_at hl 0 rfl) ?_
  refine va_get (D := (dC, dI)) (ci := 10) (v := .int (S_55 1 0)) (C := RX9) (T := TX9) (N := 38) hx hb hts iw_X9_letter hown hK hP 0 rfl rfl 1 (by decide) (hts _ lk_X9_letter_109) (fun _ h9 => h9) rfl dX9_letter_59 ?_
  exact W.iret (v := (S_55 1 0)) hx hb hr (fun t ht hW => ⟨⟨(S_55 1 0), (S_55, G), rfl, hw, by rw [ht]; exact hP, va_K.moved hW.alike hK, hD⟩, hS.F ht⟩) hS.2.2 dX9_letter_62
set_option maxHeartbeats 4000000 in
set_option maxRecDepth 100000 in
theorem tb_X9_letter_0 {p : Program} {l : Launch} {e : Env} {s : State} {m : MethodId} {below : List Frame} {meth : Method} {c : Code} {args : Array Value} {dC : Nat → ClassId} {dI : Nat → Nat → Nat} {cI cJ cZ : ClassId} {o : Nat} {ad : Nat → Nat} {A : Nat → Prop} {Q : Int32 → mS → mG → Prop} (C : mCx p s m args meth c cX9_letter 2 (some .int) wsX9_letter A dC dI cI cJ cZ) : ∀ (S : mS) (G : mG) (a1 : Int32), wp_X9_letter_0 Q  S G a1 → mAt p l e rm_X9_letter s m args below meth c dC dI cI cJ cZ o ad A (MQ below (va_Qi (fun r (u : mS × mG) => Q r u.1 u.2) (mB dC dI cI cJ cZ o ad A) A) args s 0 0 A) 0 2 [(0, .ref o), (1, .int a1)] [] S G := by
  obtain ⟨hx, hb, hml, hown, hts, hr, hlocks, hA, hK⟩ := id C
  intro S G a1 hw H locs hP hD hS ls hl
  rw [wp_X9_letter_0] at hw
  refine lv_aload_n hx hb dX9_letter_0 rfl (lv_at hl 0 rfl) ?_
  refine lv_iconst (v := 0) hx hb dX9_letter_1 (by decide) ?_
  refine va_put (D := (dC, dI)) (ci := 10) (v := .int (0 : Int32)) (C := RX9) (T := TX9) (N := 38) hx hb hts iw_X9_letter tyX9 tyX9_ok nmX9 hown hK hP hD hS 0 rfl rfl 0 (by decide) (hts _ lk_X9_letter_105) (fun _ h9 => h9) rfl (tyX9_ok 0 (by decide)) rfl rfl (Nat.le_of_ble_eq_true rfl) dX9_letter_2 (fun H locs hP hD hS => ?_)
  obtain ⟨S_2, eS_2⟩ : ∃ y : mS, y = mst S 0 0 (0 : Int32) := ⟨_, rfl⟩
  have hw := hw S_2 eS_2
  have hP : va_P (dC, dI) vwCl (mW cI cJ cZ o ad S_2 G) H := by rw [eS_2]; exact hP
  have hD : va_D A (mW cI cJ cZ o ad S_2 G) := by rw [eS_2]; exact hD
  refine lv_aload_n hx hb dX9_letter_5 rfl (lv_at hl 0 rfl) ?_
  refine va_get (D := (dC, dI)) (ci := 10) (v := .int (S_2 1 0)) (C := RX9) (T := TX9) (N := 38) hx hb hts iw_X9_letter hown hK hP 0 rfl rfl 1 (by decide) (hts _ lk_X9_letter_109) (fun _ h9 => h9) rfl dX9_letter_6 ?_
  refine lv_bipush (v := 40) hx hb dX9_letter_9 (by decide) ?_
  refine lv_icmp_eq (tgt := 24) hx hb dX9_letter_11 (by decide) (fun c_11 => ?_) (fun c_11 => ?_)
  · have hw := hw.1 c_11
    refine lv_iconst (v := -1) hx hb dX9_letter_24 (by decide) ?_
    exact W.iret (v := (-1 : Int32)) hx hb hr (fun t ht hW => ⟨⟨(-1 : Int32), (S_2, G), rfl, hw, by rw [ht]; exact hP, va_K.moved hW.alike hK, hD⟩, hS.F ht⟩) hS.2.2 dX9_letter_25
  · have hw := hw.2 c_11
    refine lv_iload_n hx hb dX9_letter_14 rfl (lv_at hl 1 rfl) ?_
    refine lv_if_lt (tgt := 24) hx hb dX9_letter_15 (by decide) (fun c_15 => ?_) (fun c_15 => ?_)
    · have hw := hw.1 c_15
      refine lv_iconst (v := -1) hx hb dX9_letter_24 (by decide) ?_
      exact W.iret (v := (-1 : Int32)) hx hb hr (fun t ht hW => ⟨⟨(-1 : Int32), (S_2, G), rfl, hw, by rw [ht]; exact hP, va_K.moved hW.alike hK, hD⟩, hS.F ht⟩) hS.2.2 dX9_letter_25
    · have hw := hw.2 c_15
      refine lv_iload_n hx hb dX9_letter_18 rfl (lv_at hl 1 rfl) ?_
      refine lv_bipush (v := 26) hx hb dX9_letter_19 (by decide) ?_
      refine lv_icmp_le (tgt := 26) hx hb dX9_letter_21 (by decide) (fun c_21 => ?_) (fun c_21 => ?_)
      · have hw := hw.1 c_21
        refine lv_aload_n hx hb dX9_letter_26 rfl (lv_at hl 0 rfl) ?_
        refine va_get (D := (dC, dI)) (ci := 10) (v := .ref (ad 2)) (C := RX9) (T := TX9) (N := 38) hx hb hts iw_X9_letter hown hK hP 0 rfl rfl 2 (by decide) (hts _ lk_X9_letter_7) (fun _ h9 => h9) rfl dX9_letter_27 ?_
        refine lv_aload_n hx hb dX9_letter_30 rfl (lv_at hl 0 rfl) ?_
        refine va_get (D := (dC, dI)) (ci := 10) (v := .int (S_2 1 0)) (C := RX9) (T := TX9) (N := 38) hx hb hts iw_X9_letter hown hK hP 0 rfl rfl 1 (by decide) (hts _ lk_X9_letter_109) (fun _ h9 => h9) rfl dX9_letter_31 ?_
        refine lv_iload_n hx hb dX9_letter_34 rfl (lv_at hl 1 rfl) ?_
        refine lv_bipush (v := 26) hx hb dX9_letter_35 (by decide) ?_
        refine lv_icmp_ne (tgt := 44) hx hb dX9_letter_37 (by decide) (fun c_37 => ?_) (fun c_37 => ?_)
        · have hw := hw.1 c_37
          refine lv_iload_n hx hb dX9_letter_44 rfl (lv_at hl 1 rfl) ?_
          refine lv_iconst (v := 1) hx hb dX9_letter_45 (by decide) ?_
          refine lv_iadd hx hb dX9_letter_46 ?_
          exact tb_X9_letter_47 C  S_2 G (a1 + (1 : Int32)) (S_2 1 0) hw H locs hP hD hS ls (lv_sub hl [0] rfl)
        · have hw := hw.2 c_37
          refine lv_iconst (v := 0) hx hb dX9_letter_40 (by decide) ?_
          refine lv_goto (tgt := 47) hx hb dX9_letter_41 (by decide) ?_
          exact tb_X9_letter_47 C  S_2 G (0 : Int32) (S_2 1 0) hw H locs hP hD hS ls (lv_sub hl [0] rfl)
      · have hw := hw.2 c_21
        refine lv_iconst (v := -1) hx hb dX9_letter_24 (by decide) ?_
        exact W.iret (v := (-1 : Int32)) hx hb hr (fun t ht hW => ⟨⟨(-1 : Int32), (S_2, G), rfl, hw, by rw [ht]; exact hP, va_K.moved hW.alike hK, hD⟩, hS.F ht⟩) hS.2.2 dX9_letter_25
set_option maxHeartbeats 4000000 in
set_option maxRecDepth 100000 in
theorem c_X9_letter (l : Launch) (dC : Nat → ClassId) (dI : Nat → Nat → Nat) (cI cJ cZ : ClassId) (o : Nat) (ad : Nat → Nat) (S : mS) (G : mG) (sz : Nat) (a1 : Int32) (Q : Int32 → mS → mG → Prop) (hw : wp_X9_letter_0 Q S G a1) : Met l yX9_letter wsX9_letter rm_X9_letter (va_Pc [.ref o, .int a1] (mPre dC dI cI cJ cZ o ad S G sz)) (va_Qi (fun r (u : mS × mG) => Q r u.1 u.2) (mB dC dI cI cJ cZ o ad (mA cI cJ cZ o ad S G sz)) (mA cI cJ cZ o ad S G sz)) 0 0 (mA cI cJ cZ o ad S G sz) := by
  refine Met.ofW (cc := cX9_letter) (maxL := 2) (ret := (some .int)) (by decide) rfl ?_
  intro p e s m args below meth c s₁ B hml hv
  obtain ⟨rfl, hsz, hP, hK, hD0⟩ := hv
  subst hsz
  have hl := lv_entry ([.ref o, .int a1]) (n := 2) (Nat.le_of_ble_eq_true rfl)
  rw [lg_entry_eq]
  generalize (lg_sl ([.ref o, .int a1]) ++ List.replicate (2 - (lg_sl ([.ref o, .int a1])).length) Slot.unset).toArray = ls at hl ⊢
  exact tb_X9_letter_0 (Q := Q) (p := p) ⟨B.exec, B.bytes, hml, findClass_of_methodNamed B.named, atoms_spec (ws := wsX9_letter) B.pre, B.returns, B.notSynchronized, fun q h => Or.inr h, hK⟩ S G a1 hw s.heap [] hP (hD0.self (sz := s.heap.size)) va_S.rf ls hl
theorem iw_X9_waitingWords : ∀ w ∈ u_ws RX9 TX9 38, w ∈ wsX9_waitingWords := fun w h => List.mem_cons_of_mem _ (by first | exact List.mem_append_right _ h | decide +kernel +revert)
theorem lk_X9_waitingWords_7 : Cond.fieldLink RX9 7 "TermKeeperModel" "wait" "[I" ∈ wsX9_waitingWords := by decide +kernel
theorem lk_X9_waitingWords_109 : Cond.fieldLink RX9 109 "TermKeeperModel" "waiting" "I" ∈ wsX9_waitingWords := by decide +kernel
abbrev rm_X9_waitingWords : Room := { frames := 0, cells := 0, slots := 0, locals := 0 }
def wp_X9_waitingWords_47 (Q : Int32 → mS → mG → Prop) (k7_ : mS → mG → Int32 → Int32 → Int32 → Int32 → Prop) (S : mS) (G : mG) (a1 : Int32) (a2 : Int32) (a3 : Int32) (a4 : Int32) : Prop :=
    (∀ v4_47 : Int32, v4_47 = a4 + (1 : Int32) →
      (k7_ S G a1 a2 a3 v4_47))
def wp_X9_waitingWords_53 (Q : Int32 → mS → mG → Prop) (S : mS) (G : mG) (a2 : Int32) (a3 : Int32) : Prop :=
    ((¬ a3 = 0 →
      (Q a2 S G))
     ∧ (a3 = 0 →
      (Q (0 : Int32) S G)))
def wp_X9_waitingWords_7 (Q : Int32 → mS → mG → Prop) : Nat → mS → mG → Int32 → Int32 → Int32 → Int32 → Prop
  | 0, _, _, _, _, _, _ => False
  | n + 1, S, G, a1, a2, a3, a4 =>
    (((S 1 0) ≤ a4 →
      (wp_X9_waitingWords_53 Q  S G a2 a3))
     ∧ (¬ (S 1 0) ≤ a4 →
      (vp_in a4 40 ∧
        (((S 2 (Int32.toNatClampNeg a4)) ≤ 0 →
          ((¬ a3 = 0 →
            (∀ v2_44 : Int32, v2_44 = a2 + (1 : Int32) →
              (wp_X9_waitingWords_47 Q (wp_X9_waitingWords_7 Q  n) S G a1 v2_44 (0 : Int32) a4)))
           ∧ (a3 = 0 →
            (Q (0 : Int32) S G))))
         ∧ (¬ (S 2 (Int32.toNatClampNeg a4)) ≤ 0 →
          (∀ v3_26 : Int32, v3_26 = a3 + (1 : Int32) →
            ((v3_26 ≤ a1 →
              (wp_X9_waitingWords_47 Q (wp_X9_waitingWords_7 Q  n) S G a1 a2 v3_26 a4))
             ∧ (¬ v3_26 ≤ a1 →
              (Q (0 : Int32) S G)))))))))
def wp_X9_waitingWords_0 (Q : Int32 → mS → mG → Prop) (S : mS) (G : mG) (a1 : Int32) : Prop :=
    (∃ n9 : Nat, wp_X9_waitingWords_7 Q  n9 S G a1 (1 : Int32) (0 : Int32) (0 : Int32))
set_option maxHeartbeats 4000000 in
set_option maxRecDepth 100000 in
theorem tb_X9_waitingWords_47 {p : Program} {l : Launch} {e : Env} {s : State} {m : MethodId} {below : List Frame} {meth : Method} {c : Code} {args : Array Value} {dC : Nat → ClassId} {dI : Nat → Nat → Nat} {cI cJ cZ : ClassId} {o : Nat} {ad : Nat → Nat} {A : Nat → Prop} {Q : Int32 → mS → mG → Prop} (C : mCx p s m args meth c cX9_waitingWords 5 (some .int) wsX9_waitingWords A dC dI cI cJ cZ) {k7_ : mS → mG → Int32 → Int32 → Int32 → Int32 → Prop} (h7_ : ∀ (S : mS) (G : mG) (a1 : Int32) (a2 : Int32) (a3 : Int32) (a4 : Int32), k7_ S G a1 a2 a3 a4 → mAt p l e rm_X9_waitingWords s m args below meth c dC dI cI cJ cZ o ad A (MQ below (va_Qi (fun r (u : mS × mG) => Q r u.1 u.2) (mB dC dI cI cJ cZ o ad A) A) args s 0 0 A) 7 5 [(0, .ref o), (1, .int a1), (2, .int a2), (3, .int a3), (4, .int a4)] [] S G) : ∀ (S : mS) (G : mG) (a1 : Int32) (a2 : Int32) (a3 : Int32) (a4 : Int32), wp_X9_waitingWords_47 Q k7_ S G a1 a2 a3 a4 → mAt p l e rm_X9_waitingWords s m args below meth c dC dI cI cJ cZ o ad A (MQ below (va_Qi (fun r (u : mS × mG) => Q r u.1 u.2) (mB dC dI cI cJ cZ o ad A) A) args s 0 0 A) 47 5 [(0, .ref o), (1, .int a1), (2, .int a2), (3, .int a3), (4, .int a4)] [] S G := by
  obtain ⟨hx, hb, hml, hown, hts, hr, hlocks, hA, hK⟩ := id C
  intro S G a1 a2 a3 a4 hw H locs hP hD hS ls hl
  rw [wp_X9_waitingWords_47] at hw
  obtain ⟨v4_47, ev4_47⟩ : ∃ y : Int32, y = a4 + (1 : Int32) := ⟨_, rfl⟩
  have hw := hw v4_47 ev4_47
  refine lv_iinc (v := v4_47) (lv' := [(4, .int v4_47), (0, .ref o), (1, .int a1), (2, .int a2), (3, .int a3)]) hx hb dX9_waitingWords_47 hl (k := 4) rfl (by rw [ev4_47]; rfl) (by decide) rfl (fun ls hl => ?_)
  refine lv_goto (tgt := 7) hx hb dX9_waitingWords_50 (by decide) ?_
  exact h7_ S G a1 a2 a3 v4_47 hw H locs hP hD hS ls (lv_sub hl [1, 2, 3, 4, 0] rfl)
set_option maxHeartbeats 4000000 in
set_option maxRecDepth 100000 in
theorem tb_X9_waitingWords_53 {p : Program} {l : Launch} {e : Env} {s : State} {m : MethodId} {below : List Frame} {meth : Method} {c : Code} {args : Array Value} {dC : Nat → ClassId} {dI : Nat → Nat → Nat} {cI cJ cZ : ClassId} {o : Nat} {ad : Nat → Nat} {A : Nat → Prop} {Q : Int32 → mS → mG → Prop} (C : mCx p s m args meth c cX9_waitingWords 5 (some .int) wsX9_waitingWords A dC dI cI cJ cZ) : ∀ (S : mS) (G : mG) (a2 : Int32) (a3 : Int32), wp_X9_waitingWords_53 Q  S G a2 a3 → mAt p l e rm_X9_waitingWords s m args below meth c dC dI cI cJ cZ o ad A (MQ below (va_Qi (fun r (u : mS × mG) => Q r u.1 u.2) (mB dC dI cI cJ cZ o ad A) A) args s 0 0 A) 53 5 [(0, .ref o), (2, .int a2), (3, .int a3)] [] S G := by
  obtain ⟨hx, hb, hml, hown, hts, hr, hlocks, hA, hK⟩ := id C
  intro S G a2 a3 hw H locs hP hD hS ls hl
  rw [wp_X9_waitingWords_53] at hw
  refine lv_iload_n hx hb dX9_waitingWords_53 rfl (lv_at hl 2 rfl) ?_
  refine lv_if_ne (tgt := 61) hx hb dX9_waitingWords_54 (by decide) (fun c_54 => ?_) (fun c_54 => ?_)
  · have hw := hw.1 c_54
    refine lv_iload_n hx hb dX9_waitingWords_61 rfl (lv_at hl 1 rfl) ?_
    exact W.iret (v := a2) hx hb hr (fun t ht hW => ⟨⟨a2, (S, G), rfl, hw, by rw [ht]; exact hP, va_K.moved hW.alike hK, hD⟩, hS.F ht⟩) hS.2.2 dX9_waitingWords_62
  · have hw := hw.2 c_54
    refine lv_iconst (v := 0) hx hb dX9_waitingWords_57 (by decide) ?_
    refine lv_goto (tgt := 62) hx hb dX9_waitingWords_58 (by decide) ?_
    exact W.iret (v := (0 : Int32)) hx hb hr (fun t ht hW => ⟨⟨(0 : Int32), (S, G), rfl, hw, by rw [ht]; exact hP, va_K.moved hW.alike hK, hD⟩, hS.F ht⟩) hS.2.2 dX9_waitingWords_62
set_option maxHeartbeats 4000000 in
set_option maxRecDepth 100000 in
theorem tb_X9_waitingWords_7 {p : Program} {l : Launch} {e : Env} {s : State} {m : MethodId} {below : List Frame} {meth : Method} {c : Code} {args : Array Value} {dC : Nat → ClassId} {dI : Nat → Nat → Nat} {cI cJ cZ : ClassId} {o : Nat} {ad : Nat → Nat} {A : Nat → Prop} {Q : Int32 → mS → mG → Prop} (C : mCx p s m args meth c cX9_waitingWords 5 (some .int) wsX9_waitingWords A dC dI cI cJ cZ) : ∀ (n : Nat) (S : mS) (G : mG) (a1 : Int32) (a2 : Int32) (a3 : Int32) (a4 : Int32), wp_X9_waitingWords_7 Q  n S G a1 a2 a3 a4 → mAt p l e rm_X9_waitingWords s m args below meth c dC dI cI cJ cZ o ad A (MQ below (va_Qi (fun r (u : mS × mG) => Q r u.1 u.2) (mB dC dI cI cJ cZ o ad A) A) args s 0 0 A) 7 5 [(0, .ref o), (1, .int a1), (2, .int a2), (3, .int a3), (4, .int a4)] [] S G := by
  obtain ⟨hx, hb, hml, hown, hts, hr, hlocks, hA, hK⟩ := id C
  intro n
  induction n with
  | zero => intro S G a1 a2 a3 a4 hw; exact hw.elim
  | succ n ih =>
    intro S G a1 a2 a3 a4 hw H locs hP hD hS ls hl
    rw [wp_X9_waitingWords_7] at hw
    refine lv_iload hx hb dX9_waitingWords_7 (lv_at hl 4 rfl) ?_
    refine lv_aload_n hx hb dX9_waitingWords_9 rfl (lv_at hl 0 rfl) ?_
    refine va_get (D := (dC, dI)) (ci := 10) (v := .int (S 1 0)) (C := RX9) (T := TX9) (N := 38) hx hb hts iw_X9_waitingWords hown hK hP 0 rfl rfl 1 (by decide) (hts _ lk_X9_waitingWords_109) (fun _ h9 => h9) rfl dX9_waitingWords_10 ?_
    refine lv_icmp_ge (tgt := 53) hx hb dX9_waitingWords_13 (by decide) (fun c_13 => ?_) (fun c_13 => ?_)
    · have hw := hw.1 c_13
      exact tb_X9_waitingWords_53 C  S G a2 a3 hw H locs hP hD hS ls (lv_sub hl [0, 2, 3] rfl)
    · have hw := hw.2 c_13
      refine lv_aload_n hx hb dX9_waitingWords_16 rfl (lv_at hl 0 rfl) ?_
      refine va_get (D := (dC, dI)) (ci := 10) (v := .ref (ad 2)) (C := RX9) (T := TX9) (N := 38) hx hb hts iw_X9_waitingWords hown hK hP 0 rfl rfl 2 (by decide) (hts _ lk_X9_waitingWords_7) (fun _ h9 => h9) rfl dX9_waitingWords_17 ?_
      refine lv_iload hx hb dX9_waitingWords_20 (lv_at hl 4 rfl) ?_
      refine va_iald hx hb hK hP 1 0 rfl rfl hw.1 dX9_waitingWords_22 ?_
      have hw := hw.2
      refine lv_if_le (tgt := 36) hx hb dX9_waitingWords_23 (by decide) (fun c_23 => ?_) (fun c_23 => ?_)
      · have hw := hw.1 c_23
        refine lv_iload_n hx hb dX9_waitingWords_36 rfl (lv_at hl 3 rfl) ?_
        refine lv_if_ne (tgt := 42) hx hb dX9_waitingWords_37 (by decide) (fun c_37 => ?_) (fun c_37 => ?_)
        · have hw := hw.1 c_37
          refine lv_iconst (v := 0) hx hb dX9_waitingWords_42 (by decide) ?_
          refine lv_istore_n (lv' := [(3, .int (0 : Int32)), (0, .ref o), (1, .int a1), (2, .int a2), (4, .int a4)]) hx hb dX9_waitingWords_43 rfl hl (by decide) rfl (fun ls hl => ?_)
          obtain ⟨v2_44, ev2_44⟩ : ∃ y : Int32, y = a2 + (1 : Int32) := ⟨_, rfl⟩
          have hw := hw v2_44 ev2_44
          refine lv_iinc (v := v2_44) (lv' := [(2, .int v2_44), (3, .int (0 : Int32)), (0, .ref o), (1, .int a1), (4, .int a4)]) hx hb dX9_waitingWords_44 hl (k := 3) rfl (by rw [ev2_44]; rfl) (by decide) rfl (fun ls hl => ?_)
          exact tb_X9_waitingWords_47 C ih S G a1 v2_44 (0 : Int32) a4 hw H locs hP hD hS ls (lv_sub hl [2, 3, 0, 1, 4] rfl)
        · have hw := hw.2 c_37
          refine lv_iconst (v := 0) hx hb dX9_waitingWords_40 (by decide) ?_
          exact W.iret (v := (0 : Int32)) hx hb hr (fun t ht hW => ⟨⟨(0 : Int32), (S, G), rfl, hw, by rw [ht]; exact hP, va_K.moved hW.alike hK, hD⟩, hS.F ht⟩) hS.2.2 dX9_waitingWords_41
      · have hw := hw.2 c_23
        obtain ⟨v3_26, ev3_26⟩ : ∃ y : Int32, y = a3 + (1 : Int32) := ⟨_, rfl⟩
        have hw := hw v3_26 ev3_26
        refine lv_iinc (v := v3_26) (lv' := [(3, .int v3_26), (0, .ref o), (1, .int a1), (2, .int a2), (4, .int a4)]) hx hb dX9_waitingWords_26 hl (k := 3) rfl (by rw [ev3_26]; rfl) (by decide) rfl (fun ls hl => ?_)
        refine lv_iload_n hx hb dX9_waitingWords_29 rfl (lv_at hl 0 rfl) ?_
        refine lv_iload_n hx hb dX9_waitingWords_30 rfl (lv_at hl 2 rfl) ?_
        refine lv_icmp_le (tgt := 47) hx hb dX9_waitingWords_31 (by decide) (fun c_31 => ?_) (fun c_31 => ?_)
        · have hw := hw.1 c_31
          exact tb_X9_waitingWords_47 C ih S G a1 a2 v3_26 a4 hw H locs hP hD hS ls (lv_sub hl [1, 2, 3, 0, 4] rfl)
        · have hw := hw.2 c_31
          refine lv_iconst (v := 0) hx hb dX9_waitingWords_34 (by decide) ?_
          exact W.iret (v := (0 : Int32)) hx hb hr (fun t ht hW => ⟨⟨(0 : Int32), (S, G), rfl, hw, by rw [ht]; exact hP, va_K.moved hW.alike hK, hD⟩, hS.F ht⟩) hS.2.2 dX9_waitingWords_35
set_option maxHeartbeats 4000000 in
set_option maxRecDepth 100000 in
theorem tb_X9_waitingWords_0 {p : Program} {l : Launch} {e : Env} {s : State} {m : MethodId} {below : List Frame} {meth : Method} {c : Code} {args : Array Value} {dC : Nat → ClassId} {dI : Nat → Nat → Nat} {cI cJ cZ : ClassId} {o : Nat} {ad : Nat → Nat} {A : Nat → Prop} {Q : Int32 → mS → mG → Prop} (C : mCx p s m args meth c cX9_waitingWords 5 (some .int) wsX9_waitingWords A dC dI cI cJ cZ) : ∀ (S : mS) (G : mG) (a1 : Int32), wp_X9_waitingWords_0 Q  S G a1 → mAt p l e rm_X9_waitingWords s m args below meth c dC dI cI cJ cZ o ad A (MQ below (va_Qi (fun r (u : mS × mG) => Q r u.1 u.2) (mB dC dI cI cJ cZ o ad A) A) args s 0 0 A) 0 5 [(0, .ref o), (1, .int a1)] [] S G := by
  obtain ⟨hx, hb, hml, hown, hts, hr, hlocks, hA, hK⟩ := id C
  intro S G a1 hw H locs hP hD hS ls hl
  rw [wp_X9_waitingWords_0] at hw
  refine lv_iconst (v := 1) hx hb dX9_waitingWords_0 (by decide) ?_
  refine lv_istore_n (lv' := [(2, .int (1 : Int32)), (0, .ref o), (1, .int a1)]) hx hb dX9_waitingWords_1 rfl hl (by decide) rfl (fun ls hl => ?_)
  refine lv_iconst (v := 0) hx hb dX9_waitingWords_2 (by decide) ?_
  refine lv_istore_n (lv' := [(3, .int (0 : Int32)), (2, .int (1 : Int32)), (0, .ref o), (1, .int a1)]) hx hb dX9_waitingWords_3 rfl hl (by decide) rfl (fun ls hl => ?_)
  refine lv_iconst (v := 0) hx hb dX9_waitingWords_4 (by decide) ?_
  refine lv_istore (lv' := [(4, .int (0 : Int32)), (3, .int (0 : Int32)), (2, .int (1 : Int32)), (0, .ref o), (1, .int a1)]) hx hb dX9_waitingWords_5 hl (by decide) rfl (fun ls hl => ?_)
  obtain ⟨n9, hw⟩ := hw
  exact tb_X9_waitingWords_7 C  n9 S G a1 (1 : Int32) (0 : Int32) (0 : Int32) hw H locs hP hD hS ls (lv_sub hl [3, 4, 2, 1, 0] rfl)
set_option maxHeartbeats 4000000 in
set_option maxRecDepth 100000 in
theorem c_X9_waitingWords (l : Launch) (dC : Nat → ClassId) (dI : Nat → Nat → Nat) (cI cJ cZ : ClassId) (o : Nat) (ad : Nat → Nat) (S : mS) (G : mG) (sz : Nat) (a1 : Int32) (Q : Int32 → mS → mG → Prop) (hw : wp_X9_waitingWords_0 Q S G a1) : Met l yX9_waitingWords wsX9_waitingWords rm_X9_waitingWords (va_Pc [.ref o, .int a1] (mPre dC dI cI cJ cZ o ad S G sz)) (va_Qi (fun r (u : mS × mG) => Q r u.1 u.2) (mB dC dI cI cJ cZ o ad (mA cI cJ cZ o ad S G sz)) (mA cI cJ cZ o ad S G sz)) 0 0 (mA cI cJ cZ o ad S G sz) := by
  refine Met.ofW (cc := cX9_waitingWords) (maxL := 5) (ret := (some .int)) (by decide) rfl ?_
  intro p e s m args below meth c s₁ B hml hv
  obtain ⟨rfl, hsz, hP, hK, hD0⟩ := hv
  subst hsz
  have hl := lv_entry ([.ref o, .int a1]) (n := 5) (Nat.le_of_ble_eq_true rfl)
  rw [lg_entry_eq]
  generalize (lg_sl ([.ref o, .int a1]) ++ List.replicate (5 - (lg_sl ([.ref o, .int a1])).length) Slot.unset).toArray = ls at hl ⊢
  exact tb_X9_waitingWords_0 (Q := Q) (p := p) ⟨B.exec, B.bytes, hml, findClass_of_methodNamed B.named, atoms_spec (ws := wsX9_waitingWords) B.pre, B.returns, B.notSynchronized, fun q h => Or.inr h, hK⟩ S G a1 hw s.heap [] hP (hD0.self (sz := s.heap.size)) va_S.rf ls hl
theorem iw_X9_ending : ∀ w ∈ u_ws RX9 TX9 38, w ∈ wsX9_ending := fun w h => List.mem_cons_of_mem _ (by first | exact List.mem_append_right _ h | decide +kernel +revert)
theorem lk_X9_ending_7 : Cond.fieldLink RX9 7 "TermKeeperModel" "wait" "[I" ∈ wsX9_ending := by decide +kernel
theorem lk_X9_ending_13 : Cond.fieldLink RX9 13 "TermKeeperModel" "ending" "[I" ∈ wsX9_ending := by decide +kernel
theorem lk_X9_ending_16 : Cond.fieldLink RX9 16 "TermKeeperModel" "endingSize" "[I" ∈ wsX9_ending := by decide +kernel
theorem lk_X9_ending_105 : Cond.fieldLink RX9 105 "TermKeeperModel" "thrown" "I" ∈ wsX9_ending := by decide +kernel
theorem lk_X9_ending_109 : Cond.fieldLink RX9 109 "TermKeeperModel" "waiting" "I" ∈ wsX9_ending := by decide +kernel
theorem lk_X9_ending_116 : Cond.fieldLink RX9 116 "TermKeeperModel" "endings" "I" ∈ wsX9_ending := by decide +kernel
abbrev rm_X9_ending : Room := { frames := 1, cells := 0, slots := 0, locals := 24 }
def wp_X9_ending_91 (Q : Int32 → mS → mG → Prop) (S : mS) (G : mG) (a1 : Int32) : Prop :=
    (∀ S_93 : mS, S_93 = mst S 1 0 (0 : Int32) →
      ((a1 = 0 →
        (Q (-1 : Int32) S_93 G))
       ∧ (¬ a1 = 0 →
        (Q ((S_93 3 0) - (1 : Int32)) S_93 G))))
def wp_X9_ending_68 (Q : Int32 → mS → mG → Prop) (S : mS) (G : mG) (a1 : Int32) : Prop :=
    (vp_in (S 3 0) 6 ∧ ∀ S_80 : mS, S_80 = mst S 7 (Int32.toNatClampNeg (S 3 0)) (S 1 0) →
      (∀ S_88 : mS, S_88 = mst S_80 3 0 ((S_80 3 0) + (1 : Int32)) →
        (wp_X9_ending_91 Q  S_88 G a1)))
def wp_X9_ending_35 (Q : Int32 → mS → mG → Prop) : Nat → mS → mG → Int32 → Int32 → Prop
  | 0, _, _, _, _ => False
  | n + 1, S, G, a1, a2 =>
    (((S 1 0) ≤ a2 →
      (wp_X9_ending_68 Q  S G a1))
     ∧ (¬ (S 1 0) ≤ a2 →
      (vp_in a2 40 ∧
        (vp_in (((4 : Int32) * (S 3 0)) + a2) 24 ∧ ∀ S_61 : mS, S_61 = mst S 6 (Int32.toNatClampNeg (((4 : Int32) * (S 3 0)) + a2)) (S 2 (Int32.toNatClampNeg a2)) →
          (∀ v2_62 : Int32, v2_62 = a2 + (1 : Int32) →
            ((wp_X9_ending_35 Q  n) S_61 G a1 v2_62))))))
def wp_X9_ending_28 (Q : Int32 → mS → mG → Prop) (S : mS) (G : mG) (k0 : Int32) : Prop :=
    ((k0 = 0 →
      (wp_X9_ending_91 Q  S G k0))
     ∧ (¬ k0 = 0 →
      (∃ n9 : Nat, wp_X9_ending_35 Q  n9 S G k0 (0 : Int32))))
def wp_X9_ending_27 (Q : Int32 → mS → mG → Prop) (S : mS) (G : mG) : Prop :=
    (wp_X9_ending_28 Q  S G (0 : Int32))
def wp_X9_ending_0 (Q : Int32 → mS → mG → Prop) (S : mS) (G : mG) : Prop :=
    (∀ S_2 : mS, S_2 = mst S 0 0 (0 : Int32) →
      (wp_X9_waitingWords_0 (fun r_7 S_7 G_7 =>
        ((¬ r_7 = (1 : Int32) →
          (wp_X9_ending_27 Q  S_7 G_7 ))
         ∧ (r_7 = (1 : Int32) →
          (((6 : Int32) ≤ (S_7 3 0) →
            (wp_X9_ending_27 Q  S_7 G_7 ))
           ∧ (¬ (6 : Int32) ≤ (S_7 3 0) →
            (wp_X9_ending_28 Q  S_7 G_7 (1 : Int32))))))) S_2 G (4 : Int32)))
set_option maxHeartbeats 4000000 in
set_option maxRecDepth 100000 in
theorem tb_X9_ending_91 {p : Program} {l : Launch} {e : Env} {s : State} {m : MethodId} {below : List Frame} {meth : Method} {c : Code} {args : Array Value} {dC : Nat → ClassId} {dI : Nat → Nat → Nat} {cI cJ cZ : ClassId} {o : Nat} {ad : Nat → Nat} {A : Nat → Prop} {Q : Int32 → mS → mG → Prop} (C : mCx p s m args meth c cX9_ending 3 (some .int) wsX9_ending A dC dI cI cJ cZ) : ∀ (S : mS) (G : mG) (a1 : Int32), wp_X9_ending_91 Q  S G a1 → mAt p l e rm_X9_ending s m args below meth c dC dI cI cJ cZ o ad A (MQ below (va_Qi (fun r (u : mS × mG) => Q r u.1 u.2) (mB dC dI cI cJ cZ o ad A) A) args s 0 0 A) 91 3 [(0, .ref o), (1, .int a1)] [] S G := by
  obtain ⟨hx, hb, hml, hown, hts, hr, hlocks, hA, hK⟩ := id C
  intro S G a1 hw H locs hP hD hS ls hl
  rw [wp_X9_ending_91] at hw
  refine lv_aload_n hx hb dX9_ending_91 rfl (lv_at hl 0 rfl) ?_
  refine lv_iconst (v := 0) hx hb dX9_ending_92 (by decide) ?_
  refine va_put (D := (dC, dI)) (ci := 10) (v := .int (0 : Int32)) (C := RX9) (T := TX9) (N := 38) hx hb hts iw_X9_ending tyX9 tyX9_ok nmX9 hown hK hP hD hS 0 rfl rfl 1 (by decide) (hts _ lk_X9_ending_109) (fun _ h9 => h9) rfl (tyX9_ok 1 (by decide)) rfl rfl (Nat.le_of_ble_eq_true rfl) dX9_ending_93 (fun H locs hP hD hS => ?_)
  obtain ⟨S_93, eS_93⟩ : ∃ y : mS, y = mst S 1 0 (0 : Int32) := ⟨_, rfl⟩
  have hw := hw S_93 eS_93
  have hP : va_P (dC, dI) vwCl (mW cI cJ cZ o ad S_93 G) H := by rw [eS_93]; exact hP
  have hD : va_D A (mW cI cJ cZ o ad S_93 G) := by rw [eS_93]; exact hD
  refine lv_iload_n hx hb dX9_ending_96 rfl (lv_at hl 1 rfl) ?_
  refine lv_if_eq (tgt := 109) hx hb dX9_ending_97 (by decide) (fun c_97 => ?_) (fun c_97 => ?_)
  · have hw := hw.1 c_97
    refine lv_iconst (v := -1) hx hb dX9_ending_109 (by decide) ?_
    exact W.iret (v := (-1 : Int32)) hx hb hr (fun t ht hW => ⟨⟨(-1 : Int32), (S_93, G), rfl, hw, by rw [ht]; exact hP, va_K.moved hW.alike hK, hD⟩, hS.F ht⟩) hS.2.2 dX9_ending_110
  · have hw := hw.2 c_97
    refine lv_aload_n hx hb dX9_ending_100 rfl (lv_at hl 0 rfl) ?_
    refine va_get (D := (dC, dI)) (ci := 10) (v := .int (S_93 3 0)) (C := RX9) (T := TX9) (N := 38) hx hb hts iw_X9_ending hown hK hP 0 rfl rfl 3 (by decide) (hts _ lk_X9_ending_116) (fun _ h9 => h9) rfl dX9_ending_101 ?_
    refine lv_iconst (v := 1) hx hb dX9_ending_104 (by decide) ?_
    refine lv_isub hx hb dX9_ending_105 ?_
    refine lv_goto (tgt := 110) hx hb dX9_ending_106 (by decide) ?_
    exact W.iret (v := ((S_93 3 0) - (1 : Int32))) hx hb hr (fun t ht hW => ⟨⟨((S_93 3 0) - (1 : Int32)), (S_93, G), rfl, hw, by rw [ht]; exact hP, va_K.moved hW.alike hK, hD⟩, hS.F ht⟩) hS.2.2 dX9_ending_110
set_option maxHeartbeats 4000000 in
set_option maxRecDepth 100000 in
theorem tb_X9_ending_68 {p : Program} {l : Launch} {e : Env} {s : State} {m : MethodId} {below : List Frame} {meth : Method} {c : Code} {args : Array Value} {dC : Nat → ClassId} {dI : Nat → Nat → Nat} {cI cJ cZ : ClassId} {o : Nat} {ad : Nat → Nat} {A : Nat → Prop} {Q : Int32 → mS → mG → Prop} (C : mCx p s m args meth c cX9_ending 3 (some .int) wsX9_ending A dC dI cI cJ cZ) : ∀ (S : mS) (G : mG) (a1 : Int32), wp_X9_ending_68 Q  S G a1 → mAt p l e rm_X9_ending s m args below meth c dC dI cI cJ cZ o ad A (MQ below (va_Qi (fun r (u : mS × mG) => Q r u.1 u.2) (mB dC dI cI cJ cZ o ad A) A) args s 0 0 A) 68 3 [(0, .ref o), (1, .int a1)] [] S G := by
  obtain ⟨hx, hb, hml, hown, hts, hr, hlocks, hA, hK⟩ := id C
  intro S G a1 hw H locs hP hD hS ls hl
  rw [wp_X9_ending_68] at hw
  refine lv_aload_n hx hb dX9_ending_68 rfl (lv_at hl 0 rfl) ?_
  refine va_get (D := (dC, dI)) (ci := 10) (v := .ref (ad 7)) (C := RX9) (T := TX9) (N := 38) hx hb hts iw_X9_ending hown hK hP 0 rfl rfl 7 (by decide) (hts _ lk_X9_ending_16) (fun _ h9 => h9) rfl dX9_ending_69 ?_
  refine lv_aload_n hx hb dX9_ending_72 rfl (lv_at hl 0 rfl) ?_
  refine va_get (D := (dC, dI)) (ci := 10) (v := .int (S 3 0)) (C := RX9) (T := TX9) (N := 38) hx hb hts iw_X9_ending hown hK hP 0 rfl rfl 3 (by decide) (hts _ lk_X9_ending_116) (fun _ h9 => h9) rfl dX9_ending_73 ?_
  refine lv_aload_n hx hb dX9_ending_76 rfl (lv_at hl 0 rfl) ?_
  refine va_get (D := (dC, dI)) (ci := 10) (v := .int (S 1 0)) (C := RX9) (T := TX9) (N := 38) hx hb hts iw_X9_ending hown hK hP 0 rfl rfl 1 (by decide) (hts _ lk_X9_ending_109) (fun _ h9 => h9) rfl dX9_ending_77 ?_
  refine va_iast hx hb hK hP hD hS 3 0 rfl rfl hw.1 dX9_ending_80 (fun H locs hP hD hS => ?_)
  obtain ⟨S_80, eS_80⟩ : ∃ y : mS, y = mst S 7 (Int32.toNatClampNeg (S 3 0)) (S 1 0) := ⟨_, rfl⟩
  have hw := hw.2 S_80 eS_80
  have hP : va_P (dC, dI) vwCl (mW cI cJ cZ o ad S_80 G) H := by rw [eS_80]; exact hP
  have hD : va_D A (mW cI cJ cZ o ad S_80 G) := by rw [eS_80]; exact hD
  refine lv_aload_n hx hb dX9_ending_81 rfl (lv_at hl 0 rfl) ?_
  refine lv_dup hx hb dX9_ending_82 rfl ?_
  refine va_get (D := (dC, dI)) (ci := 10) (v := .int (S_80 3 0)) (C := RX9) (T := TX9) (N := 38) hx hb hts iw_X9_ending hown hK hP 0 rfl rfl 3 (by decide) (hts _ lk_X9_ending_116) (fun _ h9 => h9) rfl dX9_ending_83 ?_
  refine lv_iconst (v := 1) hx hb dX9_ending_86 (by decide) ?_
  refine lv_iadd hx hb dX9_ending_87 ?_
  refine va_put (D := (dC, dI)) (ci := 10) (v := .int ((S_80 3 0) + (1 : Int32))) (C := RX9) (T := TX9) (N := 38) hx hb hts iw_X9_ending tyX9 tyX9_ok nmX9 hown hK hP hD hS 0 rfl rfl 3 (by decide) (hts _ lk_X9_ending_116) (fun _ h9 => h9) rfl (tyX9_ok 3 (by decide)) rfl rfl (Nat.le_of_ble_eq_true rfl) dX9_ending_88 (fun H locs hP hD hS => ?_)
  obtain ⟨S_88, eS_88⟩ : ∃ y : mS, y = mst S_80 3 0 ((S_80 3 0) + (1 : Int32)) := ⟨_, rfl⟩
  have hw := hw S_88 eS_88
  have hP : va_P (dC, dI) vwCl (mW cI cJ cZ o ad S_88 G) H := by rw [eS_88]; exact hP
  have hD : va_D A (mW cI cJ cZ o ad S_88 G) := by rw [eS_88]; exact hD
  exact tb_X9_ending_91 C  S_88 G a1 hw H locs hP hD hS ls (lv_sub hl [0, 1] rfl)
set_option maxHeartbeats 4000000 in
set_option maxRecDepth 100000 in
theorem tb_X9_ending_35 {p : Program} {l : Launch} {e : Env} {s : State} {m : MethodId} {below : List Frame} {meth : Method} {c : Code} {args : Array Value} {dC : Nat → ClassId} {dI : Nat → Nat → Nat} {cI cJ cZ : ClassId} {o : Nat} {ad : Nat → Nat} {A : Nat → Prop} {Q : Int32 → mS → mG → Prop} (C : mCx p s m args meth c cX9_ending 3 (some .int) wsX9_ending A dC dI cI cJ cZ) : ∀ (n : Nat) (S : mS) (G : mG) (a1 : Int32) (a2 : Int32), wp_X9_ending_35 Q  n S G a1 a2 → mAt p l e rm_X9_ending s m args below meth c dC dI cI cJ cZ o ad A (MQ below (va_Qi (fun r (u : mS × mG) => Q r u.1 u.2) (mB dC dI cI cJ cZ o ad A) A) args s 0 0 A) 35 3 [(0, .ref o), (1, .int a1), (2, .int a2)] [] S G := by
  obtain ⟨hx, hb, hml, hown, hts, hr, hlocks, hA, hK⟩ := id C
  intro n
  induction n with
  | zero => intro S G a1 a2 hw; exact hw.elim
  | succ n ih =>
    intro S G a1 a2 hw H locs hP hD hS ls hl
    rw [wp_X9_ending_35] at hw
    refine lv_iload_n hx hb dX9_ending_35 rfl (lv_at hl 2 rfl) ?_
    refine lv_aload_n hx hb dX9_ending_36 rfl (lv_at hl 0 rfl) ?_
    refine va_get (D := (dC, dI)) (ci := 10) (v := .int (S 1 0)) (C := RX9) (T := TX9) (N := 38) hx hb hts iw_X9_ending hown hK hP 0 rfl rfl 1 (by decide) (hts _ lk_X9_ending_109) (fun _ h9 => h9) rfl dX9_ending_37 ?_
    refine lv_icmp_ge (tgt := 68) hx hb dX9_ending_40 (by decide) (fun c_40 => ?_) (fun c_40 => ?_)
    · have hw := hw.1 c_40
      exact tb_X9_ending_68 C  S G a1 hw H locs hP hD hS ls (lv_sub hl [0, 1] rfl)
    · have hw := hw.2 c_40
      refine lv_aload_n hx hb dX9_ending_43 rfl (lv_at hl 0 rfl) ?_
      refine va_get (D := (dC, dI)) (ci := 10) (v := .ref (ad 6)) (C := RX9) (T := TX9) (N := 38) hx hb hts iw_X9_ending hown hK hP 0 rfl rfl 6 (by decide) (hts _ lk_X9_ending_13) (fun _ h9 => h9) rfl dX9_ending_44 ?_
      refine lv_iconst (v := 4) hx hb dX9_ending_47 (by decide) ?_
      refine lv_aload_n hx hb dX9_ending_48 rfl (lv_at hl 0 rfl) ?_
      refine va_get (D := (dC, dI)) (ci := 10) (v := .int (S 3 0)) (C := RX9) (T := TX9) (N := 38) hx hb hts iw_X9_ending hown hK hP 0 rfl rfl 3 (by decide) (hts _ lk_X9_ending_116) (fun _ h9 => h9) rfl dX9_ending_49 ?_
      refine lv_imul hx hb dX9_ending_52 ?_
      refine lv_iload_n hx hb dX9_ending_53 rfl (lv_at hl 2 rfl) ?_
      refine lv_iadd hx hb dX9_ending_54 ?_
      refine lv_aload_n hx hb dX9_ending_55 rfl (lv_at hl 0 rfl) ?_
      refine va_get (D := (dC, dI)) (ci := 10) (v := .ref (ad 2)) (C := RX9) (T := TX9) (N := 38) hx hb hts iw_X9_ending hown hK hP 0 rfl rfl 2 (by decide) (hts _ lk_X9_ending_7) (fun _ h9 => h9) rfl dX9_ending_56 ?_
      refine lv_iload_n hx hb dX9_ending_59 rfl (lv_at hl 2 rfl) ?_
      refine va_iald hx hb hK hP 1 0 rfl rfl hw.1 dX9_ending_60 ?_
      have hw := hw.2
      refine va_iast hx hb hK hP hD hS 2 0 rfl rfl hw.1 dX9_ending_61 (fun H locs hP hD hS => ?_)
      obtain ⟨S_61, eS_61⟩ : ∃ y : mS, y = mst S 6 (Int32.toNatClampNeg (((4 : Int32) * (S 3 0)) + a2)) (S 2 (Int32.toNatClampNeg a2)) := ⟨_, rfl⟩
      have hw := hw.2 S_61 eS_61
      have hP : va_P (dC, dI) vwCl (mW cI cJ cZ o ad S_61 G) H := by rw [eS_61]; exact hP
      have hD : va_D A (mW cI cJ cZ o ad S_61 G) := by rw [eS_61]; exact hD
      obtain ⟨v2_62, ev2_62⟩ : ∃ y : Int32, y = a2 + (1 : Int32) := ⟨_, rfl⟩
      have hw := hw v2_62 ev2_62
      refine lv_iinc (v := v2_62) (lv' := [(2, .int v2_62), (0, .ref o), (1, .int a1)]) hx hb dX9_ending_62 hl (k := 2) rfl (by rw [ev2_62]; rfl) (by decide) rfl (fun ls hl => ?_)
      refine lv_goto (tgt := 35) hx hb dX9_ending_65 (by decide) ?_
      exact ih S_61 G a1 v2_62 hw H locs hP hD hS ls (lv_sub hl [1, 2, 0] rfl)
set_option maxHeartbeats 4000000 in
set_option maxRecDepth 100000 in
theorem tb_X9_ending_28 {p : Program} {l : Launch} {e : Env} {s : State} {m : MethodId} {below : List Frame} {meth : Method} {c : Code} {args : Array Value} {dC : Nat → ClassId} {dI : Nat → Nat → Nat} {cI cJ cZ : ClassId} {o : Nat} {ad : Nat → Nat} {A : Nat → Prop} {Q : Int32 → mS → mG → Prop} (C : mCx p s m args meth c cX9_ending 3 (some .int) wsX9_ending A dC dI cI cJ cZ) : ∀ (S : mS) (G : mG) (k0 : Int32), wp_X9_ending_28 Q  S G k0 → mAt p l e rm_X9_ending s m args below meth c dC dI cI cJ cZ o ad A (MQ below (va_Qi (fun r (u : mS × mG) => Q r u.1 u.2) (mB dC dI cI cJ cZ o ad A) A) args s 0 0 A) 28 3 [(0, .ref o)] [.int k0] S G := by
  obtain ⟨hx, hb, hml, hown, hts, hr, hlocks, hA, hK⟩ := id C
  intro S G k0 hw H locs hP hD hS ls hl
  rw [wp_X9_ending_28] at hw
  refine lv_istore_n (lv' := [(1, .int k0), (0, .ref o)]) hx hb dX9_ending_28 rfl hl (by decide) rfl (fun ls hl => ?_)
  refine lv_iload_n hx hb dX9_ending_29 rfl (lv_at hl 0 rfl) ?_
  refine lv_if_eq (tgt := 91) hx hb dX9_ending_30 (by decide) (fun c_30 => ?_) (fun c_30 => ?_)
  · have hw := hw.1 c_30
    exact tb_X9_ending_91 C  S G k0 hw H locs hP hD hS ls (lv_sub hl [1, 0] rfl)
  · have hw := hw.2 c_30
    refine lv_iconst (v := 0) hx hb dX9_ending_33 (by decide) ?_
    refine lv_istore_n (lv' := [(2, .int (0 : Int32)), (1, .int k0), (0, .ref o)]) hx hb dX9_ending_34 rfl hl (by decide) rfl (fun ls hl => ?_)
    obtain ⟨n9, hw⟩ := hw
    exact tb_X9_ending_35 C  n9 S G k0 (0 : Int32) hw H locs hP hD hS ls (lv_sub hl [2, 1, 0] rfl)
set_option maxHeartbeats 4000000 in
set_option maxRecDepth 100000 in
theorem tb_X9_ending_27 {p : Program} {l : Launch} {e : Env} {s : State} {m : MethodId} {below : List Frame} {meth : Method} {c : Code} {args : Array Value} {dC : Nat → ClassId} {dI : Nat → Nat → Nat} {cI cJ cZ : ClassId} {o : Nat} {ad : Nat → Nat} {A : Nat → Prop} {Q : Int32 → mS → mG → Prop} (C : mCx p s m args meth c cX9_ending 3 (some .int) wsX9_ending A dC dI cI cJ cZ) : ∀ (S : mS) (G : mG) , wp_X9_ending_27 Q  S G  → mAt p l e rm_X9_ending s m args below meth c dC dI cI cJ cZ o ad A (MQ below (va_Qi (fun r (u : mS × mG) => Q r u.1 u.2) (mB dC dI cI cJ cZ o ad A) A) args s 0 0 A) 27 3 [(0, .ref o)] [] S G := by
  obtain ⟨hx, hb, hml, hown, hts, hr, hlocks, hA, hK⟩ := id C
  intro S G  hw H locs hP hD hS ls hl
  rw [wp_X9_ending_27] at hw
  refine lv_iconst (v := 0) hx hb dX9_ending_27 (by decide) ?_
  exact tb_X9_ending_28 C  S G (0 : Int32) hw H locs hP hD hS ls (lv_sub hl [0] rfl)
set_option maxHeartbeats 4000000 in
set_option maxRecDepth 100000 in
theorem tb_X9_ending_0 {p : Program} {l : Launch} {e : Env} {s : State} {m : MethodId} {below : List Frame} {meth : Method} {c : Code} {args : Array Value} {dC : Nat → ClassId} {dI : Nat → Nat → Nat} {cI cJ cZ : ClassId} {o : Nat} {ad : Nat → Nat} {A : Nat → Prop} {Q : Int32 → mS → mG → Prop} (C : mCx p s m args meth c cX9_ending 3 (some .int) wsX9_ending A dC dI cI cJ cZ) : ∀ (S : mS) (G : mG) , wp_X9_ending_0 Q  S G  → mAt p l e rm_X9_ending s m args below meth c dC dI cI cJ cZ o ad A (MQ below (va_Qi (fun r (u : mS × mG) => Q r u.1 u.2) (mB dC dI cI cJ cZ o ad A) A) args s 0 0 A) 0 3 [(0, .ref o)] [] S G := by
  obtain ⟨hx, hb, hml, hown, hts, hr, hlocks, hA, hK⟩ := id C
  intro S G  hw H locs hP hD hS ls hl
  rw [wp_X9_ending_0] at hw
  refine lv_aload_n hx hb dX9_ending_0 rfl (lv_at hl 0 rfl) ?_
  refine lv_iconst (v := 0) hx hb dX9_ending_1 (by decide) ?_
  refine va_put (D := (dC, dI)) (ci := 10) (v := .int (0 : Int32)) (C := RX9) (T := TX9) (N := 38) hx hb hts iw_X9_ending tyX9 tyX9_ok nmX9 hown hK hP hD hS 0 rfl rfl 0 (by decide) (hts _ lk_X9_ending_105) (fun _ h9 => h9) rfl (tyX9_ok 0 (by decide)) rfl rfl (Nat.le_of_ble_eq_true rfl) dX9_ending_2 (fun H locs hP hD hS => ?_)
  obtain ⟨S_2, eS_2⟩ : ∃ y : mS, y = mst S 0 0 (0 : Int32) := ⟨_, rfl⟩
  have hw := hw S_2 eS_2
  have hP : va_P (dC, dI) vwCl (mW cI cJ cZ o ad S_2 G) H := by rw [eS_2]; exact hP
  have hD : va_D A (mW cI cJ cZ o ad S_2 G) := by rw [eS_2]; exact hD
  refine lv_aload_n hx hb dX9_ending_5 rfl (lv_at hl 0 rfl) ?_
  refine lv_iconst (v := 4) hx hb dX9_ending_6 (by decide) ?_
  have hFc := mFree hD hS hA
  refine va_calli (va_runV (As := [.int (4 : Int32)]) (rest := []) ⟨hx, hb, hml, hown, hts⟩ (c_X9_waitingWords l dC dI cI cJ cZ o ad S_2 G H.size (4 : Int32) _ hw) (cwV 1 hts gX9_ending_X9_waitingWords rfl rfl rfl (by decide +kernel) ⟨Nat.le_of_ble_eq_true rfl, Nat.le_of_ble_eq_true rfl⟩) (mPreV [.int (4 : Int32)] hK hP hD) rfl rfl hl.1 rfl (lv_room (Nat.le_of_ble_eq_true rfl)) dX9_ending_7 ⟨Nat.zero_le _, Nat.zero_le _⟩) hS (fun q _ h => hFc q h) hFc (fun r_7 u t H1 locs ht hvm hw hB hz1 hk1 hS => ?_)
  obtain ⟨S_7, G_7⟩ := u
  obtain ⟨hP, -, hD1⟩ := hB
  rw [ht] at hP
  have hw := id hw
  have hP : va_P (dC, dI) vwCl (mW cI cJ cZ o ad S_7 G_7) H1 := hP
  have hD : va_D A (mW cI cJ cZ o ad S_7 G_7) := mGain hD1 hFc
  generalize H1 = H at hP hS ⊢
  refine lv_iconst (v := 1) hx hb dX9_ending_10 (by decide) ?_
  refine lv_icmp_ne (tgt := 27) hx hb dX9_ending_11 (by decide) (fun c_11 => ?_) (fun c_11 => ?_)
  · have hw := hw.1 c_11
    exact tb_X9_ending_27 C  S_7 G_7  hw H locs hP hD hS ls (lv_sub hl [0] rfl)
  · have hw := hw.2 c_11
    refine lv_aload_n hx hb dX9_ending_14 rfl (lv_at hl 0 rfl) ?_
    refine va_get (D := (dC, dI)) (ci := 10) (v := .int (S_7 3 0)) (C := RX9) (T := TX9) (N := 38) hx hb hts iw_X9_ending hown hK hP 0 rfl rfl 3 (by decide) (hts _ lk_X9_ending_116) (fun _ h9 => h9) rfl dX9_ending_15 ?_
    refine lv_bipush (v := 6) hx hb dX9_ending_18 (by decide) ?_
    refine lv_icmp_ge (tgt := 27) hx hb dX9_ending_20 (by decide) (fun c_20 => ?_) (fun c_20 => ?_)
    · have hw := hw.1 c_20
      exact tb_X9_ending_27 C  S_7 G_7  hw H locs hP hD hS ls (lv_sub hl [0] rfl)
    · have hw := hw.2 c_20
      refine lv_iconst (v := 1) hx hb dX9_ending_23 (by decide) ?_
      refine lv_goto (tgt := 28) hx hb dX9_ending_24 (by decide) ?_
      exact tb_X9_ending_28 C  S_7 G_7 (1 : Int32) hw H locs hP hD hS ls (lv_sub hl [0] rfl)
set_option maxHeartbeats 4000000 in
set_option maxRecDepth 100000 in
theorem c_X9_ending (l : Launch) (dC : Nat → ClassId) (dI : Nat → Nat → Nat) (cI cJ cZ : ClassId) (o : Nat) (ad : Nat → Nat) (S : mS) (G : mG) (sz : Nat)  (Q : Int32 → mS → mG → Prop) (hw : wp_X9_ending_0 Q S G ) : Met l yX9_ending wsX9_ending rm_X9_ending (va_Pc [.ref o] (mPre dC dI cI cJ cZ o ad S G sz)) (va_Qi (fun r (u : mS × mG) => Q r u.1 u.2) (mB dC dI cI cJ cZ o ad (mA cI cJ cZ o ad S G sz)) (mA cI cJ cZ o ad S G sz)) 0 0 (mA cI cJ cZ o ad S G sz) := by
  refine Met.ofW (cc := cX9_ending) (maxL := 3) (ret := (some .int)) (by decide) rfl ?_
  intro p e s m args below meth c s₁ B hml hv
  obtain ⟨rfl, hsz, hP, hK, hD0⟩ := hv
  subst hsz
  have hl := lv_entry ([.ref o]) (n := 3) (Nat.le_of_ble_eq_true rfl)
  rw [lg_entry_eq]
  generalize (lg_sl ([.ref o]) ++ List.replicate (3 - (lg_sl ([.ref o])).length) Slot.unset).toArray = ls at hl ⊢
  exact tb_X9_ending_0 (Q := Q) (p := p) ⟨B.exec, B.bytes, hml, findClass_of_methodNamed B.named, atoms_spec (ws := wsX9_ending) B.pre, B.returns, B.notSynchronized, fun q h => Or.inr h, hK⟩ S G  hw s.heap [] hP (hD0.self (sz := s.heap.size)) va_S.rf ls hl
abbrev rm_X9_isThing : Room := { frames := 0, cells := 0, slots := 0, locals := 0 }
def wp_X9_isThing_0 (Q : Int32 → Prop) (a0 : Int32) : Prop :=
    ((a0 < 0 →
      (Q (0 : Int32)))
     ∧ (¬ a0 < 0 →
      (((40 : Int32) ≤ a0 →
        (Q (0 : Int32)))
       ∧ (¬ (40 : Int32) ≤ a0 →
        (Q (1 : Int32))))))
set_option maxHeartbeats 4000000 in
set_option maxRecDepth 100000 in
theorem tb_X9_isThing_0 {p : Program} {l : Launch} {e : Env} {s : State} {m : MethodId} {below : List Frame} {meth : Method} {c : Code} {args : Array Value} {Q : Int32 → Prop} (C : sCx p s m args meth c cX9_isThing 1 (some .boolean) RX9 wsX9_isThing) : ∀ (a0 : Int32), wp_X9_isThing_0 Q  a0 → sAt p l e rm_X9_isThing s m args below meth c (MQ below (vp_Si (fun r => Q r)) args s 0 0 (fun _ => False)) 0 1 [(0, .int a0)] [] := by
  obtain ⟨hx, hb, hml, hown, hts, hr, hlocks⟩ := id C
  intro a0 hw ls hl
  rw [wp_X9_isThing_0] at hw
  refine lv_iload_n hx hb dX9_isThing_0 rfl (lv_at hl 0 rfl) ?_
  refine lv_if_lt (tgt := 14) hx hb dX9_isThing_1 (by decide) (fun c_1 => ?_) (fun c_1 => ?_)
  · have hw := hw.1 c_1
    refine lv_iconst (v := 0) hx hb dX9_isThing_14 (by decide) ?_
    exact W.zret (v := (0 : Int32)) hx hb hr rfl (fun t ht hW => ⟨(0 : Int32), rfl, hw, ht⟩) (fun q h => absurd h List.not_mem_nil) dX9_isThing_15
  · have hw := hw.2 c_1
    refine lv_iload_n hx hb dX9_isThing_4 rfl (lv_at hl 0 rfl) ?_
    refine lv_bipush (v := 40) hx hb dX9_isThing_5 (by decide) ?_
    refine lv_icmp_ge (tgt := 14) hx hb dX9_isThing_7 (by decide) (fun c_7 => ?_) (fun c_7 => ?_)
    · have hw := hw.1 c_7
      refine lv_iconst (v := 0) hx hb dX9_isThing_14 (by decide) ?_
      exact W.zret (v := (0 : Int32)) hx hb hr rfl (fun t ht hW => ⟨(0 : Int32), rfl, hw, ht⟩) (fun q h => absurd h List.not_mem_nil) dX9_isThing_15
    · have hw := hw.2 c_7
      refine lv_iconst (v := 1) hx hb dX9_isThing_10 (by decide) ?_
      refine lv_goto (tgt := 15) hx hb dX9_isThing_11 (by decide) ?_
      exact W.zret (v := (1 : Int32)) hx hb hr rfl (fun t ht hW => ⟨(1 : Int32), rfl, hw, ht⟩) (fun q h => absurd h List.not_mem_nil) dX9_isThing_15
set_option maxHeartbeats 4000000 in
set_option maxRecDepth 100000 in
theorem c_X9_isThing (l : Launch) (a0 : Int32) (Q : Int32 → Prop) (hw : wp_X9_isThing_0 Q a0) : Met l yX9_isThing wsX9_isThing rm_X9_isThing (fun v _ => v = ([.int a0] : List Value).toArray) (vp_Si (fun r => Q r)) 0 0 (fun _ => False) := by
  refine Met.ofW (cc := cX9_isThing) (maxL := 1) (ret := (some .boolean)) (by decide) rfl ?_
  intro p e s m args below meth c s₁ B hml hv
  subst hv
  have hl := lv_entry ([.int a0]) (n := 1) (Nat.le_of_ble_eq_true rfl)
  rw [lg_entry_eq]
  generalize (lg_sl ([.int a0]) ++ List.replicate (1 - (lg_sl ([.int a0])).length) Slot.unset).toArray = ls at hl ⊢
  exact tb_X9_isThing_0 (Q := Q) (p := p) ⟨B.exec, B.bytes, hml, findClass_of_methodNamed B.named, atoms_spec (ws := wsX9_isThing) B.pre, B.returns, B.notSynchronized⟩ a0 hw ls hl
theorem iw_X9_term : ∀ w ∈ u_ws RX9 TX9 38, w ∈ wsX9_term := fun w h => List.mem_cons_of_mem _ (by first | exact List.mem_append_right _ h | decide +kernel +revert)
theorem lk_X9_term_7 : Cond.fieldLink RX9 7 "TermKeeperModel" "wait" "[I" ∈ wsX9_term := by decide +kernel
theorem lk_X9_term_19 : Cond.fieldLink RX9 19 "TermKeeperModel" "letters" "[I" ∈ wsX9_term := by decide +kernel
theorem lk_X9_term_22 : Cond.fieldLink RX9 22 "TermKeeperModel" "sizes" "[I" ∈ wsX9_term := by decide +kernel
theorem lk_X9_term_25 : Cond.fieldLink RX9 25 "TermKeeperModel" "words" "[I" ∈ wsX9_term := by decide +kernel
theorem lk_X9_term_28 : Cond.fieldLink RX9 28 "TermKeeperModel" "thingOf" "[I" ∈ wsX9_term := by decide +kernel
theorem lk_X9_term_31 : Cond.fieldLink RX9 31 "TermKeeperModel" "kindOf" "[I" ∈ wsX9_term := by decide +kernel
theorem lk_X9_term_34 : Cond.fieldLink RX9 34 "TermKeeperModel" "classesOf" "[I" ∈ wsX9_term := by decide +kernel
theorem lk_X9_term_105 : Cond.fieldLink RX9 105 "TermKeeperModel" "thrown" "I" ∈ wsX9_term := by decide +kernel
theorem lk_X9_term_109 : Cond.fieldLink RX9 109 "TermKeeperModel" "waiting" "I" ∈ wsX9_term := by decide +kernel
theorem lk_X9_term_127 : Cond.fieldLink RX9 127 "TermKeeperModel" "terms" "I" ∈ wsX9_term := by decide +kernel
abbrev rm_X9_term : Room := { frames := 1, cells := 0, slots := 0, locals := 24 }
def wp_X9_term_201 (Q : Int32 → mS → mG → Prop) (k126_ : mS → mG → Int32 → Int32 → Int32 → Int32 → Int32 → Int32 → Int32 → Int32 → Prop) (S : mS) (G : mG) (a1 : Int32) (a2 : Int32) (a3 : Int32) (a4 : Int32) (a5 : Int32) (a6 : Int32) (a7 : Int32) (a8 : Int32) : Prop :=
    (∀ v8_201 : Int32, v8_201 = a8 + (1 : Int32) →
      (k126_ S G a1 a2 a3 a4 a5 a6 a7 v8_201))
def wp_X9_term_258 (Q : Int32 → mS → mG → Prop) (S : mS) (G : mG) (a5 : Int32) : Prop :=
    (∀ S_260 : mS, S_260 = mst S 1 0 (0 : Int32) →
      ((a5 = 0 →
        (Q (-1 : Int32) S_260 G))
       ∧ (¬ a5 = 0 →
        (Q ((S_260 4 0) - (1 : Int32)) S_260 G))))
def wp_X9_term_207 (Q : Int32 → mS → mG → Prop) (S : mS) (G : mG) (a1 : Int32) (a2 : Int32) (a3 : Int32) (a4 : Int32) (a5 : Int32) : Prop :=
    (vp_in (S 4 0) 60 ∧ ∀ S_217 : mS, S_217 = mst S 10 (Int32.toNatClampNeg (S 4 0)) a4 →
      (vp_in (S_217 4 0) 60 ∧ ∀ S_227 : mS, S_227 = mst S_217 11 (Int32.toNatClampNeg (S_217 4 0)) a1 →
        (vp_in (S_227 4 0) 60 ∧ ∀ S_237 : mS, S_237 = mst S_227 12 (Int32.toNatClampNeg (S_227 4 0)) a2 →
          (vp_in (S_237 4 0) 60 ∧ ∀ S_247 : mS, S_247 = mst S_237 13 (Int32.toNatClampNeg (S_237 4 0)) a3 →
            (∀ S_255 : mS, S_255 = mst S_247 4 0 ((S_247 4 0) + (1 : Int32)) →
              (wp_X9_term_258 Q  S_255 G a5))))))
def wp_X9_term_126 (Q : Int32 → mS → mG → Prop) : Nat → mS → mG → Int32 → Int32 → Int32 → Int32 → Int32 → Int32 → Int32 → Int32 → Prop
  | 0, _, _, _, _, _, _, _, _, _, _ => False
  | n + 1, S, G, a1, a2, a3, a4, a5, a6, a7, a8 =>
    (((S 1 0) ≤ a8 →
      (wp_X9_term_207 Q  S G a1 a2 a3 a4 a5))
     ∧ (¬ (S 1 0) ≤ a8 →
      (vp_in a8 40 ∧
        ((¬ (S 2 (Int32.toNatClampNeg a8)) = 0 →
          (vp_in a8 40 ∧
            (vp_in ((((36 : Int32) * (S 4 0)) + ((12 : Int32) * a6)) + a7) 2160 ∧ ∀ S_181 : mS, S_181 = mst S 8 (Int32.toNatClampNeg ((((36 : Int32) * (S 4 0)) + ((12 : Int32) * a6)) + a7)) (S 2 (Int32.toNatClampNeg a8)) →
              (∀ v7_182 : Int32, v7_182 = a7 + (1 : Int32) →
                (vp_in (((3 : Int32) * (S_181 4 0)) + a6) 180 ∧ ∀ S_200 : mS, S_200 = mst S_181 9 (Int32.toNatClampNeg (((3 : Int32) * (S_181 4 0)) + a6)) v7_182 →
                  (wp_X9_term_201 Q (wp_X9_term_126 Q  n) S_200 G a1 a2 a3 a4 a5 a6 v7_182 a8))))))
         ∧ ((S 2 (Int32.toNatClampNeg a8)) = 0 →
          (∀ v6_145 : Int32, v6_145 = a6 + (1 : Int32) →
            (wp_X9_term_201 Q (wp_X9_term_126 Q  n) S G a1 a2 a3 a4 a5 v6_145 (0 : Int32) a8)))))))
def wp_X9_term_123 (Q : Int32 → mS → mG → Prop) (S : mS) (G : mG) (a1 : Int32) (a2 : Int32) (a3 : Int32) (a4 : Int32) (a5 : Int32) (a6 : Int32) (a7 : Int32) : Prop :=
    (∃ n9 : Nat, wp_X9_term_126 Q  n9 S G a1 a2 a3 a4 a5 a6 a7 (0 : Int32))
def wp_X9_term_96 (Q : Int32 → mS → mG → Prop) : Nat → mS → mG → Int32 → Int32 → Int32 → Int32 → Int32 → Int32 → Int32 → Int32 → Prop
  | 0, _, _, _, _, _, _, _, _, _, _ => False
  | n + 1, S, G, a1, a2, a3, a4, a5, a6, a7, a8 =>
    (((3 : Int32) ≤ a8 →
      (wp_X9_term_123 Q  S G a1 a2 a3 a4 a5 a6 a7))
     ∧ (¬ (3 : Int32) ≤ a8 →
      (vp_in (((3 : Int32) * (S 4 0)) + a8) 180 ∧ ∀ S_116 : mS, S_116 = mst S 9 (Int32.toNatClampNeg (((3 : Int32) * (S 4 0)) + a8)) (0 : Int32) →
        (∀ v8_117 : Int32, v8_117 = a8 + (1 : Int32) →
          ((wp_X9_term_96 Q  n) S_116 G a1 a2 a3 a4 a5 a6 a7 v8_117)))))
def wp_X9_term_80 (Q : Int32 → mS → mG → Prop) (S : mS) (G : mG) (a1 : Int32) (a2 : Int32) (a3 : Int32) (a4 : Int32) (k0 : Int32) : Prop :=
    ((k0 = 0 →
      (wp_X9_term_258 Q  S G k0))
     ∧ (¬ k0 = 0 →
      (∃ n9 : Nat, wp_X9_term_96 Q  n9 S G a1 a2 a3 a4 k0 (0 : Int32) (0 : Int32) (0 : Int32))))
def wp_X9_term_79 (Q : Int32 → mS → mG → Prop) (S : mS) (G : mG) (a1 : Int32) (a2 : Int32) (a3 : Int32) (a4 : Int32) : Prop :=
    (wp_X9_term_80 Q  S G a1 a2 a3 a4 (0 : Int32))
def wp_X9_term_37 (Q : Int32 → mS → mG → Prop) (S : mS) (G : mG) (a1 : Int32) (a2 : Int32) (a3 : Int32) (k0 : Int32) : Prop :=
    (wp_X9_right_0 (fun r_38 S_38 G_38 =>
      ((¬ r_38 = 0 →
        (wp_X9_waitingWords_0 (fun r_49 S_49 G_49 =>
          ((r_49 < (1 : Int32) →
            (wp_X9_term_79 Q  S_49 G_49 a1 a2 a3 r_49))
           ∧ (¬ r_49 < (1 : Int32) →
            (((3 : Int32) < r_49 →
              (wp_X9_term_79 Q  S_49 G_49 a1 a2 a3 r_49))
             ∧ (¬ (3 : Int32) < r_49 →
              (((60 : Int32) ≤ (S_49 4 0) →
                (wp_X9_term_79 Q  S_49 G_49 a1 a2 a3 r_49))
               ∧ (¬ (60 : Int32) ≤ (S_49 4 0) →
                (wp_X9_term_80 Q  S_49 G_49 a1 a2 a3 r_49 (1 : Int32))))))))) S_38 G_38 (12 : Int32)))
       ∧ (r_38 = 0 →
        (Q (0 : Int32) S_38 G_38)))) S G k0 (1 : Int32))
def wp_X9_term_36 (Q : Int32 → mS → mG → Prop) (S : mS) (G : mG) (a1 : Int32) (a2 : Int32) (a3 : Int32) : Prop :=
    (wp_X9_term_37 Q  S G a1 a2 a3 (0 : Int32))
def wp_X9_term_0 (Q : Int32 → mS → mG → Prop) (S : mS) (G : mG) (a1 : Int32) (a2 : Int32) (a3 : Int32) : Prop :=
    (∀ S_2 : mS, S_2 = mst S 0 0 (0 : Int32) →
      (wp_X9_isThing_0 (fun r_7 =>
        ((r_7 = 0 →
          (wp_X9_term_36 Q  S_2 G a1 a2 a3))
         ∧ (¬ r_7 = 0 →
          ((a2 < 0 →
            (wp_X9_term_36 Q  S_2 G a1 a2 a3))
           ∧ (¬ a2 < 0 →
            (((3 : Int32) < a2 →
              (wp_X9_term_36 Q  S_2 G a1 a2 a3))
             ∧ (¬ (3 : Int32) < a2 →
              ((a3 < 0 →
                (wp_X9_term_36 Q  S_2 G a1 a2 a3))
               ∧ (¬ a3 < 0 →
                (((63 : Int32) < a3 →
                  (wp_X9_term_36 Q  S_2 G a1 a2 a3))
                 ∧ (¬ (63 : Int32) < a3 →
                  (wp_X9_term_37 Q  S_2 G a1 a2 a3 (1 : Int32))))))))))))) a1))
set_option maxHeartbeats 4000000 in
set_option maxRecDepth 100000 in
theorem tb_X9_term_201 {p : Program} {l : Launch} {e : Env} {s : State} {m : MethodId} {below : List Frame} {meth : Method} {c : Code} {args : Array Value} {dC : Nat → ClassId} {dI : Nat → Nat → Nat} {cI cJ cZ : ClassId} {o : Nat} {ad : Nat → Nat} {A : Nat → Prop} {Q : Int32 → mS → mG → Prop} (C : mCx p s m args meth c cX9_term 9 (some .int) wsX9_term A dC dI cI cJ cZ) {k126_ : mS → mG → Int32 → Int32 → Int32 → Int32 → Int32 → Int32 → Int32 → Int32 → Prop} (h126_ : ∀ (S : mS) (G : mG) (a1 : Int32) (a2 : Int32) (a3 : Int32) (a4 : Int32) (a5 : Int32) (a6 : Int32) (a7 : Int32) (a8 : Int32), k126_ S G a1 a2 a3 a4 a5 a6 a7 a8 → mAt p l e rm_X9_term s m args below meth c dC dI cI cJ cZ o ad A (MQ below (va_Qi (fun r (u : mS × mG) => Q r u.1 u.2) (mB dC dI cI cJ cZ o ad A) A) args s 0 0 A) 126 9 [(0, .ref o), (1, .int a1), (2, .int a2), (3, .int a3), (4, .int a4), (5, .int a5), (6, .int a6), (7, .int a7), (8, .int a8)] [] S G) : ∀ (S : mS) (G : mG) (a1 : Int32) (a2 : Int32) (a3 : Int32) (a4 : Int32) (a5 : Int32) (a6 : Int32) (a7 : Int32) (a8 : Int32), wp_X9_term_201 Q k126_ S G a1 a2 a3 a4 a5 a6 a7 a8 → mAt p l e rm_X9_term s m args below meth c dC dI cI cJ cZ o ad A (MQ below (va_Qi (fun r (u : mS × mG) => Q r u.1 u.2) (mB dC dI cI cJ cZ o ad A) A) args s 0 0 A) 201 9 [(0, .ref o), (1, .int a1), (2, .int a2), (3, .int a3), (4, .int a4), (5, .int a5), (6, .int a6), (7, .int a7), (8, .int a8)] [] S G := by
  obtain ⟨hx, hb, hml, hown, hts, hr, hlocks, hA, hK⟩ := id C
  intro S G a1 a2 a3 a4 a5 a6 a7 a8 hw H locs hP hD hS ls hl
  rw [wp_X9_term_201] at hw
  obtain ⟨v8_201, ev8_201⟩ : ∃ y : Int32, y = a8 + (1 : Int32) := ⟨_, rfl⟩
  have hw := hw v8_201 ev8_201
  refine lv_iinc (v := v8_201) (lv' := [(8, .int v8_201), (0, .ref o), (1, .int a1), (2, .int a2), (3, .int a3), (4, .int a4), (5, .int a5), (6, .int a6), (7, .int a7)]) hx hb dX9_term_201 hl (k := 8) rfl (by rw [ev8_201]; rfl) (by decide) rfl (fun ls hl => ?_)
  refine lv_goto (tgt := 126) hx hb dX9_term_204 (by decide) ?_
  exact h126_ S G a1 a2 a3 a4 a5 a6 a7 v8_201 hw H locs hP hD hS ls (lv_sub hl [1, 2, 3, 4, 5, 6, 7, 8, 0] rfl)
set_option maxHeartbeats 4000000 in
set_option maxRecDepth 100000 in
theorem tb_X9_term_258 {p : Program} {l : Launch} {e : Env} {s : State} {m : MethodId} {below : List Frame} {meth : Method} {c : Code} {args : Array Value} {dC : Nat → ClassId} {dI : Nat → Nat → Nat} {cI cJ cZ : ClassId} {o : Nat} {ad : Nat → Nat} {A : Nat → Prop} {Q : Int32 → mS → mG → Prop} (C : mCx p s m args meth c cX9_term 9 (some .int) wsX9_term A dC dI cI cJ cZ) : ∀ (S : mS) (G : mG) (a5 : Int32), wp_X9_term_258 Q  S G a5 → mAt p l e rm_X9_term s m args below meth c dC dI cI cJ cZ o ad A (MQ below (va_Qi (fun r (u : mS × mG) => Q r u.1 u.2) (mB dC dI cI cJ cZ o ad A) A) args s 0 0 A) 258 9 [(0, .ref o), (5, .int a5)] [] S G := by
  obtain ⟨hx, hb, hml, hown, hts, hr, hlocks, hA, hK⟩ := id C
  intro S G a5 hw H locs hP hD hS ls hl
  rw [wp_X9_term_258] at hw
  refine lv_aload_n hx hb dX9_term_258 rfl (lv_at hl 0 rfl) ?_
  refine lv_iconst (v := 0) hx hb dX9_term_259 (by decide) ?_
  refine va_put (D := (dC, dI)) (ci := 10) (v := .int (0 : Int32)) (C := RX9) (T := TX9) (N := 38) hx hb hts iw_X9_term tyX9 tyX9_ok nmX9 hown hK hP hD hS 0 rfl rfl 1 (by decide) (hts _ lk_X9_term_109) (fun _ h9 => h9) rfl (tyX9_ok 1 (by decide)) rfl rfl (Nat.le_of_ble_eq_true rfl) dX9_term_260 (fun H locs hP hD hS => ?_)
  obtain ⟨S_260, eS_260⟩ : ∃ y : mS, y = mst S 1 0 (0 : Int32) := ⟨_, rfl⟩
  have hw := hw S_260 eS_260
  have hP : va_P (dC, dI) vwCl (mW cI cJ cZ o ad S_260 G) H := by rw [eS_260]; exact hP
  have hD : va_D A (mW cI cJ cZ o ad S_260 G) := by rw [eS_260]; exact hD
  refine lv_iload hx hb dX9_term_263 (lv_at hl 1 rfl) ?_
  refine lv_if_eq (tgt := 277) hx hb dX9_term_265 (by decide) (fun c_265 => ?_) (fun c_265 => ?_)
  · have hw := hw.1 c_265
    refine lv_iconst (v := -1) hx hb dX9_term_277 (by decide) ?_
    exact W.iret (v := (-1 : Int32)) hx hb hr (fun t ht hW => ⟨⟨(-1 : Int32), (S_260, G), rfl, hw, by rw [ht]; exact hP, va_K.moved hW.alike hK, hD⟩, hS.F ht⟩) hS.2.2 dX9_term_278
  · have hw := hw.2 c_265
    refine lv_aload_n hx hb dX9_term_268 rfl (lv_at hl 0 rfl) ?_
    refine va_get (D := (dC, dI)) (ci := 10) (v := .int (S_260 4 0)) (C := RX9) (T := TX9) (N := 38) hx hb hts iw_X9_term hown hK hP 0 rfl rfl 4 (by decide) (hts _ lk_X9_term_127) (fun _ h9 => h9) rfl dX9_term_269 ?_
    refine lv_iconst (v := 1) hx hb dX9_term_272 (by decide) ?_
    refine lv_isub hx hb dX9_term_273 ?_
    refine lv_goto (tgt := 278) hx hb dX9_term_274 (by decide) ?_
    exact W.iret (v := ((S_260 4 0) - (1 : Int32))) hx hb hr (fun t ht hW => ⟨⟨((S_260 4 0) - (1 : Int32)), (S_260, G), rfl, hw, by rw [ht]; exact hP, va_K.moved hW.alike hK, hD⟩, hS.F ht⟩) hS.2.2 dX9_term_278
set_option maxHeartbeats 4000000 in
set_option maxRecDepth 100000 in
theorem tb_X9_term_207 {p : Program} {l : Launch} {e : Env} {s : State} {m : MethodId} {below : List Frame} {meth : Method} {c : Code} {args : Array Value} {dC : Nat → ClassId} {dI : Nat → Nat → Nat} {cI cJ cZ : ClassId} {o : Nat} {ad : Nat → Nat} {A : Nat → Prop} {Q : Int32 → mS → mG → Prop} (C : mCx p s m args meth c cX9_term 9 (some .int) wsX9_term A dC dI cI cJ cZ) : ∀ (S : mS) (G : mG) (a1 : Int32) (a2 : Int32) (a3 : Int32) (a4 : Int32) (a5 : Int32), wp_X9_term_207 Q  S G a1 a2 a3 a4 a5 → mAt p l e rm_X9_term s m args below meth c dC dI cI cJ cZ o ad A (MQ below (va_Qi (fun r (u : mS × mG) => Q r u.1 u.2) (mB dC dI cI cJ cZ o ad A) A) args s 0 0 A) 207 9 [(0, .ref o), (1, .int a1), (2, .int a2), (3, .int a3), (4, .int a4), (5, .int a5)] [] S G := by
  obtain ⟨hx, hb, hml, hown, hts, hr, hlocks, hA, hK⟩ := id C
  intro S G a1 a2 a3 a4 a5 hw H locs hP hD hS ls hl
  rw [wp_X9_term_207] at hw
  refine lv_aload_n hx hb dX9_term_207 rfl (lv_at hl 0 rfl) ?_
  refine va_get (D := (dC, dI)) (ci := 10) (v := .ref (ad 10)) (C := RX9) (T := TX9) (N := 38) hx hb hts iw_X9_term hown hK hP 0 rfl rfl 10 (by decide) (hts _ lk_X9_term_25) (fun _ h9 => h9) rfl dX9_term_208 ?_
  refine lv_aload_n hx hb dX9_term_211 rfl (lv_at hl 0 rfl) ?_
  refine va_get (D := (dC, dI)) (ci := 10) (v := .int (S 4 0)) (C := RX9) (T := TX9) (N := 38) hx hb hts iw_X9_term hown hK hP 0 rfl rfl 4 (by decide) (hts _ lk_X9_term_127) (fun _ h9 => h9) rfl dX9_term_212 ?_
  refine lv_iload hx hb dX9_term_215 (lv_at hl 4 rfl) ?_
  refine va_iast hx hb hK hP hD hS 6 0 rfl rfl hw.1 dX9_term_217 (fun H locs hP hD hS => ?_)
  obtain ⟨S_217, eS_217⟩ : ∃ y : mS, y = mst S 10 (Int32.toNatClampNeg (S 4 0)) a4 := ⟨_, rfl⟩
  have hw := hw.2 S_217 eS_217
  have hP : va_P (dC, dI) vwCl (mW cI cJ cZ o ad S_217 G) H := by rw [eS_217]; exact hP
  have hD : va_D A (mW cI cJ cZ o ad S_217 G) := by rw [eS_217]; exact hD
  refine lv_aload_n hx hb dX9_term_218 rfl (lv_at hl 0 rfl) ?_
  refine va_get (D := (dC, dI)) (ci := 10) (v := .ref (ad 11)) (C := RX9) (T := TX9) (N := 38) hx hb hts iw_X9_term hown hK hP 0 rfl rfl 11 (by decide) (hts _ lk_X9_term_28) (fun _ h9 => h9) rfl dX9_term_219 ?_
  refine lv_aload_n hx hb dX9_term_222 rfl (lv_at hl 0 rfl) ?_
  refine va_get (D := (dC, dI)) (ci := 10) (v := .int (S_217 4 0)) (C := RX9) (T := TX9) (N := 38) hx hb hts iw_X9_term hown hK hP 0 rfl rfl 4 (by decide) (hts _ lk_X9_term_127) (fun _ h9 => h9) rfl dX9_term_223 ?_
  refine lv_iload_n hx hb dX9_term_226 rfl (lv_at hl 1 rfl) ?_
  refine va_iast hx hb hK hP hD hS 7 0 rfl rfl hw.1 dX9_term_227 (fun H locs hP hD hS => ?_)
  obtain ⟨S_227, eS_227⟩ : ∃ y : mS, y = mst S_217 11 (Int32.toNatClampNeg (S_217 4 0)) a1 := ⟨_, rfl⟩
  have hw := hw.2 S_227 eS_227
  have hP : va_P (dC, dI) vwCl (mW cI cJ cZ o ad S_227 G) H := by rw [eS_227]; exact hP
  have hD : va_D A (mW cI cJ cZ o ad S_227 G) := by rw [eS_227]; exact hD
  refine lv_aload_n hx hb dX9_term_228 rfl (lv_at hl 0 rfl) ?_
  refine va_get (D := (dC, dI)) (ci := 10) (v := .ref (ad 12)) (C := RX9) (T := TX9) (N := 38) hx hb hts iw_X9_term hown hK hP 0 rfl rfl 12 (by decide) (hts _ lk_X9_term_31) (fun _ h9 => h9) rfl dX9_term_229 ?_
  refine lv_aload_n hx hb dX9_term_232 rfl (lv_at hl 0 rfl) ?_
  refine va_get (D := (dC, dI)) (ci := 10) (v := .int (S_227 4 0)) (C := RX9) (T := TX9) (N := 38) hx hb hts iw_X9_term hown hK hP 0 rfl rfl 4 (by decide) (hts _ lk_X9_term_127) (fun _ h9 => h9) rfl dX9_term_233 ?_
  refine lv_iload_n hx hb dX9_term_236 rfl (lv_at hl 2 rfl) ?_
  refine va_iast hx hb hK hP hD hS 8 0 rfl rfl hw.1 dX9_term_237 (fun H locs hP hD hS => ?_)
  obtain ⟨S_237, eS_237⟩ : ∃ y : mS, y = mst S_227 12 (Int32.toNatClampNeg (S_227 4 0)) a2 := ⟨_, rfl⟩
  have hw := hw.2 S_237 eS_237
  have hP : va_P (dC, dI) vwCl (mW cI cJ cZ o ad S_237 G) H := by rw [eS_237]; exact hP
  have hD : va_D A (mW cI cJ cZ o ad S_237 G) := by rw [eS_237]; exact hD
  refine lv_aload_n hx hb dX9_term_238 rfl (lv_at hl 0 rfl) ?_
  refine va_get (D := (dC, dI)) (ci := 10) (v := .ref (ad 13)) (C := RX9) (T := TX9) (N := 38) hx hb hts iw_X9_term hown hK hP 0 rfl rfl 13 (by decide) (hts _ lk_X9_term_34) (fun _ h9 => h9) rfl dX9_term_239 ?_
  refine lv_aload_n hx hb dX9_term_242 rfl (lv_at hl 0 rfl) ?_
  refine va_get (D := (dC, dI)) (ci := 10) (v := .int (S_237 4 0)) (C := RX9) (T := TX9) (N := 38) hx hb hts iw_X9_term hown hK hP 0 rfl rfl 4 (by decide) (hts _ lk_X9_term_127) (fun _ h9 => h9) rfl dX9_term_243 ?_
  refine lv_iload_n hx hb dX9_term_246 rfl (lv_at hl 3 rfl) ?_
  refine va_iast hx hb hK hP hD hS 9 0 rfl rfl hw.1 dX9_term_247 (fun H locs hP hD hS => ?_)
  obtain ⟨S_247, eS_247⟩ : ∃ y : mS, y = mst S_237 13 (Int32.toNatClampNeg (S_237 4 0)) a3 := ⟨_, rfl⟩
  have hw := hw.2 S_247 eS_247
  have hP : va_P (dC, dI) vwCl (mW cI cJ cZ o ad S_247 G) H := by rw [eS_247]; exact hP
  have hD : va_D A (mW cI cJ cZ o ad S_247 G) := by rw [eS_247]; exact hD
  refine lv_aload_n hx hb dX9_term_248 rfl (lv_at hl 0 rfl) ?_
  refine lv_dup hx hb dX9_term_249 rfl ?_
  refine va_get (D := (dC, dI)) (ci := 10) (v := .int (S_247 4 0)) (C := RX9) (T := TX9) (N := 38) hx hb hts iw_X9_term hown hK hP 0 rfl rfl 4 (by decide) (hts _ lk_X9_term_127) (fun _ h9 => h9) rfl dX9_term_250 ?_
  refine lv_iconst (v := 1) hx hb dX9_term_253 (by decide) ?_
  refine lv_iadd hx hb dX9_term_254 ?_
  refine va_put (D := (dC, dI)) (ci := 10) (v := .int ((S_247 4 0) + (1 : Int32))) (C := RX9) (T := TX9) (N := 38) hx hb hts iw_X9_term tyX9 tyX9_ok nmX9 hown hK hP hD hS 0 rfl rfl 4 (by decide) (hts _ lk_X9_term_127) (fun _ h9 => h9) rfl (tyX9_ok 4 (by decide)) rfl rfl (Nat.le_of_ble_eq_true rfl) dX9_term_255 (fun H locs hP hD hS => ?_)
  obtain ⟨S_255, eS_255⟩ : ∃ y : mS, y = mst S_247 4 0 ((S_247 4 0) + (1 : Int32)) := ⟨_, rfl⟩
  have hw := hw S_255 eS_255
  have hP : va_P (dC, dI) vwCl (mW cI cJ cZ o ad S_255 G) H := by rw [eS_255]; exact hP
  have hD : va_D A (mW cI cJ cZ o ad S_255 G) := by rw [eS_255]; exact hD
  exact tb_X9_term_258 C  S_255 G a5 hw H locs hP hD hS ls (lv_sub hl [0, 5] rfl)
set_option maxHeartbeats 4000000 in
set_option maxRecDepth 100000 in
theorem tb_X9_term_126 {p : Program} {l : Launch} {e : Env} {s : State} {m : MethodId} {below : List Frame} {meth : Method} {c : Code} {args : Array Value} {dC : Nat → ClassId} {dI : Nat → Nat → Nat} {cI cJ cZ : ClassId} {o : Nat} {ad : Nat → Nat} {A : Nat → Prop} {Q : Int32 → mS → mG → Prop} (C : mCx p s m args meth c cX9_term 9 (some .int) wsX9_term A dC dI cI cJ cZ) : ∀ (n : Nat) (S : mS) (G : mG) (a1 : Int32) (a2 : Int32) (a3 : Int32) (a4 : Int32) (a5 : Int32) (a6 : Int32) (a7 : Int32) (a8 : Int32), wp_X9_term_126 Q  n S G a1 a2 a3 a4 a5 a6 a7 a8 → mAt p l e rm_X9_term s m args below meth c dC dI cI cJ cZ o ad A (MQ below (va_Qi (fun r (u : mS × mG) => Q r u.1 u.2) (mB dC dI cI cJ cZ o ad A) A) args s 0 0 A) 126 9 [(0, .ref o), (1, .int a1), (2, .int a2), (3, .int a3), (4, .int a4), (5, .int a5), (6, .int a6), (7, .int a7), (8, .int a8)] [] S G := by
  obtain ⟨hx, hb, hml, hown, hts, hr, hlocks, hA, hK⟩ := id C
  intro n
  induction n with
  | zero => intro S G a1 a2 a3 a4 a5 a6 a7 a8 hw; exact hw.elim
  | succ n ih =>
    intro S G a1 a2 a3 a4 a5 a6 a7 a8 hw H locs hP hD hS ls hl
    rw [wp_X9_term_126] at hw
    refine lv_iload hx hb dX9_term_126 (lv_at hl 8 rfl) ?_
    refine lv_aload_n hx hb dX9_term_128 rfl (lv_at hl 0 rfl) ?_
    refine va_get (D := (dC, dI)) (ci := 10) (v := .int (S 1 0)) (C := RX9) (T := TX9) (N := 38) hx hb hts iw_X9_term hown hK hP 0 rfl rfl 1 (by decide) (hts _ lk_X9_term_109) (fun _ h9 => h9) rfl dX9_term_129 ?_
    refine lv_icmp_ge (tgt := 207) hx hb dX9_term_132 (by decide) (fun c_132 => ?_) (fun c_132 => ?_)
    · have hw := hw.1 c_132
      exact tb_X9_term_207 C  S G a1 a2 a3 a4 a5 hw H locs hP hD hS ls (lv_sub hl [0, 1, 2, 3, 4, 5] rfl)
    · have hw := hw.2 c_132
      refine lv_aload_n hx hb dX9_term_135 rfl (lv_at hl 0 rfl) ?_
      refine va_get (D := (dC, dI)) (ci := 10) (v := .ref (ad 2)) (C := RX9) (T := TX9) (N := 38) hx hb hts iw_X9_term hown hK hP 0 rfl rfl 2 (by decide) (hts _ lk_X9_term_7) (fun _ h9 => h9) rfl dX9_term_136 ?_
      refine lv_iload hx hb dX9_term_139 (lv_at hl 8 rfl) ?_
      refine va_iald hx hb hK hP 1 0 rfl rfl hw.1 dX9_term_141 ?_
      have hw := hw.2
      refine lv_if_ne (tgt := 154) hx hb dX9_term_142 (by decide) (fun c_142 => ?_) (fun c_142 => ?_)
      · have hw := hw.1 c_142
        refine lv_aload_n hx hb dX9_term_154 rfl (lv_at hl 0 rfl) ?_
        refine va_get (D := (dC, dI)) (ci := 10) (v := .ref (ad 8)) (C := RX9) (T := TX9) (N := 38) hx hb hts iw_X9_term hown hK hP 0 rfl rfl 8 (by decide) (hts _ lk_X9_term_19) (fun _ h9 => h9) rfl dX9_term_155 ?_
        refine lv_bipush (v := 36) hx hb dX9_term_158 (by decide) ?_
        refine lv_aload_n hx hb dX9_term_160 rfl (lv_at hl 0 rfl) ?_
        refine va_get (D := (dC, dI)) (ci := 10) (v := .int (S 4 0)) (C := RX9) (T := TX9) (N := 38) hx hb hts iw_X9_term hown hK hP 0 rfl rfl 4 (by decide) (hts _ lk_X9_term_127) (fun _ h9 => h9) rfl dX9_term_161 ?_
        refine lv_imul hx hb dX9_term_164 ?_
        refine lv_bipush (v := 12) hx hb dX9_term_165 (by decide) ?_
        refine lv_iload hx hb dX9_term_167 (lv_at hl 6 rfl) ?_
        refine lv_imul hx hb dX9_term_169 ?_
        refine lv_iadd hx hb dX9_term_170 ?_
        refine lv_iload hx hb dX9_term_171 (lv_at hl 7 rfl) ?_
        refine lv_iadd hx hb dX9_term_173 ?_
        refine lv_aload_n hx hb dX9_term_174 rfl (lv_at hl 0 rfl) ?_
        refine va_get (D := (dC, dI)) (ci := 10) (v := .ref (ad 2)) (C := RX9) (T := TX9) (N := 38) hx hb hts iw_X9_term hown hK hP 0 rfl rfl 2 (by decide) (hts _ lk_X9_term_7) (fun _ h9 => h9) rfl dX9_term_175 ?_
        refine lv_iload hx hb dX9_term_178 (lv_at hl 8 rfl) ?_
        refine va_iald hx hb hK hP 1 0 rfl rfl hw.1 dX9_term_180 ?_
        have hw := hw.2
        refine va_iast hx hb hK hP hD hS 4 0 rfl rfl hw.1 dX9_term_181 (fun H locs hP hD hS => ?_)
        obtain ⟨S_181, eS_181⟩ : ∃ y : mS, y = mst S 8 (Int32.toNatClampNeg ((((36 : Int32) * (S 4 0)) + ((12 : Int32) * a6)) + a7)) (S 2 (Int32.toNatClampNeg a8)) := ⟨_, rfl⟩
        have hw := hw.2 S_181 eS_181
        have hP : va_P (dC, dI) vwCl (mW cI cJ cZ o ad S_181 G) H := by rw [eS_181]; exact hP
        have hD : va_D A (mW cI cJ cZ o ad S_181 G) := by rw [eS_181]; exact hD
        obtain ⟨v7_182, ev7_182⟩ : ∃ y : Int32, y = a7 + (1 : Int32) := ⟨_, rfl⟩
        have hw := hw v7_182 ev7_182
        refine lv_iinc (v := v7_182) (lv' := [(7, .int v7_182), (0, .ref o), (1, .int a1), (2, .int a2), (3, .int a3), (4, .int a4), (5, .int a5), (6, .int a6), (8, .int a8)]) hx hb dX9_term_182 hl (k := 7) rfl (by rw [ev7_182]; rfl) (by decide) rfl (fun ls hl => ?_)
        refine lv_aload_n hx hb dX9_term_185 rfl (lv_at hl 1 rfl) ?_
        refine va_get (D := (dC, dI)) (ci := 10) (v := .ref (ad 9)) (C := RX9) (T := TX9) (N := 38) hx hb hts iw_X9_term hown hK hP 0 rfl rfl 9 (by decide) (hts _ lk_X9_term_22) (fun _ h9 => h9) rfl dX9_term_186 ?_
        refine lv_iconst (v := 3) hx hb dX9_term_189 (by decide) ?_
        refine lv_aload_n hx hb dX9_term_190 rfl (lv_at hl 1 rfl) ?_
        refine va_get (D := (dC, dI)) (ci := 10) (v := .int (S_181 4 0)) (C := RX9) (T := TX9) (N := 38) hx hb hts iw_X9_term hown hK hP 0 rfl rfl 4 (by decide) (hts _ lk_X9_term_127) (fun _ h9 => h9) rfl dX9_term_191 ?_
        refine lv_imul hx hb dX9_term_194 ?_
        refine lv_iload hx hb dX9_term_195 (lv_at hl 7 rfl) ?_
        refine lv_iadd hx hb dX9_term_197 ?_
        refine lv_iload hx hb dX9_term_198 (lv_at hl 0 rfl) ?_
        refine va_iast hx hb hK hP hD hS 5 0 rfl rfl hw.1 dX9_term_200 (fun H locs hP hD hS => ?_)
        obtain ⟨S_200, eS_200⟩ : ∃ y : mS, y = mst S_181 9 (Int32.toNatClampNeg (((3 : Int32) * (S_181 4 0)) + a6)) v7_182 := ⟨_, rfl⟩
        have hw := hw.2 S_200 eS_200
        have hP : va_P (dC, dI) vwCl (mW cI cJ cZ o ad S_200 G) H := by rw [eS_200]; exact hP
        have hD : va_D A (mW cI cJ cZ o ad S_200 G) := by rw [eS_200]; exact hD
        exact tb_X9_term_201 C ih S_200 G a1 a2 a3 a4 a5 a6 v7_182 a8 hw H locs hP hD hS ls (lv_sub hl [1, 2, 3, 4, 5, 6, 7, 0, 8] rfl)
      · have hw := hw.2 c_142
        obtain ⟨v6_145, ev6_145⟩ : ∃ y : Int32, y = a6 + (1 : Int32) := ⟨_, rfl⟩
        have hw := hw v6_145 ev6_145
        refine lv_iinc (v := v6_145) (lv' := [(6, .int v6_145), (0, .ref o), (1, .int a1), (2, .int a2), (3, .int a3), (4, .int a4), (5, .int a5), (7, .int a7), (8, .int a8)]) hx hb dX9_term_145 hl (k := 6) rfl (by rw [ev6_145]; rfl) (by decide) rfl (fun ls hl => ?_)
        refine lv_iconst (v := 0) hx hb dX9_term_148 (by decide) ?_
        refine lv_istore (lv' := [(7, .int (0 : Int32)), (6, .int v6_145), (0, .ref o), (1, .int a1), (2, .int a2), (3, .int a3), (4, .int a4), (5, .int a5), (8, .int a8)]) hx hb dX9_term_149 hl (by decide) rfl (fun ls hl => ?_)
        refine lv_goto (tgt := 201) hx hb dX9_term_151 (by decide) ?_
        exact tb_X9_term_201 C ih S G a1 a2 a3 a4 a5 v6_145 (0 : Int32) a8 hw H locs hP hD hS ls (lv_sub hl [2, 3, 4, 5, 6, 7, 1, 0, 8] rfl)
set_option maxHeartbeats 4000000 in
set_option maxRecDepth 100000 in
theorem tb_X9_term_123 {p : Program} {l : Launch} {e : Env} {s : State} {m : MethodId} {below : List Frame} {meth : Method} {c : Code} {args : Array Value} {dC : Nat → ClassId} {dI : Nat → Nat → Nat} {cI cJ cZ : ClassId} {o : Nat} {ad : Nat → Nat} {A : Nat → Prop} {Q : Int32 → mS → mG → Prop} (C : mCx p s m args meth c cX9_term 9 (some .int) wsX9_term A dC dI cI cJ cZ) : ∀ (S : mS) (G : mG) (a1 : Int32) (a2 : Int32) (a3 : Int32) (a4 : Int32) (a5 : Int32) (a6 : Int32) (a7 : Int32), wp_X9_term_123 Q  S G a1 a2 a3 a4 a5 a6 a7 → mAt p l e rm_X9_term s m args below meth c dC dI cI cJ cZ o ad A (MQ below (va_Qi (fun r (u : mS × mG) => Q r u.1 u.2) (mB dC dI cI cJ cZ o ad A) A) args s 0 0 A) 123 9 [(0, .ref o), (1, .int a1), (2, .int a2), (3, .int a3), (4, .int a4), (5, .int a5), (6, .int a6), (7, .int a7)] [] S G := by
  obtain ⟨hx, hb, hml, hown, hts, hr, hlocks, hA, hK⟩ := id C
  intro S G a1 a2 a3 a4 a5 a6 a7 hw H locs hP hD hS ls hl
  rw [wp_X9_term_123] at hw
  refine lv_iconst (v := 0) hx hb dX9_term_123 (by decide) ?_
  refine lv_istore (lv' := [(8, .int (0 : Int32)), (0, .ref o), (1, .int a1), (2, .int a2), (3, .int a3), (4, .int a4), (5, .int a5), (6, .int a6), (7, .int a7)]) hx hb dX9_term_124 hl (by decide) rfl (fun ls hl => ?_)
  obtain ⟨n9, hw⟩ := hw
  exact tb_X9_term_126 C  n9 S G a1 a2 a3 a4 a5 a6 a7 (0 : Int32) hw H locs hP hD hS ls (lv_sub hl [1, 2, 3, 4, 5, 6, 7, 8, 0] rfl)
set_option maxHeartbeats 4000000 in
set_option maxRecDepth 100000 in
theorem tb_X9_term_96 {p : Program} {l : Launch} {e : Env} {s : State} {m : MethodId} {below : List Frame} {meth : Method} {c : Code} {args : Array Value} {dC : Nat → ClassId} {dI : Nat → Nat → Nat} {cI cJ cZ : ClassId} {o : Nat} {ad : Nat → Nat} {A : Nat → Prop} {Q : Int32 → mS → mG → Prop} (C : mCx p s m args meth c cX9_term 9 (some .int) wsX9_term A dC dI cI cJ cZ) : ∀ (n : Nat) (S : mS) (G : mG) (a1 : Int32) (a2 : Int32) (a3 : Int32) (a4 : Int32) (a5 : Int32) (a6 : Int32) (a7 : Int32) (a8 : Int32), wp_X9_term_96 Q  n S G a1 a2 a3 a4 a5 a6 a7 a8 → mAt p l e rm_X9_term s m args below meth c dC dI cI cJ cZ o ad A (MQ below (va_Qi (fun r (u : mS × mG) => Q r u.1 u.2) (mB dC dI cI cJ cZ o ad A) A) args s 0 0 A) 96 9 [(0, .ref o), (1, .int a1), (2, .int a2), (3, .int a3), (4, .int a4), (5, .int a5), (6, .int a6), (7, .int a7), (8, .int a8)] [] S G := by
  obtain ⟨hx, hb, hml, hown, hts, hr, hlocks, hA, hK⟩ := id C
  intro n
  induction n with
  | zero => intro S G a1 a2 a3 a4 a5 a6 a7 a8 hw; exact hw.elim
  | succ n ih =>
    intro S G a1 a2 a3 a4 a5 a6 a7 a8 hw H locs hP hD hS ls hl
    rw [wp_X9_term_96] at hw
    refine lv_iload hx hb dX9_term_96 (lv_at hl 8 rfl) ?_
    refine lv_iconst (v := 3) hx hb dX9_term_98 (by decide) ?_
    refine lv_icmp_ge (tgt := 123) hx hb dX9_term_99 (by decide) (fun c_99 => ?_) (fun c_99 => ?_)
    · have hw := hw.1 c_99
      exact tb_X9_term_123 C  S G a1 a2 a3 a4 a5 a6 a7 hw H locs hP hD hS ls (lv_sub hl [0, 1, 2, 3, 4, 5, 6, 7] rfl)
    · have hw := hw.2 c_99
      refine lv_aload_n hx hb dX9_term_102 rfl (lv_at hl 0 rfl) ?_
      refine va_get (D := (dC, dI)) (ci := 10) (v := .ref (ad 9)) (C := RX9) (T := TX9) (N := 38) hx hb hts iw_X9_term hown hK hP 0 rfl rfl 9 (by decide) (hts _ lk_X9_term_22) (fun _ h9 => h9) rfl dX9_term_103 ?_
      refine lv_iconst (v := 3) hx hb dX9_term_106 (by decide) ?_
      refine lv_aload_n hx hb dX9_term_107 rfl (lv_at hl 0 rfl) ?_
      refine va_get (D := (dC, dI)) (ci := 10) (v := .int (S 4 0)) (C := RX9) (T := TX9) (N := 38) hx hb hts iw_X9_term hown hK hP 0 rfl rfl 4 (by decide) (hts _ lk_X9_term_127) (fun _ h9 => h9) rfl dX9_term_108 ?_
      refine lv_imul hx hb dX9_term_111 ?_
      refine lv_iload hx hb dX9_term_112 (lv_at hl 8 rfl) ?_
      refine lv_iadd hx hb dX9_term_114 ?_
      refine lv_iconst (v := 0) hx hb dX9_term_115 (by decide) ?_
      refine va_iast hx hb hK hP hD hS 5 0 rfl rfl hw.1 dX9_term_116 (fun H locs hP hD hS => ?_)
      obtain ⟨S_116, eS_116⟩ : ∃ y : mS, y = mst S 9 (Int32.toNatClampNeg (((3 : Int32) * (S 4 0)) + a8)) (0 : Int32) := ⟨_, rfl⟩
      have hw := hw.2 S_116 eS_116
      have hP : va_P (dC, dI) vwCl (mW cI cJ cZ o ad S_116 G) H := by rw [eS_116]; exact hP
      have hD : va_D A (mW cI cJ cZ o ad S_116 G) := by rw [eS_116]; exact hD
      obtain ⟨v8_117, ev8_117⟩ : ∃ y : Int32, y = a8 + (1 : Int32) := ⟨_, rfl⟩
      have hw := hw v8_117 ev8_117
      refine lv_iinc (v := v8_117) (lv' := [(8, .int v8_117), (0, .ref o), (1, .int a1), (2, .int a2), (3, .int a3), (4, .int a4), (5, .int a5), (6, .int a6), (7, .int a7)]) hx hb dX9_term_117 hl (k := 8) rfl (by rw [ev8_117]; rfl) (by decide) rfl (fun ls hl => ?_)
      refine lv_goto (tgt := 96) hx hb dX9_term_120 (by decide) ?_
      exact ih S_116 G a1 a2 a3 a4 a5 a6 a7 v8_117 hw H locs hP hD hS ls (lv_sub hl [1, 2, 3, 4, 5, 6, 7, 8, 0] rfl)
set_option maxHeartbeats 4000000 in
set_option maxRecDepth 100000 in
theorem tb_X9_term_80 {p : Program} {l : Launch} {e : Env} {s : State} {m : MethodId} {below : List Frame} {meth : Method} {c : Code} {args : Array Value} {dC : Nat → ClassId} {dI : Nat → Nat → Nat} {cI cJ cZ : ClassId} {o : Nat} {ad : Nat → Nat} {A : Nat → Prop} {Q : Int32 → mS → mG → Prop} (C : mCx p s m args meth c cX9_term 9 (some .int) wsX9_term A dC dI cI cJ cZ) : ∀ (S : mS) (G : mG) (a1 : Int32) (a2 : Int32) (a3 : Int32) (a4 : Int32) (k0 : Int32), wp_X9_term_80 Q  S G a1 a2 a3 a4 k0 → mAt p l e rm_X9_term s m args below meth c dC dI cI cJ cZ o ad A (MQ below (va_Qi (fun r (u : mS × mG) => Q r u.1 u.2) (mB dC dI cI cJ cZ o ad A) A) args s 0 0 A) 80 9 [(0, .ref o), (1, .int a1), (2, .int a2), (3, .int a3), (4, .int a4)] [.int k0] S G := by
  obtain ⟨hx, hb, hml, hown, hts, hr, hlocks, hA, hK⟩ := id C
  intro S G a1 a2 a3 a4 k0 hw H locs hP hD hS ls hl
  rw [wp_X9_term_80] at hw
  refine lv_istore (lv' := [(5, .int k0), (0, .ref o), (1, .int a1), (2, .int a2), (3, .int a3), (4, .int a4)]) hx hb dX9_term_80 hl (by decide) rfl (fun ls hl => ?_)
  refine lv_iload hx hb dX9_term_82 (lv_at hl 0 rfl) ?_
  refine lv_if_eq (tgt := 258) hx hb dX9_term_84 (by decide) (fun c_84 => ?_) (fun c_84 => ?_)
  · have hw := hw.1 c_84
    exact tb_X9_term_258 C  S G k0 hw H locs hP hD hS ls (lv_sub hl [1, 0] rfl)
  · have hw := hw.2 c_84
    refine lv_iconst (v := 0) hx hb dX9_term_87 (by decide) ?_
    refine lv_istore (lv' := [(6, .int (0 : Int32)), (5, .int k0), (0, .ref o), (1, .int a1), (2, .int a2), (3, .int a3), (4, .int a4)]) hx hb dX9_term_88 hl (by decide) rfl (fun ls hl => ?_)
    refine lv_iconst (v := 0) hx hb dX9_term_90 (by decide) ?_
    refine lv_istore (lv' := [(7, .int (0 : Int32)), (6, .int (0 : Int32)), (5, .int k0), (0, .ref o), (1, .int a1), (2, .int a2), (3, .int a3), (4, .int a4)]) hx hb dX9_term_91 hl (by decide) rfl (fun ls hl => ?_)
    refine lv_iconst (v := 0) hx hb dX9_term_93 (by decide) ?_
    refine lv_istore (lv' := [(8, .int (0 : Int32)), (7, .int (0 : Int32)), (6, .int (0 : Int32)), (5, .int k0), (0, .ref o), (1, .int a1), (2, .int a2), (3, .int a3), (4, .int a4)]) hx hb dX9_term_94 hl (by decide) rfl (fun ls hl => ?_)
    obtain ⟨n9, hw⟩ := hw
    exact tb_X9_term_96 C  n9 S G a1 a2 a3 a4 k0 (0 : Int32) (0 : Int32) (0 : Int32) hw H locs hP hD hS ls (lv_sub hl [4, 5, 6, 7, 8, 3, 2, 1, 0] rfl)
set_option maxHeartbeats 4000000 in
set_option maxRecDepth 100000 in
theorem tb_X9_term_79 {p : Program} {l : Launch} {e : Env} {s : State} {m : MethodId} {below : List Frame} {meth : Method} {c : Code} {args : Array Value} {dC : Nat → ClassId} {dI : Nat → Nat → Nat} {cI cJ cZ : ClassId} {o : Nat} {ad : Nat → Nat} {A : Nat → Prop} {Q : Int32 → mS → mG → Prop} (C : mCx p s m args meth c cX9_term 9 (some .int) wsX9_term A dC dI cI cJ cZ) : ∀ (S : mS) (G : mG) (a1 : Int32) (a2 : Int32) (a3 : Int32) (a4 : Int32), wp_X9_term_79 Q  S G a1 a2 a3 a4 → mAt p l e rm_X9_term s m args below meth c dC dI cI cJ cZ o ad A (MQ below (va_Qi (fun r (u : mS × mG) => Q r u.1 u.2) (mB dC dI cI cJ cZ o ad A) A) args s 0 0 A) 79 9 [(0, .ref o), (1, .int a1), (2, .int a2), (3, .int a3), (4, .int a4)] [] S G := by
  obtain ⟨hx, hb, hml, hown, hts, hr, hlocks, hA, hK⟩ := id C
  intro S G a1 a2 a3 a4 hw H locs hP hD hS ls hl
  rw [wp_X9_term_79] at hw
  refine lv_iconst (v := 0) hx hb dX9_term_79 (by decide) ?_
  exact tb_X9_term_80 C  S G a1 a2 a3 a4 (0 : Int32) hw H locs hP hD hS ls (lv_sub hl [0, 1, 2, 3, 4] rfl)
set_option maxHeartbeats 4000000 in
set_option maxRecDepth 100000 in
theorem tb_X9_term_37 {p : Program} {l : Launch} {e : Env} {s : State} {m : MethodId} {below : List Frame} {meth : Method} {c : Code} {args : Array Value} {dC : Nat → ClassId} {dI : Nat → Nat → Nat} {cI cJ cZ : ClassId} {o : Nat} {ad : Nat → Nat} {A : Nat → Prop} {Q : Int32 → mS → mG → Prop} (C : mCx p s m args meth c cX9_term 9 (some .int) wsX9_term A dC dI cI cJ cZ) : ∀ (S : mS) (G : mG) (a1 : Int32) (a2 : Int32) (a3 : Int32) (k0 : Int32), wp_X9_term_37 Q  S G a1 a2 a3 k0 → mAt p l e rm_X9_term s m args below meth c dC dI cI cJ cZ o ad A (MQ below (va_Qi (fun r (u : mS × mG) => Q r u.1 u.2) (mB dC dI cI cJ cZ o ad A) A) args s 0 0 A) 37 9 [(0, .ref o), (1, .int a1), (2, .int a2), (3, .int a3)] [.int k0, .ref o] S G := by
  obtain ⟨hx, hb, hml, hown, hts, hr, hlocks, hA, hK⟩ := id C
  intro S G a1 a2 a3 k0 hw H locs hP hD hS ls hl
  rw [wp_X9_term_37] at hw
  refine lv_iconst (v := 1) hx hb dX9_term_37 (by decide) ?_
  have hFc := mFree hD hS hA
  refine va_calli (va_runV (As := [.int k0, .int (1 : Int32)]) (rest := []) ⟨hx, hb, hml, hown, hts⟩ (c_X9_right l dC dI cI cJ cZ o ad S G H.size k0 (1 : Int32) _ hw) (cwV 2 hts gX9_term_X9_right rfl rfl rfl (by decide +kernel) ⟨Nat.le_of_ble_eq_true rfl, Nat.le_of_ble_eq_true rfl⟩) (mPreV [.int k0, .int (1 : Int32)] hK hP hD) rfl rfl hl.1 rfl (lv_room (Nat.le_of_ble_eq_true rfl)) dX9_term_38 ⟨Nat.zero_le _, Nat.zero_le _⟩) hS (fun q _ h => hFc q h) hFc (fun r_38 u t H1 locs ht hvm hw hB hz1 hk1 hS => ?_)
  obtain ⟨S_38, G_38⟩ := u
  obtain ⟨hP, -, hD1⟩ := hB
  rw [ht] at hP
  have hw := id hw
  have hP : va_P (dC, dI) vwCl (mW cI cJ cZ o ad S_38 G_38) H1 := hP
  have hD : va_D A (mW cI cJ cZ o ad S_38 G_38) := mGain hD1 hFc
  generalize H1 = H at hP hS ⊢
  refine lv_if_ne (tgt := 46) hx hb dX9_term_41 (by decide) (fun c_41 => ?_) (fun c_41 => ?_)
  · have hw := hw.1 c_41
    refine lv_aload_n hx hb dX9_term_46 rfl (lv_at hl 0 rfl) ?_
    refine lv_bipush (v := 12) hx hb dX9_term_47 (by decide) ?_
    have hFc := mFree hD hS hA
    refine va_calli (va_runV (As := [.int (12 : Int32)]) (rest := []) ⟨hx, hb, hml, hown, hts⟩ (c_X9_waitingWords l dC dI cI cJ cZ o ad S_38 G_38 H.size (12 : Int32) _ hw) (cwV 1 hts gX9_term_X9_waitingWords rfl rfl rfl (by decide +kernel) ⟨Nat.le_of_ble_eq_true rfl, Nat.le_of_ble_eq_true rfl⟩) (mPreV [.int (12 : Int32)] hK hP hD) rfl rfl hl.1 rfl (lv_room (Nat.le_of_ble_eq_true rfl)) dX9_term_49 ⟨Nat.zero_le _, Nat.zero_le _⟩) hS (fun q _ h => hFc q h) hFc (fun r_49 u t H1 locs ht hvm hw hB hz1 hk1 hS => ?_)
    obtain ⟨S_49, G_49⟩ := u
    obtain ⟨hP, -, hD1⟩ := hB
    rw [ht] at hP
    have hw := id hw
    have hP : va_P (dC, dI) vwCl (mW cI cJ cZ o ad S_49 G_49) H1 := hP
    have hD : va_D A (mW cI cJ cZ o ad S_49 G_49) := mGain hD1 hFc
    generalize H1 = H at hP hS ⊢
    refine lv_istore (lv' := [(4, .int r_49), (0, .ref o), (1, .int a1), (2, .int a2), (3, .int a3)]) hx hb dX9_term_52 hl (by decide) rfl (fun ls hl => ?_)
    refine lv_iload hx hb dX9_term_54 (lv_at hl 0 rfl) ?_
    refine lv_iconst (v := 1) hx hb dX9_term_56 (by decide) ?_
    refine lv_icmp_lt (tgt := 79) hx hb dX9_term_57 (by decide) (fun c_57 => ?_) (fun c_57 => ?_)
    · have hw := hw.1 c_57
      exact tb_X9_term_79 C  S_49 G_49 a1 a2 a3 r_49 hw H locs hP hD hS ls (lv_sub hl [1, 2, 3, 4, 0] rfl)
    · have hw := hw.2 c_57
      refine lv_iload hx hb dX9_term_60 (lv_at hl 0 rfl) ?_
      refine lv_iconst (v := 3) hx hb dX9_term_62 (by decide) ?_
      refine lv_icmp_gt (tgt := 79) hx hb dX9_term_63 (by decide) (fun c_63 => ?_) (fun c_63 => ?_)
      · have hw := hw.1 c_63
        exact tb_X9_term_79 C  S_49 G_49 a1 a2 a3 r_49 hw H locs hP hD hS ls (lv_sub hl [1, 2, 3, 4, 0] rfl)
      · have hw := hw.2 c_63
        refine lv_aload_n hx hb dX9_term_66 rfl (lv_at hl 1 rfl) ?_
        refine va_get (D := (dC, dI)) (ci := 10) (v := .int (S_49 4 0)) (C := RX9) (T := TX9) (N := 38) hx hb hts iw_X9_term hown hK hP 0 rfl rfl 4 (by decide) (hts _ lk_X9_term_127) (fun _ h9 => h9) rfl dX9_term_67 ?_
        refine lv_bipush (v := 60) hx hb dX9_term_70 (by decide) ?_
        refine lv_icmp_ge (tgt := 79) hx hb dX9_term_72 (by decide) (fun c_72 => ?_) (fun c_72 => ?_)
        · have hw := hw.1 c_72
          exact tb_X9_term_79 C  S_49 G_49 a1 a2 a3 r_49 hw H locs hP hD hS ls (lv_sub hl [1, 2, 3, 4, 0] rfl)
        · have hw := hw.2 c_72
          refine lv_iconst (v := 1) hx hb dX9_term_75 (by decide) ?_
          refine lv_goto (tgt := 80) hx hb dX9_term_76 (by decide) ?_
          exact tb_X9_term_80 C  S_49 G_49 a1 a2 a3 r_49 (1 : Int32) hw H locs hP hD hS ls (lv_sub hl [1, 2, 3, 4, 0] rfl)
  · have hw := hw.2 c_41
    refine lv_iconst (v := 0) hx hb dX9_term_44 (by decide) ?_
    exact W.iret (v := (0 : Int32)) hx hb hr (fun t ht hW => ⟨⟨(0 : Int32), (S_38, G_38), rfl, hw, by rw [ht]; exact hP, va_K.moved hW.alike hK, hD⟩, hS.F ht⟩) hS.2.2 dX9_term_45
set_option maxHeartbeats 4000000 in
set_option maxRecDepth 100000 in
theorem tb_X9_term_36 {p : Program} {l : Launch} {e : Env} {s : State} {m : MethodId} {below : List Frame} {meth : Method} {c : Code} {args : Array Value} {dC : Nat → ClassId} {dI : Nat → Nat → Nat} {cI cJ cZ : ClassId} {o : Nat} {ad : Nat → Nat} {A : Nat → Prop} {Q : Int32 → mS → mG → Prop} (C : mCx p s m args meth c cX9_term 9 (some .int) wsX9_term A dC dI cI cJ cZ) : ∀ (S : mS) (G : mG) (a1 : Int32) (a2 : Int32) (a3 : Int32), wp_X9_term_36 Q  S G a1 a2 a3 → mAt p l e rm_X9_term s m args below meth c dC dI cI cJ cZ o ad A (MQ below (va_Qi (fun r (u : mS × mG) => Q r u.1 u.2) (mB dC dI cI cJ cZ o ad A) A) args s 0 0 A) 36 9 [(0, .ref o), (1, .int a1), (2, .int a2), (3, .int a3)] [.ref o] S G := by
  obtain ⟨hx, hb, hml, hown, hts, hr, hlocks, hA, hK⟩ := id C
  intro S G a1 a2 a3 hw H locs hP hD hS ls hl
  rw [wp_X9_term_36] at hw
  refine lv_iconst (v := 0) hx hb dX9_term_36 (by decide) ?_
  exact tb_X9_term_37 C  S G a1 a2 a3 (0 : Int32) hw H locs hP hD hS ls (lv_sub hl [0, 1, 2, 3] rfl)
set_option maxHeartbeats 4000000 in
set_option maxRecDepth 100000 in
theorem tb_X9_term_0 {p : Program} {l : Launch} {e : Env} {s : State} {m : MethodId} {below : List Frame} {meth : Method} {c : Code} {args : Array Value} {dC : Nat → ClassId} {dI : Nat → Nat → Nat} {cI cJ cZ : ClassId} {o : Nat} {ad : Nat → Nat} {A : Nat → Prop} {Q : Int32 → mS → mG → Prop} (C : mCx p s m args meth c cX9_term 9 (some .int) wsX9_term A dC dI cI cJ cZ) : ∀ (S : mS) (G : mG) (a1 : Int32) (a2 : Int32) (a3 : Int32), wp_X9_term_0 Q  S G a1 a2 a3 → mAt p l e rm_X9_term s m args below meth c dC dI cI cJ cZ o ad A (MQ below (va_Qi (fun r (u : mS × mG) => Q r u.1 u.2) (mB dC dI cI cJ cZ o ad A) A) args s 0 0 A) 0 9 [(0, .ref o), (1, .int a1), (2, .int a2), (3, .int a3)] [] S G := by
  obtain ⟨hx, hb, hml, hown, hts, hr, hlocks, hA, hK⟩ := id C
  intro S G a1 a2 a3 hw H locs hP hD hS ls hl
  rw [wp_X9_term_0] at hw
  refine lv_aload_n hx hb dX9_term_0 rfl (lv_at hl 0 rfl) ?_
  refine lv_iconst (v := 0) hx hb dX9_term_1 (by decide) ?_
  refine va_put (D := (dC, dI)) (ci := 10) (v := .int (0 : Int32)) (C := RX9) (T := TX9) (N := 38) hx hb hts iw_X9_term tyX9 tyX9_ok nmX9 hown hK hP hD hS 0 rfl rfl 0 (by decide) (hts _ lk_X9_term_105) (fun _ h9 => h9) rfl (tyX9_ok 0 (by decide)) rfl rfl (Nat.le_of_ble_eq_true rfl) dX9_term_2 (fun H locs hP hD hS => ?_)
  obtain ⟨S_2, eS_2⟩ : ∃ y : mS, y = mst S 0 0 (0 : Int32) := ⟨_, rfl⟩
  have hw := hw S_2 eS_2
  have hP : va_P (dC, dI) vwCl (mW cI cJ cZ o ad S_2 G) H := by rw [eS_2]; exact hP
  have hD : va_D A (mW cI cJ cZ o ad S_2 G) := by rw [eS_2]; exact hD
  refine lv_aload_n hx hb dX9_term_5 rfl (lv_at hl 0 rfl) ?_
  refine lv_iload_n hx hb dX9_term_6 rfl (lv_at hl 1 rfl) ?_
  refine vp_callSi (W.runS (As := [.int a1]) (rest := [.ref o]) ⟨hx, hb, hml, hown, hts⟩ (c_X9_isThing l a1 _ hw) (va_cwS 1 hts gX9_term_X9_isThing rfl rfl rfl (by decide +kernel) ⟨Nat.le_of_ble_eq_true rfl, Nat.le_of_ble_eq_true rfl⟩) preEq rfl rfl hl.1 rfl (lv_room (Nat.le_of_ble_eq_true rfl)) dX9_term_7 ⟨Nat.zero_le _, Nat.zero_le _⟩) (fun r_7 hw => ?_)
  refine lv_if_eq (tgt := 36) hx hb dX9_term_10 (by decide) (fun c_10 => ?_) (fun c_10 => ?_)
  · have hw := hw.1 c_10
    exact tb_X9_term_36 C  S_2 G a1 a2 a3 hw H locs hP hD hS ls (lv_sub hl [0, 1, 2, 3] rfl)
  · have hw := hw.2 c_10
    refine lv_iload_n hx hb dX9_term_13 rfl (lv_at hl 2 rfl) ?_
    refine lv_if_lt (tgt := 36) hx hb dX9_term_14 (by decide) (fun c_14 => ?_) (fun c_14 => ?_)
    · have hw := hw.1 c_14
      exact tb_X9_term_36 C  S_2 G a1 a2 a3 hw H locs hP hD hS ls (lv_sub hl [0, 1, 2, 3] rfl)
    · have hw := hw.2 c_14
      refine lv_iload_n hx hb dX9_term_17 rfl (lv_at hl 2 rfl) ?_
      refine lv_iconst (v := 3) hx hb dX9_term_18 (by decide) ?_
      refine lv_icmp_gt (tgt := 36) hx hb dX9_term_19 (by decide) (fun c_19 => ?_) (fun c_19 => ?_)
      · have hw := hw.1 c_19
        exact tb_X9_term_36 C  S_2 G a1 a2 a3 hw H locs hP hD hS ls (lv_sub hl [0, 1, 2, 3] rfl)
      · have hw := hw.2 c_19
        refine lv_iload_n hx hb dX9_term_22 rfl (lv_at hl 3 rfl) ?_
        refine lv_if_lt (tgt := 36) hx hb dX9_term_23 (by decide) (fun c_23 => ?_) (fun c_23 => ?_)
        · have hw := hw.1 c_23
          exact tb_X9_term_36 C  S_2 G a1 a2 a3 hw H locs hP hD hS ls (lv_sub hl [0, 1, 2, 3] rfl)
        · have hw := hw.2 c_23
          refine lv_iload_n hx hb dX9_term_26 rfl (lv_at hl 3 rfl) ?_
          refine lv_bipush (v := 63) hx hb dX9_term_27 (by decide) ?_
          refine lv_icmp_gt (tgt := 36) hx hb dX9_term_29 (by decide) (fun c_29 => ?_) (fun c_29 => ?_)
          · have hw := hw.1 c_29
            exact tb_X9_term_36 C  S_2 G a1 a2 a3 hw H locs hP hD hS ls (lv_sub hl [0, 1, 2, 3] rfl)
          · have hw := hw.2 c_29
            refine lv_iconst (v := 1) hx hb dX9_term_32 (by decide) ?_
            refine lv_goto (tgt := 37) hx hb dX9_term_33 (by decide) ?_
            exact tb_X9_term_37 C  S_2 G a1 a2 a3 (1 : Int32) hw H locs hP hD hS ls (lv_sub hl [0, 1, 2, 3] rfl)
set_option maxHeartbeats 4000000 in
set_option maxRecDepth 100000 in
theorem c_X9_term (l : Launch) (dC : Nat → ClassId) (dI : Nat → Nat → Nat) (cI cJ cZ : ClassId) (o : Nat) (ad : Nat → Nat) (S : mS) (G : mG) (sz : Nat) (a1 : Int32) (a2 : Int32) (a3 : Int32) (Q : Int32 → mS → mG → Prop) (hw : wp_X9_term_0 Q S G a1 a2 a3) : Met l yX9_term wsX9_term rm_X9_term (va_Pc [.ref o, .int a1, .int a2, .int a3] (mPre dC dI cI cJ cZ o ad S G sz)) (va_Qi (fun r (u : mS × mG) => Q r u.1 u.2) (mB dC dI cI cJ cZ o ad (mA cI cJ cZ o ad S G sz)) (mA cI cJ cZ o ad S G sz)) 0 0 (mA cI cJ cZ o ad S G sz) := by
  refine Met.ofW (cc := cX9_term) (maxL := 9) (ret := (some .int)) (by decide) rfl ?_
  intro p e s m args below meth c s₁ B hml hv
  obtain ⟨rfl, hsz, hP, hK, hD0⟩ := hv
  subst hsz
  have hl := lv_entry ([.ref o, .int a1, .int a2, .int a3]) (n := 9) (Nat.le_of_ble_eq_true rfl)
  rw [lg_entry_eq]
  generalize (lg_sl ([.ref o, .int a1, .int a2, .int a3]) ++ List.replicate (9 - (lg_sl ([.ref o, .int a1, .int a2, .int a3])).length) Slot.unset).toArray = ls at hl ⊢
  exact tb_X9_term_0 (Q := Q) (p := p) ⟨B.exec, B.bytes, hml, findClass_of_methodNamed B.named, atoms_spec (ws := wsX9_term) B.pre, B.returns, B.notSynchronized, fun q h => Or.inr h, hK⟩ S G a1 a2 a3 hw s.heap [] hP (hD0.self (sz := s.heap.size)) va_S.rf ls hl
theorem iw_X9_neighbour : ∀ w ∈ u_ws RX9 TX9 38, w ∈ wsX9_neighbour := fun w h => List.mem_cons_of_mem _ (by first | exact List.mem_append_right _ h | decide +kernel +revert)
theorem lk_X9_neighbour_7 : Cond.fieldLink RX9 7 "TermKeeperModel" "wait" "[I" ∈ wsX9_neighbour := by decide +kernel
theorem lk_X9_neighbour_37 : Cond.fieldLink RX9 37 "TermKeeperModel" "neighbour" "[I" ∈ wsX9_neighbour := by decide +kernel
theorem lk_X9_neighbour_40 : Cond.fieldLink RX9 40 "TermKeeperModel" "neighbourSize" "[I" ∈ wsX9_neighbour := by decide +kernel
theorem lk_X9_neighbour_43 : Cond.fieldLink RX9 43 "TermKeeperModel" "neighbours" "[I" ∈ wsX9_neighbour := by decide +kernel
theorem lk_X9_neighbour_105 : Cond.fieldLink RX9 105 "TermKeeperModel" "thrown" "I" ∈ wsX9_neighbour := by decide +kernel
theorem lk_X9_neighbour_109 : Cond.fieldLink RX9 109 "TermKeeperModel" "waiting" "I" ∈ wsX9_neighbour := by decide +kernel
abbrev rm_X9_neighbour : Room := { frames := 1, cells := 0, slots := 0, locals := 24 }
def wp_X9_neighbour_136 (Q : Int32 → mS → mG → Prop) (k48_ : mS → mG → Int32 → Int32 → Int32 → Prop) (k90_ : mS → mG → Int32 → Int32 → Int32 → Int32 → Prop) (S : mS) (G : mG) (a1 : Int32) (a3 : Int32) (a5 : Int32) (k0 : Int32) : Prop :=
    (∀ v5_138 : Int32, v5_138 = a5 + (1 : Int32) →
      (k90_ S G a1 a3 k0 v5_138))
def wp_X9_neighbour_154 (Q : Int32 → mS → mG → Prop) (k48_ : mS → mG → Int32 → Int32 → Int32 → Prop) (S : mS) (G : mG) (a1 : Int32) (a3 : Int32) (k0 : Int32) : Prop :=
    (∀ v3_155 : Int32, v3_155 = a3 + (1 : Int32) →
      (k48_ S G a1 k0 v3_155))
def wp_X9_neighbour_144 (Q : Int32 → mS → mG → Prop) (k48_ : mS → mG → Int32 → Int32 → Int32 → Prop) (S : mS) (G : mG) (a1 : Int32) (a3 : Int32) (a4 : Int32) : Prop :=
    ((¬ a4 = 0 →
      (wp_X9_neighbour_154 Q k48_ S G a1 a3 (0 : Int32)))
     ∧ (a4 = 0 →
      (wp_X9_neighbour_154 Q k48_ S G a1 a3 (1 : Int32))))
def wp_X9_neighbour_90 (Q : Int32 → mS → mG → Prop) (k48_ : mS → mG → Int32 → Int32 → Int32 → Prop) : Nat → mS → mG → Int32 → Int32 → Int32 → Int32 → Prop
  | 0, _, _, _, _, _, _ => False
  | n + 1, S, G, a1, a3, a4, a5 =>
    (((S 1 0) ≤ a5 →
      (wp_X9_neighbour_144 Q k48_ S G a1 a3 a4))
     ∧ (¬ (S 1 0) ≤ a5 →
      ((a4 = 0 →
        (wp_X9_neighbour_144 Q k48_ S G a1 a3 a4))
       ∧ (¬ a4 = 0 →
        (vp_in ((((96 : Int32) * a1) + ((12 : Int32) * a3)) + a5) 3840 ∧
          (vp_in a5 40 ∧
            ((¬ (S 14 (Int32.toNatClampNeg ((((96 : Int32) * a1) + ((12 : Int32) * a3)) + a5))) = (S 2 (Int32.toNatClampNeg a5)) →
              (wp_X9_neighbour_136 Q k48_ (wp_X9_neighbour_90 Q k48_ n) S G a1 a3 a5 (0 : Int32)))
             ∧ ((S 14 (Int32.toNatClampNeg ((((96 : Int32) * a1) + ((12 : Int32) * a3)) + a5))) = (S 2 (Int32.toNatClampNeg a5)) →
              (wp_X9_neighbour_136 Q k48_ (wp_X9_neighbour_90 Q k48_ n) S G a1 a3 a5 (1 : Int32))))))))))
def wp_X9_neighbour_85 (Q : Int32 → mS → mG → Prop) (k48_ : mS → mG → Int32 → Int32 → Int32 → Prop) (S : mS) (G : mG) (a1 : Int32) (a3 : Int32) (k0 : Int32) : Prop :=
    (∃ n9 : Nat, wp_X9_neighbour_90 Q k48_ n9 S G a1 a3 k0 (0 : Int32))
def wp_X9_neighbour_239 (Q : Int32 → mS → mG → Prop) (S : mS) (G : mG) (a1 : Int32) (a2 : Int32) : Prop :=
    (∀ S_241 : mS, S_241 = mst S 1 0 (0 : Int32) →
      ((a2 = 0 →
        (Q (-1 : Int32) S_241 G))
       ∧ (¬ a2 = 0 →
        (vp_in a1 40 ∧
          (Q (S_241 16 (Int32.toNatClampNeg a1)) S_241 G)))))
def wp_X9_neighbour_214 (Q : Int32 → mS → mG → Prop) (S : mS) (G : mG) (a1 : Int32) (a2 : Int32) (a3 : Int32) : Prop :=
    (vp_in (((8 : Int32) * a1) + a3) 320 ∧ ∀ S_228 : mS, S_228 = mst S 15 (Int32.toNatClampNeg (((8 : Int32) * a1) + a3)) (S 1 0) →
      (vp_in a1 40 ∧
        (vp_in a1 40 ∧ ∀ S_238 : mS, S_238 = mst S_228 16 (Int32.toNatClampNeg a1) ((S_228 16 (Int32.toNatClampNeg a1)) + (1 : Int32)) →
          (wp_X9_neighbour_239 Q  S_238 G a1 a2))))
def wp_X9_neighbour_175 (Q : Int32 → mS → mG → Prop) : Nat → mS → mG → Int32 → Int32 → Int32 → Int32 → Prop
  | 0, _, _, _, _, _, _ => False
  | n + 1, S, G, a1, a2, a3, a4 =>
    (((S 1 0) ≤ a4 →
      (wp_X9_neighbour_214 Q  S G a1 a2 a3))
     ∧ (¬ (S 1 0) ≤ a4 →
      (vp_in a4 40 ∧
        (vp_in ((((96 : Int32) * a1) + ((12 : Int32) * a3)) + a4) 3840 ∧ ∀ S_207 : mS, S_207 = mst S 14 (Int32.toNatClampNeg ((((96 : Int32) * a1) + ((12 : Int32) * a3)) + a4)) (S 2 (Int32.toNatClampNeg a4)) →
          (∀ v4_208 : Int32, v4_208 = a4 + (1 : Int32) →
            ((wp_X9_neighbour_175 Q  n) S_207 G a1 a2 a3 v4_208))))))
def wp_X9_neighbour_161 (Q : Int32 → mS → mG → Prop) (S : mS) (G : mG) (a1 : Int32) (a2 : Int32) : Prop :=
    ((a2 = 0 →
      (wp_X9_neighbour_239 Q  S G a1 a2))
     ∧ (¬ a2 = 0 →
      (vp_in a1 40 ∧
        (∀ v3_171 : Int32, v3_171 = (S 16 (Int32.toNatClampNeg a1)) →
          (∃ n9 : Nat, wp_X9_neighbour_175 Q  n9 S G a1 a2 v3_171 (0 : Int32))))))
def wp_X9_neighbour_48 (Q : Int32 → mS → mG → Prop) : Nat → mS → mG → Int32 → Int32 → Int32 → Prop
  | 0, _, _, _, _, _ => False
  | n + 1, S, G, a1, a2, a3 =>
    (vp_in a1 40 ∧
      (((S 16 (Int32.toNatClampNeg a1)) ≤ a3 →
        (wp_X9_neighbour_161 Q  S G a1 a2))
       ∧ (¬ (S 16 (Int32.toNatClampNeg a1)) ≤ a3 →
        ((a2 = 0 →
          (wp_X9_neighbour_161 Q  S G a1 a2))
         ∧ (¬ a2 = 0 →
          (vp_in (((8 : Int32) * a1) + a3) 320 ∧
            ((¬ (S 15 (Int32.toNatClampNeg (((8 : Int32) * a1) + a3))) = (S 1 0) →
              (wp_X9_neighbour_85 Q (wp_X9_neighbour_48 Q  n) S G a1 a3 (0 : Int32)))
             ∧ ((S 15 (Int32.toNatClampNeg (((8 : Int32) * a1) + a3))) = (S 1 0) →
              (wp_X9_neighbour_85 Q (wp_X9_neighbour_48 Q  n) S G a1 a3 (1 : Int32))))))))))
def wp_X9_neighbour_45 (Q : Int32 → mS → mG → Prop) (S : mS) (G : mG) (a1 : Int32) (k0 : Int32) : Prop :=
    (∃ n9 : Nat, wp_X9_neighbour_48 Q  n9 S G a1 k0 (0 : Int32))
def wp_X9_neighbour_44 (Q : Int32 → mS → mG → Prop) (S : mS) (G : mG) (a1 : Int32) : Prop :=
    (wp_X9_neighbour_45 Q  S G a1 (0 : Int32))
def wp_X9_neighbour_0 (Q : Int32 → mS → mG → Prop) (S : mS) (G : mG) (a1 : Int32) : Prop :=
    (∀ S_2 : mS, S_2 = mst S 0 0 (0 : Int32) →
      (wp_X9_isThing_0 (fun r_7 =>
        (wp_X9_right_0 (fun r_11 S_11 G_11 =>
          ((¬ r_11 = 0 →
            (wp_X9_waitingWords_0 (fun r_22 S_22 G_22 =>
              ((¬ r_22 = (1 : Int32) →
                (wp_X9_neighbour_44 Q  S_22 G_22 a1))
               ∧ (r_22 = (1 : Int32) →
                (vp_in a1 40 ∧
                  (((8 : Int32) ≤ (S_22 16 (Int32.toNatClampNeg a1)) →
                    (wp_X9_neighbour_44 Q  S_22 G_22 a1))
                   ∧ (¬ (8 : Int32) ≤ (S_22 16 (Int32.toNatClampNeg a1)) →
                    (wp_X9_neighbour_45 Q  S_22 G_22 a1 (1 : Int32)))))))) S_11 G_11 (12 : Int32)))
           ∧ (r_11 = 0 →
            (Q (0 : Int32) S_11 G_11)))) S_2 G r_7 (1 : Int32))) a1))
set_option maxHeartbeats 4000000 in
set_option maxRecDepth 100000 in
theorem tb_X9_neighbour_136 {p : Program} {l : Launch} {e : Env} {s : State} {m : MethodId} {below : List Frame} {meth : Method} {c : Code} {args : Array Value} {dC : Nat → ClassId} {dI : Nat → Nat → Nat} {cI cJ cZ : ClassId} {o : Nat} {ad : Nat → Nat} {A : Nat → Prop} {Q : Int32 → mS → mG → Prop} (C : mCx p s m args meth c cX9_neighbour 6 (some .int) wsX9_neighbour A dC dI cI cJ cZ) {k48_ : mS → mG → Int32 → Int32 → Int32 → Prop} (h48_ : ∀ (S : mS) (G : mG) (a1 : Int32) (a2 : Int32) (a3 : Int32), k48_ S G a1 a2 a3 → mAt p l e rm_X9_neighbour s m args below meth c dC dI cI cJ cZ o ad A (MQ below (va_Qi (fun r (u : mS × mG) => Q r u.1 u.2) (mB dC dI cI cJ cZ o ad A) A) args s 0 0 A) 48 6 [(0, .ref o), (1, .int a1), (2, .int a2), (3, .int a3)] [] S G) {k90_ : mS → mG → Int32 → Int32 → Int32 → Int32 → Prop} (h90_ : ∀ (S : mS) (G : mG) (a1 : Int32) (a3 : Int32) (a4 : Int32) (a5 : Int32), k90_ S G a1 a3 a4 a5 → mAt p l e rm_X9_neighbour s m args below meth c dC dI cI cJ cZ o ad A (MQ below (va_Qi (fun r (u : mS × mG) => Q r u.1 u.2) (mB dC dI cI cJ cZ o ad A) A) args s 0 0 A) 90 6 [(0, .ref o), (1, .int a1), (3, .int a3), (4, .int a4), (5, .int a5)] [] S G) : ∀ (S : mS) (G : mG) (a1 : Int32) (a3 : Int32) (a5 : Int32) (k0 : Int32), wp_X9_neighbour_136 Q k48_ k90_ S G a1 a3 a5 k0 → mAt p l e rm_X9_neighbour s m args below meth c dC dI cI cJ cZ o ad A (MQ below (va_Qi (fun r (u : mS × mG) => Q r u.1 u.2) (mB dC dI cI cJ cZ o ad A) A) args s 0 0 A) 136 6 [(0, .ref o), (1, .int a1), (3, .int a3), (5, .int a5)] [.int k0] S G := by
  obtain ⟨hx, hb, hml, hown, hts, hr, hlocks, hA, hK⟩ := id C
  intro S G a1 a3 a5 k0 hw H locs hP hD hS ls hl
  rw [wp_X9_neighbour_136] at hw
  refine lv_istore (lv' := [(4, .int k0), (0, .ref o), (1, .int a1), (3, .int a3), (5, .int a5)]) hx hb dX9_neighbour_136 hl (by decide) rfl (fun ls hl => ?_)
  obtain ⟨v5_138, ev5_138⟩ : ∃ y : Int32, y = a5 + (1 : Int32) := ⟨_, rfl⟩
  have hw := hw v5_138 ev5_138
  refine lv_iinc (v := v5_138) (lv' := [(5, .int v5_138), (4, .int k0), (0, .ref o), (1, .int a1), (3, .int a3)]) hx hb dX9_neighbour_138 hl (k := 4) rfl (by rw [ev5_138]; rfl) (by decide) rfl (fun ls hl => ?_)
  refine lv_goto (tgt := 90) hx hb dX9_neighbour_141 (by decide) ?_
  exact h90_ S G a1 a3 k0 v5_138 hw H locs hP hD hS ls (lv_sub hl [2, 3, 4, 1, 0] rfl)
set_option maxHeartbeats 4000000 in
set_option maxRecDepth 100000 in
theorem tb_X9_neighbour_154 {p : Program} {l : Launch} {e : Env} {s : State} {m : MethodId} {below : List Frame} {meth : Method} {c : Code} {args : Array Value} {dC : Nat → ClassId} {dI : Nat → Nat → Nat} {cI cJ cZ : ClassId} {o : Nat} {ad : Nat → Nat} {A : Nat → Prop} {Q : Int32 → mS → mG → Prop} (C : mCx p s m args meth c cX9_neighbour 6 (some .int) wsX9_neighbour A dC dI cI cJ cZ) {k48_ : mS → mG → Int32 → Int32 → Int32 → Prop} (h48_ : ∀ (S : mS) (G : mG) (a1 : Int32) (a2 : Int32) (a3 : Int32), k48_ S G a1 a2 a3 → mAt p l e rm_X9_neighbour s m args below meth c dC dI cI cJ cZ o ad A (MQ below (va_Qi (fun r (u : mS × mG) => Q r u.1 u.2) (mB dC dI cI cJ cZ o ad A) A) args s 0 0 A) 48 6 [(0, .ref o), (1, .int a1), (2, .int a2), (3, .int a3)] [] S G) : ∀ (S : mS) (G : mG) (a1 : Int32) (a3 : Int32) (k0 : Int32), wp_X9_neighbour_154 Q k48_ S G a1 a3 k0 → mAt p l e rm_X9_neighbour s m args below meth c dC dI cI cJ cZ o ad A (MQ below (va_Qi (fun r (u : mS × mG) => Q r u.1 u.2) (mB dC dI cI cJ cZ o ad A) A) args s 0 0 A) 154 6 [(0, .ref o), (1, .int a1), (3, .int a3)] [.int k0] S G := by
  obtain ⟨hx, hb, hml, hown, hts, hr, hlocks, hA, hK⟩ := id C
  intro S G a1 a3 k0 hw H locs hP hD hS ls hl
  rw [wp_X9_neighbour_154] at hw
  refine lv_istore_n (lv' := [(2, .int k0), (0, .ref o), (1, .int a1), (3, .int a3)]) hx hb dX9_neighbour_154 rfl hl (by decide) rfl (fun ls hl => ?_)
  obtain ⟨v3_155, ev3_155⟩ : ∃ y : Int32, y = a3 + (1 : Int32) := ⟨_, rfl⟩
  have hw := hw v3_155 ev3_155
  refine lv_iinc (v := v3_155) (lv' := [(3, .int v3_155), (2, .int k0), (0, .ref o), (1, .int a1)]) hx hb dX9_neighbour_155 hl (k := 3) rfl (by rw [ev3_155]; rfl) (by decide) rfl (fun ls hl => ?_)
  refine lv_goto (tgt := 48) hx hb dX9_neighbour_158 (by decide) ?_
  exact h48_ S G a1 k0 v3_155 hw H locs hP hD hS ls (lv_sub hl [2, 3, 1, 0] rfl)
set_option maxHeartbeats 4000000 in
set_option maxRecDepth 100000 in
theorem tb_X9_neighbour_144 {p : Program} {l : Launch} {e : Env} {s : State} {m : MethodId} {below : List Frame} {meth : Method} {c : Code} {args : Array Value} {dC : Nat → ClassId} {dI : Nat → Nat → Nat} {cI cJ cZ : ClassId} {o : Nat} {ad : Nat → Nat} {A : Nat → Prop} {Q : Int32 → mS → mG → Prop} (C : mCx p s m args meth c cX9_neighbour 6 (some .int) wsX9_neighbour A dC dI cI cJ cZ) {k48_ : mS → mG → Int32 → Int32 → Int32 → Prop} (h48_ : ∀ (S : mS) (G : mG) (a1 : Int32) (a2 : Int32) (a3 : Int32), k48_ S G a1 a2 a3 → mAt p l e rm_X9_neighbour s m args below meth c dC dI cI cJ cZ o ad A (MQ below (va_Qi (fun r (u : mS × mG) => Q r u.1 u.2) (mB dC dI cI cJ cZ o ad A) A) args s 0 0 A) 48 6 [(0, .ref o), (1, .int a1), (2, .int a2), (3, .int a3)] [] S G) : ∀ (S : mS) (G : mG) (a1 : Int32) (a3 : Int32) (a4 : Int32), wp_X9_neighbour_144 Q k48_ S G a1 a3 a4 → mAt p l e rm_X9_neighbour s m args below meth c dC dI cI cJ cZ o ad A (MQ below (va_Qi (fun r (u : mS × mG) => Q r u.1 u.2) (mB dC dI cI cJ cZ o ad A) A) args s 0 0 A) 144 6 [(0, .ref o), (1, .int a1), (3, .int a3), (4, .int a4)] [] S G := by
  obtain ⟨hx, hb, hml, hown, hts, hr, hlocks, hA, hK⟩ := id C
  intro S G a1 a3 a4 hw H locs hP hD hS ls hl
  rw [wp_X9_neighbour_144] at hw
  refine lv_iload hx hb dX9_neighbour_144 (lv_at hl 3 rfl) ?_
  refine lv_if_ne (tgt := 153) hx hb dX9_neighbour_146 (by decide) (fun c_146 => ?_) (fun c_146 => ?_)
  · have hw := hw.1 c_146
    refine lv_iconst (v := 0) hx hb dX9_neighbour_153 (by decide) ?_
    exact tb_X9_neighbour_154 C h48_ S G a1 a3 (0 : Int32) hw H locs hP hD hS ls (lv_sub hl [0, 1, 2] rfl)
  · have hw := hw.2 c_146
    refine lv_iconst (v := 1) hx hb dX9_neighbour_149 (by decide) ?_
    refine lv_goto (tgt := 154) hx hb dX9_neighbour_150 (by decide) ?_
    exact tb_X9_neighbour_154 C h48_ S G a1 a3 (1 : Int32) hw H locs hP hD hS ls (lv_sub hl [0, 1, 2] rfl)
set_option maxHeartbeats 4000000 in
set_option maxRecDepth 100000 in
theorem tb_X9_neighbour_90 {p : Program} {l : Launch} {e : Env} {s : State} {m : MethodId} {below : List Frame} {meth : Method} {c : Code} {args : Array Value} {dC : Nat → ClassId} {dI : Nat → Nat → Nat} {cI cJ cZ : ClassId} {o : Nat} {ad : Nat → Nat} {A : Nat → Prop} {Q : Int32 → mS → mG → Prop} (C : mCx p s m args meth c cX9_neighbour 6 (some .int) wsX9_neighbour A dC dI cI cJ cZ) {k48_ : mS → mG → Int32 → Int32 → Int32 → Prop} (h48_ : ∀ (S : mS) (G : mG) (a1 : Int32) (a2 : Int32) (a3 : Int32), k48_ S G a1 a2 a3 → mAt p l e rm_X9_neighbour s m args below meth c dC dI cI cJ cZ o ad A (MQ below (va_Qi (fun r (u : mS × mG) => Q r u.1 u.2) (mB dC dI cI cJ cZ o ad A) A) args s 0 0 A) 48 6 [(0, .ref o), (1, .int a1), (2, .int a2), (3, .int a3)] [] S G) : ∀ (n : Nat) (S : mS) (G : mG) (a1 : Int32) (a3 : Int32) (a4 : Int32) (a5 : Int32), wp_X9_neighbour_90 Q k48_ n S G a1 a3 a4 a5 → mAt p l e rm_X9_neighbour s m args below meth c dC dI cI cJ cZ o ad A (MQ below (va_Qi (fun r (u : mS × mG) => Q r u.1 u.2) (mB dC dI cI cJ cZ o ad A) A) args s 0 0 A) 90 6 [(0, .ref o), (1, .int a1), (3, .int a3), (4, .int a4), (5, .int a5)] [] S G := by
  obtain ⟨hx, hb, hml, hown, hts, hr, hlocks, hA, hK⟩ := id C
  intro n
  induction n with
  | zero => intro S G a1 a3 a4 a5 hw; exact hw.elim
  | succ n ih =>
    intro S G a1 a3 a4 a5 hw H locs hP hD hS ls hl
    rw [wp_X9_neighbour_90] at hw
    refine lv_iload hx hb dX9_neighbour_90 (lv_at hl 4 rfl) ?_
    refine lv_aload_n hx hb dX9_neighbour_92 rfl (lv_at hl 0 rfl) ?_
    refine va_get (D := (dC, dI)) (ci := 10) (v := .int (S 1 0)) (C := RX9) (T := TX9) (N := 38) hx hb hts iw_X9_neighbour hown hK hP 0 rfl rfl 1 (by decide) (hts _ lk_X9_neighbour_109) (fun _ h9 => h9) rfl dX9_neighbour_93 ?_
    refine lv_icmp_ge (tgt := 144) hx hb dX9_neighbour_96 (by decide) (fun c_96 => ?_) (fun c_96 => ?_)
    · have hw := hw.1 c_96
      exact tb_X9_neighbour_144 C h48_ S G a1 a3 a4 hw H locs hP hD hS ls (lv_sub hl [0, 1, 2, 3] rfl)
    · have hw := hw.2 c_96
      refine lv_iload hx hb dX9_neighbour_99 (lv_at hl 3 rfl) ?_
      refine lv_if_eq (tgt := 144) hx hb dX9_neighbour_101 (by decide) (fun c_101 => ?_) (fun c_101 => ?_)
      · have hw := hw.1 c_101
        exact tb_X9_neighbour_144 C h48_ S G a1 a3 a4 hw H locs hP hD hS ls (lv_sub hl [0, 1, 2, 3] rfl)
      · have hw := hw.2 c_101
        refine lv_aload_n hx hb dX9_neighbour_104 rfl (lv_at hl 0 rfl) ?_
        refine va_get (D := (dC, dI)) (ci := 10) (v := .ref (ad 14)) (C := RX9) (T := TX9) (N := 38) hx hb hts iw_X9_neighbour hown hK hP 0 rfl rfl 14 (by decide) (hts _ lk_X9_neighbour_37) (fun _ h9 => h9) rfl dX9_neighbour_105 ?_
        refine lv_bipush (v := 96) hx hb dX9_neighbour_108 (by decide) ?_
        refine lv_iload_n hx hb dX9_neighbour_110 rfl (lv_at hl 1 rfl) ?_
        refine lv_imul hx hb dX9_neighbour_111 ?_
        refine lv_bipush (v := 12) hx hb dX9_neighbour_112 (by decide) ?_
        refine lv_iload_n hx hb dX9_neighbour_114 rfl (lv_at hl 2 rfl) ?_
        refine lv_imul hx hb dX9_neighbour_115 ?_
        refine lv_iadd hx hb dX9_neighbour_116 ?_
        refine lv_iload hx hb dX9_neighbour_117 (lv_at hl 4 rfl) ?_
        refine lv_iadd hx hb dX9_neighbour_119 ?_
        refine va_iald hx hb hK hP 10 0 rfl rfl hw.1 dX9_neighbour_120 ?_
        have hw := hw.2
        refine lv_aload_n hx hb dX9_neighbour_121 rfl (lv_at hl 0 rfl) ?_
        refine va_get (D := (dC, dI)) (ci := 10) (v := .ref (ad 2)) (C := RX9) (T := TX9) (N := 38) hx hb hts iw_X9_neighbour hown hK hP 0 rfl rfl 2 (by decide) (hts _ lk_X9_neighbour_7) (fun _ h9 => h9) rfl dX9_neighbour_122 ?_
        refine lv_iload hx hb dX9_neighbour_125 (lv_at hl 4 rfl) ?_
        refine va_iald hx hb hK hP 1 0 rfl rfl hw.1 dX9_neighbour_127 ?_
        have hw := hw.2
        refine lv_icmp_ne (tgt := 135) hx hb dX9_neighbour_128 (by decide) (fun c_128 => ?_) (fun c_128 => ?_)
        · have hw := hw.1 c_128
          refine lv_iconst (v := 0) hx hb dX9_neighbour_135 (by decide) ?_
          exact tb_X9_neighbour_136 C h48_ ih S G a1 a3 a5 (0 : Int32) hw H locs hP hD hS ls (lv_sub hl [0, 1, 2, 4] rfl)
        · have hw := hw.2 c_128
          refine lv_iconst (v := 1) hx hb dX9_neighbour_131 (by decide) ?_
          refine lv_goto (tgt := 136) hx hb dX9_neighbour_132 (by decide) ?_
          exact tb_X9_neighbour_136 C h48_ ih S G a1 a3 a5 (1 : Int32) hw H locs hP hD hS ls (lv_sub hl [0, 1, 2, 4] rfl)
set_option maxHeartbeats 4000000 in
set_option maxRecDepth 100000 in
theorem tb_X9_neighbour_85 {p : Program} {l : Launch} {e : Env} {s : State} {m : MethodId} {below : List Frame} {meth : Method} {c : Code} {args : Array Value} {dC : Nat → ClassId} {dI : Nat → Nat → Nat} {cI cJ cZ : ClassId} {o : Nat} {ad : Nat → Nat} {A : Nat → Prop} {Q : Int32 → mS → mG → Prop} (C : mCx p s m args meth c cX9_neighbour 6 (some .int) wsX9_neighbour A dC dI cI cJ cZ) {k48_ : mS → mG → Int32 → Int32 → Int32 → Prop} (h48_ : ∀ (S : mS) (G : mG) (a1 : Int32) (a2 : Int32) (a3 : Int32), k48_ S G a1 a2 a3 → mAt p l e rm_X9_neighbour s m args below meth c dC dI cI cJ cZ o ad A (MQ below (va_Qi (fun r (u : mS × mG) => Q r u.1 u.2) (mB dC dI cI cJ cZ o ad A) A) args s 0 0 A) 48 6 [(0, .ref o), (1, .int a1), (2, .int a2), (3, .int a3)] [] S G) : ∀ (S : mS) (G : mG) (a1 : Int32) (a3 : Int32) (k0 : Int32), wp_X9_neighbour_85 Q k48_ S G a1 a3 k0 → mAt p l e rm_X9_neighbour s m args below meth c dC dI cI cJ cZ o ad A (MQ below (va_Qi (fun r (u : mS × mG) => Q r u.1 u.2) (mB dC dI cI cJ cZ o ad A) A) args s 0 0 A) 85 6 [(0, .ref o), (1, .int a1), (3, .int a3)] [.int k0] S G := by
  obtain ⟨hx, hb, hml, hown, hts, hr, hlocks, hA, hK⟩ := id C
  intro S G a1 a3 k0 hw H locs hP hD hS ls hl
  rw [wp_X9_neighbour_85] at hw
  refine lv_istore (lv' := [(4, .int k0), (0, .ref o), (1, .int a1), (3, .int a3)]) hx hb dX9_neighbour_85 hl (by decide) rfl (fun ls hl => ?_)
  refine lv_iconst (v := 0) hx hb dX9_neighbour_87 (by decide) ?_
  refine lv_istore (lv' := [(5, .int (0 : Int32)), (4, .int k0), (0, .ref o), (1, .int a1), (3, .int a3)]) hx hb dX9_neighbour_88 hl (by decide) rfl (fun ls hl => ?_)
  obtain ⟨n9, hw⟩ := hw
  exact tb_X9_neighbour_90 C h48_ n9 S G a1 a3 k0 (0 : Int32) hw H locs hP hD hS ls (lv_sub hl [2, 3, 4, 1, 0] rfl)
set_option maxHeartbeats 4000000 in
set_option maxRecDepth 100000 in
theorem tb_X9_neighbour_239 {p : Program} {l : Launch} {e : Env} {s : State} {m : MethodId} {below : List Frame} {meth : Method} {c : Code} {args : Array Value} {dC : Nat → ClassId} {dI : Nat → Nat → Nat} {cI cJ cZ : ClassId} {o : Nat} {ad : Nat → Nat} {A : Nat → Prop} {Q : Int32 → mS → mG → Prop} (C : mCx p s m args meth c cX9_neighbour 6 (some .int) wsX9_neighbour A dC dI cI cJ cZ) : ∀ (S : mS) (G : mG) (a1 : Int32) (a2 : Int32), wp_X9_neighbour_239 Q  S G a1 a2 → mAt p l e rm_X9_neighbour s m args below meth c dC dI cI cJ cZ o ad A (MQ below (va_Qi (fun r (u : mS × mG) => Q r u.1 u.2) (mB dC dI cI cJ cZ o ad A) A) args s 0 0 A) 239 6 [(0, .ref o), (1, .int a1), (2, .int a2)] [] S G := by
  obtain ⟨hx, hb, hml, hown, hts, hr, hlocks, hA, hK⟩ := id C
  intro S G a1 a2 hw H locs hP hD hS ls hl
  rw [wp_X9_neighbour_239] at hw
  refine lv_aload_n hx hb dX9_neighbour_239 rfl (lv_at hl 0 rfl) ?_
  refine lv_iconst (v := 0) hx hb dX9_neighbour_240 (by decide) ?_
  refine va_put (D := (dC, dI)) (ci := 10) (v := .int (0 : Int32)) (C := RX9) (T := TX9) (N := 38) hx hb hts iw_X9_neighbour tyX9 tyX9_ok nmX9 hown hK hP hD hS 0 rfl rfl 1 (by decide) (hts _ lk_X9_neighbour_109) (fun _ h9 => h9) rfl (tyX9_ok 1 (by decide)) rfl rfl (Nat.le_of_ble_eq_true rfl) dX9_neighbour_241 (fun H locs hP hD hS => ?_)
  obtain ⟨S_241, eS_241⟩ : ∃ y : mS, y = mst S 1 0 (0 : Int32) := ⟨_, rfl⟩
  have hw := hw S_241 eS_241
  have hP : va_P (dC, dI) vwCl (mW cI cJ cZ o ad S_241 G) H := by rw [eS_241]; exact hP
  have hD : va_D A (mW cI cJ cZ o ad S_241 G) := by rw [eS_241]; exact hD
  refine lv_iload_n hx hb dX9_neighbour_244 rfl (lv_at hl 2 rfl) ?_
  refine lv_if_eq (tgt := 257) hx hb dX9_neighbour_245 (by decide) (fun c_245 => ?_) (fun c_245 => ?_)
  · have hw := hw.1 c_245
    refine lv_iconst (v := -1) hx hb dX9_neighbour_257 (by decide) ?_
    exact W.iret (v := (-1 : Int32)) hx hb hr (fun t ht hW => ⟨⟨(-1 : Int32), (S_241, G), rfl, hw, by rw [ht]; exact hP, va_K.moved hW.alike hK, hD⟩, hS.F ht⟩) hS.2.2 dX9_neighbour_258
  · have hw := hw.2 c_245
    refine lv_aload_n hx hb dX9_neighbour_248 rfl (lv_at hl 0 rfl) ?_
    refine va_get (D := (dC, dI)) (ci := 10) (v := .ref (ad 16)) (C := RX9) (T := TX9) (N := 38) hx hb hts iw_X9_neighbour hown hK hP 0 rfl rfl 16 (by decide) (hts _ lk_X9_neighbour_43) (fun _ h9 => h9) rfl dX9_neighbour_249 ?_
    refine lv_iload_n hx hb dX9_neighbour_252 rfl (lv_at hl 1 rfl) ?_
    refine va_iald hx hb hK hP 12 0 rfl rfl hw.1 dX9_neighbour_253 ?_
    have hw := hw.2
    refine lv_goto (tgt := 258) hx hb dX9_neighbour_254 (by decide) ?_
    exact W.iret (v := (S_241 16 (Int32.toNatClampNeg a1))) hx hb hr (fun t ht hW => ⟨⟨(S_241 16 (Int32.toNatClampNeg a1)), (S_241, G), rfl, hw, by rw [ht]; exact hP, va_K.moved hW.alike hK, hD⟩, hS.F ht⟩) hS.2.2 dX9_neighbour_258
set_option maxHeartbeats 4000000 in
set_option maxRecDepth 100000 in
theorem tb_X9_neighbour_214 {p : Program} {l : Launch} {e : Env} {s : State} {m : MethodId} {below : List Frame} {meth : Method} {c : Code} {args : Array Value} {dC : Nat → ClassId} {dI : Nat → Nat → Nat} {cI cJ cZ : ClassId} {o : Nat} {ad : Nat → Nat} {A : Nat → Prop} {Q : Int32 → mS → mG → Prop} (C : mCx p s m args meth c cX9_neighbour 6 (some .int) wsX9_neighbour A dC dI cI cJ cZ) : ∀ (S : mS) (G : mG) (a1 : Int32) (a2 : Int32) (a3 : Int32), wp_X9_neighbour_214 Q  S G a1 a2 a3 → mAt p l e rm_X9_neighbour s m args below meth c dC dI cI cJ cZ o ad A (MQ below (va_Qi (fun r (u : mS × mG) => Q r u.1 u.2) (mB dC dI cI cJ cZ o ad A) A) args s 0 0 A) 214 6 [(0, .ref o), (1, .int a1), (2, .int a2), (3, .int a3)] [] S G := by
  obtain ⟨hx, hb, hml, hown, hts, hr, hlocks, hA, hK⟩ := id C
  intro S G a1 a2 a3 hw H locs hP hD hS ls hl
  rw [wp_X9_neighbour_214] at hw
  refine lv_aload_n hx hb dX9_neighbour_214 rfl (lv_at hl 0 rfl) ?_
  refine va_get (D := (dC, dI)) (ci := 10) (v := .ref (ad 15)) (C := RX9) (T := TX9) (N := 38) hx hb hts iw_X9_neighbour hown hK hP 0 rfl rfl 15 (by decide) (hts _ lk_X9_neighbour_40) (fun _ h9 => h9) rfl dX9_neighbour_215 ?_
  refine lv_bipush (v := 8) hx hb dX9_neighbour_218 (by decide) ?_
  refine lv_iload_n hx hb dX9_neighbour_220 rfl (lv_at hl 1 rfl) ?_
  refine lv_imul hx hb dX9_neighbour_221 ?_
  refine lv_iload_n hx hb dX9_neighbour_222 rfl (lv_at hl 3 rfl) ?_
  refine lv_iadd hx hb dX9_neighbour_223 ?_
  refine lv_aload_n hx hb dX9_neighbour_224 rfl (lv_at hl 0 rfl) ?_
  refine va_get (D := (dC, dI)) (ci := 10) (v := .int (S 1 0)) (C := RX9) (T := TX9) (N := 38) hx hb hts iw_X9_neighbour hown hK hP 0 rfl rfl 1 (by decide) (hts _ lk_X9_neighbour_109) (fun _ h9 => h9) rfl dX9_neighbour_225 ?_
  refine va_iast hx hb hK hP hD hS 11 0 rfl rfl hw.1 dX9_neighbour_228 (fun H locs hP hD hS => ?_)
  obtain ⟨S_228, eS_228⟩ : ∃ y : mS, y = mst S 15 (Int32.toNatClampNeg (((8 : Int32) * a1) + a3)) (S 1 0) := ⟨_, rfl⟩
  have hw := hw.2 S_228 eS_228
  have hP : va_P (dC, dI) vwCl (mW cI cJ cZ o ad S_228 G) H := by rw [eS_228]; exact hP
  have hD : va_D A (mW cI cJ cZ o ad S_228 G) := by rw [eS_228]; exact hD
  refine lv_aload_n hx hb dX9_neighbour_229 rfl (lv_at hl 0 rfl) ?_
  refine va_get (D := (dC, dI)) (ci := 10) (v := .ref (ad 16)) (C := RX9) (T := TX9) (N := 38) hx hb hts iw_X9_neighbour hown hK hP 0 rfl rfl 16 (by decide) (hts _ lk_X9_neighbour_43) (fun _ h9 => h9) rfl dX9_neighbour_230 ?_
  refine lv_iload_n hx hb dX9_neighbour_233 rfl (lv_at hl 1 rfl) ?_
  refine lv_dup2_11 hx hb dX9_neighbour_234 rfl rfl ?_
  refine va_iald hx hb hK hP 12 0 rfl rfl hw.1 dX9_neighbour_235 ?_
  have hw := hw.2
  refine lv_iconst (v := 1) hx hb dX9_neighbour_236 (by decide) ?_
  refine lv_iadd hx hb dX9_neighbour_237 ?_
  refine va_iast hx hb hK hP hD hS 12 0 rfl rfl hw.1 dX9_neighbour_238 (fun H locs hP hD hS => ?_)
  obtain ⟨S_238, eS_238⟩ : ∃ y : mS, y = mst S_228 16 (Int32.toNatClampNeg a1) ((S_228 16 (Int32.toNatClampNeg a1)) + (1 : Int32)) := ⟨_, rfl⟩
  have hw := hw.2 S_238 eS_238
  have hP : va_P (dC, dI) vwCl (mW cI cJ cZ o ad S_238 G) H := by rw [eS_238]; exact hP
  have hD : va_D A (mW cI cJ cZ o ad S_238 G) := by rw [eS_238]; exact hD
  exact tb_X9_neighbour_239 C  S_238 G a1 a2 hw H locs hP hD hS ls (lv_sub hl [0, 1, 2] rfl)
set_option maxHeartbeats 4000000 in
set_option maxRecDepth 100000 in
theorem tb_X9_neighbour_175 {p : Program} {l : Launch} {e : Env} {s : State} {m : MethodId} {below : List Frame} {meth : Method} {c : Code} {args : Array Value} {dC : Nat → ClassId} {dI : Nat → Nat → Nat} {cI cJ cZ : ClassId} {o : Nat} {ad : Nat → Nat} {A : Nat → Prop} {Q : Int32 → mS → mG → Prop} (C : mCx p s m args meth c cX9_neighbour 6 (some .int) wsX9_neighbour A dC dI cI cJ cZ) : ∀ (n : Nat) (S : mS) (G : mG) (a1 : Int32) (a2 : Int32) (a3 : Int32) (a4 : Int32), wp_X9_neighbour_175 Q  n S G a1 a2 a3 a4 → mAt p l e rm_X9_neighbour s m args below meth c dC dI cI cJ cZ o ad A (MQ below (va_Qi (fun r (u : mS × mG) => Q r u.1 u.2) (mB dC dI cI cJ cZ o ad A) A) args s 0 0 A) 175 6 [(0, .ref o), (1, .int a1), (2, .int a2), (3, .int a3), (4, .int a4)] [] S G := by
  obtain ⟨hx, hb, hml, hown, hts, hr, hlocks, hA, hK⟩ := id C
  intro n
  induction n with
  | zero => intro S G a1 a2 a3 a4 hw; exact hw.elim
  | succ n ih =>
    intro S G a1 a2 a3 a4 hw H locs hP hD hS ls hl
    rw [wp_X9_neighbour_175] at hw
    refine lv_iload hx hb dX9_neighbour_175 (lv_at hl 4 rfl) ?_
    refine lv_aload_n hx hb dX9_neighbour_177 rfl (lv_at hl 0 rfl) ?_
    refine va_get (D := (dC, dI)) (ci := 10) (v := .int (S 1 0)) (C := RX9) (T := TX9) (N := 38) hx hb hts iw_X9_neighbour hown hK hP 0 rfl rfl 1 (by decide) (hts _ lk_X9_neighbour_109) (fun _ h9 => h9) rfl dX9_neighbour_178 ?_
    refine lv_icmp_ge (tgt := 214) hx hb dX9_neighbour_181 (by decide) (fun c_181 => ?_) (fun c_181 => ?_)
    · have hw := hw.1 c_181
      exact tb_X9_neighbour_214 C  S G a1 a2 a3 hw H locs hP hD hS ls (lv_sub hl [0, 1, 2, 3] rfl)
    · have hw := hw.2 c_181
      refine lv_aload_n hx hb dX9_neighbour_184 rfl (lv_at hl 0 rfl) ?_
      refine va_get (D := (dC, dI)) (ci := 10) (v := .ref (ad 14)) (C := RX9) (T := TX9) (N := 38) hx hb hts iw_X9_neighbour hown hK hP 0 rfl rfl 14 (by decide) (hts _ lk_X9_neighbour_37) (fun _ h9 => h9) rfl dX9_neighbour_185 ?_
      refine lv_bipush (v := 96) hx hb dX9_neighbour_188 (by decide) ?_
      refine lv_iload_n hx hb dX9_neighbour_190 rfl (lv_at hl 1 rfl) ?_
      refine lv_imul hx hb dX9_neighbour_191 ?_
      refine lv_bipush (v := 12) hx hb dX9_neighbour_192 (by decide) ?_
      refine lv_iload_n hx hb dX9_neighbour_194 rfl (lv_at hl 3 rfl) ?_
      refine lv_imul hx hb dX9_neighbour_195 ?_
      refine lv_iadd hx hb dX9_neighbour_196 ?_
      refine lv_iload hx hb dX9_neighbour_197 (lv_at hl 4 rfl) ?_
      refine lv_iadd hx hb dX9_neighbour_199 ?_
      refine lv_aload_n hx hb dX9_neighbour_200 rfl (lv_at hl 0 rfl) ?_
      refine va_get (D := (dC, dI)) (ci := 10) (v := .ref (ad 2)) (C := RX9) (T := TX9) (N := 38) hx hb hts iw_X9_neighbour hown hK hP 0 rfl rfl 2 (by decide) (hts _ lk_X9_neighbour_7) (fun _ h9 => h9) rfl dX9_neighbour_201 ?_
      refine lv_iload hx hb dX9_neighbour_204 (lv_at hl 4 rfl) ?_
      refine va_iald hx hb hK hP 1 0 rfl rfl hw.1 dX9_neighbour_206 ?_
      have hw := hw.2
      refine va_iast hx hb hK hP hD hS 10 0 rfl rfl hw.1 dX9_neighbour_207 (fun H locs hP hD hS => ?_)
      obtain ⟨S_207, eS_207⟩ : ∃ y : mS, y = mst S 14 (Int32.toNatClampNeg ((((96 : Int32) * a1) + ((12 : Int32) * a3)) + a4)) (S 2 (Int32.toNatClampNeg a4)) := ⟨_, rfl⟩
      have hw := hw.2 S_207 eS_207
      have hP : va_P (dC, dI) vwCl (mW cI cJ cZ o ad S_207 G) H := by rw [eS_207]; exact hP
      have hD : va_D A (mW cI cJ cZ o ad S_207 G) := by rw [eS_207]; exact hD
      obtain ⟨v4_208, ev4_208⟩ : ∃ y : Int32, y = a4 + (1 : Int32) := ⟨_, rfl⟩
      have hw := hw v4_208 ev4_208
      refine lv_iinc (v := v4_208) (lv' := [(4, .int v4_208), (0, .ref o), (1, .int a1), (2, .int a2), (3, .int a3)]) hx hb dX9_neighbour_208 hl (k := 4) rfl (by rw [ev4_208]; rfl) (by decide) rfl (fun ls hl => ?_)
      refine lv_goto (tgt := 175) hx hb dX9_neighbour_211 (by decide) ?_
      exact ih S_207 G a1 a2 a3 v4_208 hw H locs hP hD hS ls (lv_sub hl [1, 2, 3, 4, 0] rfl)
set_option maxHeartbeats 4000000 in
set_option maxRecDepth 100000 in
theorem tb_X9_neighbour_161 {p : Program} {l : Launch} {e : Env} {s : State} {m : MethodId} {below : List Frame} {meth : Method} {c : Code} {args : Array Value} {dC : Nat → ClassId} {dI : Nat → Nat → Nat} {cI cJ cZ : ClassId} {o : Nat} {ad : Nat → Nat} {A : Nat → Prop} {Q : Int32 → mS → mG → Prop} (C : mCx p s m args meth c cX9_neighbour 6 (some .int) wsX9_neighbour A dC dI cI cJ cZ) : ∀ (S : mS) (G : mG) (a1 : Int32) (a2 : Int32), wp_X9_neighbour_161 Q  S G a1 a2 → mAt p l e rm_X9_neighbour s m args below meth c dC dI cI cJ cZ o ad A (MQ below (va_Qi (fun r (u : mS × mG) => Q r u.1 u.2) (mB dC dI cI cJ cZ o ad A) A) args s 0 0 A) 161 6 [(0, .ref o), (1, .int a1), (2, .int a2)] [] S G := by
  obtain ⟨hx, hb, hml, hown, hts, hr, hlocks, hA, hK⟩ := id C
  intro S G a1 a2 hw H locs hP hD hS ls hl
  rw [wp_X9_neighbour_161] at hw
  refine lv_iload_n hx hb dX9_neighbour_161 rfl (lv_at hl 2 rfl) ?_
  refine lv_if_eq (tgt := 239) hx hb dX9_neighbour_162 (by decide) (fun c_162 => ?_) (fun c_162 => ?_)
  · have hw := hw.1 c_162
    exact tb_X9_neighbour_239 C  S G a1 a2 hw H locs hP hD hS ls (lv_sub hl [0, 1, 2] rfl)
  · have hw := hw.2 c_162
    refine lv_aload_n hx hb dX9_neighbour_165 rfl (lv_at hl 0 rfl) ?_
    refine va_get (D := (dC, dI)) (ci := 10) (v := .ref (ad 16)) (C := RX9) (T := TX9) (N := 38) hx hb hts iw_X9_neighbour hown hK hP 0 rfl rfl 16 (by decide) (hts _ lk_X9_neighbour_43) (fun _ h9 => h9) rfl dX9_neighbour_166 ?_
    refine lv_iload_n hx hb dX9_neighbour_169 rfl (lv_at hl 1 rfl) ?_
    refine va_iald hx hb hK hP 12 0 rfl rfl hw.1 dX9_neighbour_170 ?_
    have hw := hw.2
    refine lv_topi (fun v3_171 ev3_171 => ?_)
    have hw := hw v3_171 ev3_171
    refine lv_istore_n (lv' := [(3, .int v3_171), (0, .ref o), (1, .int a1), (2, .int a2)]) hx hb dX9_neighbour_171 rfl hl (by decide) rfl (fun ls hl => ?_)
    refine lv_iconst (v := 0) hx hb dX9_neighbour_172 (by decide) ?_
    refine lv_istore (lv' := [(4, .int (0 : Int32)), (3, .int v3_171), (0, .ref o), (1, .int a1), (2, .int a2)]) hx hb dX9_neighbour_173 hl (by decide) rfl (fun ls hl => ?_)
    obtain ⟨n9, hw⟩ := hw
    exact tb_X9_neighbour_175 C  n9 S G a1 a2 v3_171 (0 : Int32) hw H locs hP hD hS ls (lv_sub hl [2, 3, 4, 1, 0] rfl)
set_option maxHeartbeats 4000000 in
set_option maxRecDepth 100000 in
theorem tb_X9_neighbour_48 {p : Program} {l : Launch} {e : Env} {s : State} {m : MethodId} {below : List Frame} {meth : Method} {c : Code} {args : Array Value} {dC : Nat → ClassId} {dI : Nat → Nat → Nat} {cI cJ cZ : ClassId} {o : Nat} {ad : Nat → Nat} {A : Nat → Prop} {Q : Int32 → mS → mG → Prop} (C : mCx p s m args meth c cX9_neighbour 6 (some .int) wsX9_neighbour A dC dI cI cJ cZ) : ∀ (n : Nat) (S : mS) (G : mG) (a1 : Int32) (a2 : Int32) (a3 : Int32), wp_X9_neighbour_48 Q  n S G a1 a2 a3 → mAt p l e rm_X9_neighbour s m args below meth c dC dI cI cJ cZ o ad A (MQ below (va_Qi (fun r (u : mS × mG) => Q r u.1 u.2) (mB dC dI cI cJ cZ o ad A) A) args s 0 0 A) 48 6 [(0, .ref o), (1, .int a1), (2, .int a2), (3, .int a3)] [] S G := by
  obtain ⟨hx, hb, hml, hown, hts, hr, hlocks, hA, hK⟩ := id C
  intro n
  induction n with
  | zero => intro S G a1 a2 a3 hw; exact hw.elim
  | succ n ih =>
    intro S G a1 a2 a3 hw H locs hP hD hS ls hl
    rw [wp_X9_neighbour_48] at hw
    refine lv_iload_n hx hb dX9_neighbour_48 rfl (lv_at hl 3 rfl) ?_
    refine lv_aload_n hx hb dX9_neighbour_49 rfl (lv_at hl 0 rfl) ?_
    refine va_get (D := (dC, dI)) (ci := 10) (v := .ref (ad 16)) (C := RX9) (T := TX9) (N := 38) hx hb hts iw_X9_neighbour hown hK hP 0 rfl rfl 16 (by decide) (hts _ lk_X9_neighbour_43) (fun _ h9 => h9) rfl dX9_neighbour_50 ?_
    refine lv_iload_n hx hb dX9_neighbour_53 rfl (lv_at hl 1 rfl) ?_
    refine va_iald hx hb hK hP 12 0 rfl rfl hw.1 dX9_neighbour_54 ?_
    have hw := hw.2
    refine lv_icmp_ge (tgt := 161) hx hb dX9_neighbour_55 (by decide) (fun c_55 => ?_) (fun c_55 => ?_)
    · have hw := hw.1 c_55
      exact tb_X9_neighbour_161 C  S G a1 a2 hw H locs hP hD hS ls (lv_sub hl [0, 1, 2] rfl)
    · have hw := hw.2 c_55
      refine lv_iload_n hx hb dX9_neighbour_58 rfl (lv_at hl 2 rfl) ?_
      refine lv_if_eq (tgt := 161) hx hb dX9_neighbour_59 (by decide) (fun c_59 => ?_) (fun c_59 => ?_)
      · have hw := hw.1 c_59
        exact tb_X9_neighbour_161 C  S G a1 a2 hw H locs hP hD hS ls (lv_sub hl [0, 1, 2] rfl)
      · have hw := hw.2 c_59
        refine lv_aload_n hx hb dX9_neighbour_62 rfl (lv_at hl 0 rfl) ?_
        refine va_get (D := (dC, dI)) (ci := 10) (v := .ref (ad 15)) (C := RX9) (T := TX9) (N := 38) hx hb hts iw_X9_neighbour hown hK hP 0 rfl rfl 15 (by decide) (hts _ lk_X9_neighbour_40) (fun _ h9 => h9) rfl dX9_neighbour_63 ?_
        refine lv_bipush (v := 8) hx hb dX9_neighbour_66 (by decide) ?_
        refine lv_iload_n hx hb dX9_neighbour_68 rfl (lv_at hl 1 rfl) ?_
        refine lv_imul hx hb dX9_neighbour_69 ?_
        refine lv_iload_n hx hb dX9_neighbour_70 rfl (lv_at hl 3 rfl) ?_
        refine lv_iadd hx hb dX9_neighbour_71 ?_
        refine va_iald hx hb hK hP 11 0 rfl rfl hw.1 dX9_neighbour_72 ?_
        have hw := hw.2
        refine lv_aload_n hx hb dX9_neighbour_73 rfl (lv_at hl 0 rfl) ?_
        refine va_get (D := (dC, dI)) (ci := 10) (v := .int (S 1 0)) (C := RX9) (T := TX9) (N := 38) hx hb hts iw_X9_neighbour hown hK hP 0 rfl rfl 1 (by decide) (hts _ lk_X9_neighbour_109) (fun _ h9 => h9) rfl dX9_neighbour_74 ?_
        refine lv_icmp_ne (tgt := 84) hx hb dX9_neighbour_77 (by decide) (fun c_77 => ?_) (fun c_77 => ?_)
        · have hw := hw.1 c_77
          refine lv_iconst (v := 0) hx hb dX9_neighbour_84 (by decide) ?_
          exact tb_X9_neighbour_85 C ih S G a1 a3 (0 : Int32) hw H locs hP hD hS ls (lv_sub hl [0, 1, 3] rfl)
        · have hw := hw.2 c_77
          refine lv_iconst (v := 1) hx hb dX9_neighbour_80 (by decide) ?_
          refine lv_goto (tgt := 85) hx hb dX9_neighbour_81 (by decide) ?_
          exact tb_X9_neighbour_85 C ih S G a1 a3 (1 : Int32) hw H locs hP hD hS ls (lv_sub hl [0, 1, 3] rfl)
set_option maxHeartbeats 4000000 in
set_option maxRecDepth 100000 in
theorem tb_X9_neighbour_45 {p : Program} {l : Launch} {e : Env} {s : State} {m : MethodId} {below : List Frame} {meth : Method} {c : Code} {args : Array Value} {dC : Nat → ClassId} {dI : Nat → Nat → Nat} {cI cJ cZ : ClassId} {o : Nat} {ad : Nat → Nat} {A : Nat → Prop} {Q : Int32 → mS → mG → Prop} (C : mCx p s m args meth c cX9_neighbour 6 (some .int) wsX9_neighbour A dC dI cI cJ cZ) : ∀ (S : mS) (G : mG) (a1 : Int32) (k0 : Int32), wp_X9_neighbour_45 Q  S G a1 k0 → mAt p l e rm_X9_neighbour s m args below meth c dC dI cI cJ cZ o ad A (MQ below (va_Qi (fun r (u : mS × mG) => Q r u.1 u.2) (mB dC dI cI cJ cZ o ad A) A) args s 0 0 A) 45 6 [(0, .ref o), (1, .int a1)] [.int k0] S G := by
  obtain ⟨hx, hb, hml, hown, hts, hr, hlocks, hA, hK⟩ := id C
  intro S G a1 k0 hw H locs hP hD hS ls hl
  rw [wp_X9_neighbour_45] at hw
  refine lv_istore_n (lv' := [(2, .int k0), (0, .ref o), (1, .int a1)]) hx hb dX9_neighbour_45 rfl hl (by decide) rfl (fun ls hl => ?_)
  refine lv_iconst (v := 0) hx hb dX9_neighbour_46 (by decide) ?_
  refine lv_istore_n (lv' := [(3, .int (0 : Int32)), (2, .int k0), (0, .ref o), (1, .int a1)]) hx hb dX9_neighbour_47 rfl hl (by decide) rfl (fun ls hl => ?_)
  obtain ⟨n9, hw⟩ := hw
  exact tb_X9_neighbour_48 C  n9 S G a1 k0 (0 : Int32) hw H locs hP hD hS ls (lv_sub hl [2, 3, 1, 0] rfl)
set_option maxHeartbeats 4000000 in
set_option maxRecDepth 100000 in
theorem tb_X9_neighbour_44 {p : Program} {l : Launch} {e : Env} {s : State} {m : MethodId} {below : List Frame} {meth : Method} {c : Code} {args : Array Value} {dC : Nat → ClassId} {dI : Nat → Nat → Nat} {cI cJ cZ : ClassId} {o : Nat} {ad : Nat → Nat} {A : Nat → Prop} {Q : Int32 → mS → mG → Prop} (C : mCx p s m args meth c cX9_neighbour 6 (some .int) wsX9_neighbour A dC dI cI cJ cZ) : ∀ (S : mS) (G : mG) (a1 : Int32), wp_X9_neighbour_44 Q  S G a1 → mAt p l e rm_X9_neighbour s m args below meth c dC dI cI cJ cZ o ad A (MQ below (va_Qi (fun r (u : mS × mG) => Q r u.1 u.2) (mB dC dI cI cJ cZ o ad A) A) args s 0 0 A) 44 6 [(0, .ref o), (1, .int a1)] [] S G := by
  obtain ⟨hx, hb, hml, hown, hts, hr, hlocks, hA, hK⟩ := id C
  intro S G a1 hw H locs hP hD hS ls hl
  rw [wp_X9_neighbour_44] at hw
  refine lv_iconst (v := 0) hx hb dX9_neighbour_44 (by decide) ?_
  exact tb_X9_neighbour_45 C  S G a1 (0 : Int32) hw H locs hP hD hS ls (lv_sub hl [0, 1] rfl)
set_option maxHeartbeats 4000000 in
set_option maxRecDepth 100000 in
theorem tb_X9_neighbour_0 {p : Program} {l : Launch} {e : Env} {s : State} {m : MethodId} {below : List Frame} {meth : Method} {c : Code} {args : Array Value} {dC : Nat → ClassId} {dI : Nat → Nat → Nat} {cI cJ cZ : ClassId} {o : Nat} {ad : Nat → Nat} {A : Nat → Prop} {Q : Int32 → mS → mG → Prop} (C : mCx p s m args meth c cX9_neighbour 6 (some .int) wsX9_neighbour A dC dI cI cJ cZ) : ∀ (S : mS) (G : mG) (a1 : Int32), wp_X9_neighbour_0 Q  S G a1 → mAt p l e rm_X9_neighbour s m args below meth c dC dI cI cJ cZ o ad A (MQ below (va_Qi (fun r (u : mS × mG) => Q r u.1 u.2) (mB dC dI cI cJ cZ o ad A) A) args s 0 0 A) 0 6 [(0, .ref o), (1, .int a1)] [] S G := by
  obtain ⟨hx, hb, hml, hown, hts, hr, hlocks, hA, hK⟩ := id C
  intro S G a1 hw H locs hP hD hS ls hl
  rw [wp_X9_neighbour_0] at hw
  refine lv_aload_n hx hb dX9_neighbour_0 rfl (lv_at hl 0 rfl) ?_
  refine lv_iconst (v := 0) hx hb dX9_neighbour_1 (by decide) ?_
  refine va_put (D := (dC, dI)) (ci := 10) (v := .int (0 : Int32)) (C := RX9) (T := TX9) (N := 38) hx hb hts iw_X9_neighbour tyX9 tyX9_ok nmX9 hown hK hP hD hS 0 rfl rfl 0 (by decide) (hts _ lk_X9_neighbour_105) (fun _ h9 => h9) rfl (tyX9_ok 0 (by decide)) rfl rfl (Nat.le_of_ble_eq_true rfl) dX9_neighbour_2 (fun H locs hP hD hS => ?_)
  obtain ⟨S_2, eS_2⟩ : ∃ y : mS, y = mst S 0 0 (0 : Int32) := ⟨_, rfl⟩
  have hw := hw S_2 eS_2
  have hP : va_P (dC, dI) vwCl (mW cI cJ cZ o ad S_2 G) H := by rw [eS_2]; exact hP
  have hD : va_D A (mW cI cJ cZ o ad S_2 G) := by rw [eS_2]; exact hD
  refine lv_aload_n hx hb dX9_neighbour_5 rfl (lv_at hl 0 rfl) ?_
  refine lv_iload_n hx hb dX9_neighbour_6 rfl (lv_at hl 1 rfl) ?_
  refine vp_callSi (W.runS (As := [.int a1]) (rest := [.ref o]) ⟨hx, hb, hml, hown, hts⟩ (c_X9_isThing l a1 _ hw) (va_cwS 1 hts gX9_neighbour_X9_isThing rfl rfl rfl (by decide +kernel) ⟨Nat.le_of_ble_eq_true rfl, Nat.le_of_ble_eq_true rfl⟩) preEq rfl rfl hl.1 rfl (lv_room (Nat.le_of_ble_eq_true rfl)) dX9_neighbour_7 ⟨Nat.zero_le _, Nat.zero_le _⟩) (fun r_7 hw => ?_)
  refine lv_iconst (v := 1) hx hb dX9_neighbour_10 (by decide) ?_
  have hFc := mFree hD hS hA
  refine va_calli (va_runV (As := [.int r_7, .int (1 : Int32)]) (rest := []) ⟨hx, hb, hml, hown, hts⟩ (c_X9_right l dC dI cI cJ cZ o ad S_2 G H.size r_7 (1 : Int32) _ hw) (cwV 2 hts gX9_neighbour_X9_right rfl rfl rfl (by decide +kernel) ⟨Nat.le_of_ble_eq_true rfl, Nat.le_of_ble_eq_true rfl⟩) (mPreV [.int r_7, .int (1 : Int32)] hK hP hD) rfl rfl hl.1 rfl (lv_room (Nat.le_of_ble_eq_true rfl)) dX9_neighbour_11 ⟨Nat.zero_le _, Nat.zero_le _⟩) hS (fun q _ h => hFc q h) hFc (fun r_11 u t H1 locs ht hvm hw hB hz1 hk1 hS => ?_)
  obtain ⟨S_11, G_11⟩ := u
  obtain ⟨hP, -, hD1⟩ := hB
  rw [ht] at hP
  have hw := id hw
  have hP : va_P (dC, dI) vwCl (mW cI cJ cZ o ad S_11 G_11) H1 := hP
  have hD : va_D A (mW cI cJ cZ o ad S_11 G_11) := mGain hD1 hFc
  generalize H1 = H at hP hS ⊢
  refine lv_if_ne (tgt := 19) hx hb dX9_neighbour_14 (by decide) (fun c_14 => ?_) (fun c_14 => ?_)
  · have hw := hw.1 c_14
    refine lv_aload_n hx hb dX9_neighbour_19 rfl (lv_at hl 0 rfl) ?_
    refine lv_bipush (v := 12) hx hb dX9_neighbour_20 (by decide) ?_
    have hFc := mFree hD hS hA
    refine va_calli (va_runV (As := [.int (12 : Int32)]) (rest := []) ⟨hx, hb, hml, hown, hts⟩ (c_X9_waitingWords l dC dI cI cJ cZ o ad S_11 G_11 H.size (12 : Int32) _ hw) (cwV 1 hts gX9_neighbour_X9_waitingWords rfl rfl rfl (by decide +kernel) ⟨Nat.le_of_ble_eq_true rfl, Nat.le_of_ble_eq_true rfl⟩) (mPreV [.int (12 : Int32)] hK hP hD) rfl rfl hl.1 rfl (lv_room (Nat.le_of_ble_eq_true rfl)) dX9_neighbour_22 ⟨Nat.zero_le _, Nat.zero_le _⟩) hS (fun q _ h => hFc q h) hFc (fun r_22 u t H1 locs ht hvm hw hB hz1 hk1 hS => ?_)
    obtain ⟨S_22, G_22⟩ := u
    obtain ⟨hP, -, hD1⟩ := hB
    rw [ht] at hP
    have hw := id hw
    have hP : va_P (dC, dI) vwCl (mW cI cJ cZ o ad S_22 G_22) H1 := hP
    have hD : va_D A (mW cI cJ cZ o ad S_22 G_22) := mGain hD1 hFc
    generalize H1 = H at hP hS ⊢
    refine lv_iconst (v := 1) hx hb dX9_neighbour_25 (by decide) ?_
    refine lv_icmp_ne (tgt := 44) hx hb dX9_neighbour_26 (by decide) (fun c_26 => ?_) (fun c_26 => ?_)
    · have hw := hw.1 c_26
      exact tb_X9_neighbour_44 C  S_22 G_22 a1 hw H locs hP hD hS ls (lv_sub hl [0, 1] rfl)
    · have hw := hw.2 c_26
      refine lv_aload_n hx hb dX9_neighbour_29 rfl (lv_at hl 0 rfl) ?_
      refine va_get (D := (dC, dI)) (ci := 10) (v := .ref (ad 16)) (C := RX9) (T := TX9) (N := 38) hx hb hts iw_X9_neighbour hown hK hP 0 rfl rfl 16 (by decide) (hts _ lk_X9_neighbour_43) (fun _ h9 => h9) rfl dX9_neighbour_30 ?_
      refine lv_iload_n hx hb dX9_neighbour_33 rfl (lv_at hl 1 rfl) ?_
      refine va_iald hx hb hK hP 12 0 rfl rfl hw.1 dX9_neighbour_34 ?_
      have hw := hw.2
      refine lv_bipush (v := 8) hx hb dX9_neighbour_35 (by decide) ?_
      refine lv_icmp_ge (tgt := 44) hx hb dX9_neighbour_37 (by decide) (fun c_37 => ?_) (fun c_37 => ?_)
      · have hw := hw.1 c_37
        exact tb_X9_neighbour_44 C  S_22 G_22 a1 hw H locs hP hD hS ls (lv_sub hl [0, 1] rfl)
      · have hw := hw.2 c_37
        refine lv_iconst (v := 1) hx hb dX9_neighbour_40 (by decide) ?_
        refine lv_goto (tgt := 45) hx hb dX9_neighbour_41 (by decide) ?_
        exact tb_X9_neighbour_45 C  S_22 G_22 a1 (1 : Int32) hw H locs hP hD hS ls (lv_sub hl [0, 1] rfl)
  · have hw := hw.2 c_14
    refine lv_iconst (v := 0) hx hb dX9_neighbour_17 (by decide) ?_
    exact W.iret (v := (0 : Int32)) hx hb hr (fun t ht hW => ⟨⟨(0 : Int32), (S_11, G_11), rfl, hw, by rw [ht]; exact hP, va_K.moved hW.alike hK, hD⟩, hS.F ht⟩) hS.2.2 dX9_neighbour_18
set_option maxHeartbeats 4000000 in
set_option maxRecDepth 100000 in
theorem c_X9_neighbour (l : Launch) (dC : Nat → ClassId) (dI : Nat → Nat → Nat) (cI cJ cZ : ClassId) (o : Nat) (ad : Nat → Nat) (S : mS) (G : mG) (sz : Nat) (a1 : Int32) (Q : Int32 → mS → mG → Prop) (hw : wp_X9_neighbour_0 Q S G a1) : Met l yX9_neighbour wsX9_neighbour rm_X9_neighbour (va_Pc [.ref o, .int a1] (mPre dC dI cI cJ cZ o ad S G sz)) (va_Qi (fun r (u : mS × mG) => Q r u.1 u.2) (mB dC dI cI cJ cZ o ad (mA cI cJ cZ o ad S G sz)) (mA cI cJ cZ o ad S G sz)) 0 0 (mA cI cJ cZ o ad S G sz) := by
  refine Met.ofW (cc := cX9_neighbour) (maxL := 6) (ret := (some .int)) (by decide) rfl ?_
  intro p e s m args below meth c s₁ B hml hv
  obtain ⟨rfl, hsz, hP, hK, hD0⟩ := hv
  subst hsz
  have hl := lv_entry ([.ref o, .int a1]) (n := 6) (Nat.le_of_ble_eq_true rfl)
  rw [lg_entry_eq]
  generalize (lg_sl ([.ref o, .int a1]) ++ List.replicate (6 - (lg_sl ([.ref o, .int a1])).length) Slot.unset).toArray = ls at hl ⊢
  exact tb_X9_neighbour_0 (Q := Q) (p := p) ⟨B.exec, B.bytes, hml, findClass_of_methodNamed B.named, atoms_spec (ws := wsX9_neighbour) B.pre, B.returns, B.notSynchronized, fun q h => Or.inr h, hK⟩ S G a1 hw s.heap [] hP (hD0.self (sz := s.heap.size)) va_S.rf ls hl
theorem iw_X9_define : ∀ w ∈ u_ws RX9 TX9 38, w ∈ wsX9_define := fun w h => List.mem_cons_of_mem _ (by first | exact List.mem_append_right _ h | decide +kernel +revert)
theorem lk_X9_define_46 : Cond.fieldLink RX9 46 "TermKeeperModel" "definitions" "[J" ∈ wsX9_define := by decide +kernel
theorem lk_X9_define_105 : Cond.fieldLink RX9 105 "TermKeeperModel" "thrown" "I" ∈ wsX9_define := by decide +kernel
abbrev rm_X9_define : Room := { frames := 1, cells := 0, slots := 0, locals := 22 }
def wp_X9_define_33 (Q : Int64 → mS → mG → Prop) (S : mS) (G : mG) (a1 : Int32) (a2 : Int64) (k0 : Int32) : Prop :=
    (wp_X9_right_0 (fun r_34 S_34 G_34 =>
      ((¬ r_34 = 0 →
        (vp_in a1 40 ∧
          (∀ v4_48 : Int64, v4_48 = (G_34 17 (Int32.toNatClampNeg a1)) →
            (vp_in a1 40 ∧ ∀ G_56 : mG, G_56 = mstL G_34 17 (Int32.toNatClampNeg a1) a2 →
              (Q v4_48 S_34 G_56)))))
       ∧ (r_34 = 0 →
        (Q (0 : Int64) S_34 G_34)))) S G k0 (1 : Int32))
def wp_X9_define_32 (Q : Int64 → mS → mG → Prop) (S : mS) (G : mG) (a1 : Int32) (a2 : Int64) : Prop :=
    (wp_X9_define_33 Q  S G a1 a2 (0 : Int32))
def wp_X9_define_0 (Q : Int64 → mS → mG → Prop) (S : mS) (G : mG) (a1 : Int32) (a2 : Int64) : Prop :=
    (∀ S_2 : mS, S_2 = mst S 0 0 (0 : Int32) →
      (wp_X9_isThing_0 (fun r_7 =>
        ((r_7 = 0 →
          (wp_X9_define_32 Q  S_2 G a1 a2))
         ∧ (¬ r_7 = 0 →
          (((lg_cmp a2 (0 : Int64)) < 0 →
            (wp_X9_define_32 Q  S_2 G a1 a2))
           ∧ (¬ (lg_cmp a2 (0 : Int64)) < 0 →
            ((¬ (lg_cmp (a2 >>> (Int32.toInt64 (40 : Int32) &&& 63)) (0 : Int64)) = 0 →
              (wp_X9_define_32 Q  S_2 G a1 a2))
             ∧ ((lg_cmp (a2 >>> (Int32.toInt64 (40 : Int32) &&& 63)) (0 : Int64)) = 0 →
              (wp_X9_define_33 Q  S_2 G a1 a2 (1 : Int32))))))))) a1))
set_option maxHeartbeats 4000000 in
set_option maxRecDepth 100000 in
theorem tb_X9_define_33 {p : Program} {l : Launch} {e : Env} {s : State} {m : MethodId} {below : List Frame} {meth : Method} {c : Code} {args : Array Value} {dC : Nat → ClassId} {dI : Nat → Nat → Nat} {cI cJ cZ : ClassId} {o : Nat} {ad : Nat → Nat} {A : Nat → Prop} {Q : Int64 → mS → mG → Prop} (C : mCx p s m args meth c cX9_define 6 (some .long) wsX9_define A dC dI cI cJ cZ) : ∀ (S : mS) (G : mG) (a1 : Int32) (a2 : Int64) (k0 : Int32), wp_X9_define_33 Q  S G a1 a2 k0 → mAt p l e rm_X9_define s m args below meth c dC dI cI cJ cZ o ad A (MQ below (va_Ql (fun r (u : mS × mG) => Q r u.1 u.2) (mB dC dI cI cJ cZ o ad A) A) args s 0 0 A) 33 6 [(0, .ref o), (1, .int a1), (2, .long a2)] [.int k0, .ref o] S G := by
  obtain ⟨hx, hb, hml, hown, hts, hr, hlocks, hA, hK⟩ := id C
  intro S G a1 a2 k0 hw H locs hP hD hS ls hl
  rw [wp_X9_define_33] at hw
  refine lv_iconst (v := 1) hx hb dX9_define_33 (by decide) ?_
  have hFc := mFree hD hS hA
  refine va_calli (va_runV (As := [.int k0, .int (1 : Int32)]) (rest := []) ⟨hx, hb, hml, hown, hts⟩ (c_X9_right l dC dI cI cJ cZ o ad S G H.size k0 (1 : Int32) _ hw) (cwV 2 hts gX9_define_X9_right rfl rfl rfl (by decide +kernel) ⟨Nat.le_of_ble_eq_true rfl, Nat.le_of_ble_eq_true rfl⟩) (mPreV [.int k0, .int (1 : Int32)] hK hP hD) rfl rfl hl.1 rfl (lv_room (Nat.le_of_ble_eq_true rfl)) dX9_define_34 ⟨Nat.zero_le _, Nat.zero_le _⟩) hS (fun q _ h => hFc q h) hFc (fun r_34 u t H1 locs ht hvm hw hB hz1 hk1 hS => ?_)
  obtain ⟨S_34, G_34⟩ := u
  obtain ⟨hP, -, hD1⟩ := hB
  rw [ht] at hP
  have hw := id hw
  have hP : va_P (dC, dI) vwCl (mW cI cJ cZ o ad S_34 G_34) H1 := hP
  have hD : va_D A (mW cI cJ cZ o ad S_34 G_34) := mGain hD1 hFc
  generalize H1 = H at hP hS ⊢
  refine lv_if_ne (tgt := 42) hx hb dX9_define_37 (by decide) (fun c_37 => ?_) (fun c_37 => ?_)
  · have hw := hw.1 c_37
    refine lv_aload_n hx hb dX9_define_42 rfl (lv_at hl 0 rfl) ?_
    refine va_get (D := (dC, dI)) (ci := 10) (v := .ref (ad 17)) (C := RX9) (T := TX9) (N := 38) hx hb hts iw_X9_define hown hK hP 0 rfl rfl 17 (by decide) (hts _ lk_X9_define_46) (fun _ h9 => h9) rfl dX9_define_43 ?_
    refine lv_iload_n hx hb dX9_define_46 rfl (lv_at hl 1 rfl) ?_
    refine va_lald hx hb hK hP 13 1 rfl rfl hw.1 dX9_define_47 ?_
    have hw := hw.2
    refine lv_topl (fun v4_48 ev4_48 => ?_)
    have hw := hw v4_48 ev4_48
    refine lv_lstore (lv' := [(4, .long v4_48), (0, .ref o), (1, .int a1), (2, .long a2)]) hx hb dX9_define_48 hl (by decide) rfl (fun ls hl => ?_)
    refine lv_aload_n hx hb dX9_define_50 rfl (lv_at hl 1 rfl) ?_
    refine va_get (D := (dC, dI)) (ci := 10) (v := .ref (ad 17)) (C := RX9) (T := TX9) (N := 38) hx hb hts iw_X9_define hown hK hP 0 rfl rfl 17 (by decide) (hts _ lk_X9_define_46) (fun _ h9 => h9) rfl dX9_define_51 ?_
    refine lv_iload_n hx hb dX9_define_54 rfl (lv_at hl 2 rfl) ?_
    refine lv_lload_n hx hb dX9_define_55 rfl (lv_at hl 3 rfl) ?_
    refine va_last hx hb hK hP hD hS 13 1 rfl rfl hw.1 dX9_define_56 (fun H locs hP hD hS => ?_)
    obtain ⟨G_56, eG_56⟩ : ∃ y : mG, y = mstL G_34 17 (Int32.toNatClampNeg a1) a2 := ⟨_, rfl⟩
    have hw := hw.2 G_56 eG_56
    have hP : va_P (dC, dI) vwCl (mW cI cJ cZ o ad S_34 G_56) H := by rw [eG_56]; exact hP
    have hD : va_D A (mW cI cJ cZ o ad S_34 G_56) := by rw [eG_56]; exact hD
    refine lv_lload hx hb dX9_define_57 (lv_at hl 0 rfl) ?_
    exact W.lret (v := v4_48) hx hb hr (fun t ht hW => ⟨⟨v4_48, (S_34, G_56), rfl, hw, by rw [ht]; exact hP, va_K.moved hW.alike hK, hD⟩, hS.F ht⟩) hS.2.2 dX9_define_59
  · have hw := hw.2 c_37
    refine lv_lconst (v := 0) hx hb dX9_define_40 (by decide) ?_
    exact W.lret (v := (0 : Int64)) hx hb hr (fun t ht hW => ⟨⟨(0 : Int64), (S_34, G_34), rfl, hw, by rw [ht]; exact hP, va_K.moved hW.alike hK, hD⟩, hS.F ht⟩) hS.2.2 dX9_define_41
set_option maxHeartbeats 4000000 in
set_option maxRecDepth 100000 in
theorem tb_X9_define_32 {p : Program} {l : Launch} {e : Env} {s : State} {m : MethodId} {below : List Frame} {meth : Method} {c : Code} {args : Array Value} {dC : Nat → ClassId} {dI : Nat → Nat → Nat} {cI cJ cZ : ClassId} {o : Nat} {ad : Nat → Nat} {A : Nat → Prop} {Q : Int64 → mS → mG → Prop} (C : mCx p s m args meth c cX9_define 6 (some .long) wsX9_define A dC dI cI cJ cZ) : ∀ (S : mS) (G : mG) (a1 : Int32) (a2 : Int64), wp_X9_define_32 Q  S G a1 a2 → mAt p l e rm_X9_define s m args below meth c dC dI cI cJ cZ o ad A (MQ below (va_Ql (fun r (u : mS × mG) => Q r u.1 u.2) (mB dC dI cI cJ cZ o ad A) A) args s 0 0 A) 32 6 [(0, .ref o), (1, .int a1), (2, .long a2)] [.ref o] S G := by
  obtain ⟨hx, hb, hml, hown, hts, hr, hlocks, hA, hK⟩ := id C
  intro S G a1 a2 hw H locs hP hD hS ls hl
  rw [wp_X9_define_32] at hw
  refine lv_iconst (v := 0) hx hb dX9_define_32 (by decide) ?_
  exact tb_X9_define_33 C  S G a1 a2 (0 : Int32) hw H locs hP hD hS ls (lv_sub hl [0, 1, 2] rfl)
set_option maxHeartbeats 4000000 in
set_option maxRecDepth 100000 in
theorem tb_X9_define_0 {p : Program} {l : Launch} {e : Env} {s : State} {m : MethodId} {below : List Frame} {meth : Method} {c : Code} {args : Array Value} {dC : Nat → ClassId} {dI : Nat → Nat → Nat} {cI cJ cZ : ClassId} {o : Nat} {ad : Nat → Nat} {A : Nat → Prop} {Q : Int64 → mS → mG → Prop} (C : mCx p s m args meth c cX9_define 6 (some .long) wsX9_define A dC dI cI cJ cZ) : ∀ (S : mS) (G : mG) (a1 : Int32) (a2 : Int64), wp_X9_define_0 Q  S G a1 a2 → mAt p l e rm_X9_define s m args below meth c dC dI cI cJ cZ o ad A (MQ below (va_Ql (fun r (u : mS × mG) => Q r u.1 u.2) (mB dC dI cI cJ cZ o ad A) A) args s 0 0 A) 0 6 [(0, .ref o), (1, .int a1), (2, .long a2)] [] S G := by
  obtain ⟨hx, hb, hml, hown, hts, hr, hlocks, hA, hK⟩ := id C
  intro S G a1 a2 hw H locs hP hD hS ls hl
  rw [wp_X9_define_0] at hw
  refine lv_aload_n hx hb dX9_define_0 rfl (lv_at hl 0 rfl) ?_
  refine lv_iconst (v := 0) hx hb dX9_define_1 (by decide) ?_
  refine va_put (D := (dC, dI)) (ci := 10) (v := .int (0 : Int32)) (C := RX9) (T := TX9) (N := 38) hx hb hts iw_X9_define tyX9 tyX9_ok nmX9 hown hK hP hD hS 0 rfl rfl 0 (by decide) (hts _ lk_X9_define_105) (fun _ h9 => h9) rfl (tyX9_ok 0 (by decide)) rfl rfl (Nat.le_of_ble_eq_true rfl) dX9_define_2 (fun H locs hP hD hS => ?_)
  obtain ⟨S_2, eS_2⟩ : ∃ y : mS, y = mst S 0 0 (0 : Int32) := ⟨_, rfl⟩
  have hw := hw S_2 eS_2
  have hP : va_P (dC, dI) vwCl (mW cI cJ cZ o ad S_2 G) H := by rw [eS_2]; exact hP
  have hD : va_D A (mW cI cJ cZ o ad S_2 G) := by rw [eS_2]; exact hD
  refine lv_aload_n hx hb dX9_define_5 rfl (lv_at hl 0 rfl) ?_
  refine lv_iload_n hx hb dX9_define_6 rfl (lv_at hl 1 rfl) ?_
  refine vp_callSi (W.runS (As := [.int a1]) (rest := [.ref o]) ⟨hx, hb, hml, hown, hts⟩ (c_X9_isThing l a1 _ hw) (va_cwS 1 hts gX9_define_X9_isThing rfl rfl rfl (by decide +kernel) ⟨Nat.le_of_ble_eq_true rfl, Nat.le_of_ble_eq_true rfl⟩) preEq rfl rfl hl.1 rfl (lv_room (Nat.le_of_ble_eq_true rfl)) dX9_define_7 ⟨Nat.zero_le _, Nat.zero_le _⟩) (fun r_7 hw => ?_)
  refine lv_if_eq (tgt := 32) hx hb dX9_define_10 (by decide) (fun c_10 => ?_) (fun c_10 => ?_)
  · have hw := hw.1 c_10
    exact tb_X9_define_32 C  S_2 G a1 a2 hw H locs hP hD hS ls (lv_sub hl [0, 1, 2] rfl)
  · have hw := hw.2 c_10
    refine lv_lload_n hx hb dX9_define_13 rfl (lv_at hl 2 rfl) ?_
    refine lv_lconst (v := 0) hx hb dX9_define_14 (by decide) ?_
    refine W.lcmp hx hb dX9_define_15 ?_
    refine lv_if_lt (tgt := 32) hx hb dX9_define_16 (by decide) (fun c_16 => ?_) (fun c_16 => ?_)
    · have hw := hw.1 c_16
      exact tb_X9_define_32 C  S_2 G a1 a2 hw H locs hP hD hS ls (lv_sub hl [0, 1, 2] rfl)
    · have hw := hw.2 c_16
      refine lv_lload_n hx hb dX9_define_19 rfl (lv_at hl 2 rfl) ?_
      refine lv_bipush (v := 40) hx hb dX9_define_20 (by decide) ?_
      refine lv_lshr hx hb dX9_define_22 rfl ?_
      refine lv_lconst (v := 0) hx hb dX9_define_23 (by decide) ?_
      refine W.lcmp hx hb dX9_define_24 ?_
      refine lv_if_ne (tgt := 32) hx hb dX9_define_25 (by decide) (fun c_25 => ?_) (fun c_25 => ?_)
      · have hw := hw.1 c_25
        exact tb_X9_define_32 C  S_2 G a1 a2 hw H locs hP hD hS ls (lv_sub hl [0, 1, 2] rfl)
      · have hw := hw.2 c_25
        refine lv_iconst (v := 1) hx hb dX9_define_28 (by decide) ?_
        refine lv_goto (tgt := 33) hx hb dX9_define_29 (by decide) ?_
        exact tb_X9_define_33 C  S_2 G a1 a2 (1 : Int32) hw H locs hP hD hS ls (lv_sub hl [0, 1, 2] rfl)
set_option maxHeartbeats 4000000 in
set_option maxRecDepth 100000 in
theorem c_X9_define (l : Launch) (dC : Nat → ClassId) (dI : Nat → Nat → Nat) (cI cJ cZ : ClassId) (o : Nat) (ad : Nat → Nat) (S : mS) (G : mG) (sz : Nat) (a1 : Int32) (a2 : Int64) (Q : Int64 → mS → mG → Prop) (hw : wp_X9_define_0 Q S G a1 a2) : Met l yX9_define wsX9_define rm_X9_define (va_Pc [.ref o, .int a1, .long a2] (mPre dC dI cI cJ cZ o ad S G sz)) (va_Ql (fun r (u : mS × mG) => Q r u.1 u.2) (mB dC dI cI cJ cZ o ad (mA cI cJ cZ o ad S G sz)) (mA cI cJ cZ o ad S G sz)) 0 0 (mA cI cJ cZ o ad S G sz) := by
  refine Met.ofW (cc := cX9_define) (maxL := 6) (ret := (some .long)) (by decide) rfl ?_
  intro p e s m args below meth c s₁ B hml hv
  obtain ⟨rfl, hsz, hP, hK, hD0⟩ := hv
  subst hsz
  have hl := lv_entry ([.ref o, .int a1, .long a2]) (n := 6) (Nat.le_of_ble_eq_true rfl)
  rw [lg_entry_eq]
  generalize (lg_sl ([.ref o, .int a1, .long a2]) ++ List.replicate (6 - (lg_sl ([.ref o, .int a1, .long a2])).length) Slot.unset).toArray = ls at hl ⊢
  exact tb_X9_define_0 (Q := Q) (p := p) ⟨B.exec, B.bytes, hml, findClass_of_methodNamed B.named, atoms_spec (ws := wsX9_define) B.pre, B.returns, B.notSynchronized, fun q h => Or.inr h, hK⟩ S G a1 a2 hw s.heap [] hP (hD0.self (sz := s.heap.size)) va_S.rf ls hl
theorem iw_X9_know : ∀ w ∈ u_ws RX9 TX9 38, w ∈ wsX9_know := fun w h => List.mem_cons_of_mem _ (by first | exact List.mem_append_right _ h | decide +kernel +revert)
theorem lk_X9_know_50 : Cond.fieldLink RX9 50 "TermKeeperModel" "isKnown" "[Z" ∈ wsX9_know := by decide +kernel
theorem lk_X9_know_105 : Cond.fieldLink RX9 105 "TermKeeperModel" "thrown" "I" ∈ wsX9_know := by decide +kernel
abbrev rm_X9_know : Room := { frames := 1, cells := 0, slots := 0, locals := 22 }
def wp_X9_know_0 (Q : Int32 → mS → mG → Prop) (S : mS) (G : mG) (a1 : Int32) (a2 : Int32) : Prop :=
    (∀ S_2 : mS, S_2 = mst S 0 0 (0 : Int32) →
      (wp_X9_isThing_0 (fun r_7 =>
        (wp_X9_right_0 (fun r_11 S_11 G_11 =>
          ((¬ r_11 = 0 →
            (vp_in a1 40 ∧
              (∀ v3_25 : Int32, v3_25 = (S_11 18 (Int32.toNatClampNeg a1)) →
                (vp_in a1 40 ∧ ∀ S_32 : mS, S_32 = mst S_11 18 (Int32.toNatClampNeg a1) (vp_nar .boolean a2) →
                  (narrow .boolean (.int v3_25) = .int v3_25 ∧ (Q v3_25 S_32 G_11))))))
           ∧ (r_11 = 0 →
            (Q (0 : Int32) S_11 G_11)))) S_2 G r_7 (1 : Int32))) a1))
set_option maxHeartbeats 4000000 in
set_option maxRecDepth 100000 in
theorem tb_X9_know_0 {p : Program} {l : Launch} {e : Env} {s : State} {m : MethodId} {below : List Frame} {meth : Method} {c : Code} {args : Array Value} {dC : Nat → ClassId} {dI : Nat → Nat → Nat} {cI cJ cZ : ClassId} {o : Nat} {ad : Nat → Nat} {A : Nat → Prop} {Q : Int32 → mS → mG → Prop} (C : mCx p s m args meth c cX9_know 4 (some .boolean) wsX9_know A dC dI cI cJ cZ) : ∀ (S : mS) (G : mG) (a1 : Int32) (a2 : Int32), wp_X9_know_0 Q  S G a1 a2 → mAt p l e rm_X9_know s m args below meth c dC dI cI cJ cZ o ad A (MQ below (va_Qi (fun r (u : mS × mG) => Q r u.1 u.2) (mB dC dI cI cJ cZ o ad A) A) args s 0 0 A) 0 4 [(0, .ref o), (1, .int a1), (2, .int a2)] [] S G := by
  obtain ⟨hx, hb, hml, hown, hts, hr, hlocks, hA, hK⟩ := id C
  intro S G a1 a2 hw H locs hP hD hS ls hl
  rw [wp_X9_know_0] at hw
  refine lv_aload_n hx hb dX9_know_0 rfl (lv_at hl 0 rfl) ?_
  refine lv_iconst (v := 0) hx hb dX9_know_1 (by decide) ?_
  refine va_put (D := (dC, dI)) (ci := 10) (v := .int (0 : Int32)) (C := RX9) (T := TX9) (N := 38) hx hb hts iw_X9_know tyX9 tyX9_ok nmX9 hown hK hP hD hS 0 rfl rfl 0 (by decide) (hts _ lk_X9_know_105) (fun _ h9 => h9) rfl (tyX9_ok 0 (by decide)) rfl rfl (Nat.le_of_ble_eq_true rfl) dX9_know_2 (fun H locs hP hD hS => ?_)
  obtain ⟨S_2, eS_2⟩ : ∃ y : mS, y = mst S 0 0 (0 : Int32) := ⟨_, rfl⟩
  have hw := hw S_2 eS_2
  have hP : va_P (dC, dI) vwCl (mW cI cJ cZ o ad S_2 G) H := by rw [eS_2]; exact hP
  have hD : va_D A (mW cI cJ cZ o ad S_2 G) := by rw [eS_2]; exact hD
  refine lv_aload_n hx hb dX9_know_5 rfl (lv_at hl 0 rfl) ?_
  refine lv_iload_n hx hb dX9_know_6 rfl (lv_at hl 1 rfl) ?_
  refine vp_callSi (W.runS (As := [.int a1]) (rest := [.ref o]) ⟨hx, hb, hml, hown, hts⟩ (c_X9_isThing l a1 _ hw) (va_cwS 1 hts gX9_know_X9_isThing rfl rfl rfl (by decide +kernel) ⟨Nat.le_of_ble_eq_true rfl, Nat.le_of_ble_eq_true rfl⟩) preEq rfl rfl hl.1 rfl (lv_room (Nat.le_of_ble_eq_true rfl)) dX9_know_7 ⟨Nat.zero_le _, Nat.zero_le _⟩) (fun r_7 hw => ?_)
  refine lv_iconst (v := 1) hx hb dX9_know_10 (by decide) ?_
  have hFc := mFree hD hS hA
  refine va_calli (va_runV (As := [.int r_7, .int (1 : Int32)]) (rest := []) ⟨hx, hb, hml, hown, hts⟩ (c_X9_right l dC dI cI cJ cZ o ad S_2 G H.size r_7 (1 : Int32) _ hw) (cwV 2 hts gX9_know_X9_right rfl rfl rfl (by decide +kernel) ⟨Nat.le_of_ble_eq_true rfl, Nat.le_of_ble_eq_true rfl⟩) (mPreV [.int r_7, .int (1 : Int32)] hK hP hD) rfl rfl hl.1 rfl (lv_room (Nat.le_of_ble_eq_true rfl)) dX9_know_11 ⟨Nat.zero_le _, Nat.zero_le _⟩) hS (fun q _ h => hFc q h) hFc (fun r_11 u t H1 locs ht hvm hw hB hz1 hk1 hS => ?_)
  obtain ⟨S_11, G_11⟩ := u
  obtain ⟨hP, -, hD1⟩ := hB
  rw [ht] at hP
  have hw := id hw
  have hP : va_P (dC, dI) vwCl (mW cI cJ cZ o ad S_11 G_11) H1 := hP
  have hD : va_D A (mW cI cJ cZ o ad S_11 G_11) := mGain hD1 hFc
  generalize H1 = H at hP hS ⊢
  refine lv_if_ne (tgt := 19) hx hb dX9_know_14 (by decide) (fun c_14 => ?_) (fun c_14 => ?_)
  · have hw := hw.1 c_14
    refine lv_aload_n hx hb dX9_know_19 rfl (lv_at hl 0 rfl) ?_
    refine va_get (D := (dC, dI)) (ci := 10) (v := .ref (ad 18)) (C := RX9) (T := TX9) (N := 38) hx hb hts iw_X9_know hown hK hP 0 rfl rfl 18 (by decide) (hts _ lk_X9_know_50) (fun _ h9 => h9) rfl dX9_know_20 ?_
    refine lv_iload_n hx hb dX9_know_23 rfl (lv_at hl 1 rfl) ?_
    refine va_zald hx hb hK hP 14 2 rfl rfl hw.1 dX9_know_24 ?_
    have hw := hw.2
    refine lv_topi (fun v3_25 ev3_25 => ?_)
    have hw := hw v3_25 ev3_25
    refine lv_istore_n (lv' := [(3, .int v3_25), (0, .ref o), (1, .int a1), (2, .int a2)]) hx hb dX9_know_25 rfl hl (by decide) rfl (fun ls hl => ?_)
    refine lv_aload_n hx hb dX9_know_26 rfl (lv_at hl 1 rfl) ?_
    refine va_get (D := (dC, dI)) (ci := 10) (v := .ref (ad 18)) (C := RX9) (T := TX9) (N := 38) hx hb hts iw_X9_know hown hK hP 0 rfl rfl 18 (by decide) (hts _ lk_X9_know_50) (fun _ h9 => h9) rfl dX9_know_27 ?_
    refine lv_iload_n hx hb dX9_know_30 rfl (lv_at hl 2 rfl) ?_
    refine lv_iload_n hx hb dX9_know_31 rfl (lv_at hl 3 rfl) ?_
    refine va_zast hx hb hK hP hD hS 14 2 rfl rfl hw.1 dX9_know_32 (fun H locs hP hD hS => ?_)
    obtain ⟨S_32, eS_32⟩ : ∃ y : mS, y = mst S_11 18 (Int32.toNatClampNeg a1) (vp_nar .boolean a2) := ⟨_, rfl⟩
    have hw := hw.2 S_32 eS_32
    have hP : va_P (dC, dI) vwCl (mW cI cJ cZ o ad S_32 G_11) H := by rw [eS_32]; exact hP
    have hD : va_D A (mW cI cJ cZ o ad S_32 G_11) := by rw [eS_32]; exact hD
    refine lv_iload_n hx hb dX9_know_33 rfl (lv_at hl 0 rfl) ?_
    exact W.zret (v := v3_25) hx hb hr hw.1 (fun t ht hW => ⟨⟨v3_25, (S_32, G_11), rfl, hw.2, by rw [ht]; exact hP, va_K.moved hW.alike hK, hD⟩, hS.F ht⟩) hS.2.2 dX9_know_34
  · have hw := hw.2 c_14
    refine lv_iconst (v := 0) hx hb dX9_know_17 (by decide) ?_
    exact W.zret (v := (0 : Int32)) hx hb hr rfl (fun t ht hW => ⟨⟨(0 : Int32), (S_11, G_11), rfl, hw, by rw [ht]; exact hP, va_K.moved hW.alike hK, hD⟩, hS.F ht⟩) hS.2.2 dX9_know_18
set_option maxHeartbeats 4000000 in
set_option maxRecDepth 100000 in
theorem c_X9_know (l : Launch) (dC : Nat → ClassId) (dI : Nat → Nat → Nat) (cI cJ cZ : ClassId) (o : Nat) (ad : Nat → Nat) (S : mS) (G : mG) (sz : Nat) (a1 : Int32) (a2 : Int32) (Q : Int32 → mS → mG → Prop) (hw : wp_X9_know_0 Q S G a1 a2) : Met l yX9_know wsX9_know rm_X9_know (va_Pc [.ref o, .int a1, .int a2] (mPre dC dI cI cJ cZ o ad S G sz)) (va_Qi (fun r (u : mS × mG) => Q r u.1 u.2) (mB dC dI cI cJ cZ o ad (mA cI cJ cZ o ad S G sz)) (mA cI cJ cZ o ad S G sz)) 0 0 (mA cI cJ cZ o ad S G sz) := by
  refine Met.ofW (cc := cX9_know) (maxL := 4) (ret := (some .boolean)) (by decide) rfl ?_
  intro p e s m args below meth c s₁ B hml hv
  obtain ⟨rfl, hsz, hP, hK, hD0⟩ := hv
  subst hsz
  have hl := lv_entry ([.ref o, .int a1, .int a2]) (n := 4) (Nat.le_of_ble_eq_true rfl)
  rw [lg_entry_eq]
  generalize (lg_sl ([.ref o, .int a1, .int a2]) ++ List.replicate (4 - (lg_sl ([.ref o, .int a1, .int a2])).length) Slot.unset).toArray = ls at hl ⊢
  exact tb_X9_know_0 (Q := Q) (p := p) ⟨B.exec, B.bytes, hml, findClass_of_methodNamed B.named, atoms_spec (ws := wsX9_know) B.pre, B.returns, B.notSynchronized, fun q h => Or.inr h, hK⟩ S G a1 a2 hw s.heap [] hP (hD0.self (sz := s.heap.size)) va_S.rf ls hl
theorem iw_X9_isTerm : ∀ w ∈ u_ws RX9 TX9 38, w ∈ wsX9_isTerm := fun w h => List.mem_cons_of_mem _ (by first | exact List.mem_append_right _ h | decide +kernel +revert)
theorem lk_X9_isTerm_105 : Cond.fieldLink RX9 105 "TermKeeperModel" "thrown" "I" ∈ wsX9_isTerm := by decide +kernel
theorem lk_X9_isTerm_127 : Cond.fieldLink RX9 127 "TermKeeperModel" "terms" "I" ∈ wsX9_isTerm := by decide +kernel
abbrev rm_X9_isTerm : Room := { frames := 1, cells := 0, slots := 0, locals := 22 }
def wp_X9_isTerm_23 (Q : Int32 → mS → mG → Prop) (S : mS) (G : mG) (k0 : Int32) : Prop :=
    (wp_X9_right_0 (fun r_24 S_24 G_24 =>
      (narrow .boolean (.int r_24) = .int r_24 ∧ (Q r_24 S_24 G_24))) S G k0 (1 : Int32))
def wp_X9_isTerm_22 (Q : Int32 → mS → mG → Prop) (S : mS) (G : mG) : Prop :=
    (wp_X9_isTerm_23 Q  S G (0 : Int32))
def wp_X9_isTerm_0 (Q : Int32 → mS → mG → Prop) (S : mS) (G : mG) (a1 : Int32) : Prop :=
    (∀ S_2 : mS, S_2 = mst S 0 0 (0 : Int32) →
      ((a1 < 0 →
        (wp_X9_isTerm_22 Q  S_2 G ))
       ∧ (¬ a1 < 0 →
        (((S_2 4 0) ≤ a1 →
          (wp_X9_isTerm_22 Q  S_2 G ))
         ∧ (¬ (S_2 4 0) ≤ a1 →
          (wp_X9_isTerm_23 Q  S_2 G (1 : Int32)))))))
set_option maxHeartbeats 4000000 in
set_option maxRecDepth 100000 in
theorem tb_X9_isTerm_23 {p : Program} {l : Launch} {e : Env} {s : State} {m : MethodId} {below : List Frame} {meth : Method} {c : Code} {args : Array Value} {dC : Nat → ClassId} {dI : Nat → Nat → Nat} {cI cJ cZ : ClassId} {o : Nat} {ad : Nat → Nat} {A : Nat → Prop} {Q : Int32 → mS → mG → Prop} (C : mCx p s m args meth c cX9_isTerm 2 (some .boolean) wsX9_isTerm A dC dI cI cJ cZ) : ∀ (S : mS) (G : mG) (k0 : Int32), wp_X9_isTerm_23 Q  S G k0 → mAt p l e rm_X9_isTerm s m args below meth c dC dI cI cJ cZ o ad A (MQ below (va_Qi (fun r (u : mS × mG) => Q r u.1 u.2) (mB dC dI cI cJ cZ o ad A) A) args s 0 0 A) 23 2 [(0, .ref o)] [.int k0, .ref o] S G := by
  obtain ⟨hx, hb, hml, hown, hts, hr, hlocks, hA, hK⟩ := id C
  intro S G k0 hw H locs hP hD hS ls hl
  rw [wp_X9_isTerm_23] at hw
  refine lv_iconst (v := 1) hx hb dX9_isTerm_23 (by decide) ?_
  have hFc := mFree hD hS hA
  refine va_calli (va_runV (As := [.int k0, .int (1 : Int32)]) (rest := []) ⟨hx, hb, hml, hown, hts⟩ (c_X9_right l dC dI cI cJ cZ o ad S G H.size k0 (1 : Int32) _ hw) (cwV 2 hts gX9_isTerm_X9_right rfl rfl rfl (by decide +kernel) ⟨Nat.le_of_ble_eq_true rfl, Nat.le_of_ble_eq_true rfl⟩) (mPreV [.int k0, .int (1 : Int32)] hK hP hD) rfl rfl hl.1 rfl (lv_room (Nat.le_of_ble_eq_true rfl)) dX9_isTerm_24 ⟨Nat.zero_le _, Nat.zero_le _⟩) hS (fun q _ h => hFc q h) hFc (fun r_24 u t H1 locs ht hvm hw hB hz1 hk1 hS => ?_)
  obtain ⟨S_24, G_24⟩ := u
  obtain ⟨hP, -, hD1⟩ := hB
  rw [ht] at hP
  have hw := id hw
  have hP : va_P (dC, dI) vwCl (mW cI cJ cZ o ad S_24 G_24) H1 := hP
  have hD : va_D A (mW cI cJ cZ o ad S_24 G_24) := mGain hD1 hFc
  generalize H1 = H at hP hS ⊢
  exact W.zret (v := r_24) hx hb hr hw.1 (fun t ht hW => ⟨⟨r_24, (S_24, G_24), rfl, hw.2, by rw [ht]; exact hP, va_K.moved hW.alike hK, hD⟩, hS.F ht⟩) hS.2.2 dX9_isTerm_27
set_option maxHeartbeats 4000000 in
set_option maxRecDepth 100000 in
theorem tb_X9_isTerm_22 {p : Program} {l : Launch} {e : Env} {s : State} {m : MethodId} {below : List Frame} {meth : Method} {c : Code} {args : Array Value} {dC : Nat → ClassId} {dI : Nat → Nat → Nat} {cI cJ cZ : ClassId} {o : Nat} {ad : Nat → Nat} {A : Nat → Prop} {Q : Int32 → mS → mG → Prop} (C : mCx p s m args meth c cX9_isTerm 2 (some .boolean) wsX9_isTerm A dC dI cI cJ cZ) : ∀ (S : mS) (G : mG) , wp_X9_isTerm_22 Q  S G  → mAt p l e rm_X9_isTerm s m args below meth c dC dI cI cJ cZ o ad A (MQ below (va_Qi (fun r (u : mS × mG) => Q r u.1 u.2) (mB dC dI cI cJ cZ o ad A) A) args s 0 0 A) 22 2 [(0, .ref o)] [.ref o] S G := by
  obtain ⟨hx, hb, hml, hown, hts, hr, hlocks, hA, hK⟩ := id C
  intro S G  hw H locs hP hD hS ls hl
  rw [wp_X9_isTerm_22] at hw
  refine lv_iconst (v := 0) hx hb dX9_isTerm_22 (by decide) ?_
  exact tb_X9_isTerm_23 C  S G (0 : Int32) hw H locs hP hD hS ls (lv_sub hl [0] rfl)
set_option maxHeartbeats 4000000 in
set_option maxRecDepth 100000 in
theorem tb_X9_isTerm_0 {p : Program} {l : Launch} {e : Env} {s : State} {m : MethodId} {below : List Frame} {meth : Method} {c : Code} {args : Array Value} {dC : Nat → ClassId} {dI : Nat → Nat → Nat} {cI cJ cZ : ClassId} {o : Nat} {ad : Nat → Nat} {A : Nat → Prop} {Q : Int32 → mS → mG → Prop} (C : mCx p s m args meth c cX9_isTerm 2 (some .boolean) wsX9_isTerm A dC dI cI cJ cZ) : ∀ (S : mS) (G : mG) (a1 : Int32), wp_X9_isTerm_0 Q  S G a1 → mAt p l e rm_X9_isTerm s m args below meth c dC dI cI cJ cZ o ad A (MQ below (va_Qi (fun r (u : mS × mG) => Q r u.1 u.2) (mB dC dI cI cJ cZ o ad A) A) args s 0 0 A) 0 2 [(0, .ref o), (1, .int a1)] [] S G := by
  obtain ⟨hx, hb, hml, hown, hts, hr, hlocks, hA, hK⟩ := id C
  intro S G a1 hw H locs hP hD hS ls hl
  rw [wp_X9_isTerm_0] at hw
  refine lv_aload_n hx hb dX9_isTerm_0 rfl (lv_at hl 0 rfl) ?_
  refine lv_iconst (v := 0) hx hb dX9_isTerm_1 (by decide) ?_
  refine va_put (D := (dC, dI)) (ci := 10) (v := .int (0 : Int32)) (C := RX9) (T := TX9) (N := 38) hx hb hts iw_X9_isTerm tyX9 tyX9_ok nmX9 hown hK hP hD hS 0 rfl rfl 0 (by decide) (hts _ lk_X9_isTerm_105) (fun _ h9 => h9) rfl (tyX9_ok 0 (by decide)) rfl rfl (Nat.le_of_ble_eq_true rfl) dX9_isTerm_2 (fun H locs hP hD hS => ?_)
  obtain ⟨S_2, eS_2⟩ : ∃ y : mS, y = mst S 0 0 (0 : Int32) := ⟨_, rfl⟩
  have hw := hw S_2 eS_2
  have hP : va_P (dC, dI) vwCl (mW cI cJ cZ o ad S_2 G) H := by rw [eS_2]; exact hP
  have hD : va_D A (mW cI cJ cZ o ad S_2 G) := by rw [eS_2]; exact hD
  refine lv_aload_n hx hb dX9_isTerm_5 rfl (lv_at hl 0 rfl) ?_
  refine lv_iload_n hx hb dX9_isTerm_6 rfl (lv_at hl 1 rfl) ?_
  refine lv_if_lt (tgt := 22) hx hb dX9_isTerm_7 (by decide) (fun c_7 => ?_) (fun c_7 => ?_)
  · have hw := hw.1 c_7
    exact tb_X9_isTerm_22 C  S_2 G  hw H locs hP hD hS ls (lv_sub hl [0] rfl)
  · have hw := hw.2 c_7
    refine lv_iload_n hx hb dX9_isTerm_10 rfl (lv_at hl 1 rfl) ?_
    refine lv_aload_n hx hb dX9_isTerm_11 rfl (lv_at hl 0 rfl) ?_
    refine va_get (D := (dC, dI)) (ci := 10) (v := .int (S_2 4 0)) (C := RX9) (T := TX9) (N := 38) hx hb hts iw_X9_isTerm hown hK hP 0 rfl rfl 4 (by decide) (hts _ lk_X9_isTerm_127) (fun _ h9 => h9) rfl dX9_isTerm_12 ?_
    refine lv_icmp_ge (tgt := 22) hx hb dX9_isTerm_15 (by decide) (fun c_15 => ?_) (fun c_15 => ?_)
    · have hw := hw.1 c_15
      exact tb_X9_isTerm_22 C  S_2 G  hw H locs hP hD hS ls (lv_sub hl [0] rfl)
    · have hw := hw.2 c_15
      refine lv_iconst (v := 1) hx hb dX9_isTerm_18 (by decide) ?_
      refine lv_goto (tgt := 23) hx hb dX9_isTerm_19 (by decide) ?_
      exact tb_X9_isTerm_23 C  S_2 G (1 : Int32) hw H locs hP hD hS ls (lv_sub hl [0] rfl)
set_option maxHeartbeats 4000000 in
set_option maxRecDepth 100000 in
theorem c_X9_isTerm (l : Launch) (dC : Nat → ClassId) (dI : Nat → Nat → Nat) (cI cJ cZ : ClassId) (o : Nat) (ad : Nat → Nat) (S : mS) (G : mG) (sz : Nat) (a1 : Int32) (Q : Int32 → mS → mG → Prop) (hw : wp_X9_isTerm_0 Q S G a1) : Met l yX9_isTerm wsX9_isTerm rm_X9_isTerm (va_Pc [.ref o, .int a1] (mPre dC dI cI cJ cZ o ad S G sz)) (va_Qi (fun r (u : mS × mG) => Q r u.1 u.2) (mB dC dI cI cJ cZ o ad (mA cI cJ cZ o ad S G sz)) (mA cI cJ cZ o ad S G sz)) 0 0 (mA cI cJ cZ o ad S G sz) := by
  refine Met.ofW (cc := cX9_isTerm) (maxL := 2) (ret := (some .boolean)) (by decide) rfl ?_
  intro p e s m args below meth c s₁ B hml hv
  obtain ⟨rfl, hsz, hP, hK, hD0⟩ := hv
  subst hsz
  have hl := lv_entry ([.ref o, .int a1]) (n := 2) (Nat.le_of_ble_eq_true rfl)
  rw [lg_entry_eq]
  generalize (lg_sl ([.ref o, .int a1]) ++ List.replicate (2 - (lg_sl ([.ref o, .int a1])).length) Slot.unset).toArray = ls at hl ⊢
  exact tb_X9_isTerm_0 (Q := Q) (p := p) ⟨B.exec, B.bytes, hml, findClass_of_methodNamed B.named, atoms_spec (ws := wsX9_isTerm) B.pre, B.returns, B.notSynchronized, fun q h => Or.inr h, hK⟩ S G a1 hw s.heap [] hP (hD0.self (sz := s.heap.size)) va_S.rf ls hl
theorem iw_X9_kind : ∀ w ∈ u_ws RX9 TX9 38, w ∈ wsX9_kind := fun w h => List.mem_cons_of_mem _ (by first | exact List.mem_append_right _ h | decide +kernel +revert)
theorem lk_X9_kind_31 : Cond.fieldLink RX9 31 "TermKeeperModel" "kindOf" "[I" ∈ wsX9_kind := by decide +kernel
abbrev rm_X9_kind : Room := { frames := 2, cells := 0, slots := 0, locals := 43 }
def wp_X9_kind_23 (Q : Int32 → mS → mG → Prop) (S : mS) (G : mG) (a1 : Int32) (a2 : Int32) (k0 : Int32) : Prop :=
    (wp_X9_right_0 (fun r_24 S_24 G_24 =>
      ((¬ r_24 = 0 →
        (vp_in a1 60 ∧
          (∀ v3_38 : Int32, v3_38 = (S_24 12 (Int32.toNatClampNeg a1)) →
            (vp_in a1 60 ∧ ∀ S_45 : mS, S_45 = mst S_24 12 (Int32.toNatClampNeg a1) a2 →
              (Q v3_38 S_45 G_24)))))
       ∧ (r_24 = 0 →
        (Q (0 : Int32) S_24 G_24)))) S G k0 (2 : Int32))
def wp_X9_kind_22 (Q : Int32 → mS → mG → Prop) (S : mS) (G : mG) (a1 : Int32) (a2 : Int32) : Prop :=
    (wp_X9_kind_23 Q  S G a1 a2 (0 : Int32))
def wp_X9_kind_0 (Q : Int32 → mS → mG → Prop) (S : mS) (G : mG) (a1 : Int32) (a2 : Int32) : Prop :=
    (wp_X9_isTerm_0 (fun r_2 S_2 G_2 =>
      ((r_2 = 0 →
        (Q (0 : Int32) S_2 G_2))
       ∧ (¬ r_2 = 0 →
        ((a2 < 0 →
          (wp_X9_kind_22 Q  S_2 G_2 a1 a2))
         ∧ (¬ a2 < 0 →
          (((3 : Int32) < a2 →
            (wp_X9_kind_22 Q  S_2 G_2 a1 a2))
           ∧ (¬ (3 : Int32) < a2 →
            (wp_X9_kind_23 Q  S_2 G_2 a1 a2 (1 : Int32))))))))) S G a1)
set_option maxHeartbeats 4000000 in
set_option maxRecDepth 100000 in
theorem tb_X9_kind_23 {p : Program} {l : Launch} {e : Env} {s : State} {m : MethodId} {below : List Frame} {meth : Method} {c : Code} {args : Array Value} {dC : Nat → ClassId} {dI : Nat → Nat → Nat} {cI cJ cZ : ClassId} {o : Nat} {ad : Nat → Nat} {A : Nat → Prop} {Q : Int32 → mS → mG → Prop} (C : mCx p s m args meth c cX9_kind 4 (some .int) wsX9_kind A dC dI cI cJ cZ) : ∀ (S : mS) (G : mG) (a1 : Int32) (a2 : Int32) (k0 : Int32), wp_X9_kind_23 Q  S G a1 a2 k0 → mAt p l e rm_X9_kind s m args below meth c dC dI cI cJ cZ o ad A (MQ below (va_Qi (fun r (u : mS × mG) => Q r u.1 u.2) (mB dC dI cI cJ cZ o ad A) A) args s 0 0 A) 23 4 [(0, .ref o), (1, .int a1), (2, .int a2)] [.int k0, .ref o] S G := by
  obtain ⟨hx, hb, hml, hown, hts, hr, hlocks, hA, hK⟩ := id C
  intro S G a1 a2 k0 hw H locs hP hD hS ls hl
  rw [wp_X9_kind_23] at hw
  refine lv_iconst (v := 2) hx hb dX9_kind_23 (by decide) ?_
  have hFc := mFree hD hS hA
  refine va_calli (va_runV (As := [.int k0, .int (2 : Int32)]) (rest := []) ⟨hx, hb, hml, hown, hts⟩ (c_X9_right l dC dI cI cJ cZ o ad S G H.size k0 (2 : Int32) _ hw) (cwV 2 hts gX9_kind_X9_right rfl rfl rfl (by decide +kernel) ⟨Nat.le_of_ble_eq_true rfl, Nat.le_of_ble_eq_true rfl⟩) (mPreV [.int k0, .int (2 : Int32)] hK hP hD) rfl rfl hl.1 rfl (lv_room (Nat.le_of_ble_eq_true rfl)) dX9_kind_24 ⟨Nat.zero_le _, Nat.zero_le _⟩) hS (fun q _ h => hFc q h) hFc (fun r_24 u t H1 locs ht hvm hw hB hz1 hk1 hS => ?_)
  obtain ⟨S_24, G_24⟩ := u
  obtain ⟨hP, -, hD1⟩ := hB
  rw [ht] at hP
  have hw := id hw
  have hP : va_P (dC, dI) vwCl (mW cI cJ cZ o ad S_24 G_24) H1 := hP
  have hD : va_D A (mW cI cJ cZ o ad S_24 G_24) := mGain hD1 hFc
  generalize H1 = H at hP hS ⊢
  refine lv_if_ne (tgt := 32) hx hb dX9_kind_27 (by decide) (fun c_27 => ?_) (fun c_27 => ?_)
  · have hw := hw.1 c_27
    refine lv_aload_n hx hb dX9_kind_32 rfl (lv_at hl 0 rfl) ?_
    refine va_get (D := (dC, dI)) (ci := 10) (v := .ref (ad 12)) (C := RX9) (T := TX9) (N := 38) hx hb hts iw_X9_kind hown hK hP 0 rfl rfl 12 (by decide) (hts _ lk_X9_kind_31) (fun _ h9 => h9) rfl dX9_kind_33 ?_
    refine lv_iload_n hx hb dX9_kind_36 rfl (lv_at hl 1 rfl) ?_
    refine va_iald hx hb hK hP 8 0 rfl rfl hw.1 dX9_kind_37 ?_
    have hw := hw.2
    refine lv_topi (fun v3_38 ev3_38 => ?_)
    have hw := hw v3_38 ev3_38
    refine lv_istore_n (lv' := [(3, .int v3_38), (0, .ref o), (1, .int a1), (2, .int a2)]) hx hb dX9_kind_38 rfl hl (by decide) rfl (fun ls hl => ?_)
    refine lv_aload_n hx hb dX9_kind_39 rfl (lv_at hl 1 rfl) ?_
    refine va_get (D := (dC, dI)) (ci := 10) (v := .ref (ad 12)) (C := RX9) (T := TX9) (N := 38) hx hb hts iw_X9_kind hown hK hP 0 rfl rfl 12 (by decide) (hts _ lk_X9_kind_31) (fun _ h9 => h9) rfl dX9_kind_40 ?_
    refine lv_iload_n hx hb dX9_kind_43 rfl (lv_at hl 2 rfl) ?_
    refine lv_iload_n hx hb dX9_kind_44 rfl (lv_at hl 3 rfl) ?_
    refine va_iast hx hb hK hP hD hS 8 0 rfl rfl hw.1 dX9_kind_45 (fun H locs hP hD hS => ?_)
    obtain ⟨S_45, eS_45⟩ : ∃ y : mS, y = mst S_24 12 (Int32.toNatClampNeg a1) a2 := ⟨_, rfl⟩
    have hw := hw.2 S_45 eS_45
    have hP : va_P (dC, dI) vwCl (mW cI cJ cZ o ad S_45 G_24) H := by rw [eS_45]; exact hP
    have hD : va_D A (mW cI cJ cZ o ad S_45 G_24) := by rw [eS_45]; exact hD
    refine lv_iload_n hx hb dX9_kind_46 rfl (lv_at hl 0 rfl) ?_
    exact W.iret (v := v3_38) hx hb hr (fun t ht hW => ⟨⟨v3_38, (S_45, G_24), rfl, hw, by rw [ht]; exact hP, va_K.moved hW.alike hK, hD⟩, hS.F ht⟩) hS.2.2 dX9_kind_47
  · have hw := hw.2 c_27
    refine lv_iconst (v := 0) hx hb dX9_kind_30 (by decide) ?_
    exact W.iret (v := (0 : Int32)) hx hb hr (fun t ht hW => ⟨⟨(0 : Int32), (S_24, G_24), rfl, hw, by rw [ht]; exact hP, va_K.moved hW.alike hK, hD⟩, hS.F ht⟩) hS.2.2 dX9_kind_31
set_option maxHeartbeats 4000000 in
set_option maxRecDepth 100000 in
theorem tb_X9_kind_22 {p : Program} {l : Launch} {e : Env} {s : State} {m : MethodId} {below : List Frame} {meth : Method} {c : Code} {args : Array Value} {dC : Nat → ClassId} {dI : Nat → Nat → Nat} {cI cJ cZ : ClassId} {o : Nat} {ad : Nat → Nat} {A : Nat → Prop} {Q : Int32 → mS → mG → Prop} (C : mCx p s m args meth c cX9_kind 4 (some .int) wsX9_kind A dC dI cI cJ cZ) : ∀ (S : mS) (G : mG) (a1 : Int32) (a2 : Int32), wp_X9_kind_22 Q  S G a1 a2 → mAt p l e rm_X9_kind s m args below meth c dC dI cI cJ cZ o ad A (MQ below (va_Qi (fun r (u : mS × mG) => Q r u.1 u.2) (mB dC dI cI cJ cZ o ad A) A) args s 0 0 A) 22 4 [(0, .ref o), (1, .int a1), (2, .int a2)] [.ref o] S G := by
  obtain ⟨hx, hb, hml, hown, hts, hr, hlocks, hA, hK⟩ := id C
  intro S G a1 a2 hw H locs hP hD hS ls hl
  rw [wp_X9_kind_22] at hw
  refine lv_iconst (v := 0) hx hb dX9_kind_22 (by decide) ?_
  exact tb_X9_kind_23 C  S G a1 a2 (0 : Int32) hw H locs hP hD hS ls (lv_sub hl [0, 1, 2] rfl)
set_option maxHeartbeats 4000000 in
set_option maxRecDepth 100000 in
theorem tb_X9_kind_0 {p : Program} {l : Launch} {e : Env} {s : State} {m : MethodId} {below : List Frame} {meth : Method} {c : Code} {args : Array Value} {dC : Nat → ClassId} {dI : Nat → Nat → Nat} {cI cJ cZ : ClassId} {o : Nat} {ad : Nat → Nat} {A : Nat → Prop} {Q : Int32 → mS → mG → Prop} (C : mCx p s m args meth c cX9_kind 4 (some .int) wsX9_kind A dC dI cI cJ cZ) : ∀ (S : mS) (G : mG) (a1 : Int32) (a2 : Int32), wp_X9_kind_0 Q  S G a1 a2 → mAt p l e rm_X9_kind s m args below meth c dC dI cI cJ cZ o ad A (MQ below (va_Qi (fun r (u : mS × mG) => Q r u.1 u.2) (mB dC dI cI cJ cZ o ad A) A) args s 0 0 A) 0 4 [(0, .ref o), (1, .int a1), (2, .int a2)] [] S G := by
  obtain ⟨hx, hb, hml, hown, hts, hr, hlocks, hA, hK⟩ := id C
  intro S G a1 a2 hw H locs hP hD hS ls hl
  rw [wp_X9_kind_0] at hw
  refine lv_aload_n hx hb dX9_kind_0 rfl (lv_at hl 0 rfl) ?_
  refine lv_iload_n hx hb dX9_kind_1 rfl (lv_at hl 1 rfl) ?_
  have hFc := mFree hD hS hA
  refine va_calli (va_runV (As := [.int a1]) (rest := []) ⟨hx, hb, hml, hown, hts⟩ (c_X9_isTerm l dC dI cI cJ cZ o ad S G H.size a1 _ hw) (cwV 1 hts gX9_kind_X9_isTerm rfl rfl rfl (by decide +kernel) ⟨Nat.le_of_ble_eq_true rfl, Nat.le_of_ble_eq_true rfl⟩) (mPreV [.int a1] hK hP hD) rfl rfl hl.1 rfl (lv_room (Nat.le_of_ble_eq_true rfl)) dX9_kind_2 ⟨Nat.zero_le _, Nat.zero_le _⟩) hS (fun q _ h => hFc q h) hFc (fun r_2 u t H1 locs ht hvm hw hB hz1 hk1 hS => ?_)
  obtain ⟨S_2, G_2⟩ := u
  obtain ⟨hP, -, hD1⟩ := hB
  rw [ht] at hP
  have hw := id hw
  have hP : va_P (dC, dI) vwCl (mW cI cJ cZ o ad S_2 G_2) H1 := hP
  have hD : va_D A (mW cI cJ cZ o ad S_2 G_2) := mGain hD1 hFc
  generalize H1 = H at hP hS ⊢
  refine lv_if_eq (tgt := 30) hx hb dX9_kind_5 (by decide) (fun c_5 => ?_) (fun c_5 => ?_)
  · have hw := hw.1 c_5
    refine lv_iconst (v := 0) hx hb dX9_kind_30 (by decide) ?_
    exact W.iret (v := (0 : Int32)) hx hb hr (fun t ht hW => ⟨⟨(0 : Int32), (S_2, G_2), rfl, hw, by rw [ht]; exact hP, va_K.moved hW.alike hK, hD⟩, hS.F ht⟩) hS.2.2 dX9_kind_31
  · have hw := hw.2 c_5
    refine lv_aload_n hx hb dX9_kind_8 rfl (lv_at hl 0 rfl) ?_
    refine lv_iload_n hx hb dX9_kind_9 rfl (lv_at hl 2 rfl) ?_
    refine lv_if_lt (tgt := 22) hx hb dX9_kind_10 (by decide) (fun c_10 => ?_) (fun c_10 => ?_)
    · have hw := hw.1 c_10
      exact tb_X9_kind_22 C  S_2 G_2 a1 a2 hw H locs hP hD hS ls (lv_sub hl [0, 1, 2] rfl)
    · have hw := hw.2 c_10
      refine lv_iload_n hx hb dX9_kind_13 rfl (lv_at hl 2 rfl) ?_
      refine lv_iconst (v := 3) hx hb dX9_kind_14 (by decide) ?_
      refine lv_icmp_gt (tgt := 22) hx hb dX9_kind_15 (by decide) (fun c_15 => ?_) (fun c_15 => ?_)
      · have hw := hw.1 c_15
        exact tb_X9_kind_22 C  S_2 G_2 a1 a2 hw H locs hP hD hS ls (lv_sub hl [0, 1, 2] rfl)
      · have hw := hw.2 c_15
        refine lv_iconst (v := 1) hx hb dX9_kind_18 (by decide) ?_
        refine lv_goto (tgt := 23) hx hb dX9_kind_19 (by decide) ?_
        exact tb_X9_kind_23 C  S_2 G_2 a1 a2 (1 : Int32) hw H locs hP hD hS ls (lv_sub hl [0, 1, 2] rfl)
set_option maxHeartbeats 4000000 in
set_option maxRecDepth 100000 in
theorem c_X9_kind (l : Launch) (dC : Nat → ClassId) (dI : Nat → Nat → Nat) (cI cJ cZ : ClassId) (o : Nat) (ad : Nat → Nat) (S : mS) (G : mG) (sz : Nat) (a1 : Int32) (a2 : Int32) (Q : Int32 → mS → mG → Prop) (hw : wp_X9_kind_0 Q S G a1 a2) : Met l yX9_kind wsX9_kind rm_X9_kind (va_Pc [.ref o, .int a1, .int a2] (mPre dC dI cI cJ cZ o ad S G sz)) (va_Qi (fun r (u : mS × mG) => Q r u.1 u.2) (mB dC dI cI cJ cZ o ad (mA cI cJ cZ o ad S G sz)) (mA cI cJ cZ o ad S G sz)) 0 0 (mA cI cJ cZ o ad S G sz) := by
  refine Met.ofW (cc := cX9_kind) (maxL := 4) (ret := (some .int)) (by decide) rfl ?_
  intro p e s m args below meth c s₁ B hml hv
  obtain ⟨rfl, hsz, hP, hK, hD0⟩ := hv
  subst hsz
  have hl := lv_entry ([.ref o, .int a1, .int a2]) (n := 4) (Nat.le_of_ble_eq_true rfl)
  rw [lg_entry_eq]
  generalize (lg_sl ([.ref o, .int a1, .int a2]) ++ List.replicate (4 - (lg_sl ([.ref o, .int a1, .int a2])).length) Slot.unset).toArray = ls at hl ⊢
  exact tb_X9_kind_0 (Q := Q) (p := p) ⟨B.exec, B.bytes, hml, findClass_of_methodNamed B.named, atoms_spec (ws := wsX9_kind) B.pre, B.returns, B.notSynchronized, fun q h => Or.inr h, hK⟩ S G a1 a2 hw s.heap [] hP (hD0.self (sz := s.heap.size)) va_S.rf ls hl
theorem iw_X9_about : ∀ w ∈ u_ws RX9 TX9 38, w ∈ wsX9_about := fun w h => List.mem_cons_of_mem _ (by first | exact List.mem_append_right _ h | decide +kernel +revert)
theorem lk_X9_about_22 : Cond.fieldLink RX9 22 "TermKeeperModel" "sizes" "[I" ∈ wsX9_about := by decide +kernel
theorem lk_X9_about_25 : Cond.fieldLink RX9 25 "TermKeeperModel" "words" "[I" ∈ wsX9_about := by decide +kernel
theorem lk_X9_about_28 : Cond.fieldLink RX9 28 "TermKeeperModel" "thingOf" "[I" ∈ wsX9_about := by decide +kernel
theorem lk_X9_about_31 : Cond.fieldLink RX9 31 "TermKeeperModel" "kindOf" "[I" ∈ wsX9_about := by decide +kernel
theorem lk_X9_about_34 : Cond.fieldLink RX9 34 "TermKeeperModel" "classesOf" "[I" ∈ wsX9_about := by decide +kernel
abbrev rm_X9_about : Room := { frames := 2, cells := 0, slots := 0, locals := 43 }
def wp_X9_about_23 (Q : Int32 → mS → mG → Prop) (S : mS) (G : mG) (a1 : Int32) (a2 : Int32) (k0 : Int32) : Prop :=
    (wp_X9_right_0 (fun r_24 S_24 G_24 =>
      ((¬ r_24 = 0 →
        (
         (a2 = 0 →
          (vp_in a1 60 ∧
            (Q (S_24 11 (Int32.toNatClampNeg a1)) S_24 G_24))) ∧
         (a2 = 1 →
          (vp_in a1 60 ∧
            (Q (S_24 12 (Int32.toNatClampNeg a1)) S_24 G_24))) ∧
         (a2 = 2 →
          (vp_in a1 60 ∧
            (Q (S_24 13 (Int32.toNatClampNeg a1)) S_24 G_24))) ∧
         (a2 = 3 →
          (vp_in a1 60 ∧
            (Q (S_24 10 (Int32.toNatClampNeg a1)) S_24 G_24))) ∧
         (¬ a2 = 0 → ¬ a2 = 1 → ¬ a2 = 2 → ¬ a2 = 3 →
          (vp_in ((3 : Int32) * a1) 180 ∧
            (vp_in (((3 : Int32) * a1) + (1 : Int32)) 180 ∧
              (vp_in (((3 : Int32) * a1) + (2 : Int32)) 180 ∧
                (Q (((S_24 9 (Int32.toNatClampNeg ((3 : Int32) * a1))) + (S_24 9 (Int32.toNatClampNeg (((3 : Int32) * a1) + (1 : Int32))))) + (S_24 9 (Int32.toNatClampNeg (((3 : Int32) * a1) + (2 : Int32))))) S_24 G_24)))))))
       ∧ (r_24 = 0 →
        (Q (0 : Int32) S_24 G_24)))) S G k0 (1 : Int32))
def wp_X9_about_22 (Q : Int32 → mS → mG → Prop) (S : mS) (G : mG) (a1 : Int32) (a2 : Int32) : Prop :=
    (wp_X9_about_23 Q  S G a1 a2 (0 : Int32))
def wp_X9_about_0 (Q : Int32 → mS → mG → Prop) (S : mS) (G : mG) (a1 : Int32) (a2 : Int32) : Prop :=
    (wp_X9_isTerm_0 (fun r_2 S_2 G_2 =>
      ((r_2 = 0 →
        (Q (0 : Int32) S_2 G_2))
       ∧ (¬ r_2 = 0 →
        ((a2 < 0 →
          (wp_X9_about_22 Q  S_2 G_2 a1 a2))
         ∧ (¬ a2 < 0 →
          (((4 : Int32) < a2 →
            (wp_X9_about_22 Q  S_2 G_2 a1 a2))
           ∧ (¬ (4 : Int32) < a2 →
            (wp_X9_about_23 Q  S_2 G_2 a1 a2 (1 : Int32))))))))) S G a1)
set_option maxHeartbeats 4000000 in
set_option maxRecDepth 100000 in
theorem tb_X9_about_23 {p : Program} {l : Launch} {e : Env} {s : State} {m : MethodId} {below : List Frame} {meth : Method} {c : Code} {args : Array Value} {dC : Nat → ClassId} {dI : Nat → Nat → Nat} {cI cJ cZ : ClassId} {o : Nat} {ad : Nat → Nat} {A : Nat → Prop} {Q : Int32 → mS → mG → Prop} (C : mCx p s m args meth c cX9_about 3 (some .int) wsX9_about A dC dI cI cJ cZ) : ∀ (S : mS) (G : mG) (a1 : Int32) (a2 : Int32) (k0 : Int32), wp_X9_about_23 Q  S G a1 a2 k0 → mAt p l e rm_X9_about s m args below meth c dC dI cI cJ cZ o ad A (MQ below (va_Qi (fun r (u : mS × mG) => Q r u.1 u.2) (mB dC dI cI cJ cZ o ad A) A) args s 0 0 A) 23 3 [(0, .ref o), (1, .int a1), (2, .int a2)] [.int k0, .ref o] S G := by
  obtain ⟨hx, hb, hml, hown, hts, hr, hlocks, hA, hK⟩ := id C
  intro S G a1 a2 k0 hw H locs hP hD hS ls hl
  rw [wp_X9_about_23] at hw
  refine lv_iconst (v := 1) hx hb dX9_about_23 (by decide) ?_
  have hFc := mFree hD hS hA
  refine va_calli (va_runV (As := [.int k0, .int (1 : Int32)]) (rest := []) ⟨hx, hb, hml, hown, hts⟩ (c_X9_right l dC dI cI cJ cZ o ad S G H.size k0 (1 : Int32) _ hw) (cwV 2 hts gX9_about_X9_right rfl rfl rfl (by decide +kernel) ⟨Nat.le_of_ble_eq_true rfl, Nat.le_of_ble_eq_true rfl⟩) (mPreV [.int k0, .int (1 : Int32)] hK hP hD) rfl rfl hl.1 rfl (lv_room (Nat.le_of_ble_eq_true rfl)) dX9_about_24 ⟨Nat.zero_le _, Nat.zero_le _⟩) hS (fun q _ h => hFc q h) hFc (fun r_24 u t H1 locs ht hvm hw hB hz1 hk1 hS => ?_)
  obtain ⟨S_24, G_24⟩ := u
  obtain ⟨hP, -, hD1⟩ := hB
  rw [ht] at hP
  have hw := id hw
  have hP : va_P (dC, dI) vwCl (mW cI cJ cZ o ad S_24 G_24) H1 := hP
  have hD : va_D A (mW cI cJ cZ o ad S_24 G_24) := mGain hD1 hFc
  generalize H1 = H at hP hS ⊢
  refine lv_if_ne (tgt := 32) hx hb dX9_about_27 (by decide) (fun c_27 => ?_) (fun c_27 => ?_)
  · have hw := hw.1 c_27
    refine lv_iload_n hx hb dX9_about_32 rfl (lv_at hl 2 rfl) ?_
    by_cases c_33_0 : a2 = 0
    · have hw := hw.1 c_33_0
      refine lv_tableIn (off := 31) (tgt := 64) hx hb dX9_about_33 (by rw [c_33_0]; decide) (by rw [c_33_0]; decide) (by rw [c_33_0]; decide) (by decide) ?_
      refine lv_aload_n hx hb dX9_about_64 rfl (lv_at hl 0 rfl) ?_
      refine va_get (D := (dC, dI)) (ci := 10) (v := .ref (ad 11)) (C := RX9) (T := TX9) (N := 38) hx hb hts iw_X9_about hown hK hP 0 rfl rfl 11 (by decide) (hts _ lk_X9_about_28) (fun _ h9 => h9) rfl dX9_about_65 ?_
      refine lv_iload_n hx hb dX9_about_68 rfl (lv_at hl 1 rfl) ?_
      refine va_iald hx hb hK hP 7 0 rfl rfl hw.1 dX9_about_69 ?_
      have hw := hw.2
      exact W.iret (v := (S_24 11 (Int32.toNatClampNeg a1))) hx hb hr (fun t ht hW => ⟨⟨(S_24 11 (Int32.toNatClampNeg a1)), (S_24, G_24), rfl, hw, by rw [ht]; exact hP, va_K.moved hW.alike hK, hD⟩, hS.F ht⟩) hS.2.2 dX9_about_70
    by_cases c_33_1 : a2 = 1
    · have hw := hw.2.1 c_33_1
      refine lv_tableIn (off := 38) (tgt := 71) hx hb dX9_about_33 (by rw [c_33_1]; decide) (by rw [c_33_1]; decide) (by rw [c_33_1]; decide) (by decide) ?_
      refine lv_aload_n hx hb dX9_about_71 rfl (lv_at hl 0 rfl) ?_
      refine va_get (D := (dC, dI)) (ci := 10) (v := .ref (ad 12)) (C := RX9) (T := TX9) (N := 38) hx hb hts iw_X9_about hown hK hP 0 rfl rfl 12 (by decide) (hts _ lk_X9_about_31) (fun _ h9 => h9) rfl dX9_about_72 ?_
      refine lv_iload_n hx hb dX9_about_75 rfl (lv_at hl 1 rfl) ?_
      refine va_iald hx hb hK hP 8 0 rfl rfl hw.1 dX9_about_76 ?_
      have hw := hw.2
      exact W.iret (v := (S_24 12 (Int32.toNatClampNeg a1))) hx hb hr (fun t ht hW => ⟨⟨(S_24 12 (Int32.toNatClampNeg a1)), (S_24, G_24), rfl, hw, by rw [ht]; exact hP, va_K.moved hW.alike hK, hD⟩, hS.F ht⟩) hS.2.2 dX9_about_77
    by_cases c_33_2 : a2 = 2
    · have hw := hw.2.2.1 c_33_2
      refine lv_tableIn (off := 45) (tgt := 78) hx hb dX9_about_33 (by rw [c_33_2]; decide) (by rw [c_33_2]; decide) (by rw [c_33_2]; decide) (by decide) ?_
      refine lv_aload_n hx hb dX9_about_78 rfl (lv_at hl 0 rfl) ?_
      refine va_get (D := (dC, dI)) (ci := 10) (v := .ref (ad 13)) (C := RX9) (T := TX9) (N := 38) hx hb hts iw_X9_about hown hK hP 0 rfl rfl 13 (by decide) (hts _ lk_X9_about_34) (fun _ h9 => h9) rfl dX9_about_79 ?_
      refine lv_iload_n hx hb dX9_about_82 rfl (lv_at hl 1 rfl) ?_
      refine va_iald hx hb hK hP 9 0 rfl rfl hw.1 dX9_about_83 ?_
      have hw := hw.2
      exact W.iret (v := (S_24 13 (Int32.toNatClampNeg a1))) hx hb hr (fun t ht hW => ⟨⟨(S_24 13 (Int32.toNatClampNeg a1)), (S_24, G_24), rfl, hw, by rw [ht]; exact hP, va_K.moved hW.alike hK, hD⟩, hS.F ht⟩) hS.2.2 dX9_about_84
    by_cases c_33_3 : a2 = 3
    · have hw := hw.2.2.2.1 c_33_3
      refine lv_tableIn (off := 52) (tgt := 85) hx hb dX9_about_33 (by rw [c_33_3]; decide) (by rw [c_33_3]; decide) (by rw [c_33_3]; decide) (by decide) ?_
      refine lv_aload_n hx hb dX9_about_85 rfl (lv_at hl 0 rfl) ?_
      refine va_get (D := (dC, dI)) (ci := 10) (v := .ref (ad 10)) (C := RX9) (T := TX9) (N := 38) hx hb hts iw_X9_about hown hK hP 0 rfl rfl 10 (by decide) (hts _ lk_X9_about_25) (fun _ h9 => h9) rfl dX9_about_86 ?_
      refine lv_iload_n hx hb dX9_about_89 rfl (lv_at hl 1 rfl) ?_
      refine va_iald hx hb hK hP 6 0 rfl rfl hw.1 dX9_about_90 ?_
      have hw := hw.2
      exact W.iret (v := (S_24 10 (Int32.toNatClampNeg a1))) hx hb hr (fun t ht hW => ⟨⟨(S_24 10 (Int32.toNatClampNeg a1)), (S_24, G_24), rfl, hw, by rw [ht]; exact hP, va_K.moved hW.alike hK, hD⟩, hS.F ht⟩) hS.2.2 dX9_about_91
    have hw := hw.2.2.2.2 c_33_0 c_33_1 c_33_2 c_33_3
    refine lv_tableOut (tgt := 92) hx hb dX9_about_33 (sw_out4 c_33_0 c_33_1 c_33_2 c_33_3) (by decide) ?_
    refine lv_aload_n hx hb dX9_about_92 rfl (lv_at hl 0 rfl) ?_
    refine va_get (D := (dC, dI)) (ci := 10) (v := .ref (ad 9)) (C := RX9) (T := TX9) (N := 38) hx hb hts iw_X9_about hown hK hP 0 rfl rfl 9 (by decide) (hts _ lk_X9_about_22) (fun _ h9 => h9) rfl dX9_about_93 ?_
    refine lv_iconst (v := 3) hx hb dX9_about_96 (by decide) ?_
    refine lv_iload_n hx hb dX9_about_97 rfl (lv_at hl 1 rfl) ?_
    refine lv_imul hx hb dX9_about_98 ?_
    refine va_iald hx hb hK hP 5 0 rfl rfl hw.1 dX9_about_99 ?_
    have hw := hw.2
    refine lv_aload_n hx hb dX9_about_100 rfl (lv_at hl 0 rfl) ?_
    refine va_get (D := (dC, dI)) (ci := 10) (v := .ref (ad 9)) (C := RX9) (T := TX9) (N := 38) hx hb hts iw_X9_about hown hK hP 0 rfl rfl 9 (by decide) (hts _ lk_X9_about_22) (fun _ h9 => h9) rfl dX9_about_101 ?_
    refine lv_iconst (v := 3) hx hb dX9_about_104 (by decide) ?_
    refine lv_iload_n hx hb dX9_about_105 rfl (lv_at hl 1 rfl) ?_
    refine lv_imul hx hb dX9_about_106 ?_
    refine lv_iconst (v := 1) hx hb dX9_about_107 (by decide) ?_
    refine lv_iadd hx hb dX9_about_108 ?_
    refine va_iald hx hb hK hP 5 0 rfl rfl hw.1 dX9_about_109 ?_
    have hw := hw.2
    refine lv_iadd hx hb dX9_about_110 ?_
    refine lv_aload_n hx hb dX9_about_111 rfl (lv_at hl 0 rfl) ?_
    refine va_get (D := (dC, dI)) (ci := 10) (v := .ref (ad 9)) (C := RX9) (T := TX9) (N := 38) hx hb hts iw_X9_about hown hK hP 0 rfl rfl 9 (by decide) (hts _ lk_X9_about_22) (fun _ h9 => h9) rfl dX9_about_112 ?_
    refine lv_iconst (v := 3) hx hb dX9_about_115 (by decide) ?_
    refine lv_iload_n hx hb dX9_about_116 rfl (lv_at hl 1 rfl) ?_
    refine lv_imul hx hb dX9_about_117 ?_
    refine lv_iconst (v := 2) hx hb dX9_about_118 (by decide) ?_
    refine lv_iadd hx hb dX9_about_119 ?_
    refine va_iald hx hb hK hP 5 0 rfl rfl hw.1 dX9_about_120 ?_
    have hw := hw.2
    refine lv_iadd hx hb dX9_about_121 ?_
    exact W.iret (v := (((S_24 9 (Int32.toNatClampNeg ((3 : Int32) * a1))) + (S_24 9 (Int32.toNatClampNeg (((3 : Int32) * a1) + (1 : Int32))))) + (S_24 9 (Int32.toNatClampNeg (((3 : Int32) * a1) + (2 : Int32)))))) hx hb hr (fun t ht hW => ⟨⟨(((S_24 9 (Int32.toNatClampNeg ((3 : Int32) * a1))) + (S_24 9 (Int32.toNatClampNeg (((3 : Int32) * a1) + (1 : Int32))))) + (S_24 9 (Int32.toNatClampNeg (((3 : Int32) * a1) + (2 : Int32))))), (S_24, G_24), rfl, hw, by rw [ht]; exact hP, va_K.moved hW.alike hK, hD⟩, hS.F ht⟩) hS.2.2 dX9_about_122
  · have hw := hw.2 c_27
    refine lv_iconst (v := 0) hx hb dX9_about_30 (by decide) ?_
    exact W.iret (v := (0 : Int32)) hx hb hr (fun t ht hW => ⟨⟨(0 : Int32), (S_24, G_24), rfl, hw, by rw [ht]; exact hP, va_K.moved hW.alike hK, hD⟩, hS.F ht⟩) hS.2.2 dX9_about_31
set_option maxHeartbeats 4000000 in
set_option maxRecDepth 100000 in
theorem tb_X9_about_22 {p : Program} {l : Launch} {e : Env} {s : State} {m : MethodId} {below : List Frame} {meth : Method} {c : Code} {args : Array Value} {dC : Nat → ClassId} {dI : Nat → Nat → Nat} {cI cJ cZ : ClassId} {o : Nat} {ad : Nat → Nat} {A : Nat → Prop} {Q : Int32 → mS → mG → Prop} (C : mCx p s m args meth c cX9_about 3 (some .int) wsX9_about A dC dI cI cJ cZ) : ∀ (S : mS) (G : mG) (a1 : Int32) (a2 : Int32), wp_X9_about_22 Q  S G a1 a2 → mAt p l e rm_X9_about s m args below meth c dC dI cI cJ cZ o ad A (MQ below (va_Qi (fun r (u : mS × mG) => Q r u.1 u.2) (mB dC dI cI cJ cZ o ad A) A) args s 0 0 A) 22 3 [(0, .ref o), (1, .int a1), (2, .int a2)] [.ref o] S G := by
  obtain ⟨hx, hb, hml, hown, hts, hr, hlocks, hA, hK⟩ := id C
  intro S G a1 a2 hw H locs hP hD hS ls hl
  rw [wp_X9_about_22] at hw
  refine lv_iconst (v := 0) hx hb dX9_about_22 (by decide) ?_
  exact tb_X9_about_23 C  S G a1 a2 (0 : Int32) hw H locs hP hD hS ls (lv_sub hl [0, 1, 2] rfl)
set_option maxHeartbeats 4000000 in
set_option maxRecDepth 100000 in
theorem tb_X9_about_0 {p : Program} {l : Launch} {e : Env} {s : State} {m : MethodId} {below : List Frame} {meth : Method} {c : Code} {args : Array Value} {dC : Nat → ClassId} {dI : Nat → Nat → Nat} {cI cJ cZ : ClassId} {o : Nat} {ad : Nat → Nat} {A : Nat → Prop} {Q : Int32 → mS → mG → Prop} (C : mCx p s m args meth c cX9_about 3 (some .int) wsX9_about A dC dI cI cJ cZ) : ∀ (S : mS) (G : mG) (a1 : Int32) (a2 : Int32), wp_X9_about_0 Q  S G a1 a2 → mAt p l e rm_X9_about s m args below meth c dC dI cI cJ cZ o ad A (MQ below (va_Qi (fun r (u : mS × mG) => Q r u.1 u.2) (mB dC dI cI cJ cZ o ad A) A) args s 0 0 A) 0 3 [(0, .ref o), (1, .int a1), (2, .int a2)] [] S G := by
  obtain ⟨hx, hb, hml, hown, hts, hr, hlocks, hA, hK⟩ := id C
  intro S G a1 a2 hw H locs hP hD hS ls hl
  rw [wp_X9_about_0] at hw
  refine lv_aload_n hx hb dX9_about_0 rfl (lv_at hl 0 rfl) ?_
  refine lv_iload_n hx hb dX9_about_1 rfl (lv_at hl 1 rfl) ?_
  have hFc := mFree hD hS hA
  refine va_calli (va_runV (As := [.int a1]) (rest := []) ⟨hx, hb, hml, hown, hts⟩ (c_X9_isTerm l dC dI cI cJ cZ o ad S G H.size a1 _ hw) (cwV 1 hts gX9_about_X9_isTerm rfl rfl rfl (by decide +kernel) ⟨Nat.le_of_ble_eq_true rfl, Nat.le_of_ble_eq_true rfl⟩) (mPreV [.int a1] hK hP hD) rfl rfl hl.1 rfl (lv_room (Nat.le_of_ble_eq_true rfl)) dX9_about_2 ⟨Nat.zero_le _, Nat.zero_le _⟩) hS (fun q _ h => hFc q h) hFc (fun r_2 u t H1 locs ht hvm hw hB hz1 hk1 hS => ?_)
  obtain ⟨S_2, G_2⟩ := u
  obtain ⟨hP, -, hD1⟩ := hB
  rw [ht] at hP
  have hw := id hw
  have hP : va_P (dC, dI) vwCl (mW cI cJ cZ o ad S_2 G_2) H1 := hP
  have hD : va_D A (mW cI cJ cZ o ad S_2 G_2) := mGain hD1 hFc
  generalize H1 = H at hP hS ⊢
  refine lv_if_eq (tgt := 30) hx hb dX9_about_5 (by decide) (fun c_5 => ?_) (fun c_5 => ?_)
  · have hw := hw.1 c_5
    refine lv_iconst (v := 0) hx hb dX9_about_30 (by decide) ?_
    exact W.iret (v := (0 : Int32)) hx hb hr (fun t ht hW => ⟨⟨(0 : Int32), (S_2, G_2), rfl, hw, by rw [ht]; exact hP, va_K.moved hW.alike hK, hD⟩, hS.F ht⟩) hS.2.2 dX9_about_31
  · have hw := hw.2 c_5
    refine lv_aload_n hx hb dX9_about_8 rfl (lv_at hl 0 rfl) ?_
    refine lv_iload_n hx hb dX9_about_9 rfl (lv_at hl 2 rfl) ?_
    refine lv_if_lt (tgt := 22) hx hb dX9_about_10 (by decide) (fun c_10 => ?_) (fun c_10 => ?_)
    · have hw := hw.1 c_10
      exact tb_X9_about_22 C  S_2 G_2 a1 a2 hw H locs hP hD hS ls (lv_sub hl [0, 1, 2] rfl)
    · have hw := hw.2 c_10
      refine lv_iload_n hx hb dX9_about_13 rfl (lv_at hl 2 rfl) ?_
      refine lv_iconst (v := 4) hx hb dX9_about_14 (by decide) ?_
      refine lv_icmp_gt (tgt := 22) hx hb dX9_about_15 (by decide) (fun c_15 => ?_) (fun c_15 => ?_)
      · have hw := hw.1 c_15
        exact tb_X9_about_22 C  S_2 G_2 a1 a2 hw H locs hP hD hS ls (lv_sub hl [0, 1, 2] rfl)
      · have hw := hw.2 c_15
        refine lv_iconst (v := 1) hx hb dX9_about_18 (by decide) ?_
        refine lv_goto (tgt := 23) hx hb dX9_about_19 (by decide) ?_
        exact tb_X9_about_23 C  S_2 G_2 a1 a2 (1 : Int32) hw H locs hP hD hS ls (lv_sub hl [0, 1, 2] rfl)
set_option maxHeartbeats 4000000 in
set_option maxRecDepth 100000 in
theorem c_X9_about (l : Launch) (dC : Nat → ClassId) (dI : Nat → Nat → Nat) (cI cJ cZ : ClassId) (o : Nat) (ad : Nat → Nat) (S : mS) (G : mG) (sz : Nat) (a1 : Int32) (a2 : Int32) (Q : Int32 → mS → mG → Prop) (hw : wp_X9_about_0 Q S G a1 a2) : Met l yX9_about wsX9_about rm_X9_about (va_Pc [.ref o, .int a1, .int a2] (mPre dC dI cI cJ cZ o ad S G sz)) (va_Qi (fun r (u : mS × mG) => Q r u.1 u.2) (mB dC dI cI cJ cZ o ad (mA cI cJ cZ o ad S G sz)) (mA cI cJ cZ o ad S G sz)) 0 0 (mA cI cJ cZ o ad S G sz) := by
  refine Met.ofW (cc := cX9_about) (maxL := 3) (ret := (some .int)) (by decide) rfl ?_
  intro p e s m args below meth c s₁ B hml hv
  obtain ⟨rfl, hsz, hP, hK, hD0⟩ := hv
  subst hsz
  have hl := lv_entry ([.ref o, .int a1, .int a2]) (n := 3) (Nat.le_of_ble_eq_true rfl)
  rw [lg_entry_eq]
  generalize (lg_sl ([.ref o, .int a1, .int a2]) ++ List.replicate (3 - (lg_sl ([.ref o, .int a1, .int a2])).length) Slot.unset).toArray = ls at hl ⊢
  exact tb_X9_about_0 (Q := Q) (p := p) ⟨B.exec, B.bytes, hml, findClass_of_methodNamed B.named, atoms_spec (ws := wsX9_about) B.pre, B.returns, B.notSynchronized, fun q h => Or.inr h, hK⟩ S G a1 a2 hw s.heap [] hP (hD0.self (sz := s.heap.size)) va_S.rf ls hl
theorem iw_X9_isText : ∀ w ∈ u_ws RX9 TX9 38, w ∈ wsX9_isText := fun w h => List.mem_cons_of_mem _ (by first | exact List.mem_append_right _ h | decide +kernel +revert)
theorem lk_X9_isText_105 : Cond.fieldLink RX9 105 "TermKeeperModel" "thrown" "I" ∈ wsX9_isText := by decide +kernel
abbrev rm_X9_isText : Room := { frames := 1, cells := 0, slots := 0, locals := 22 }
def wp_X9_isText_21 (Q : Int32 → mS → mG → Prop) (S : mS) (G : mG) (k0 : Int32) : Prop :=
    (wp_X9_right_0 (fun r_22 S_22 G_22 =>
      (narrow .boolean (.int r_22) = .int r_22 ∧ (Q r_22 S_22 G_22))) S G k0 (1 : Int32))
def wp_X9_isText_20 (Q : Int32 → mS → mG → Prop) (S : mS) (G : mG) : Prop :=
    (wp_X9_isText_21 Q  S G (0 : Int32))
def wp_X9_isText_0 (Q : Int32 → mS → mG → Prop) (S : mS) (G : mG) (a1 : Int32) : Prop :=
    (∀ S_2 : mS, S_2 = mst S 0 0 (0 : Int32) →
      ((a1 < 0 →
        (wp_X9_isText_20 Q  S_2 G ))
       ∧ (¬ a1 < 0 →
        (((8 : Int32) ≤ a1 →
          (wp_X9_isText_20 Q  S_2 G ))
         ∧ (¬ (8 : Int32) ≤ a1 →
          (wp_X9_isText_21 Q  S_2 G (1 : Int32)))))))
set_option maxHeartbeats 4000000 in
set_option maxRecDepth 100000 in
theorem tb_X9_isText_21 {p : Program} {l : Launch} {e : Env} {s : State} {m : MethodId} {below : List Frame} {meth : Method} {c : Code} {args : Array Value} {dC : Nat → ClassId} {dI : Nat → Nat → Nat} {cI cJ cZ : ClassId} {o : Nat} {ad : Nat → Nat} {A : Nat → Prop} {Q : Int32 → mS → mG → Prop} (C : mCx p s m args meth c cX9_isText 2 (some .boolean) wsX9_isText A dC dI cI cJ cZ) : ∀ (S : mS) (G : mG) (k0 : Int32), wp_X9_isText_21 Q  S G k0 → mAt p l e rm_X9_isText s m args below meth c dC dI cI cJ cZ o ad A (MQ below (va_Qi (fun r (u : mS × mG) => Q r u.1 u.2) (mB dC dI cI cJ cZ o ad A) A) args s 0 0 A) 21 2 [(0, .ref o)] [.int k0, .ref o] S G := by
  obtain ⟨hx, hb, hml, hown, hts, hr, hlocks, hA, hK⟩ := id C
  intro S G k0 hw H locs hP hD hS ls hl
  rw [wp_X9_isText_21] at hw
  refine lv_iconst (v := 1) hx hb dX9_isText_21 (by decide) ?_
  have hFc := mFree hD hS hA
  refine va_calli (va_runV (As := [.int k0, .int (1 : Int32)]) (rest := []) ⟨hx, hb, hml, hown, hts⟩ (c_X9_right l dC dI cI cJ cZ o ad S G H.size k0 (1 : Int32) _ hw) (cwV 2 hts gX9_isText_X9_right rfl rfl rfl (by decide +kernel) ⟨Nat.le_of_ble_eq_true rfl, Nat.le_of_ble_eq_true rfl⟩) (mPreV [.int k0, .int (1 : Int32)] hK hP hD) rfl rfl hl.1 rfl (lv_room (Nat.le_of_ble_eq_true rfl)) dX9_isText_22 ⟨Nat.zero_le _, Nat.zero_le _⟩) hS (fun q _ h => hFc q h) hFc (fun r_22 u t H1 locs ht hvm hw hB hz1 hk1 hS => ?_)
  obtain ⟨S_22, G_22⟩ := u
  obtain ⟨hP, -, hD1⟩ := hB
  rw [ht] at hP
  have hw := id hw
  have hP : va_P (dC, dI) vwCl (mW cI cJ cZ o ad S_22 G_22) H1 := hP
  have hD : va_D A (mW cI cJ cZ o ad S_22 G_22) := mGain hD1 hFc
  generalize H1 = H at hP hS ⊢
  exact W.zret (v := r_22) hx hb hr hw.1 (fun t ht hW => ⟨⟨r_22, (S_22, G_22), rfl, hw.2, by rw [ht]; exact hP, va_K.moved hW.alike hK, hD⟩, hS.F ht⟩) hS.2.2 dX9_isText_25
set_option maxHeartbeats 4000000 in
set_option maxRecDepth 100000 in
theorem tb_X9_isText_20 {p : Program} {l : Launch} {e : Env} {s : State} {m : MethodId} {below : List Frame} {meth : Method} {c : Code} {args : Array Value} {dC : Nat → ClassId} {dI : Nat → Nat → Nat} {cI cJ cZ : ClassId} {o : Nat} {ad : Nat → Nat} {A : Nat → Prop} {Q : Int32 → mS → mG → Prop} (C : mCx p s m args meth c cX9_isText 2 (some .boolean) wsX9_isText A dC dI cI cJ cZ) : ∀ (S : mS) (G : mG) , wp_X9_isText_20 Q  S G  → mAt p l e rm_X9_isText s m args below meth c dC dI cI cJ cZ o ad A (MQ below (va_Qi (fun r (u : mS × mG) => Q r u.1 u.2) (mB dC dI cI cJ cZ o ad A) A) args s 0 0 A) 20 2 [(0, .ref o)] [.ref o] S G := by
  obtain ⟨hx, hb, hml, hown, hts, hr, hlocks, hA, hK⟩ := id C
  intro S G  hw H locs hP hD hS ls hl
  rw [wp_X9_isText_20] at hw
  refine lv_iconst (v := 0) hx hb dX9_isText_20 (by decide) ?_
  exact tb_X9_isText_21 C  S G (0 : Int32) hw H locs hP hD hS ls (lv_sub hl [0] rfl)
set_option maxHeartbeats 4000000 in
set_option maxRecDepth 100000 in
theorem tb_X9_isText_0 {p : Program} {l : Launch} {e : Env} {s : State} {m : MethodId} {below : List Frame} {meth : Method} {c : Code} {args : Array Value} {dC : Nat → ClassId} {dI : Nat → Nat → Nat} {cI cJ cZ : ClassId} {o : Nat} {ad : Nat → Nat} {A : Nat → Prop} {Q : Int32 → mS → mG → Prop} (C : mCx p s m args meth c cX9_isText 2 (some .boolean) wsX9_isText A dC dI cI cJ cZ) : ∀ (S : mS) (G : mG) (a1 : Int32), wp_X9_isText_0 Q  S G a1 → mAt p l e rm_X9_isText s m args below meth c dC dI cI cJ cZ o ad A (MQ below (va_Qi (fun r (u : mS × mG) => Q r u.1 u.2) (mB dC dI cI cJ cZ o ad A) A) args s 0 0 A) 0 2 [(0, .ref o), (1, .int a1)] [] S G := by
  obtain ⟨hx, hb, hml, hown, hts, hr, hlocks, hA, hK⟩ := id C
  intro S G a1 hw H locs hP hD hS ls hl
  rw [wp_X9_isText_0] at hw
  refine lv_aload_n hx hb dX9_isText_0 rfl (lv_at hl 0 rfl) ?_
  refine lv_iconst (v := 0) hx hb dX9_isText_1 (by decide) ?_
  refine va_put (D := (dC, dI)) (ci := 10) (v := .int (0 : Int32)) (C := RX9) (T := TX9) (N := 38) hx hb hts iw_X9_isText tyX9 tyX9_ok nmX9 hown hK hP hD hS 0 rfl rfl 0 (by decide) (hts _ lk_X9_isText_105) (fun _ h9 => h9) rfl (tyX9_ok 0 (by decide)) rfl rfl (Nat.le_of_ble_eq_true rfl) dX9_isText_2 (fun H locs hP hD hS => ?_)
  obtain ⟨S_2, eS_2⟩ : ∃ y : mS, y = mst S 0 0 (0 : Int32) := ⟨_, rfl⟩
  have hw := hw S_2 eS_2
  have hP : va_P (dC, dI) vwCl (mW cI cJ cZ o ad S_2 G) H := by rw [eS_2]; exact hP
  have hD : va_D A (mW cI cJ cZ o ad S_2 G) := by rw [eS_2]; exact hD
  refine lv_aload_n hx hb dX9_isText_5 rfl (lv_at hl 0 rfl) ?_
  refine lv_iload_n hx hb dX9_isText_6 rfl (lv_at hl 1 rfl) ?_
  refine lv_if_lt (tgt := 20) hx hb dX9_isText_7 (by decide) (fun c_7 => ?_) (fun c_7 => ?_)
  · have hw := hw.1 c_7
    exact tb_X9_isText_20 C  S_2 G  hw H locs hP hD hS ls (lv_sub hl [0] rfl)
  · have hw := hw.2 c_7
    refine lv_iload_n hx hb dX9_isText_10 rfl (lv_at hl 1 rfl) ?_
    refine lv_bipush (v := 8) hx hb dX9_isText_11 (by decide) ?_
    refine lv_icmp_ge (tgt := 20) hx hb dX9_isText_13 (by decide) (fun c_13 => ?_) (fun c_13 => ?_)
    · have hw := hw.1 c_13
      exact tb_X9_isText_20 C  S_2 G  hw H locs hP hD hS ls (lv_sub hl [0] rfl)
    · have hw := hw.2 c_13
      refine lv_iconst (v := 1) hx hb dX9_isText_16 (by decide) ?_
      refine lv_goto (tgt := 21) hx hb dX9_isText_17 (by decide) ?_
      exact tb_X9_isText_21 C  S_2 G (1 : Int32) hw H locs hP hD hS ls (lv_sub hl [0] rfl)
set_option maxHeartbeats 4000000 in
set_option maxRecDepth 100000 in
theorem c_X9_isText (l : Launch) (dC : Nat → ClassId) (dI : Nat → Nat → Nat) (cI cJ cZ : ClassId) (o : Nat) (ad : Nat → Nat) (S : mS) (G : mG) (sz : Nat) (a1 : Int32) (Q : Int32 → mS → mG → Prop) (hw : wp_X9_isText_0 Q S G a1) : Met l yX9_isText wsX9_isText rm_X9_isText (va_Pc [.ref o, .int a1] (mPre dC dI cI cJ cZ o ad S G sz)) (va_Qi (fun r (u : mS × mG) => Q r u.1 u.2) (mB dC dI cI cJ cZ o ad (mA cI cJ cZ o ad S G sz)) (mA cI cJ cZ o ad S G sz)) 0 0 (mA cI cJ cZ o ad S G sz) := by
  refine Met.ofW (cc := cX9_isText) (maxL := 2) (ret := (some .boolean)) (by decide) rfl ?_
  intro p e s m args below meth c s₁ B hml hv
  obtain ⟨rfl, hsz, hP, hK, hD0⟩ := hv
  subst hsz
  have hl := lv_entry ([.ref o, .int a1]) (n := 2) (Nat.le_of_ble_eq_true rfl)
  rw [lg_entry_eq]
  generalize (lg_sl ([.ref o, .int a1]) ++ List.replicate (2 - (lg_sl ([.ref o, .int a1])).length) Slot.unset).toArray = ls at hl ⊢
  exact tb_X9_isText_0 (Q := Q) (p := p) ⟨B.exec, B.bytes, hml, findClass_of_methodNamed B.named, atoms_spec (ws := wsX9_isText) B.pre, B.returns, B.notSynchronized, fun q h => Or.inr h, hK⟩ S G a1 hw s.heap [] hP (hD0.self (sz := s.heap.size)) va_S.rf ls hl
