theorem iw_X9_mend : ∀ w ∈ u_ws RX9 TX9 38, w ∈ wsX9_mend := fun w h => List.mem_cons_of_mem _ (by first | exact List.mem_append_right _ h | decide +kernel +revert)
theorem lk_X9_mend_168 : Cond.fieldLink RX9 168 "TermKeeperModel" "uses" "I" ∈ wsX9_mend := by decide +kernel
abbrev rm_X9_mend : Room := { frames := 6, cells := 0, slots := 0, locals := 152 }
def wp_X9_mend_0 (Q : Int32 → mS → mG → Prop) (S : mS) (G : mG) (a1 : Int32) (a2 : Int32) : Prop :=
    (wp_X9_isText_0 (fun r_2 S_2 G_2 =>
      ((¬ r_2 = 0 →
        (wp_X9_reads_0 (fun S_12 G_12 =>
          ((a2 < 0 →
            (Q (0 : Int32) S_12 G_12))
           ∧ (¬ a2 < 0 →
            (((S_12 25 0) ≤ a2 →
              (Q (0 : Int32) S_12 G_12))
             ∧ (¬ (S_12 25 0) ≤ a2 →
              (wp_X9_mends_0 (fun r_30 S_30 G_30 =>
                ((r_30 = 0 →
                  (Q (0 : Int32) S_30 G_30))
                 ∧ (¬ r_30 = 0 →
                  (Q (1 : Int32) S_30 G_30)))) S_12 G_12 a1 a2)))))) S_2 G_2 a1))
       ∧ (r_2 = 0 →
        (Q (0 : Int32) S_2 G_2)))) S G a1)
set_option maxHeartbeats 4000000 in
set_option maxRecDepth 100000 in
theorem tb_X9_mend_0 {p : Program} {l : Launch} {e : Env} {s : State} {m : MethodId} {below : List Frame} {meth : Method} {c : Code} {args : Array Value} {dC : Nat → ClassId} {dI : Nat → Nat → Nat} {cI cJ cZ : ClassId} {o : Nat} {ad : Nat → Nat} {A : Nat → Prop} {Q : Int32 → mS → mG → Prop} (C : mCx p s m args meth c cX9_mend 3 (some .boolean) wsX9_mend A dC dI cI cJ cZ) : ∀ (S : mS) (G : mG) (a1 : Int32) (a2 : Int32), wp_X9_mend_0 Q  S G a1 a2 → mAt p l e rm_X9_mend s m args below meth c dC dI cI cJ cZ o ad A (MQ below (va_Qi (fun r (u : mS × mG) => Q r u.1 u.2) (mB dC dI cI cJ cZ o ad A) A) args s 0 0 A) 0 3 [(0, .ref o), (1, .int a1), (2, .int a2)] [] S G := by
  obtain ⟨hx, hb, hml, hown, hts, hr, hlocks, hA, hK⟩ := id C
  intro S G a1 a2 hw H locs hP hD hS ls hl
  rw [wp_X9_mend_0] at hw
  refine lv_aload_n hx hb dX9_mend_0 rfl (lv_at hl 0 rfl) ?_
  refine lv_iload_n hx hb dX9_mend_1 rfl (lv_at hl 1 rfl) ?_
  have hFc := mFree hD hS hA
  refine va_calli (va_runV (As := [.int a1]) (rest := []) ⟨hx, hb, hml, hown, hts⟩ (c_X9_isText l dC dI cI cJ cZ o ad S G H.size a1 _ hw) (cwV 1 hts gX9_mend_X9_isText rfl rfl rfl (by decide +kernel) ⟨Nat.le_of_ble_eq_true rfl, Nat.le_of_ble_eq_true rfl⟩) (mPreV [.int a1] hK hP hD) rfl rfl hl.1 rfl (lv_room (Nat.le_of_ble_eq_true rfl)) dX9_mend_2 ⟨Nat.zero_le _, Nat.zero_le _⟩) hS (fun q _ h => hFc q h) hFc (fun r_2 u t H1 locs ht hvm hw hB hz1 hk1 hS => ?_)
  obtain ⟨S_2, G_2⟩ := u
  obtain ⟨hP, -, hD1⟩ := hB
  rw [ht] at hP
  have hw := id hw
  have hP : va_P (dC, dI) vwCl (mW cI cJ cZ o ad S_2 G_2) H1 := hP
  have hD : va_D A (mW cI cJ cZ o ad S_2 G_2) := mGain hD1 hFc
  generalize H1 = H at hP hS ⊢
  refine lv_if_ne (tgt := 10) hx hb dX9_mend_5 (by decide) (fun c_5 => ?_) (fun c_5 => ?_)
  · have hw := hw.1 c_5
    refine lv_aload_n hx hb dX9_mend_10 rfl (lv_at hl 0 rfl) ?_
    refine lv_iload_n hx hb dX9_mend_11 rfl (lv_at hl 1 rfl) ?_
    have hFc := mFree hD hS hA
    refine va_callv (va_runV (As := [.int a1]) (rest := []) ⟨hx, hb, hml, hown, hts⟩ (c_X9_reads l dC dI cI cJ cZ o ad S_2 G_2 H.size a1 _ hw) (cwV 1 hts gX9_mend_X9_reads rfl rfl rfl (by decide +kernel) ⟨Nat.le_of_ble_eq_true rfl, Nat.le_of_ble_eq_true rfl⟩) (mPreV [.int a1] hK hP hD) rfl rfl hl.1 rfl (lv_room (Nat.le_of_ble_eq_true rfl)) dX9_mend_12 ⟨Nat.zero_le _, Nat.zero_le _⟩) hS (fun q _ h => hFc q h) hFc (fun u t H1 locs ht hvm hw hB hz1 hk1 hS => ?_)
    obtain ⟨S_12, G_12⟩ := u
    obtain ⟨hP, -, hD1⟩ := hB
    rw [ht] at hP
    have hw := id hw
    have hP : va_P (dC, dI) vwCl (mW cI cJ cZ o ad S_12 G_12) H1 := hP
    have hD : va_D A (mW cI cJ cZ o ad S_12 G_12) := mGain hD1 hFc
    generalize H1 = H at hP hS ⊢
    refine lv_iload_n hx hb dX9_mend_15 rfl (lv_at hl 2 rfl) ?_
    refine lv_if_lt (tgt := 40) hx hb dX9_mend_16 (by decide) (fun c_16 => ?_) (fun c_16 => ?_)
    · have hw := hw.1 c_16
      refine lv_iconst (v := 0) hx hb dX9_mend_40 (by decide) ?_
      exact W.zret (v := (0 : Int32)) hx hb hr rfl (fun t ht hW => ⟨⟨(0 : Int32), (S_12, G_12), rfl, hw, by rw [ht]; exact hP, va_K.moved hW.alike hK, hD⟩, hS.F ht⟩) hS.2.2 dX9_mend_41
    · have hw := hw.2 c_16
      refine lv_iload_n hx hb dX9_mend_19 rfl (lv_at hl 2 rfl) ?_
      refine lv_aload_n hx hb dX9_mend_20 rfl (lv_at hl 0 rfl) ?_
      refine va_get (D := (dC, dI)) (ci := 10) (v := .int (S_12 25 0)) (C := RX9) (T := TX9) (N := 38) hx hb hts iw_X9_mend hown hK hP 0 rfl rfl 25 (by decide) (hts _ lk_X9_mend_168) (fun _ h9 => h9) rfl dX9_mend_21 ?_
      refine lv_icmp_ge (tgt := 40) hx hb dX9_mend_24 (by decide) (fun c_24 => ?_) (fun c_24 => ?_)
      · have hw := hw.1 c_24
        refine lv_iconst (v := 0) hx hb dX9_mend_40 (by decide) ?_
        exact W.zret (v := (0 : Int32)) hx hb hr rfl (fun t ht hW => ⟨⟨(0 : Int32), (S_12, G_12), rfl, hw, by rw [ht]; exact hP, va_K.moved hW.alike hK, hD⟩, hS.F ht⟩) hS.2.2 dX9_mend_41
      · have hw := hw.2 c_24
        refine lv_aload_n hx hb dX9_mend_27 rfl (lv_at hl 0 rfl) ?_
        refine lv_iload_n hx hb dX9_mend_28 rfl (lv_at hl 1 rfl) ?_
        refine lv_iload_n hx hb dX9_mend_29 rfl (lv_at hl 2 rfl) ?_
        have hFc := mFree hD hS hA
        refine va_calli (va_runV (As := [.int a1, .int a2]) (rest := []) ⟨hx, hb, hml, hown, hts⟩ (c_X9_mends l dC dI cI cJ cZ o ad S_12 G_12 H.size a1 a2 _ hw) (cwV 2 hts gX9_mend_X9_mends rfl rfl rfl (by decide +kernel) ⟨Nat.le_of_ble_eq_true rfl, Nat.le_of_ble_eq_true rfl⟩) (mPreV [.int a1, .int a2] hK hP hD) rfl rfl hl.1 rfl (lv_room (Nat.le_of_ble_eq_true rfl)) dX9_mend_30 ⟨Nat.zero_le _, Nat.zero_le _⟩) hS (fun q _ h => hFc q h) hFc (fun r_30 u t H1 locs ht hvm hw hB hz1 hk1 hS => ?_)
        obtain ⟨S_30, G_30⟩ := u
        obtain ⟨hP, -, hD1⟩ := hB
        rw [ht] at hP
        have hw := id hw
        have hP : va_P (dC, dI) vwCl (mW cI cJ cZ o ad S_30 G_30) H1 := hP
        have hD : va_D A (mW cI cJ cZ o ad S_30 G_30) := mGain hD1 hFc
        generalize H1 = H at hP hS ⊢
        refine lv_if_eq (tgt := 40) hx hb dX9_mend_33 (by decide) (fun c_33 => ?_) (fun c_33 => ?_)
        · have hw := hw.1 c_33
          refine lv_iconst (v := 0) hx hb dX9_mend_40 (by decide) ?_
          exact W.zret (v := (0 : Int32)) hx hb hr rfl (fun t ht hW => ⟨⟨(0 : Int32), (S_30, G_30), rfl, hw, by rw [ht]; exact hP, va_K.moved hW.alike hK, hD⟩, hS.F ht⟩) hS.2.2 dX9_mend_41
        · have hw := hw.2 c_33
          refine lv_iconst (v := 1) hx hb dX9_mend_36 (by decide) ?_
          refine lv_goto (tgt := 41) hx hb dX9_mend_37 (by decide) ?_
          exact W.zret (v := (1 : Int32)) hx hb hr rfl (fun t ht hW => ⟨⟨(1 : Int32), (S_30, G_30), rfl, hw, by rw [ht]; exact hP, va_K.moved hW.alike hK, hD⟩, hS.F ht⟩) hS.2.2 dX9_mend_41
  · have hw := hw.2 c_5
    refine lv_iconst (v := 0) hx hb dX9_mend_8 (by decide) ?_
    exact W.zret (v := (0 : Int32)) hx hb hr rfl (fun t ht hW => ⟨⟨(0 : Int32), (S_2, G_2), rfl, hw, by rw [ht]; exact hP, va_K.moved hW.alike hK, hD⟩, hS.F ht⟩) hS.2.2 dX9_mend_9
set_option maxHeartbeats 4000000 in
set_option maxRecDepth 100000 in
theorem c_X9_mend (l : Launch) (dC : Nat → ClassId) (dI : Nat → Nat → Nat) (cI cJ cZ : ClassId) (o : Nat) (ad : Nat → Nat) (S : mS) (G : mG) (sz : Nat) (a1 : Int32) (a2 : Int32) (Q : Int32 → mS → mG → Prop) (hw : wp_X9_mend_0 Q S G a1 a2) : Met l yX9_mend wsX9_mend rm_X9_mend (va_Pc [.ref o, .int a1, .int a2] (mPre dC dI cI cJ cZ o ad S G sz)) (va_Qi (fun r (u : mS × mG) => Q r u.1 u.2) (mB dC dI cI cJ cZ o ad (mA cI cJ cZ o ad S G sz)) (mA cI cJ cZ o ad S G sz)) 0 0 (mA cI cJ cZ o ad S G sz) := by
  refine Met.ofW (cc := cX9_mend) (maxL := 3) (ret := (some .boolean)) (by decide) rfl ?_
  intro p e s m args below meth c s₁ B hml hv
  obtain ⟨rfl, hsz, hP, hK, hD0⟩ := hv
  subst hsz
  have hl := lv_entry ([.ref o, .int a1, .int a2]) (n := 3) (Nat.le_of_ble_eq_true rfl)
  rw [lg_entry_eq]
  generalize (lg_sl ([.ref o, .int a1, .int a2]) ++ List.replicate (3 - (lg_sl ([.ref o, .int a1, .int a2])).length) Slot.unset).toArray = ls at hl ⊢
  exact tb_X9_mend_0 (Q := Q) (p := p) ⟨B.exec, B.bytes, hml, findClass_of_methodNamed B.named, atoms_spec (ws := wsX9_mend) B.pre, B.returns, B.notSynchronized, fun q h => Or.inr h, hK⟩ S G a1 a2 hw s.heap [] hP (hD0.self (sz := s.heap.size)) va_S.rf ls hl
theorem iw_X9_mendsOne : ∀ w ∈ u_ws RX9 TX9 38, w ∈ wsX9_mendsOne := fun w h => List.mem_cons_of_mem _ (by first | exact List.mem_append_right _ h | decide +kernel +revert)
theorem lk_X9_mendsOne_168 : Cond.fieldLink RX9 168 "TermKeeperModel" "uses" "I" ∈ wsX9_mendsOne := by decide +kernel
abbrev rm_X9_mendsOne : Room := { frames := 6, cells := 0, slots := 0, locals := 152 }
def wp_X9_mendsOne_7 (Q : Int32 → mS → mG → Prop) : Nat → mS → mG → Int32 → Int32 → Prop
  | 0, _, _, _, _ => False
  | n + 1, S, G, a1, a2 =>
    (((S 25 0) ≤ a2 →
      (Q (0 : Int32) S G))
     ∧ (¬ (S 25 0) ≤ a2 →
      (wp_X9_mends_0 (fun r_18 S_18 G_18 =>
        ((r_18 = 0 →
          (∀ v2_26 : Int32, v2_26 = a2 + (1 : Int32) →
            ((wp_X9_mendsOne_7 Q  n) S_18 G_18 a1 v2_26)))
         ∧ (¬ r_18 = 0 →
          (Q (1 : Int32) S_18 G_18)))) S G a1 a2)))
def wp_X9_mendsOne_0 (Q : Int32 → mS → mG → Prop) (S : mS) (G : mG) (a1 : Int32) : Prop :=
    (wp_X9_reads_0 (fun S_2 G_2 =>
      (∃ n9 : Nat, wp_X9_mendsOne_7 Q  n9 S_2 G_2 a1 (0 : Int32))) S G a1)
set_option maxHeartbeats 4000000 in
set_option maxRecDepth 100000 in
theorem tb_X9_mendsOne_7 {p : Program} {l : Launch} {e : Env} {s : State} {m : MethodId} {below : List Frame} {meth : Method} {c : Code} {args : Array Value} {dC : Nat → ClassId} {dI : Nat → Nat → Nat} {cI cJ cZ : ClassId} {o : Nat} {ad : Nat → Nat} {A : Nat → Prop} {Q : Int32 → mS → mG → Prop} (C : mCx p s m args meth c cX9_mendsOne 3 (some .boolean) wsX9_mendsOne A dC dI cI cJ cZ) : ∀ (n : Nat) (S : mS) (G : mG) (a1 : Int32) (a2 : Int32), wp_X9_mendsOne_7 Q  n S G a1 a2 → mAt p l e rm_X9_mendsOne s m args below meth c dC dI cI cJ cZ o ad A (MQ below (va_Qi (fun r (u : mS × mG) => Q r u.1 u.2) (mB dC dI cI cJ cZ o ad A) A) args s 0 0 A) 7 3 [(0, .ref o), (1, .int a1), (2, .int a2)] [] S G := by
  obtain ⟨hx, hb, hml, hown, hts, hr, hlocks, hA, hK⟩ := id C
  intro n
  induction n with
  | zero => intro S G a1 a2 hw; exact hw.elim
  | succ n ih =>
    intro S G a1 a2 hw H locs hP hD hS ls hl
    rw [wp_X9_mendsOne_7] at hw
    refine lv_iload_n hx hb dX9_mendsOne_7 rfl (lv_at hl 2 rfl) ?_
    refine lv_aload_n hx hb dX9_mendsOne_8 rfl (lv_at hl 0 rfl) ?_
    refine va_get (D := (dC, dI)) (ci := 10) (v := .int (S 25 0)) (C := RX9) (T := TX9) (N := 38) hx hb hts iw_X9_mendsOne hown hK hP 0 rfl rfl 25 (by decide) (hts _ lk_X9_mendsOne_168) (fun _ h9 => h9) rfl dX9_mendsOne_9 ?_
    refine lv_icmp_ge (tgt := 32) hx hb dX9_mendsOne_12 (by decide) (fun c_12 => ?_) (fun c_12 => ?_)
    · have hw := hw.1 c_12
      refine lv_iconst (v := 0) hx hb dX9_mendsOne_32 (by decide) ?_
      exact W.zret (v := (0 : Int32)) hx hb hr rfl (fun t ht hW => ⟨⟨(0 : Int32), (S, G), rfl, hw, by rw [ht]; exact hP, va_K.moved hW.alike hK, hD⟩, hS.F ht⟩) hS.2.2 dX9_mendsOne_33
    · have hw := hw.2 c_12
      refine lv_aload_n hx hb dX9_mendsOne_15 rfl (lv_at hl 0 rfl) ?_
      refine lv_iload_n hx hb dX9_mendsOne_16 rfl (lv_at hl 1 rfl) ?_
      refine lv_iload_n hx hb dX9_mendsOne_17 rfl (lv_at hl 2 rfl) ?_
      have hFc := mFree hD hS hA
      refine va_calli (va_runV (As := [.int a1, .int a2]) (rest := []) ⟨hx, hb, hml, hown, hts⟩ (c_X9_mends l dC dI cI cJ cZ o ad S G H.size a1 a2 _ hw) (cwV 2 hts gX9_mendsOne_X9_mends rfl rfl rfl (by decide +kernel) ⟨Nat.le_of_ble_eq_true rfl, Nat.le_of_ble_eq_true rfl⟩) (mPreV [.int a1, .int a2] hK hP hD) rfl rfl hl.1 rfl (lv_room (Nat.le_of_ble_eq_true rfl)) dX9_mendsOne_18 ⟨Nat.zero_le _, Nat.zero_le _⟩) hS (fun q _ h => hFc q h) hFc (fun r_18 u t H1 locs ht hvm hw hB hz1 hk1 hS => ?_)
      obtain ⟨S_18, G_18⟩ := u
      obtain ⟨hP, -, hD1⟩ := hB
      rw [ht] at hP
      have hw := id hw
      have hP : va_P (dC, dI) vwCl (mW cI cJ cZ o ad S_18 G_18) H1 := hP
      have hD : va_D A (mW cI cJ cZ o ad S_18 G_18) := mGain hD1 hFc
      generalize H1 = H at hP hS ⊢
      refine lv_if_eq (tgt := 26) hx hb dX9_mendsOne_21 (by decide) (fun c_21 => ?_) (fun c_21 => ?_)
      · have hw := hw.1 c_21
        obtain ⟨v2_26, ev2_26⟩ : ∃ y : Int32, y = a2 + (1 : Int32) := ⟨_, rfl⟩
        have hw := hw v2_26 ev2_26
        refine lv_iinc (v := v2_26) (lv' := [(2, .int v2_26), (0, .ref o), (1, .int a1)]) hx hb dX9_mendsOne_26 hl (k := 2) rfl (by rw [ev2_26]; rfl) (by decide) rfl (fun ls hl => ?_)
        refine lv_goto (tgt := 7) hx hb dX9_mendsOne_29 (by decide) ?_
        exact ih S_18 G_18 a1 v2_26 hw H locs hP hD hS ls (lv_sub hl [1, 2, 0] rfl)
      · have hw := hw.2 c_21
        refine lv_iconst (v := 1) hx hb dX9_mendsOne_24 (by decide) ?_
        exact W.zret (v := (1 : Int32)) hx hb hr rfl (fun t ht hW => ⟨⟨(1 : Int32), (S_18, G_18), rfl, hw, by rw [ht]; exact hP, va_K.moved hW.alike hK, hD⟩, hS.F ht⟩) hS.2.2 dX9_mendsOne_25
set_option maxHeartbeats 4000000 in
set_option maxRecDepth 100000 in
theorem tb_X9_mendsOne_0 {p : Program} {l : Launch} {e : Env} {s : State} {m : MethodId} {below : List Frame} {meth : Method} {c : Code} {args : Array Value} {dC : Nat → ClassId} {dI : Nat → Nat → Nat} {cI cJ cZ : ClassId} {o : Nat} {ad : Nat → Nat} {A : Nat → Prop} {Q : Int32 → mS → mG → Prop} (C : mCx p s m args meth c cX9_mendsOne 3 (some .boolean) wsX9_mendsOne A dC dI cI cJ cZ) : ∀ (S : mS) (G : mG) (a1 : Int32), wp_X9_mendsOne_0 Q  S G a1 → mAt p l e rm_X9_mendsOne s m args below meth c dC dI cI cJ cZ o ad A (MQ below (va_Qi (fun r (u : mS × mG) => Q r u.1 u.2) (mB dC dI cI cJ cZ o ad A) A) args s 0 0 A) 0 3 [(0, .ref o), (1, .int a1)] [] S G := by
  obtain ⟨hx, hb, hml, hown, hts, hr, hlocks, hA, hK⟩ := id C
  intro S G a1 hw H locs hP hD hS ls hl
  rw [wp_X9_mendsOne_0] at hw
  refine lv_aload_n hx hb dX9_mendsOne_0 rfl (lv_at hl 0 rfl) ?_
  refine lv_iload_n hx hb dX9_mendsOne_1 rfl (lv_at hl 1 rfl) ?_
  have hFc := mFree hD hS hA
  refine va_callv (va_runV (As := [.int a1]) (rest := []) ⟨hx, hb, hml, hown, hts⟩ (c_X9_reads l dC dI cI cJ cZ o ad S G H.size a1 _ hw) (cwV 1 hts gX9_mendsOne_X9_reads rfl rfl rfl (by decide +kernel) ⟨Nat.le_of_ble_eq_true rfl, Nat.le_of_ble_eq_true rfl⟩) (mPreV [.int a1] hK hP hD) rfl rfl hl.1 rfl (lv_room (Nat.le_of_ble_eq_true rfl)) dX9_mendsOne_2 ⟨Nat.zero_le _, Nat.zero_le _⟩) hS (fun q _ h => hFc q h) hFc (fun u t H1 locs ht hvm hw hB hz1 hk1 hS => ?_)
  obtain ⟨S_2, G_2⟩ := u
  obtain ⟨hP, -, hD1⟩ := hB
  rw [ht] at hP
  have hw := id hw
  have hP : va_P (dC, dI) vwCl (mW cI cJ cZ o ad S_2 G_2) H1 := hP
  have hD : va_D A (mW cI cJ cZ o ad S_2 G_2) := mGain hD1 hFc
  generalize H1 = H at hP hS ⊢
  refine lv_iconst (v := 0) hx hb dX9_mendsOne_5 (by decide) ?_
  refine lv_istore_n (lv' := [(2, .int (0 : Int32)), (0, .ref o), (1, .int a1)]) hx hb dX9_mendsOne_6 rfl hl (by decide) rfl (fun ls hl => ?_)
  obtain ⟨n9, hw⟩ := hw
  exact tb_X9_mendsOne_7 C  n9 S_2 G_2 a1 (0 : Int32) hw H locs hP hD hS ls (lv_sub hl [1, 2, 0] rfl)
set_option maxHeartbeats 4000000 in
set_option maxRecDepth 100000 in
theorem c_X9_mendsOne (l : Launch) (dC : Nat → ClassId) (dI : Nat → Nat → Nat) (cI cJ cZ : ClassId) (o : Nat) (ad : Nat → Nat) (S : mS) (G : mG) (sz : Nat) (a1 : Int32) (Q : Int32 → mS → mG → Prop) (hw : wp_X9_mendsOne_0 Q S G a1) : Met l yX9_mendsOne wsX9_mendsOne rm_X9_mendsOne (va_Pc [.ref o, .int a1] (mPre dC dI cI cJ cZ o ad S G sz)) (va_Qi (fun r (u : mS × mG) => Q r u.1 u.2) (mB dC dI cI cJ cZ o ad (mA cI cJ cZ o ad S G sz)) (mA cI cJ cZ o ad S G sz)) 0 0 (mA cI cJ cZ o ad S G sz) := by
  refine Met.ofW (cc := cX9_mendsOne) (maxL := 3) (ret := (some .boolean)) (by decide) rfl ?_
  intro p e s m args below meth c s₁ B hml hv
  obtain ⟨rfl, hsz, hP, hK, hD0⟩ := hv
  subst hsz
  have hl := lv_entry ([.ref o, .int a1]) (n := 3) (Nat.le_of_ble_eq_true rfl)
  rw [lg_entry_eq]
  generalize (lg_sl ([.ref o, .int a1]) ++ List.replicate (3 - (lg_sl ([.ref o, .int a1])).length) Slot.unset).toArray = ls at hl ⊢
  exact tb_X9_mendsOne_0 (Q := Q) (p := p) ⟨B.exec, B.bytes, hml, findClass_of_methodNamed B.named, atoms_spec (ws := wsX9_mendsOne) B.pre, B.returns, B.notSynchronized, fun q h => Or.inr h, hK⟩ S G a1 hw s.heap [] hP (hD0.self (sz := s.heap.size)) va_S.rf ls hl
theorem iw_X9_mendAll : ∀ w ∈ u_ws RX9 TX9 38, w ∈ wsX9_mendAll := fun w h => List.mem_cons_of_mem _ (by first | exact List.mem_append_right _ h | decide +kernel +revert)
abbrev rm_X9_mendAll : Room := { frames := 7, cells := 0, slots := 0, locals := 174 }
def wp_X9_mendAll_12 (Q : Int32 → mS → mG → Prop) : Nat → mS → mG → Int32 → Int32 → Prop
  | 0, _, _, _, _ => False
  | n + 1, S, G, a1, a2 =>
    (((100 : Int32) ≤ a2 →
      (Q a2 S G))
     ∧ (¬ (100 : Int32) ≤ a2 →
      (wp_X9_mendsOne_0 (fun r_20 S_20 G_20 =>
        ((r_20 = 0 →
          (Q a2 S_20 G_20))
         ∧ (¬ r_20 = 0 →
          (∀ v2_26 : Int32, v2_26 = a2 + (1 : Int32) →
            ((wp_X9_mendAll_12 Q  n) S_20 G_20 a1 v2_26))))) S G a1)))
def wp_X9_mendAll_0 (Q : Int32 → mS → mG → Prop) (S : mS) (G : mG) (a1 : Int32) : Prop :=
    (wp_X9_isText_0 (fun r_2 S_2 G_2 =>
      ((¬ r_2 = 0 →
        (∃ n9 : Nat, wp_X9_mendAll_12 Q  n9 S_2 G_2 a1 (0 : Int32)))
       ∧ (r_2 = 0 →
        (Q (0 : Int32) S_2 G_2)))) S G a1)
set_option maxHeartbeats 4000000 in
set_option maxRecDepth 100000 in
theorem tb_X9_mendAll_12 {p : Program} {l : Launch} {e : Env} {s : State} {m : MethodId} {below : List Frame} {meth : Method} {c : Code} {args : Array Value} {dC : Nat → ClassId} {dI : Nat → Nat → Nat} {cI cJ cZ : ClassId} {o : Nat} {ad : Nat → Nat} {A : Nat → Prop} {Q : Int32 → mS → mG → Prop} (C : mCx p s m args meth c cX9_mendAll 3 (some .int) wsX9_mendAll A dC dI cI cJ cZ) : ∀ (n : Nat) (S : mS) (G : mG) (a1 : Int32) (a2 : Int32), wp_X9_mendAll_12 Q  n S G a1 a2 → mAt p l e rm_X9_mendAll s m args below meth c dC dI cI cJ cZ o ad A (MQ below (va_Qi (fun r (u : mS × mG) => Q r u.1 u.2) (mB dC dI cI cJ cZ o ad A) A) args s 0 0 A) 12 3 [(0, .ref o), (1, .int a1), (2, .int a2)] [] S G := by
  obtain ⟨hx, hb, hml, hown, hts, hr, hlocks, hA, hK⟩ := id C
  intro n
  induction n with
  | zero => intro S G a1 a2 hw; exact hw.elim
  | succ n ih =>
    intro S G a1 a2 hw H locs hP hD hS ls hl
    rw [wp_X9_mendAll_12] at hw
    refine lv_iload_n hx hb dX9_mendAll_12 rfl (lv_at hl 2 rfl) ?_
    refine lv_bipush (v := 100) hx hb dX9_mendAll_13 (by decide) ?_
    refine lv_icmp_ge (tgt := 32) hx hb dX9_mendAll_15 (by decide) (fun c_15 => ?_) (fun c_15 => ?_)
    · have hw := hw.1 c_15
      refine lv_iload_n hx hb dX9_mendAll_32 rfl (lv_at hl 2 rfl) ?_
      exact W.iret (v := a2) hx hb hr (fun t ht hW => ⟨⟨a2, (S, G), rfl, hw, by rw [ht]; exact hP, va_K.moved hW.alike hK, hD⟩, hS.F ht⟩) hS.2.2 dX9_mendAll_33
    · have hw := hw.2 c_15
      refine lv_aload_n hx hb dX9_mendAll_18 rfl (lv_at hl 0 rfl) ?_
      refine lv_iload_n hx hb dX9_mendAll_19 rfl (lv_at hl 1 rfl) ?_
      have hFc := mFree hD hS hA
      refine va_calli (va_runV (As := [.int a1]) (rest := []) ⟨hx, hb, hml, hown, hts⟩ (c_X9_mendsOne l dC dI cI cJ cZ o ad S G H.size a1 _ hw) (cwV 1 hts gX9_mendAll_X9_mendsOne rfl rfl rfl (by decide +kernel) ⟨Nat.le_of_ble_eq_true rfl, Nat.le_of_ble_eq_true rfl⟩) (mPreV [.int a1] hK hP hD) rfl rfl hl.1 rfl (lv_room (Nat.le_of_ble_eq_true rfl)) dX9_mendAll_20 ⟨Nat.zero_le _, Nat.zero_le _⟩) hS (fun q _ h => hFc q h) hFc (fun r_20 u t H1 locs ht hvm hw hB hz1 hk1 hS => ?_)
      obtain ⟨S_20, G_20⟩ := u
      obtain ⟨hP, -, hD1⟩ := hB
      rw [ht] at hP
      have hw := id hw
      have hP : va_P (dC, dI) vwCl (mW cI cJ cZ o ad S_20 G_20) H1 := hP
      have hD : va_D A (mW cI cJ cZ o ad S_20 G_20) := mGain hD1 hFc
      generalize H1 = H at hP hS ⊢
      refine lv_if_eq (tgt := 32) hx hb dX9_mendAll_23 (by decide) (fun c_23 => ?_) (fun c_23 => ?_)
      · have hw := hw.1 c_23
        refine lv_iload_n hx hb dX9_mendAll_32 rfl (lv_at hl 2 rfl) ?_
        exact W.iret (v := a2) hx hb hr (fun t ht hW => ⟨⟨a2, (S_20, G_20), rfl, hw, by rw [ht]; exact hP, va_K.moved hW.alike hK, hD⟩, hS.F ht⟩) hS.2.2 dX9_mendAll_33
      · have hw := hw.2 c_23
        obtain ⟨v2_26, ev2_26⟩ : ∃ y : Int32, y = a2 + (1 : Int32) := ⟨_, rfl⟩
        have hw := hw v2_26 ev2_26
        refine lv_iinc (v := v2_26) (lv' := [(2, .int v2_26), (0, .ref o), (1, .int a1)]) hx hb dX9_mendAll_26 hl (k := 2) rfl (by rw [ev2_26]; rfl) (by decide) rfl (fun ls hl => ?_)
        refine lv_goto (tgt := 12) hx hb dX9_mendAll_29 (by decide) ?_
        exact ih S_20 G_20 a1 v2_26 hw H locs hP hD hS ls (lv_sub hl [1, 2, 0] rfl)
set_option maxHeartbeats 4000000 in
set_option maxRecDepth 100000 in
theorem tb_X9_mendAll_0 {p : Program} {l : Launch} {e : Env} {s : State} {m : MethodId} {below : List Frame} {meth : Method} {c : Code} {args : Array Value} {dC : Nat → ClassId} {dI : Nat → Nat → Nat} {cI cJ cZ : ClassId} {o : Nat} {ad : Nat → Nat} {A : Nat → Prop} {Q : Int32 → mS → mG → Prop} (C : mCx p s m args meth c cX9_mendAll 3 (some .int) wsX9_mendAll A dC dI cI cJ cZ) : ∀ (S : mS) (G : mG) (a1 : Int32), wp_X9_mendAll_0 Q  S G a1 → mAt p l e rm_X9_mendAll s m args below meth c dC dI cI cJ cZ o ad A (MQ below (va_Qi (fun r (u : mS × mG) => Q r u.1 u.2) (mB dC dI cI cJ cZ o ad A) A) args s 0 0 A) 0 3 [(0, .ref o), (1, .int a1)] [] S G := by
  obtain ⟨hx, hb, hml, hown, hts, hr, hlocks, hA, hK⟩ := id C
  intro S G a1 hw H locs hP hD hS ls hl
  rw [wp_X9_mendAll_0] at hw
  refine lv_aload_n hx hb dX9_mendAll_0 rfl (lv_at hl 0 rfl) ?_
  refine lv_iload_n hx hb dX9_mendAll_1 rfl (lv_at hl 1 rfl) ?_
  have hFc := mFree hD hS hA
  refine va_calli (va_runV (As := [.int a1]) (rest := []) ⟨hx, hb, hml, hown, hts⟩ (c_X9_isText l dC dI cI cJ cZ o ad S G H.size a1 _ hw) (cwV 1 hts gX9_mendAll_X9_isText rfl rfl rfl (by decide +kernel) ⟨Nat.le_of_ble_eq_true rfl, Nat.le_of_ble_eq_true rfl⟩) (mPreV [.int a1] hK hP hD) rfl rfl hl.1 rfl (lv_room (Nat.le_of_ble_eq_true rfl)) dX9_mendAll_2 ⟨Nat.zero_le _, Nat.zero_le _⟩) hS (fun q _ h => hFc q h) hFc (fun r_2 u t H1 locs ht hvm hw hB hz1 hk1 hS => ?_)
  obtain ⟨S_2, G_2⟩ := u
  obtain ⟨hP, -, hD1⟩ := hB
  rw [ht] at hP
  have hw := id hw
  have hP : va_P (dC, dI) vwCl (mW cI cJ cZ o ad S_2 G_2) H1 := hP
  have hD : va_D A (mW cI cJ cZ o ad S_2 G_2) := mGain hD1 hFc
  generalize H1 = H at hP hS ⊢
  refine lv_if_ne (tgt := 10) hx hb dX9_mendAll_5 (by decide) (fun c_5 => ?_) (fun c_5 => ?_)
  · have hw := hw.1 c_5
    refine lv_iconst (v := 0) hx hb dX9_mendAll_10 (by decide) ?_
    refine lv_istore_n (lv' := [(2, .int (0 : Int32)), (0, .ref o), (1, .int a1)]) hx hb dX9_mendAll_11 rfl hl (by decide) rfl (fun ls hl => ?_)
    obtain ⟨n9, hw⟩ := hw
    exact tb_X9_mendAll_12 C  n9 S_2 G_2 a1 (0 : Int32) hw H locs hP hD hS ls (lv_sub hl [1, 2, 0] rfl)
  · have hw := hw.2 c_5
    refine lv_iconst (v := 0) hx hb dX9_mendAll_8 (by decide) ?_
    exact W.iret (v := (0 : Int32)) hx hb hr (fun t ht hW => ⟨⟨(0 : Int32), (S_2, G_2), rfl, hw, by rw [ht]; exact hP, va_K.moved hW.alike hK, hD⟩, hS.F ht⟩) hS.2.2 dX9_mendAll_9
set_option maxHeartbeats 4000000 in
set_option maxRecDepth 100000 in
theorem c_X9_mendAll (l : Launch) (dC : Nat → ClassId) (dI : Nat → Nat → Nat) (cI cJ cZ : ClassId) (o : Nat) (ad : Nat → Nat) (S : mS) (G : mG) (sz : Nat) (a1 : Int32) (Q : Int32 → mS → mG → Prop) (hw : wp_X9_mendAll_0 Q S G a1) : Met l yX9_mendAll wsX9_mendAll rm_X9_mendAll (va_Pc [.ref o, .int a1] (mPre dC dI cI cJ cZ o ad S G sz)) (va_Qi (fun r (u : mS × mG) => Q r u.1 u.2) (mB dC dI cI cJ cZ o ad (mA cI cJ cZ o ad S G sz)) (mA cI cJ cZ o ad S G sz)) 0 0 (mA cI cJ cZ o ad S G sz) := by
  refine Met.ofW (cc := cX9_mendAll) (maxL := 3) (ret := (some .int)) (by decide) rfl ?_
  intro p e s m args below meth c s₁ B hml hv
  obtain ⟨rfl, hsz, hP, hK, hD0⟩ := hv
  subst hsz
  have hl := lv_entry ([.ref o, .int a1]) (n := 3) (Nat.le_of_ble_eq_true rfl)
  rw [lg_entry_eq]
  generalize (lg_sl ([.ref o, .int a1]) ++ List.replicate (3 - (lg_sl ([.ref o, .int a1])).length) Slot.unset).toArray = ls at hl ⊢
  exact tb_X9_mendAll_0 (Q := Q) (p := p) ⟨B.exec, B.bytes, hml, findClass_of_methodNamed B.named, atoms_spec (ws := wsX9_mendAll) B.pre, B.returns, B.notSynchronized, fun q h => Or.inr h, hK⟩ S G a1 hw s.heap [] hP (hD0.self (sz := s.heap.size)) va_S.rf ls hl
theorem iw_X9_count : ∀ w ∈ u_ws RX9 TX9 38, w ∈ wsX9_count := fun w h => List.mem_cons_of_mem _ (by first | exact List.mem_append_right _ h | decide +kernel +revert)
theorem lk_X9_count_75 : Cond.fieldLink RX9 75 "TermKeeperModel" "useTerm" "[I" ∈ wsX9_count := by decide +kernel
theorem lk_X9_count_168 : Cond.fieldLink RX9 168 "TermKeeperModel" "uses" "I" ∈ wsX9_count := by decide +kernel
abbrev rm_X9_count : Room := { frames := 6, cells := 0, slots := 0, locals := 152 }
def wp_X9_count_51 (Q : Int32 → mS → mG → Prop) (k14_ : mS → mG → Int32 → Int32 → Int32 → Prop) (k28_ : mS → mG → Int32 → Int32 → Int32 → Int32 → Prop) (S : mS) (G : mG) (a1 : Int32) (a2 : Int32) (a3 : Int32) (a4 : Int32) : Prop :=
    (∀ v4_51 : Int32, v4_51 = a4 + (1 : Int32) →
      (k28_ S G a1 a2 a3 v4_51))
def wp_X9_count_57 (Q : Int32 → mS → mG → Prop) (k14_ : mS → mG → Int32 → Int32 → Int32 → Prop) (S : mS) (G : mG) (a1 : Int32) (a2 : Int32) (a3 : Int32) : Prop :=
    (∀ v3_57 : Int32, v3_57 = a3 + (1 : Int32) →
      (k14_ S G a1 a2 v3_57))
def wp_X9_count_28 (Q : Int32 → mS → mG → Prop) (k14_ : mS → mG → Int32 → Int32 → Int32 → Prop) : Nat → mS → mG → Int32 → Int32 → Int32 → Int32 → Prop
  | 0, _, _, _, _, _, _ => False
  | n + 1, S, G, a1, a2, a3, a4 =>
    (((S 25 0) ≤ a4 →
      (wp_X9_count_57 Q k14_ S G a1 a2 a3))
     ∧ (¬ (S 25 0) ≤ a4 →
      (vp_in a4 301 ∧
        ((¬ (S 28 (Int32.toNatClampNeg a4)) = a1 →
          (wp_X9_count_51 Q k14_ (wp_X9_count_28 Q k14_ n) S G a1 a2 a3 a4))
         ∧ ((S 28 (Int32.toNatClampNeg a4)) = a1 →
          (∀ v2_48 : Int32, v2_48 = a2 + (1 : Int32) →
            (wp_X9_count_51 Q k14_ (wp_X9_count_28 Q k14_ n) S G a1 v2_48 a3 a4)))))))
def wp_X9_count_14 (Q : Int32 → mS → mG → Prop) : Nat → mS → mG → Int32 → Int32 → Int32 → Prop
  | 0, _, _, _, _, _ => False
  | n + 1, S, G, a1, a2, a3 =>
    (((8 : Int32) ≤ a3 →
      (Q a2 S G))
     ∧ (¬ (8 : Int32) ≤ a3 →
      (wp_X9_reads_0 (fun S_22 G_22 =>
        (∃ n9 : Nat, wp_X9_count_28 Q (wp_X9_count_14 Q  n) n9 S_22 G_22 a1 a2 a3 (0 : Int32))) S G a3)))
def wp_X9_count_0 (Q : Int32 → mS → mG → Prop) (S : mS) (G : mG) (a1 : Int32) : Prop :=
    (wp_X9_isTerm_0 (fun r_2 S_2 G_2 =>
      ((¬ r_2 = 0 →
        (∃ n9 : Nat, wp_X9_count_14 Q  n9 S_2 G_2 a1 (0 : Int32) (0 : Int32)))
       ∧ (r_2 = 0 →
        (Q (0 : Int32) S_2 G_2)))) S G a1)
set_option maxHeartbeats 4000000 in
set_option maxRecDepth 100000 in
theorem tb_X9_count_51 {p : Program} {l : Launch} {e : Env} {s : State} {m : MethodId} {below : List Frame} {meth : Method} {c : Code} {args : Array Value} {dC : Nat → ClassId} {dI : Nat → Nat → Nat} {cI cJ cZ : ClassId} {o : Nat} {ad : Nat → Nat} {A : Nat → Prop} {Q : Int32 → mS → mG → Prop} (C : mCx p s m args meth c cX9_count 5 (some .int) wsX9_count A dC dI cI cJ cZ) {k14_ : mS → mG → Int32 → Int32 → Int32 → Prop} (h14_ : ∀ (S : mS) (G : mG) (a1 : Int32) (a2 : Int32) (a3 : Int32), k14_ S G a1 a2 a3 → mAt p l e rm_X9_count s m args below meth c dC dI cI cJ cZ o ad A (MQ below (va_Qi (fun r (u : mS × mG) => Q r u.1 u.2) (mB dC dI cI cJ cZ o ad A) A) args s 0 0 A) 14 5 [(0, .ref o), (1, .int a1), (2, .int a2), (3, .int a3)] [] S G) {k28_ : mS → mG → Int32 → Int32 → Int32 → Int32 → Prop} (h28_ : ∀ (S : mS) (G : mG) (a1 : Int32) (a2 : Int32) (a3 : Int32) (a4 : Int32), k28_ S G a1 a2 a3 a4 → mAt p l e rm_X9_count s m args below meth c dC dI cI cJ cZ o ad A (MQ below (va_Qi (fun r (u : mS × mG) => Q r u.1 u.2) (mB dC dI cI cJ cZ o ad A) A) args s 0 0 A) 28 5 [(0, .ref o), (1, .int a1), (2, .int a2), (3, .int a3), (4, .int a4)] [] S G) : ∀ (S : mS) (G : mG) (a1 : Int32) (a2 : Int32) (a3 : Int32) (a4 : Int32), wp_X9_count_51 Q k14_ k28_ S G a1 a2 a3 a4 → mAt p l e rm_X9_count s m args below meth c dC dI cI cJ cZ o ad A (MQ below (va_Qi (fun r (u : mS × mG) => Q r u.1 u.2) (mB dC dI cI cJ cZ o ad A) A) args s 0 0 A) 51 5 [(0, .ref o), (1, .int a1), (2, .int a2), (3, .int a3), (4, .int a4)] [] S G := by
  obtain ⟨hx, hb, hml, hown, hts, hr, hlocks, hA, hK⟩ := id C
  intro S G a1 a2 a3 a4 hw H locs hP hD hS ls hl
  rw [wp_X9_count_51] at hw
  obtain ⟨v4_51, ev4_51⟩ : ∃ y : Int32, y = a4 + (1 : Int32) := ⟨_, rfl⟩
  have hw := hw v4_51 ev4_51
  refine lv_iinc (v := v4_51) (lv' := [(4, .int v4_51), (0, .ref o), (1, .int a1), (2, .int a2), (3, .int a3)]) hx hb dX9_count_51 hl (k := 4) rfl (by rw [ev4_51]; rfl) (by decide) rfl (fun ls hl => ?_)
  refine lv_goto (tgt := 28) hx hb dX9_count_54 (by decide) ?_
  exact h28_ S G a1 a2 a3 v4_51 hw H locs hP hD hS ls (lv_sub hl [1, 2, 3, 4, 0] rfl)
set_option maxHeartbeats 4000000 in
set_option maxRecDepth 100000 in
theorem tb_X9_count_57 {p : Program} {l : Launch} {e : Env} {s : State} {m : MethodId} {below : List Frame} {meth : Method} {c : Code} {args : Array Value} {dC : Nat → ClassId} {dI : Nat → Nat → Nat} {cI cJ cZ : ClassId} {o : Nat} {ad : Nat → Nat} {A : Nat → Prop} {Q : Int32 → mS → mG → Prop} (C : mCx p s m args meth c cX9_count 5 (some .int) wsX9_count A dC dI cI cJ cZ) {k14_ : mS → mG → Int32 → Int32 → Int32 → Prop} (h14_ : ∀ (S : mS) (G : mG) (a1 : Int32) (a2 : Int32) (a3 : Int32), k14_ S G a1 a2 a3 → mAt p l e rm_X9_count s m args below meth c dC dI cI cJ cZ o ad A (MQ below (va_Qi (fun r (u : mS × mG) => Q r u.1 u.2) (mB dC dI cI cJ cZ o ad A) A) args s 0 0 A) 14 5 [(0, .ref o), (1, .int a1), (2, .int a2), (3, .int a3)] [] S G) : ∀ (S : mS) (G : mG) (a1 : Int32) (a2 : Int32) (a3 : Int32), wp_X9_count_57 Q k14_ S G a1 a2 a3 → mAt p l e rm_X9_count s m args below meth c dC dI cI cJ cZ o ad A (MQ below (va_Qi (fun r (u : mS × mG) => Q r u.1 u.2) (mB dC dI cI cJ cZ o ad A) A) args s 0 0 A) 57 5 [(0, .ref o), (1, .int a1), (2, .int a2), (3, .int a3)] [] S G := by
  obtain ⟨hx, hb, hml, hown, hts, hr, hlocks, hA, hK⟩ := id C
  intro S G a1 a2 a3 hw H locs hP hD hS ls hl
  rw [wp_X9_count_57] at hw
  obtain ⟨v3_57, ev3_57⟩ : ∃ y : Int32, y = a3 + (1 : Int32) := ⟨_, rfl⟩
  have hw := hw v3_57 ev3_57
  refine lv_iinc (v := v3_57) (lv' := [(3, .int v3_57), (0, .ref o), (1, .int a1), (2, .int a2)]) hx hb dX9_count_57 hl (k := 3) rfl (by rw [ev3_57]; rfl) (by decide) rfl (fun ls hl => ?_)
  refine lv_goto (tgt := 14) hx hb dX9_count_60 (by decide) ?_
  exact h14_ S G a1 a2 v3_57 hw H locs hP hD hS ls (lv_sub hl [1, 2, 3, 0] rfl)
set_option maxHeartbeats 4000000 in
set_option maxRecDepth 100000 in
theorem tb_X9_count_28 {p : Program} {l : Launch} {e : Env} {s : State} {m : MethodId} {below : List Frame} {meth : Method} {c : Code} {args : Array Value} {dC : Nat → ClassId} {dI : Nat → Nat → Nat} {cI cJ cZ : ClassId} {o : Nat} {ad : Nat → Nat} {A : Nat → Prop} {Q : Int32 → mS → mG → Prop} (C : mCx p s m args meth c cX9_count 5 (some .int) wsX9_count A dC dI cI cJ cZ) {k14_ : mS → mG → Int32 → Int32 → Int32 → Prop} (h14_ : ∀ (S : mS) (G : mG) (a1 : Int32) (a2 : Int32) (a3 : Int32), k14_ S G a1 a2 a3 → mAt p l e rm_X9_count s m args below meth c dC dI cI cJ cZ o ad A (MQ below (va_Qi (fun r (u : mS × mG) => Q r u.1 u.2) (mB dC dI cI cJ cZ o ad A) A) args s 0 0 A) 14 5 [(0, .ref o), (1, .int a1), (2, .int a2), (3, .int a3)] [] S G) : ∀ (n : Nat) (S : mS) (G : mG) (a1 : Int32) (a2 : Int32) (a3 : Int32) (a4 : Int32), wp_X9_count_28 Q k14_ n S G a1 a2 a3 a4 → mAt p l e rm_X9_count s m args below meth c dC dI cI cJ cZ o ad A (MQ below (va_Qi (fun r (u : mS × mG) => Q r u.1 u.2) (mB dC dI cI cJ cZ o ad A) A) args s 0 0 A) 28 5 [(0, .ref o), (1, .int a1), (2, .int a2), (3, .int a3), (4, .int a4)] [] S G := by
  obtain ⟨hx, hb, hml, hown, hts, hr, hlocks, hA, hK⟩ := id C
  intro n
  induction n with
  | zero => intro S G a1 a2 a3 a4 hw; exact hw.elim
  | succ n ih =>
    intro S G a1 a2 a3 a4 hw H locs hP hD hS ls hl
    rw [wp_X9_count_28] at hw
    refine lv_iload hx hb dX9_count_28 (lv_at hl 4 rfl) ?_
    refine lv_aload_n hx hb dX9_count_30 rfl (lv_at hl 0 rfl) ?_
    refine va_get (D := (dC, dI)) (ci := 10) (v := .int (S 25 0)) (C := RX9) (T := TX9) (N := 38) hx hb hts iw_X9_count hown hK hP 0 rfl rfl 25 (by decide) (hts _ lk_X9_count_168) (fun _ h9 => h9) rfl dX9_count_31 ?_
    refine lv_icmp_ge (tgt := 57) hx hb dX9_count_34 (by decide) (fun c_34 => ?_) (fun c_34 => ?_)
    · have hw := hw.1 c_34
      exact tb_X9_count_57 C h14_ S G a1 a2 a3 hw H locs hP hD hS ls (lv_sub hl [0, 1, 2, 3] rfl)
    · have hw := hw.2 c_34
      refine lv_aload_n hx hb dX9_count_37 rfl (lv_at hl 0 rfl) ?_
      refine va_get (D := (dC, dI)) (ci := 10) (v := .ref (ad 28)) (C := RX9) (T := TX9) (N := 38) hx hb hts iw_X9_count hown hK hP 0 rfl rfl 28 (by decide) (hts _ lk_X9_count_75) (fun _ h9 => h9) rfl dX9_count_38 ?_
      refine lv_iload hx hb dX9_count_41 (lv_at hl 4 rfl) ?_
      refine va_iald hx hb hK hP 22 0 rfl rfl hw.1 dX9_count_43 ?_
      have hw := hw.2
      refine lv_iload_n hx hb dX9_count_44 rfl (lv_at hl 1 rfl) ?_
      refine lv_icmp_ne (tgt := 51) hx hb dX9_count_45 (by decide) (fun c_45 => ?_) (fun c_45 => ?_)
      · have hw := hw.1 c_45
        exact tb_X9_count_51 C h14_ ih S G a1 a2 a3 a4 hw H locs hP hD hS ls (lv_sub hl [0, 1, 2, 3, 4] rfl)
      · have hw := hw.2 c_45
        obtain ⟨v2_48, ev2_48⟩ : ∃ y : Int32, y = a2 + (1 : Int32) := ⟨_, rfl⟩
        have hw := hw v2_48 ev2_48
        refine lv_iinc (v := v2_48) (lv' := [(2, .int v2_48), (0, .ref o), (1, .int a1), (3, .int a3), (4, .int a4)]) hx hb dX9_count_48 hl (k := 2) rfl (by rw [ev2_48]; rfl) (by decide) rfl (fun ls hl => ?_)
        exact tb_X9_count_51 C h14_ ih S G a1 v2_48 a3 a4 hw H locs hP hD hS ls (lv_sub hl [1, 2, 0, 3, 4] rfl)
set_option maxHeartbeats 4000000 in
set_option maxRecDepth 100000 in
theorem tb_X9_count_14 {p : Program} {l : Launch} {e : Env} {s : State} {m : MethodId} {below : List Frame} {meth : Method} {c : Code} {args : Array Value} {dC : Nat → ClassId} {dI : Nat → Nat → Nat} {cI cJ cZ : ClassId} {o : Nat} {ad : Nat → Nat} {A : Nat → Prop} {Q : Int32 → mS → mG → Prop} (C : mCx p s m args meth c cX9_count 5 (some .int) wsX9_count A dC dI cI cJ cZ) : ∀ (n : Nat) (S : mS) (G : mG) (a1 : Int32) (a2 : Int32) (a3 : Int32), wp_X9_count_14 Q  n S G a1 a2 a3 → mAt p l e rm_X9_count s m args below meth c dC dI cI cJ cZ o ad A (MQ below (va_Qi (fun r (u : mS × mG) => Q r u.1 u.2) (mB dC dI cI cJ cZ o ad A) A) args s 0 0 A) 14 5 [(0, .ref o), (1, .int a1), (2, .int a2), (3, .int a3)] [] S G := by
  obtain ⟨hx, hb, hml, hown, hts, hr, hlocks, hA, hK⟩ := id C
  intro n
  induction n with
  | zero => intro S G a1 a2 a3 hw; exact hw.elim
  | succ n ih =>
    intro S G a1 a2 a3 hw H locs hP hD hS ls hl
    rw [wp_X9_count_14] at hw
    refine lv_iload_n hx hb dX9_count_14 rfl (lv_at hl 3 rfl) ?_
    refine lv_bipush (v := 8) hx hb dX9_count_15 (by decide) ?_
    refine lv_icmp_ge (tgt := 63) hx hb dX9_count_17 (by decide) (fun c_17 => ?_) (fun c_17 => ?_)
    · have hw := hw.1 c_17
      refine lv_iload_n hx hb dX9_count_63 rfl (lv_at hl 2 rfl) ?_
      exact W.iret (v := a2) hx hb hr (fun t ht hW => ⟨⟨a2, (S, G), rfl, hw, by rw [ht]; exact hP, va_K.moved hW.alike hK, hD⟩, hS.F ht⟩) hS.2.2 dX9_count_64
    · have hw := hw.2 c_17
      refine lv_aload_n hx hb dX9_count_20 rfl (lv_at hl 0 rfl) ?_
      refine lv_iload_n hx hb dX9_count_21 rfl (lv_at hl 3 rfl) ?_
      have hFc := mFree hD hS hA
      refine va_callv (va_runV (As := [.int a3]) (rest := []) ⟨hx, hb, hml, hown, hts⟩ (c_X9_reads l dC dI cI cJ cZ o ad S G H.size a3 _ hw) (cwV 1 hts gX9_count_X9_reads rfl rfl rfl (by decide +kernel) ⟨Nat.le_of_ble_eq_true rfl, Nat.le_of_ble_eq_true rfl⟩) (mPreV [.int a3] hK hP hD) rfl rfl hl.1 rfl (lv_room (Nat.le_of_ble_eq_true rfl)) dX9_count_22 ⟨Nat.zero_le _, Nat.zero_le _⟩) hS (fun q _ h => hFc q h) hFc (fun u t H1 locs ht hvm hw hB hz1 hk1 hS => ?_)
      obtain ⟨S_22, G_22⟩ := u
      obtain ⟨hP, -, hD1⟩ := hB
      rw [ht] at hP
      have hw := id hw
      have hP : va_P (dC, dI) vwCl (mW cI cJ cZ o ad S_22 G_22) H1 := hP
      have hD : va_D A (mW cI cJ cZ o ad S_22 G_22) := mGain hD1 hFc
      generalize H1 = H at hP hS ⊢
      refine lv_iconst (v := 0) hx hb dX9_count_25 (by decide) ?_
      refine lv_istore (lv' := [(4, .int (0 : Int32)), (0, .ref o), (1, .int a1), (2, .int a2), (3, .int a3)]) hx hb dX9_count_26 hl (by decide) rfl (fun ls hl => ?_)
      obtain ⟨n9, hw⟩ := hw
      exact tb_X9_count_28 C ih n9 S_22 G_22 a1 a2 a3 (0 : Int32) hw H locs hP hD hS ls (lv_sub hl [1, 2, 3, 4, 0] rfl)
set_option maxHeartbeats 4000000 in
set_option maxRecDepth 100000 in
theorem tb_X9_count_0 {p : Program} {l : Launch} {e : Env} {s : State} {m : MethodId} {below : List Frame} {meth : Method} {c : Code} {args : Array Value} {dC : Nat → ClassId} {dI : Nat → Nat → Nat} {cI cJ cZ : ClassId} {o : Nat} {ad : Nat → Nat} {A : Nat → Prop} {Q : Int32 → mS → mG → Prop} (C : mCx p s m args meth c cX9_count 5 (some .int) wsX9_count A dC dI cI cJ cZ) : ∀ (S : mS) (G : mG) (a1 : Int32), wp_X9_count_0 Q  S G a1 → mAt p l e rm_X9_count s m args below meth c dC dI cI cJ cZ o ad A (MQ below (va_Qi (fun r (u : mS × mG) => Q r u.1 u.2) (mB dC dI cI cJ cZ o ad A) A) args s 0 0 A) 0 5 [(0, .ref o), (1, .int a1)] [] S G := by
  obtain ⟨hx, hb, hml, hown, hts, hr, hlocks, hA, hK⟩ := id C
  intro S G a1 hw H locs hP hD hS ls hl
  rw [wp_X9_count_0] at hw
  refine lv_aload_n hx hb dX9_count_0 rfl (lv_at hl 0 rfl) ?_
  refine lv_iload_n hx hb dX9_count_1 rfl (lv_at hl 1 rfl) ?_
  have hFc := mFree hD hS hA
  refine va_calli (va_runV (As := [.int a1]) (rest := []) ⟨hx, hb, hml, hown, hts⟩ (c_X9_isTerm l dC dI cI cJ cZ o ad S G H.size a1 _ hw) (cwV 1 hts gX9_count_X9_isTerm rfl rfl rfl (by decide +kernel) ⟨Nat.le_of_ble_eq_true rfl, Nat.le_of_ble_eq_true rfl⟩) (mPreV [.int a1] hK hP hD) rfl rfl hl.1 rfl (lv_room (Nat.le_of_ble_eq_true rfl)) dX9_count_2 ⟨Nat.zero_le _, Nat.zero_le _⟩) hS (fun q _ h => hFc q h) hFc (fun r_2 u t H1 locs ht hvm hw hB hz1 hk1 hS => ?_)
  obtain ⟨S_2, G_2⟩ := u
  obtain ⟨hP, -, hD1⟩ := hB
  rw [ht] at hP
  have hw := id hw
  have hP : va_P (dC, dI) vwCl (mW cI cJ cZ o ad S_2 G_2) H1 := hP
  have hD : va_D A (mW cI cJ cZ o ad S_2 G_2) := mGain hD1 hFc
  generalize H1 = H at hP hS ⊢
  refine lv_if_ne (tgt := 10) hx hb dX9_count_5 (by decide) (fun c_5 => ?_) (fun c_5 => ?_)
  · have hw := hw.1 c_5
    refine lv_iconst (v := 0) hx hb dX9_count_10 (by decide) ?_
    refine lv_istore_n (lv' := [(2, .int (0 : Int32)), (0, .ref o), (1, .int a1)]) hx hb dX9_count_11 rfl hl (by decide) rfl (fun ls hl => ?_)
    refine lv_iconst (v := 0) hx hb dX9_count_12 (by decide) ?_
    refine lv_istore_n (lv' := [(3, .int (0 : Int32)), (2, .int (0 : Int32)), (0, .ref o), (1, .int a1)]) hx hb dX9_count_13 rfl hl (by decide) rfl (fun ls hl => ?_)
    obtain ⟨n9, hw⟩ := hw
    exact tb_X9_count_14 C  n9 S_2 G_2 a1 (0 : Int32) (0 : Int32) hw H locs hP hD hS ls (lv_sub hl [2, 3, 1, 0] rfl)
  · have hw := hw.2 c_5
    refine lv_iconst (v := 0) hx hb dX9_count_8 (by decide) ?_
    exact W.iret (v := (0 : Int32)) hx hb hr (fun t ht hW => ⟨⟨(0 : Int32), (S_2, G_2), rfl, hw, by rw [ht]; exact hP, va_K.moved hW.alike hK, hD⟩, hS.F ht⟩) hS.2.2 dX9_count_9
set_option maxHeartbeats 4000000 in
set_option maxRecDepth 100000 in
theorem c_X9_count (l : Launch) (dC : Nat → ClassId) (dI : Nat → Nat → Nat) (cI cJ cZ : ClassId) (o : Nat) (ad : Nat → Nat) (S : mS) (G : mG) (sz : Nat) (a1 : Int32) (Q : Int32 → mS → mG → Prop) (hw : wp_X9_count_0 Q S G a1) : Met l yX9_count wsX9_count rm_X9_count (va_Pc [.ref o, .int a1] (mPre dC dI cI cJ cZ o ad S G sz)) (va_Qi (fun r (u : mS × mG) => Q r u.1 u.2) (mB dC dI cI cJ cZ o ad (mA cI cJ cZ o ad S G sz)) (mA cI cJ cZ o ad S G sz)) 0 0 (mA cI cJ cZ o ad S G sz) := by
  refine Met.ofW (cc := cX9_count) (maxL := 5) (ret := (some .int)) (by decide) rfl ?_
  intro p e s m args below meth c s₁ B hml hv
  obtain ⟨rfl, hsz, hP, hK, hD0⟩ := hv
  subst hsz
  have hl := lv_entry ([.ref o, .int a1]) (n := 5) (Nat.le_of_ble_eq_true rfl)
  rw [lg_entry_eq]
  generalize (lg_sl ([.ref o, .int a1]) ++ List.replicate (5 - (lg_sl ([.ref o, .int a1])).length) Slot.unset).toArray = ls at hl ⊢
  exact tb_X9_count_0 (Q := Q) (p := p) ⟨B.exec, B.bytes, hml, findClass_of_methodNamed B.named, atoms_spec (ws := wsX9_count) B.pre, B.returns, B.notSynchronized, fun q h => Or.inr h, hK⟩ S G a1 hw s.heap [] hP (hD0.self (sz := s.heap.size)) va_S.rf ls hl
theorem iw_X9_round : ∀ w ∈ u_ws RX9 TX9 38, w ∈ wsX9_round := fun w h => List.mem_cons_of_mem _ (by first | exact List.mem_append_right _ h | decide +kernel +revert)
theorem lk_X9_round_46 : Cond.fieldLink RX9 46 "TermKeeperModel" "definitions" "[J" ∈ wsX9_round := by decide +kernel
theorem lk_X9_round_90 : Cond.fieldLink RX9 90 "TermKeeperModel" "back" "[J" ∈ wsX9_round := by decide +kernel
abbrev rm_X9_round : Room := { frames := 0, cells := 0, slots := 0, locals := 0 }
def wp_X9_round_71 (Q : Int32 → mS → mG → Prop) (k14_ : mS → mG → Int32 → Int32 → Int32 → Prop) (k30_ : mS → mG → Int32 → Int32 → Int32 → Int32 → Prop) (S : mS) (G : mG) (a1 : Int32) (a2 : Int32) (a3 : Int32) (a4 : Int32) : Prop :=
    (∀ v4_71 : Int32, v4_71 = a4 + (1 : Int32) →
      (k30_ S G a1 a2 a3 v4_71))
def wp_X9_round_100 (Q : Int32 → mS → mG → Prop) (k14_ : mS → mG → Int32 → Int32 → Int32 → Prop) (S : mS) (G : mG) (a1 : Int32) (a2 : Int32) (a3 : Int32) : Prop :=
    (∀ v3_100 : Int32, v3_100 = a3 + (1 : Int32) →
      (k14_ S G a1 a2 v3_100))
def wp_X9_round_77 (Q : Int32 → mS → mG → Prop) (k14_ : mS → mG → Int32 → Int32 → Int32 → Prop) (S : mS) (G : mG) (a1 : Int32) (a2 : Int32) (a3 : Int32) : Prop :=
    ((¬ a2 = (41 : Int32) →
      (wp_X9_round_100 Q k14_ S G a1 a2 a3))
     ∧ (a2 = (41 : Int32) →
      (vp_in a3 41 ∧
        ((¬ (lg_cmp (((G 33 (Int32.toNatClampNeg a3)) >>> (Int32.toInt64 a1 &&& 63)) &&& (1 : Int64)) (1 : Int64)) = 0 →
          (wp_X9_round_100 Q k14_ S G a1 a2 a3))
         ∧ ((lg_cmp (((G 33 (Int32.toNatClampNeg a3)) >>> (Int32.toInt64 a1 &&& 63)) &&& (1 : Int64)) (1 : Int64)) = 0 →
          (wp_X9_round_100 Q k14_ S G a1 a3 a3))))))
def wp_X9_round_30 (Q : Int32 → mS → mG → Prop) (k14_ : mS → mG → Int32 → Int32 → Int32 → Prop) : Nat → mS → mG → Int32 → Int32 → Int32 → Int32 → Prop
  | 0, _, _, _, _, _, _ => False
  | n + 1, S, G, a1, a2, a3, a4 =>
    (((40 : Int32) ≤ a4 →
      (wp_X9_round_77 Q k14_ S G a1 a2 a3))
     ∧ (¬ (40 : Int32) ≤ a4 →
      (vp_in a4 40 ∧
        (vp_in (a3 - (1 : Int32)) 41 ∧
          (((lg_cmp ((G 17 (Int32.toNatClampNeg a4)) &&& (G 33 (Int32.toNatClampNeg (a3 - (1 : Int32))))) (0 : Int64)) = 0 →
            (wp_X9_round_71 Q k14_ (wp_X9_round_30 Q k14_ n) S G a1 a2 a3 a4))
           ∧ (¬ (lg_cmp ((G 17 (Int32.toNatClampNeg a4)) &&& (G 33 (Int32.toNatClampNeg (a3 - (1 : Int32))))) (0 : Int64)) = 0 →
            (vp_in a3 41 ∧
              (vp_in a3 41 ∧ ∀ G_70 : mG, G_70 = mstL G 33 (Int32.toNatClampNeg a3) ((G 33 (Int32.toNatClampNeg a3)) ||| ((1 : Int64) <<< (Int32.toInt64 a4 &&& 63))) →
                (wp_X9_round_71 Q k14_ (wp_X9_round_30 Q k14_ n) S G_70 a1 a2 a3 a4)))))))))
def wp_X9_round_14 (Q : Int32 → mS → mG → Prop) : Nat → mS → mG → Int32 → Int32 → Int32 → Prop
  | 0, _, _, _, _, _ => False
  | n + 1, S, G, a1, a2, a3 =>
    (((40 : Int32) < a3 →
      (Q a2 S G))
     ∧ (¬ (40 : Int32) < a3 →
      (vp_in a3 41 ∧ ∀ G_26 : mG, G_26 = mstL G 33 (Int32.toNatClampNeg a3) (0 : Int64) →
        (∃ n9 : Nat, wp_X9_round_30 Q (wp_X9_round_14 Q  n) n9 S G_26 a1 a2 a3 (0 : Int32)))))
def wp_X9_round_0 (Q : Int32 → mS → mG → Prop) (S : mS) (G : mG) (a1 : Int32) : Prop :=
    (vp_in (0 : Int32) 41 ∧ ∀ G_8 : mG, G_8 = mstL G 33 (Int32.toNatClampNeg (0 : Int32)) ((1 : Int64) <<< (Int32.toInt64 a1 &&& 63)) →
      (∃ n9 : Nat, wp_X9_round_14 Q  n9 S G_8 a1 (41 : Int32) (1 : Int32)))
set_option maxHeartbeats 4000000 in
set_option maxRecDepth 100000 in
theorem tb_X9_round_71 {p : Program} {l : Launch} {e : Env} {s : State} {m : MethodId} {below : List Frame} {meth : Method} {c : Code} {args : Array Value} {dC : Nat → ClassId} {dI : Nat → Nat → Nat} {cI cJ cZ : ClassId} {o : Nat} {ad : Nat → Nat} {A : Nat → Prop} {Q : Int32 → mS → mG → Prop} (C : mCx p s m args meth c cX9_round 5 (some .int) wsX9_round A dC dI cI cJ cZ) {k14_ : mS → mG → Int32 → Int32 → Int32 → Prop} (h14_ : ∀ (S : mS) (G : mG) (a1 : Int32) (a2 : Int32) (a3 : Int32), k14_ S G a1 a2 a3 → mAt p l e rm_X9_round s m args below meth c dC dI cI cJ cZ o ad A (MQ below (va_Qi (fun r (u : mS × mG) => Q r u.1 u.2) (mB dC dI cI cJ cZ o ad A) A) args s 0 0 A) 14 5 [(0, .ref o), (1, .int a1), (2, .int a2), (3, .int a3)] [] S G) {k30_ : mS → mG → Int32 → Int32 → Int32 → Int32 → Prop} (h30_ : ∀ (S : mS) (G : mG) (a1 : Int32) (a2 : Int32) (a3 : Int32) (a4 : Int32), k30_ S G a1 a2 a3 a4 → mAt p l e rm_X9_round s m args below meth c dC dI cI cJ cZ o ad A (MQ below (va_Qi (fun r (u : mS × mG) => Q r u.1 u.2) (mB dC dI cI cJ cZ o ad A) A) args s 0 0 A) 30 5 [(0, .ref o), (1, .int a1), (2, .int a2), (3, .int a3), (4, .int a4)] [] S G) : ∀ (S : mS) (G : mG) (a1 : Int32) (a2 : Int32) (a3 : Int32) (a4 : Int32), wp_X9_round_71 Q k14_ k30_ S G a1 a2 a3 a4 → mAt p l e rm_X9_round s m args below meth c dC dI cI cJ cZ o ad A (MQ below (va_Qi (fun r (u : mS × mG) => Q r u.1 u.2) (mB dC dI cI cJ cZ o ad A) A) args s 0 0 A) 71 5 [(0, .ref o), (1, .int a1), (2, .int a2), (3, .int a3), (4, .int a4)] [] S G := by
  obtain ⟨hx, hb, hml, hown, hts, hr, hlocks, hA, hK⟩ := id C
  intro S G a1 a2 a3 a4 hw H locs hP hD hS ls hl
  rw [wp_X9_round_71] at hw
  obtain ⟨v4_71, ev4_71⟩ : ∃ y : Int32, y = a4 + (1 : Int32) := ⟨_, rfl⟩
  have hw := hw v4_71 ev4_71
  refine lv_iinc (v := v4_71) (lv' := [(4, .int v4_71), (0, .ref o), (1, .int a1), (2, .int a2), (3, .int a3)]) hx hb dX9_round_71 hl (k := 4) rfl (by rw [ev4_71]; rfl) (by decide) rfl (fun ls hl => ?_)
  refine lv_goto (tgt := 30) hx hb dX9_round_74 (by decide) ?_
  exact h30_ S G a1 a2 a3 v4_71 hw H locs hP hD hS ls (lv_sub hl [1, 2, 3, 4, 0] rfl)
set_option maxHeartbeats 4000000 in
set_option maxRecDepth 100000 in
theorem tb_X9_round_100 {p : Program} {l : Launch} {e : Env} {s : State} {m : MethodId} {below : List Frame} {meth : Method} {c : Code} {args : Array Value} {dC : Nat → ClassId} {dI : Nat → Nat → Nat} {cI cJ cZ : ClassId} {o : Nat} {ad : Nat → Nat} {A : Nat → Prop} {Q : Int32 → mS → mG → Prop} (C : mCx p s m args meth c cX9_round 5 (some .int) wsX9_round A dC dI cI cJ cZ) {k14_ : mS → mG → Int32 → Int32 → Int32 → Prop} (h14_ : ∀ (S : mS) (G : mG) (a1 : Int32) (a2 : Int32) (a3 : Int32), k14_ S G a1 a2 a3 → mAt p l e rm_X9_round s m args below meth c dC dI cI cJ cZ o ad A (MQ below (va_Qi (fun r (u : mS × mG) => Q r u.1 u.2) (mB dC dI cI cJ cZ o ad A) A) args s 0 0 A) 14 5 [(0, .ref o), (1, .int a1), (2, .int a2), (3, .int a3)] [] S G) : ∀ (S : mS) (G : mG) (a1 : Int32) (a2 : Int32) (a3 : Int32), wp_X9_round_100 Q k14_ S G a1 a2 a3 → mAt p l e rm_X9_round s m args below meth c dC dI cI cJ cZ o ad A (MQ below (va_Qi (fun r (u : mS × mG) => Q r u.1 u.2) (mB dC dI cI cJ cZ o ad A) A) args s 0 0 A) 100 5 [(0, .ref o), (1, .int a1), (2, .int a2), (3, .int a3)] [] S G := by
  obtain ⟨hx, hb, hml, hown, hts, hr, hlocks, hA, hK⟩ := id C
  intro S G a1 a2 a3 hw H locs hP hD hS ls hl
  rw [wp_X9_round_100] at hw
  obtain ⟨v3_100, ev3_100⟩ : ∃ y : Int32, y = a3 + (1 : Int32) := ⟨_, rfl⟩
  have hw := hw v3_100 ev3_100
  refine lv_iinc (v := v3_100) (lv' := [(3, .int v3_100), (0, .ref o), (1, .int a1), (2, .int a2)]) hx hb dX9_round_100 hl (k := 3) rfl (by rw [ev3_100]; rfl) (by decide) rfl (fun ls hl => ?_)
  refine lv_goto (tgt := 14) hx hb dX9_round_103 (by decide) ?_
  exact h14_ S G a1 a2 v3_100 hw H locs hP hD hS ls (lv_sub hl [1, 2, 3, 0] rfl)
set_option maxHeartbeats 4000000 in
set_option maxRecDepth 100000 in
theorem tb_X9_round_77 {p : Program} {l : Launch} {e : Env} {s : State} {m : MethodId} {below : List Frame} {meth : Method} {c : Code} {args : Array Value} {dC : Nat → ClassId} {dI : Nat → Nat → Nat} {cI cJ cZ : ClassId} {o : Nat} {ad : Nat → Nat} {A : Nat → Prop} {Q : Int32 → mS → mG → Prop} (C : mCx p s m args meth c cX9_round 5 (some .int) wsX9_round A dC dI cI cJ cZ) {k14_ : mS → mG → Int32 → Int32 → Int32 → Prop} (h14_ : ∀ (S : mS) (G : mG) (a1 : Int32) (a2 : Int32) (a3 : Int32), k14_ S G a1 a2 a3 → mAt p l e rm_X9_round s m args below meth c dC dI cI cJ cZ o ad A (MQ below (va_Qi (fun r (u : mS × mG) => Q r u.1 u.2) (mB dC dI cI cJ cZ o ad A) A) args s 0 0 A) 14 5 [(0, .ref o), (1, .int a1), (2, .int a2), (3, .int a3)] [] S G) : ∀ (S : mS) (G : mG) (a1 : Int32) (a2 : Int32) (a3 : Int32), wp_X9_round_77 Q k14_ S G a1 a2 a3 → mAt p l e rm_X9_round s m args below meth c dC dI cI cJ cZ o ad A (MQ below (va_Qi (fun r (u : mS × mG) => Q r u.1 u.2) (mB dC dI cI cJ cZ o ad A) A) args s 0 0 A) 77 5 [(0, .ref o), (1, .int a1), (2, .int a2), (3, .int a3)] [] S G := by
  obtain ⟨hx, hb, hml, hown, hts, hr, hlocks, hA, hK⟩ := id C
  intro S G a1 a2 a3 hw H locs hP hD hS ls hl
  rw [wp_X9_round_77] at hw
  refine lv_iload_n hx hb dX9_round_77 rfl (lv_at hl 2 rfl) ?_
  refine lv_bipush (v := 41) hx hb dX9_round_78 (by decide) ?_
  refine lv_icmp_ne (tgt := 100) hx hb dX9_round_80 (by decide) (fun c_80 => ?_) (fun c_80 => ?_)
  · have hw := hw.1 c_80
    exact tb_X9_round_100 C h14_ S G a1 a2 a3 hw H locs hP hD hS ls (lv_sub hl [0, 1, 2, 3] rfl)
  · have hw := hw.2 c_80
    refine lv_aload_n hx hb dX9_round_83 rfl (lv_at hl 0 rfl) ?_
    refine va_get (D := (dC, dI)) (ci := 10) (v := .ref (ad 33)) (C := RX9) (T := TX9) (N := 38) hx hb hts iw_X9_round hown hK hP 0 rfl rfl 33 (by decide) (hts _ lk_X9_round_90) (fun _ h9 => h9) rfl dX9_round_84 ?_
    refine lv_iload_n hx hb dX9_round_87 rfl (lv_at hl 3 rfl) ?_
    refine va_lald hx hb hK hP 27 1 rfl rfl hw.1 dX9_round_88 ?_
    have hw := hw.2
    refine lv_iload_n hx hb dX9_round_89 rfl (lv_at hl 1 rfl) ?_
    refine lv_lshr hx hb dX9_round_90 rfl ?_
    refine lv_lconst (v := 1) hx hb dX9_round_91 (by decide) ?_
    refine lv_land hx hb dX9_round_92 ?_
    refine lv_lconst (v := 1) hx hb dX9_round_93 (by decide) ?_
    refine W.lcmp hx hb dX9_round_94 ?_
    refine lv_if_ne (tgt := 100) hx hb dX9_round_95 (by decide) (fun c_95 => ?_) (fun c_95 => ?_)
    · have hw := hw.1 c_95
      exact tb_X9_round_100 C h14_ S G a1 a2 a3 hw H locs hP hD hS ls (lv_sub hl [0, 1, 2, 3] rfl)
    · have hw := hw.2 c_95
      refine lv_iload_n hx hb dX9_round_98 rfl (lv_at hl 3 rfl) ?_
      refine lv_istore_n (lv' := [(2, .int a3), (0, .ref o), (1, .int a1), (3, .int a3)]) hx hb dX9_round_99 rfl hl (by decide) rfl (fun ls hl => ?_)
      exact tb_X9_round_100 C h14_ S G a1 a3 a3 hw H locs hP hD hS ls (lv_sub hl [1, 2, 0, 3] rfl)
set_option maxHeartbeats 4000000 in
set_option maxRecDepth 100000 in
theorem tb_X9_round_30 {p : Program} {l : Launch} {e : Env} {s : State} {m : MethodId} {below : List Frame} {meth : Method} {c : Code} {args : Array Value} {dC : Nat → ClassId} {dI : Nat → Nat → Nat} {cI cJ cZ : ClassId} {o : Nat} {ad : Nat → Nat} {A : Nat → Prop} {Q : Int32 → mS → mG → Prop} (C : mCx p s m args meth c cX9_round 5 (some .int) wsX9_round A dC dI cI cJ cZ) {k14_ : mS → mG → Int32 → Int32 → Int32 → Prop} (h14_ : ∀ (S : mS) (G : mG) (a1 : Int32) (a2 : Int32) (a3 : Int32), k14_ S G a1 a2 a3 → mAt p l e rm_X9_round s m args below meth c dC dI cI cJ cZ o ad A (MQ below (va_Qi (fun r (u : mS × mG) => Q r u.1 u.2) (mB dC dI cI cJ cZ o ad A) A) args s 0 0 A) 14 5 [(0, .ref o), (1, .int a1), (2, .int a2), (3, .int a3)] [] S G) : ∀ (n : Nat) (S : mS) (G : mG) (a1 : Int32) (a2 : Int32) (a3 : Int32) (a4 : Int32), wp_X9_round_30 Q k14_ n S G a1 a2 a3 a4 → mAt p l e rm_X9_round s m args below meth c dC dI cI cJ cZ o ad A (MQ below (va_Qi (fun r (u : mS × mG) => Q r u.1 u.2) (mB dC dI cI cJ cZ o ad A) A) args s 0 0 A) 30 5 [(0, .ref o), (1, .int a1), (2, .int a2), (3, .int a3), (4, .int a4)] [] S G := by
  obtain ⟨hx, hb, hml, hown, hts, hr, hlocks, hA, hK⟩ := id C
  intro n
  induction n with
  | zero => intro S G a1 a2 a3 a4 hw; exact hw.elim
  | succ n ih =>
    intro S G a1 a2 a3 a4 hw H locs hP hD hS ls hl
    rw [wp_X9_round_30] at hw
    refine lv_iload hx hb dX9_round_30 (lv_at hl 4 rfl) ?_
    refine lv_bipush (v := 40) hx hb dX9_round_32 (by decide) ?_
    refine lv_icmp_ge (tgt := 77) hx hb dX9_round_34 (by decide) (fun c_34 => ?_) (fun c_34 => ?_)
    · have hw := hw.1 c_34
      exact tb_X9_round_77 C h14_ S G a1 a2 a3 hw H locs hP hD hS ls (lv_sub hl [0, 1, 2, 3] rfl)
    · have hw := hw.2 c_34
      refine lv_aload_n hx hb dX9_round_37 rfl (lv_at hl 0 rfl) ?_
      refine va_get (D := (dC, dI)) (ci := 10) (v := .ref (ad 17)) (C := RX9) (T := TX9) (N := 38) hx hb hts iw_X9_round hown hK hP 0 rfl rfl 17 (by decide) (hts _ lk_X9_round_46) (fun _ h9 => h9) rfl dX9_round_38 ?_
      refine lv_iload hx hb dX9_round_41 (lv_at hl 4 rfl) ?_
      refine va_lald hx hb hK hP 13 1 rfl rfl hw.1 dX9_round_43 ?_
      have hw := hw.2
      refine lv_aload_n hx hb dX9_round_44 rfl (lv_at hl 0 rfl) ?_
      refine va_get (D := (dC, dI)) (ci := 10) (v := .ref (ad 33)) (C := RX9) (T := TX9) (N := 38) hx hb hts iw_X9_round hown hK hP 0 rfl rfl 33 (by decide) (hts _ lk_X9_round_90) (fun _ h9 => h9) rfl dX9_round_45 ?_
      refine lv_iload_n hx hb dX9_round_48 rfl (lv_at hl 3 rfl) ?_
      refine lv_iconst (v := 1) hx hb dX9_round_49 (by decide) ?_
      refine lv_isub hx hb dX9_round_50 ?_
      refine va_lald hx hb hK hP 27 1 rfl rfl hw.1 dX9_round_51 ?_
      have hw := hw.2
      refine lv_land hx hb dX9_round_52 ?_
      refine lv_lconst (v := 0) hx hb dX9_round_53 (by decide) ?_
      refine W.lcmp hx hb dX9_round_54 ?_
      refine lv_if_eq (tgt := 71) hx hb dX9_round_55 (by decide) (fun c_55 => ?_) (fun c_55 => ?_)
      · have hw := hw.1 c_55
        exact tb_X9_round_71 C h14_ ih S G a1 a2 a3 a4 hw H locs hP hD hS ls (lv_sub hl [0, 1, 2, 3, 4] rfl)
      · have hw := hw.2 c_55
        refine lv_aload_n hx hb dX9_round_58 rfl (lv_at hl 0 rfl) ?_
        refine va_get (D := (dC, dI)) (ci := 10) (v := .ref (ad 33)) (C := RX9) (T := TX9) (N := 38) hx hb hts iw_X9_round hown hK hP 0 rfl rfl 33 (by decide) (hts _ lk_X9_round_90) (fun _ h9 => h9) rfl dX9_round_59 ?_
        refine lv_iload_n hx hb dX9_round_62 rfl (lv_at hl 3 rfl) ?_
        refine lv_dup2_11 hx hb dX9_round_63 rfl rfl ?_
        refine va_lald hx hb hK hP 27 1 rfl rfl hw.1 dX9_round_64 ?_
        have hw := hw.2
        refine lv_lconst (v := 1) hx hb dX9_round_65 (by decide) ?_
        refine lv_iload hx hb dX9_round_66 (lv_at hl 4 rfl) ?_
        refine lv_lshl hx hb dX9_round_68 rfl ?_
        refine lv_lor hx hb dX9_round_69 ?_
        refine va_last hx hb hK hP hD hS 27 1 rfl rfl hw.1 dX9_round_70 (fun H locs hP hD hS => ?_)
        obtain ⟨G_70, eG_70⟩ : ∃ y : mG, y = mstL G 33 (Int32.toNatClampNeg a3) ((G 33 (Int32.toNatClampNeg a3)) ||| ((1 : Int64) <<< (Int32.toInt64 a4 &&& 63))) := ⟨_, rfl⟩
        have hw := hw.2 G_70 eG_70
        have hP : va_P (dC, dI) vwCl (mW cI cJ cZ o ad S G_70) H := by rw [eG_70]; exact hP
        have hD : va_D A (mW cI cJ cZ o ad S G_70) := by rw [eG_70]; exact hD
        exact tb_X9_round_71 C h14_ ih S G_70 a1 a2 a3 a4 hw H locs hP hD hS ls (lv_sub hl [0, 1, 2, 3, 4] rfl)
set_option maxHeartbeats 4000000 in
set_option maxRecDepth 100000 in
theorem tb_X9_round_14 {p : Program} {l : Launch} {e : Env} {s : State} {m : MethodId} {below : List Frame} {meth : Method} {c : Code} {args : Array Value} {dC : Nat → ClassId} {dI : Nat → Nat → Nat} {cI cJ cZ : ClassId} {o : Nat} {ad : Nat → Nat} {A : Nat → Prop} {Q : Int32 → mS → mG → Prop} (C : mCx p s m args meth c cX9_round 5 (some .int) wsX9_round A dC dI cI cJ cZ) : ∀ (n : Nat) (S : mS) (G : mG) (a1 : Int32) (a2 : Int32) (a3 : Int32), wp_X9_round_14 Q  n S G a1 a2 a3 → mAt p l e rm_X9_round s m args below meth c dC dI cI cJ cZ o ad A (MQ below (va_Qi (fun r (u : mS × mG) => Q r u.1 u.2) (mB dC dI cI cJ cZ o ad A) A) args s 0 0 A) 14 5 [(0, .ref o), (1, .int a1), (2, .int a2), (3, .int a3)] [] S G := by
  obtain ⟨hx, hb, hml, hown, hts, hr, hlocks, hA, hK⟩ := id C
  intro n
  induction n with
  | zero => intro S G a1 a2 a3 hw; exact hw.elim
  | succ n ih =>
    intro S G a1 a2 a3 hw H locs hP hD hS ls hl
    rw [wp_X9_round_14] at hw
    refine lv_iload_n hx hb dX9_round_14 rfl (lv_at hl 3 rfl) ?_
    refine lv_bipush (v := 40) hx hb dX9_round_15 (by decide) ?_
    refine lv_icmp_gt (tgt := 106) hx hb dX9_round_17 (by decide) (fun c_17 => ?_) (fun c_17 => ?_)
    · have hw := hw.1 c_17
      refine lv_iload_n hx hb dX9_round_106 rfl (lv_at hl 2 rfl) ?_
      exact W.iret (v := a2) hx hb hr (fun t ht hW => ⟨⟨a2, (S, G), rfl, hw, by rw [ht]; exact hP, va_K.moved hW.alike hK, hD⟩, hS.F ht⟩) hS.2.2 dX9_round_107
    · have hw := hw.2 c_17
      refine lv_aload_n hx hb dX9_round_20 rfl (lv_at hl 0 rfl) ?_
      refine va_get (D := (dC, dI)) (ci := 10) (v := .ref (ad 33)) (C := RX9) (T := TX9) (N := 38) hx hb hts iw_X9_round hown hK hP 0 rfl rfl 33 (by decide) (hts _ lk_X9_round_90) (fun _ h9 => h9) rfl dX9_round_21 ?_
      refine lv_iload_n hx hb dX9_round_24 rfl (lv_at hl 3 rfl) ?_
      refine lv_lconst (v := 0) hx hb dX9_round_25 (by decide) ?_
      refine va_last hx hb hK hP hD hS 27 1 rfl rfl hw.1 dX9_round_26 (fun H locs hP hD hS => ?_)
      obtain ⟨G_26, eG_26⟩ : ∃ y : mG, y = mstL G 33 (Int32.toNatClampNeg a3) (0 : Int64) := ⟨_, rfl⟩
      have hw := hw.2 G_26 eG_26
      have hP : va_P (dC, dI) vwCl (mW cI cJ cZ o ad S G_26) H := by rw [eG_26]; exact hP
      have hD : va_D A (mW cI cJ cZ o ad S G_26) := by rw [eG_26]; exact hD
      refine lv_iconst (v := 0) hx hb dX9_round_27 (by decide) ?_
      refine lv_istore (lv' := [(4, .int (0 : Int32)), (0, .ref o), (1, .int a1), (2, .int a2), (3, .int a3)]) hx hb dX9_round_28 hl (by decide) rfl (fun ls hl => ?_)
      obtain ⟨n9, hw⟩ := hw
      exact tb_X9_round_30 C ih n9 S G_26 a1 a2 a3 (0 : Int32) hw H locs hP hD hS ls (lv_sub hl [1, 2, 3, 4, 0] rfl)
set_option maxHeartbeats 4000000 in
set_option maxRecDepth 100000 in
theorem tb_X9_round_0 {p : Program} {l : Launch} {e : Env} {s : State} {m : MethodId} {below : List Frame} {meth : Method} {c : Code} {args : Array Value} {dC : Nat → ClassId} {dI : Nat → Nat → Nat} {cI cJ cZ : ClassId} {o : Nat} {ad : Nat → Nat} {A : Nat → Prop} {Q : Int32 → mS → mG → Prop} (C : mCx p s m args meth c cX9_round 5 (some .int) wsX9_round A dC dI cI cJ cZ) : ∀ (S : mS) (G : mG) (a1 : Int32), wp_X9_round_0 Q  S G a1 → mAt p l e rm_X9_round s m args below meth c dC dI cI cJ cZ o ad A (MQ below (va_Qi (fun r (u : mS × mG) => Q r u.1 u.2) (mB dC dI cI cJ cZ o ad A) A) args s 0 0 A) 0 5 [(0, .ref o), (1, .int a1)] [] S G := by
  obtain ⟨hx, hb, hml, hown, hts, hr, hlocks, hA, hK⟩ := id C
  intro S G a1 hw H locs hP hD hS ls hl
  rw [wp_X9_round_0] at hw
  refine lv_aload_n hx hb dX9_round_0 rfl (lv_at hl 0 rfl) ?_
  refine va_get (D := (dC, dI)) (ci := 10) (v := .ref (ad 33)) (C := RX9) (T := TX9) (N := 38) hx hb hts iw_X9_round hown hK hP 0 rfl rfl 33 (by decide) (hts _ lk_X9_round_90) (fun _ h9 => h9) rfl dX9_round_1 ?_
  refine lv_iconst (v := 0) hx hb dX9_round_4 (by decide) ?_
  refine lv_lconst (v := 1) hx hb dX9_round_5 (by decide) ?_
  refine lv_iload_n hx hb dX9_round_6 rfl (lv_at hl 1 rfl) ?_
  refine lv_lshl hx hb dX9_round_7 rfl ?_
  refine va_last hx hb hK hP hD hS 27 1 rfl rfl hw.1 dX9_round_8 (fun H locs hP hD hS => ?_)
  obtain ⟨G_8, eG_8⟩ : ∃ y : mG, y = mstL G 33 (Int32.toNatClampNeg (0 : Int32)) ((1 : Int64) <<< (Int32.toInt64 a1 &&& 63)) := ⟨_, rfl⟩
  have hw := hw.2 G_8 eG_8
  have hP : va_P (dC, dI) vwCl (mW cI cJ cZ o ad S G_8) H := by rw [eG_8]; exact hP
  have hD : va_D A (mW cI cJ cZ o ad S G_8) := by rw [eG_8]; exact hD
  refine lv_bipush (v := 41) hx hb dX9_round_9 (by decide) ?_
  refine lv_istore_n (lv' := [(2, .int (41 : Int32)), (0, .ref o), (1, .int a1)]) hx hb dX9_round_11 rfl hl (by decide) rfl (fun ls hl => ?_)
  refine lv_iconst (v := 1) hx hb dX9_round_12 (by decide) ?_
  refine lv_istore_n (lv' := [(3, .int (1 : Int32)), (2, .int (41 : Int32)), (0, .ref o), (1, .int a1)]) hx hb dX9_round_13 rfl hl (by decide) rfl (fun ls hl => ?_)
  obtain ⟨n9, hw⟩ := hw
  exact tb_X9_round_14 C  n9 S G_8 a1 (41 : Int32) (1 : Int32) hw H locs hP hD hS ls (lv_sub hl [2, 3, 1, 0] rfl)
set_option maxHeartbeats 4000000 in
set_option maxRecDepth 100000 in
theorem c_X9_round (l : Launch) (dC : Nat → ClassId) (dI : Nat → Nat → Nat) (cI cJ cZ : ClassId) (o : Nat) (ad : Nat → Nat) (S : mS) (G : mG) (sz : Nat) (a1 : Int32) (Q : Int32 → mS → mG → Prop) (hw : wp_X9_round_0 Q S G a1) : Met l yX9_round wsX9_round rm_X9_round (va_Pc [.ref o, .int a1] (mPre dC dI cI cJ cZ o ad S G sz)) (va_Qi (fun r (u : mS × mG) => Q r u.1 u.2) (mB dC dI cI cJ cZ o ad (mA cI cJ cZ o ad S G sz)) (mA cI cJ cZ o ad S G sz)) 0 0 (mA cI cJ cZ o ad S G sz) := by
  refine Met.ofW (cc := cX9_round) (maxL := 5) (ret := (some .int)) (by decide) rfl ?_
  intro p e s m args below meth c s₁ B hml hv
  obtain ⟨rfl, hsz, hP, hK, hD0⟩ := hv
  subst hsz
  have hl := lv_entry ([.ref o, .int a1]) (n := 5) (Nat.le_of_ble_eq_true rfl)
  rw [lg_entry_eq]
  generalize (lg_sl ([.ref o, .int a1]) ++ List.replicate (5 - (lg_sl ([.ref o, .int a1])).length) Slot.unset).toArray = ls at hl ⊢
  exact tb_X9_round_0 (Q := Q) (p := p) ⟨B.exec, B.bytes, hml, findClass_of_methodNamed B.named, atoms_spec (ws := wsX9_round) B.pre, B.returns, B.notSynchronized, fun q h => Or.inr h, hK⟩ S G a1 hw s.heap [] hP (hD0.self (sz := s.heap.size)) va_S.rf ls hl
theorem iw_X9_rings : ∀ w ∈ u_ws RX9 TX9 38, w ∈ wsX9_rings := fun w h => List.mem_cons_of_mem _ (by first | exact List.mem_append_right _ h | decide +kernel +revert)
theorem lk_X9_rings_46 : Cond.fieldLink RX9 46 "TermKeeperModel" "definitions" "[J" ∈ wsX9_rings := by decide +kernel
theorem lk_X9_rings_90 : Cond.fieldLink RX9 90 "TermKeeperModel" "back" "[J" ∈ wsX9_rings := by decide +kernel
theorem lk_X9_rings_93 : Cond.fieldLink RX9 93 "TermKeeperModel" "ringRow" "[I" ∈ wsX9_rings := by decide +kernel
abbrev rm_X9_rings : Room := { frames := 1, cells := 0, slots := 0, locals := 24 }
def wp_X9_rings_34 (Q : Int32 → mS → mG → Prop) (k7_ : mS → mG → Int32 → Int32 → Int32 → Prop) (S : mS) (G : mG) (a1 : Int32) (a2 : Int32) (a3 : Int32) : Prop :=
    (∀ v3_34 : Int32, v3_34 = a3 + (1 : Int32) →
      (k7_ S G a1 a2 v3_34))
def wp_X9_rings_108 (Q : Int32 → mS → mG → Prop) (k62_ : mS → mG → Int32 → Int32 → Prop) (S : mS) (G : mG) (a1 : Int32) (a3 : Int32) (a4 : Int32) : Prop :=
    (vp_in a3 40 ∧ ∀ S_115 : mS, S_115 = mst S 34 (Int32.toNatClampNeg a3) a4 →
      (∀ v3_116 : Int32, v3_116 = a3 + (1 : Int32) →
        (k62_ S_115 G a1 v3_116)))
def wp_X9_rings_70 (Q : Int32 → mS → mG → Prop) (k62_ : mS → mG → Int32 → Int32 → Prop) : Nat → mS → mG → Int32 → Int32 → Int32 → Prop
  | 0, _, _, _, _, _ => False
  | n + 1, S, G, a1, a3, a4 =>
    (vp_in (a3 - (1 : Int32)) 40 ∧
      (vp_in (S 34 (Int32.toNatClampNeg (a3 - (1 : Int32)))) 40 ∧
        (vp_in (a1 - a3) 41 ∧
          ((¬ (lg_cmp (((G 17 (Int32.toNatClampNeg (S 34 (Int32.toNatClampNeg (a3 - (1 : Int32)))))) &&& (G 33 (Int32.toNatClampNeg (a1 - a3)))) &&& ((1 : Int64) <<< (Int32.toInt64 a4 &&& 63))) (0 : Int64)) = 0 →
            (wp_X9_rings_108 Q k62_ S G a1 a3 a4))
           ∧ ((lg_cmp (((G 17 (Int32.toNatClampNeg (S 34 (Int32.toNatClampNeg (a3 - (1 : Int32)))))) &&& (G 33 (Int32.toNatClampNeg (a1 - a3)))) &&& ((1 : Int64) <<< (Int32.toInt64 a4 &&& 63))) (0 : Int64)) = 0 →
            (∀ v4_102 : Int32, v4_102 = a4 + (1 : Int32) →
              ((wp_X9_rings_70 Q k62_ n) S G a1 a3 v4_102)))))))
def wp_X9_rings_62 (Q : Int32 → mS → mG → Prop) : Nat → mS → mG → Int32 → Int32 → Prop
  | 0, _, _, _, _ => False
  | n + 1, S, G, a1, a3 =>
    ((a1 ≤ a3 →
      (Q a1 S G))
     ∧ (¬ a1 ≤ a3 →
      (∃ n9 : Nat, wp_X9_rings_70 Q (wp_X9_rings_62 Q  n) n9 S G a1 a3 (0 : Int32))))
def wp_X9_rings_40 (Q : Int32 → mS → mG → Prop) (S : mS) (G : mG) (a1 : Int32) (a2 : Int32) : Prop :=
    ((¬ a2 = (-1 : Int32) →
      (wp_X9_round_0 (fun r_49 S_49 G_49 =>
        (vp_in (0 : Int32) 40 ∧ ∀ S_59 : mS, S_59 = mst S_49 34 (Int32.toNatClampNeg (0 : Int32)) a2 →
          (∃ n9 : Nat, wp_X9_rings_62 Q  n9 S_59 G_49 a1 (1 : Int32)))) S G a2))
     ∧ (a2 = (-1 : Int32) →
      (Q (0 : Int32) S G)))
def wp_X9_rings_7 (Q : Int32 → mS → mG → Prop) : Nat → mS → mG → Int32 → Int32 → Int32 → Prop
  | 0, _, _, _, _, _ => False
  | n + 1, S, G, a1, a2, a3 =>
    (((40 : Int32) ≤ a3 →
      (wp_X9_rings_40 Q  S G a1 a2))
     ∧ (¬ (40 : Int32) ≤ a3 →
      (wp_X9_round_0 (fun r_15 S_15 G_15 =>
        ((r_15 < a1 →
          (wp_X9_rings_34 Q (wp_X9_rings_7 Q  n) S_15 G_15 r_15 a3 a3))
         ∧ (¬ r_15 < a1 →
          (wp_X9_rings_34 Q (wp_X9_rings_7 Q  n) S_15 G_15 a1 a2 a3)))) S G a3)))
def wp_X9_rings_0 (Q : Int32 → mS → mG → Prop) (S : mS) (G : mG) : Prop :=
    (∃ n9 : Nat, wp_X9_rings_7 Q  n9 S G (41 : Int32) (-1 : Int32) (0 : Int32))
set_option maxHeartbeats 4000000 in
set_option maxRecDepth 100000 in
theorem tb_X9_rings_34 {p : Program} {l : Launch} {e : Env} {s : State} {m : MethodId} {below : List Frame} {meth : Method} {c : Code} {args : Array Value} {dC : Nat → ClassId} {dI : Nat → Nat → Nat} {cI cJ cZ : ClassId} {o : Nat} {ad : Nat → Nat} {A : Nat → Prop} {Q : Int32 → mS → mG → Prop} (C : mCx p s m args meth c cX9_rings 5 (some .int) wsX9_rings A dC dI cI cJ cZ) {k7_ : mS → mG → Int32 → Int32 → Int32 → Prop} (h7_ : ∀ (S : mS) (G : mG) (a1 : Int32) (a2 : Int32) (a3 : Int32), k7_ S G a1 a2 a3 → mAt p l e rm_X9_rings s m args below meth c dC dI cI cJ cZ o ad A (MQ below (va_Qi (fun r (u : mS × mG) => Q r u.1 u.2) (mB dC dI cI cJ cZ o ad A) A) args s 0 0 A) 7 5 [(0, .ref o), (1, .int a1), (2, .int a2), (3, .int a3)] [] S G) : ∀ (S : mS) (G : mG) (a1 : Int32) (a2 : Int32) (a3 : Int32), wp_X9_rings_34 Q k7_ S G a1 a2 a3 → mAt p l e rm_X9_rings s m args below meth c dC dI cI cJ cZ o ad A (MQ below (va_Qi (fun r (u : mS × mG) => Q r u.1 u.2) (mB dC dI cI cJ cZ o ad A) A) args s 0 0 A) 34 5 [(0, .ref o), (1, .int a1), (2, .int a2), (3, .int a3)] [] S G := by
  obtain ⟨hx, hb, hml, hown, hts, hr, hlocks, hA, hK⟩ := id C
  intro S G a1 a2 a3 hw H locs hP hD hS ls hl
  rw [wp_X9_rings_34] at hw
  obtain ⟨v3_34, ev3_34⟩ : ∃ y : Int32, y = a3 + (1 : Int32) := ⟨_, rfl⟩
  have hw := hw v3_34 ev3_34
  refine lv_iinc (v := v3_34) (lv' := [(3, .int v3_34), (0, .ref o), (1, .int a1), (2, .int a2)]) hx hb dX9_rings_34 hl (k := 3) rfl (by rw [ev3_34]; rfl) (by decide) rfl (fun ls hl => ?_)
  refine lv_goto (tgt := 7) hx hb dX9_rings_37 (by decide) ?_
  exact h7_ S G a1 a2 v3_34 hw H locs hP hD hS ls (lv_sub hl [1, 2, 3, 0] rfl)
set_option maxHeartbeats 4000000 in
set_option maxRecDepth 100000 in
theorem tb_X9_rings_108 {p : Program} {l : Launch} {e : Env} {s : State} {m : MethodId} {below : List Frame} {meth : Method} {c : Code} {args : Array Value} {dC : Nat → ClassId} {dI : Nat → Nat → Nat} {cI cJ cZ : ClassId} {o : Nat} {ad : Nat → Nat} {A : Nat → Prop} {Q : Int32 → mS → mG → Prop} (C : mCx p s m args meth c cX9_rings 5 (some .int) wsX9_rings A dC dI cI cJ cZ) {k62_ : mS → mG → Int32 → Int32 → Prop} (h62_ : ∀ (S : mS) (G : mG) (a1 : Int32) (a3 : Int32), k62_ S G a1 a3 → mAt p l e rm_X9_rings s m args below meth c dC dI cI cJ cZ o ad A (MQ below (va_Qi (fun r (u : mS × mG) => Q r u.1 u.2) (mB dC dI cI cJ cZ o ad A) A) args s 0 0 A) 62 5 [(0, .ref o), (1, .int a1), (3, .int a3)] [] S G) : ∀ (S : mS) (G : mG) (a1 : Int32) (a3 : Int32) (a4 : Int32), wp_X9_rings_108 Q k62_ S G a1 a3 a4 → mAt p l e rm_X9_rings s m args below meth c dC dI cI cJ cZ o ad A (MQ below (va_Qi (fun r (u : mS × mG) => Q r u.1 u.2) (mB dC dI cI cJ cZ o ad A) A) args s 0 0 A) 108 5 [(0, .ref o), (1, .int a1), (3, .int a3), (4, .int a4)] [] S G := by
  obtain ⟨hx, hb, hml, hown, hts, hr, hlocks, hA, hK⟩ := id C
  intro S G a1 a3 a4 hw H locs hP hD hS ls hl
  rw [wp_X9_rings_108] at hw
  refine lv_aload_n hx hb dX9_rings_108 rfl (lv_at hl 0 rfl) ?_
  refine va_get (D := (dC, dI)) (ci := 10) (v := .ref (ad 34)) (C := RX9) (T := TX9) (N := 38) hx hb hts iw_X9_rings hown hK hP 0 rfl rfl 34 (by decide) (hts _ lk_X9_rings_93) (fun _ h9 => h9) rfl dX9_rings_109 ?_
  refine lv_iload_n hx hb dX9_rings_112 rfl (lv_at hl 2 rfl) ?_
  refine lv_iload hx hb dX9_rings_113 (lv_at hl 3 rfl) ?_
  refine va_iast hx hb hK hP hD hS 28 0 rfl rfl hw.1 dX9_rings_115 (fun H locs hP hD hS => ?_)
  obtain ⟨S_115, eS_115⟩ : ∃ y : mS, y = mst S 34 (Int32.toNatClampNeg a3) a4 := ⟨_, rfl⟩
  have hw := hw.2 S_115 eS_115
  have hP : va_P (dC, dI) vwCl (mW cI cJ cZ o ad S_115 G) H := by rw [eS_115]; exact hP
  have hD : va_D A (mW cI cJ cZ o ad S_115 G) := by rw [eS_115]; exact hD
  obtain ⟨v3_116, ev3_116⟩ : ∃ y : Int32, y = a3 + (1 : Int32) := ⟨_, rfl⟩
  have hw := hw v3_116 ev3_116
  refine lv_iinc (v := v3_116) (lv' := [(3, .int v3_116), (0, .ref o), (1, .int a1), (4, .int a4)]) hx hb dX9_rings_116 hl (k := 2) rfl (by rw [ev3_116]; rfl) (by decide) rfl (fun ls hl => ?_)
  refine lv_goto (tgt := 62) hx hb dX9_rings_119 (by decide) ?_
  exact h62_ S_115 G a1 v3_116 hw H locs hP hD hS ls (lv_sub hl [1, 2, 0] rfl)
set_option maxHeartbeats 4000000 in
set_option maxRecDepth 100000 in
theorem tb_X9_rings_70 {p : Program} {l : Launch} {e : Env} {s : State} {m : MethodId} {below : List Frame} {meth : Method} {c : Code} {args : Array Value} {dC : Nat → ClassId} {dI : Nat → Nat → Nat} {cI cJ cZ : ClassId} {o : Nat} {ad : Nat → Nat} {A : Nat → Prop} {Q : Int32 → mS → mG → Prop} (C : mCx p s m args meth c cX9_rings 5 (some .int) wsX9_rings A dC dI cI cJ cZ) {k62_ : mS → mG → Int32 → Int32 → Prop} (h62_ : ∀ (S : mS) (G : mG) (a1 : Int32) (a3 : Int32), k62_ S G a1 a3 → mAt p l e rm_X9_rings s m args below meth c dC dI cI cJ cZ o ad A (MQ below (va_Qi (fun r (u : mS × mG) => Q r u.1 u.2) (mB dC dI cI cJ cZ o ad A) A) args s 0 0 A) 62 5 [(0, .ref o), (1, .int a1), (3, .int a3)] [] S G) : ∀ (n : Nat) (S : mS) (G : mG) (a1 : Int32) (a3 : Int32) (a4 : Int32), wp_X9_rings_70 Q k62_ n S G a1 a3 a4 → mAt p l e rm_X9_rings s m args below meth c dC dI cI cJ cZ o ad A (MQ below (va_Qi (fun r (u : mS × mG) => Q r u.1 u.2) (mB dC dI cI cJ cZ o ad A) A) args s 0 0 A) 70 5 [(0, .ref o), (1, .int a1), (3, .int a3), (4, .int a4)] [] S G := by
  obtain ⟨hx, hb, hml, hown, hts, hr, hlocks, hA, hK⟩ := id C
  intro n
  induction n with
  | zero => intro S G a1 a3 a4 hw; exact hw.elim
  | succ n ih =>
    intro S G a1 a3 a4 hw H locs hP hD hS ls hl
    rw [wp_X9_rings_70] at hw
    refine lv_aload_n hx hb dX9_rings_70 rfl (lv_at hl 0 rfl) ?_
    refine va_get (D := (dC, dI)) (ci := 10) (v := .ref (ad 17)) (C := RX9) (T := TX9) (N := 38) hx hb hts iw_X9_rings hown hK hP 0 rfl rfl 17 (by decide) (hts _ lk_X9_rings_46) (fun _ h9 => h9) rfl dX9_rings_71 ?_
    refine lv_aload_n hx hb dX9_rings_74 rfl (lv_at hl 0 rfl) ?_
    refine va_get (D := (dC, dI)) (ci := 10) (v := .ref (ad 34)) (C := RX9) (T := TX9) (N := 38) hx hb hts iw_X9_rings hown hK hP 0 rfl rfl 34 (by decide) (hts _ lk_X9_rings_93) (fun _ h9 => h9) rfl dX9_rings_75 ?_
    refine lv_iload_n hx hb dX9_rings_78 rfl (lv_at hl 2 rfl) ?_
    refine lv_iconst (v := 1) hx hb dX9_rings_79 (by decide) ?_
    refine lv_isub hx hb dX9_rings_80 ?_
    refine va_iald hx hb hK hP 28 0 rfl rfl hw.1 dX9_rings_81 ?_
    have hw := hw.2
    refine va_lald hx hb hK hP 13 1 rfl rfl hw.1 dX9_rings_82 ?_
    have hw := hw.2
    refine lv_aload_n hx hb dX9_rings_83 rfl (lv_at hl 0 rfl) ?_
    refine va_get (D := (dC, dI)) (ci := 10) (v := .ref (ad 33)) (C := RX9) (T := TX9) (N := 38) hx hb hts iw_X9_rings hown hK hP 0 rfl rfl 33 (by decide) (hts _ lk_X9_rings_90) (fun _ h9 => h9) rfl dX9_rings_84 ?_
    refine lv_iload_n hx hb dX9_rings_87 rfl (lv_at hl 1 rfl) ?_
    refine lv_iload_n hx hb dX9_rings_88 rfl (lv_at hl 2 rfl) ?_
    refine lv_isub hx hb dX9_rings_89 ?_
    refine va_lald hx hb hK hP 27 1 rfl rfl hw.1 dX9_rings_90 ?_
    have hw := hw.2
    refine lv_land hx hb dX9_rings_91 ?_
    refine lv_lconst (v := 1) hx hb dX9_rings_92 (by decide) ?_
    refine lv_iload hx hb dX9_rings_93 (lv_at hl 3 rfl) ?_
    refine lv_lshl hx hb dX9_rings_95 rfl ?_
    refine lv_land hx hb dX9_rings_96 ?_
    refine lv_lconst (v := 0) hx hb dX9_rings_97 (by decide) ?_
    refine W.lcmp hx hb dX9_rings_98 ?_
    refine lv_if_ne (tgt := 108) hx hb dX9_rings_99 (by decide) (fun c_99 => ?_) (fun c_99 => ?_)
    · have hw := hw.1 c_99
      exact tb_X9_rings_108 C h62_ S G a1 a3 a4 hw H locs hP hD hS ls (lv_sub hl [0, 1, 2, 3] rfl)
    · have hw := hw.2 c_99
      obtain ⟨v4_102, ev4_102⟩ : ∃ y : Int32, y = a4 + (1 : Int32) := ⟨_, rfl⟩
      have hw := hw v4_102 ev4_102
      refine lv_iinc (v := v4_102) (lv' := [(4, .int v4_102), (0, .ref o), (1, .int a1), (3, .int a3)]) hx hb dX9_rings_102 hl (k := 3) rfl (by rw [ev4_102]; rfl) (by decide) rfl (fun ls hl => ?_)
      refine lv_goto (tgt := 70) hx hb dX9_rings_105 (by decide) ?_
      exact ih S G a1 a3 v4_102 hw H locs hP hD hS ls (lv_sub hl [1, 2, 3, 0] rfl)
set_option maxHeartbeats 4000000 in
set_option maxRecDepth 100000 in
theorem tb_X9_rings_62 {p : Program} {l : Launch} {e : Env} {s : State} {m : MethodId} {below : List Frame} {meth : Method} {c : Code} {args : Array Value} {dC : Nat → ClassId} {dI : Nat → Nat → Nat} {cI cJ cZ : ClassId} {o : Nat} {ad : Nat → Nat} {A : Nat → Prop} {Q : Int32 → mS → mG → Prop} (C : mCx p s m args meth c cX9_rings 5 (some .int) wsX9_rings A dC dI cI cJ cZ) : ∀ (n : Nat) (S : mS) (G : mG) (a1 : Int32) (a3 : Int32), wp_X9_rings_62 Q  n S G a1 a3 → mAt p l e rm_X9_rings s m args below meth c dC dI cI cJ cZ o ad A (MQ below (va_Qi (fun r (u : mS × mG) => Q r u.1 u.2) (mB dC dI cI cJ cZ o ad A) A) args s 0 0 A) 62 5 [(0, .ref o), (1, .int a1), (3, .int a3)] [] S G := by
  obtain ⟨hx, hb, hml, hown, hts, hr, hlocks, hA, hK⟩ := id C
  intro n
  induction n with
  | zero => intro S G a1 a3 hw; exact hw.elim
  | succ n ih =>
    intro S G a1 a3 hw H locs hP hD hS ls hl
    rw [wp_X9_rings_62] at hw
    refine lv_iload_n hx hb dX9_rings_62 rfl (lv_at hl 2 rfl) ?_
    refine lv_iload_n hx hb dX9_rings_63 rfl (lv_at hl 1 rfl) ?_
    refine lv_icmp_ge (tgt := 122) hx hb dX9_rings_64 (by decide) (fun c_64 => ?_) (fun c_64 => ?_)
    · have hw := hw.1 c_64
      refine lv_iload_n hx hb dX9_rings_122 rfl (lv_at hl 1 rfl) ?_
      exact W.iret (v := a1) hx hb hr (fun t ht hW => ⟨⟨a1, (S, G), rfl, hw, by rw [ht]; exact hP, va_K.moved hW.alike hK, hD⟩, hS.F ht⟩) hS.2.2 dX9_rings_123
    · have hw := hw.2 c_64
      refine lv_iconst (v := 0) hx hb dX9_rings_67 (by decide) ?_
      refine lv_istore (lv' := [(4, .int (0 : Int32)), (0, .ref o), (1, .int a1), (3, .int a3)]) hx hb dX9_rings_68 hl (by decide) rfl (fun ls hl => ?_)
      obtain ⟨n9, hw⟩ := hw
      exact tb_X9_rings_70 C ih n9 S G a1 a3 (0 : Int32) hw H locs hP hD hS ls (lv_sub hl [1, 2, 3, 0] rfl)
set_option maxHeartbeats 4000000 in
set_option maxRecDepth 100000 in
theorem tb_X9_rings_40 {p : Program} {l : Launch} {e : Env} {s : State} {m : MethodId} {below : List Frame} {meth : Method} {c : Code} {args : Array Value} {dC : Nat → ClassId} {dI : Nat → Nat → Nat} {cI cJ cZ : ClassId} {o : Nat} {ad : Nat → Nat} {A : Nat → Prop} {Q : Int32 → mS → mG → Prop} (C : mCx p s m args meth c cX9_rings 5 (some .int) wsX9_rings A dC dI cI cJ cZ) : ∀ (S : mS) (G : mG) (a1 : Int32) (a2 : Int32), wp_X9_rings_40 Q  S G a1 a2 → mAt p l e rm_X9_rings s m args below meth c dC dI cI cJ cZ o ad A (MQ below (va_Qi (fun r (u : mS × mG) => Q r u.1 u.2) (mB dC dI cI cJ cZ o ad A) A) args s 0 0 A) 40 5 [(0, .ref o), (1, .int a1), (2, .int a2)] [] S G := by
  obtain ⟨hx, hb, hml, hown, hts, hr, hlocks, hA, hK⟩ := id C
  intro S G a1 a2 hw H locs hP hD hS ls hl
  rw [wp_X9_rings_40] at hw
  refine lv_iload_n hx hb dX9_rings_40 rfl (lv_at hl 2 rfl) ?_
  refine lv_iconst (v := -1) hx hb dX9_rings_41 (by decide) ?_
  refine lv_icmp_ne (tgt := 47) hx hb dX9_rings_42 (by decide) (fun c_42 => ?_) (fun c_42 => ?_)
  · have hw := hw.1 c_42
    refine lv_aload_n hx hb dX9_rings_47 rfl (lv_at hl 0 rfl) ?_
    refine lv_iload_n hx hb dX9_rings_48 rfl (lv_at hl 2 rfl) ?_
    have hFc := mFree hD hS hA
    refine va_calli (va_runV (As := [.int a2]) (rest := []) ⟨hx, hb, hml, hown, hts⟩ (c_X9_round l dC dI cI cJ cZ o ad S G H.size a2 _ hw) (cwV 1 hts gX9_rings_X9_round rfl rfl rfl (by decide +kernel) ⟨Nat.le_of_ble_eq_true rfl, Nat.le_of_ble_eq_true rfl⟩) (mPreV [.int a2] hK hP hD) rfl rfl hl.1 rfl (lv_room (Nat.le_of_ble_eq_true rfl)) dX9_rings_49 ⟨Nat.zero_le _, Nat.zero_le _⟩) hS (fun q _ h => hFc q h) hFc (fun r_49 u t H1 locs ht hvm hw hB hz1 hk1 hS => ?_)
    obtain ⟨S_49, G_49⟩ := u
    obtain ⟨hP, -, hD1⟩ := hB
    rw [ht] at hP
    have hw := id hw
    have hP : va_P (dC, dI) vwCl (mW cI cJ cZ o ad S_49 G_49) H1 := hP
    have hD : va_D A (mW cI cJ cZ o ad S_49 G_49) := mGain hD1 hFc
    generalize H1 = H at hP hS ⊢
    refine lv_pop hx hb dX9_rings_52 rfl ?_
    refine lv_aload_n hx hb dX9_rings_53 rfl (lv_at hl 0 rfl) ?_
    refine va_get (D := (dC, dI)) (ci := 10) (v := .ref (ad 34)) (C := RX9) (T := TX9) (N := 38) hx hb hts iw_X9_rings hown hK hP 0 rfl rfl 34 (by decide) (hts _ lk_X9_rings_93) (fun _ h9 => h9) rfl dX9_rings_54 ?_
    refine lv_iconst (v := 0) hx hb dX9_rings_57 (by decide) ?_
    refine lv_iload_n hx hb dX9_rings_58 rfl (lv_at hl 2 rfl) ?_
    refine va_iast hx hb hK hP hD hS 28 0 rfl rfl hw.1 dX9_rings_59 (fun H locs hP hD hS => ?_)
    obtain ⟨S_59, eS_59⟩ : ∃ y : mS, y = mst S_49 34 (Int32.toNatClampNeg (0 : Int32)) a2 := ⟨_, rfl⟩
    have hw := hw.2 S_59 eS_59
    have hP : va_P (dC, dI) vwCl (mW cI cJ cZ o ad S_59 G_49) H := by rw [eS_59]; exact hP
    have hD : va_D A (mW cI cJ cZ o ad S_59 G_49) := by rw [eS_59]; exact hD
    refine lv_iconst (v := 1) hx hb dX9_rings_60 (by decide) ?_
    refine lv_istore_n (lv' := [(3, .int (1 : Int32)), (0, .ref o), (1, .int a1), (2, .int a2)]) hx hb dX9_rings_61 rfl hl (by decide) rfl (fun ls hl => ?_)
    obtain ⟨n9, hw⟩ := hw
    exact tb_X9_rings_62 C  n9 S_59 G_49 a1 (1 : Int32) hw H locs hP hD hS ls (lv_sub hl [1, 2, 0] rfl)
  · have hw := hw.2 c_42
    refine lv_iconst (v := 0) hx hb dX9_rings_45 (by decide) ?_
    exact W.iret (v := (0 : Int32)) hx hb hr (fun t ht hW => ⟨⟨(0 : Int32), (S, G), rfl, hw, by rw [ht]; exact hP, va_K.moved hW.alike hK, hD⟩, hS.F ht⟩) hS.2.2 dX9_rings_46
set_option maxHeartbeats 4000000 in
set_option maxRecDepth 100000 in
theorem tb_X9_rings_7 {p : Program} {l : Launch} {e : Env} {s : State} {m : MethodId} {below : List Frame} {meth : Method} {c : Code} {args : Array Value} {dC : Nat → ClassId} {dI : Nat → Nat → Nat} {cI cJ cZ : ClassId} {o : Nat} {ad : Nat → Nat} {A : Nat → Prop} {Q : Int32 → mS → mG → Prop} (C : mCx p s m args meth c cX9_rings 5 (some .int) wsX9_rings A dC dI cI cJ cZ) : ∀ (n : Nat) (S : mS) (G : mG) (a1 : Int32) (a2 : Int32) (a3 : Int32), wp_X9_rings_7 Q  n S G a1 a2 a3 → mAt p l e rm_X9_rings s m args below meth c dC dI cI cJ cZ o ad A (MQ below (va_Qi (fun r (u : mS × mG) => Q r u.1 u.2) (mB dC dI cI cJ cZ o ad A) A) args s 0 0 A) 7 5 [(0, .ref o), (1, .int a1), (2, .int a2), (3, .int a3)] [] S G := by
  obtain ⟨hx, hb, hml, hown, hts, hr, hlocks, hA, hK⟩ := id C
  intro n
  induction n with
  | zero => intro S G a1 a2 a3 hw; exact hw.elim
  | succ n ih =>
    intro S G a1 a2 a3 hw H locs hP hD hS ls hl
    rw [wp_X9_rings_7] at hw
    refine lv_iload_n hx hb dX9_rings_7 rfl (lv_at hl 3 rfl) ?_
    refine lv_bipush (v := 40) hx hb dX9_rings_8 (by decide) ?_
    refine lv_icmp_ge (tgt := 40) hx hb dX9_rings_10 (by decide) (fun c_10 => ?_) (fun c_10 => ?_)
    · have hw := hw.1 c_10
      exact tb_X9_rings_40 C  S G a1 a2 hw H locs hP hD hS ls (lv_sub hl [0, 1, 2] rfl)
    · have hw := hw.2 c_10
      refine lv_aload_n hx hb dX9_rings_13 rfl (lv_at hl 0 rfl) ?_
      refine lv_iload_n hx hb dX9_rings_14 rfl (lv_at hl 3 rfl) ?_
      have hFc := mFree hD hS hA
      refine va_calli (va_runV (As := [.int a3]) (rest := []) ⟨hx, hb, hml, hown, hts⟩ (c_X9_round l dC dI cI cJ cZ o ad S G H.size a3 _ hw) (cwV 1 hts gX9_rings_X9_round rfl rfl rfl (by decide +kernel) ⟨Nat.le_of_ble_eq_true rfl, Nat.le_of_ble_eq_true rfl⟩) (mPreV [.int a3] hK hP hD) rfl rfl hl.1 rfl (lv_room (Nat.le_of_ble_eq_true rfl)) dX9_rings_15 ⟨Nat.zero_le _, Nat.zero_le _⟩) hS (fun q _ h => hFc q h) hFc (fun r_15 u t H1 locs ht hvm hw hB hz1 hk1 hS => ?_)
      obtain ⟨S_15, G_15⟩ := u
      obtain ⟨hP, -, hD1⟩ := hB
      rw [ht] at hP
      have hw := id hw
      have hP : va_P (dC, dI) vwCl (mW cI cJ cZ o ad S_15 G_15) H1 := hP
      have hD : va_D A (mW cI cJ cZ o ad S_15 G_15) := mGain hD1 hFc
      generalize H1 = H at hP hS ⊢
      refine lv_istore (lv' := [(4, .int r_15), (0, .ref o), (1, .int a1), (2, .int a2), (3, .int a3)]) hx hb dX9_rings_18 hl (by decide) rfl (fun ls hl => ?_)
      refine lv_iload hx hb dX9_rings_20 (lv_at hl 0 rfl) ?_
      refine lv_iload_n hx hb dX9_rings_22 rfl (lv_at hl 2 rfl) ?_
      refine lv_icmp_lt (tgt := 29) hx hb dX9_rings_23 (by decide) (fun c_23 => ?_) (fun c_23 => ?_)
      · have hw := hw.1 c_23
        refine lv_iload hx hb dX9_rings_29 (lv_at hl 0 rfl) ?_
        refine lv_istore_n (lv' := [(1, .int r_15), (4, .int r_15), (0, .ref o), (2, .int a2), (3, .int a3)]) hx hb dX9_rings_31 rfl hl (by decide) rfl (fun ls hl => ?_)
        refine lv_iload_n hx hb dX9_rings_32 rfl (lv_at hl 4 rfl) ?_
        refine lv_istore_n (lv' := [(2, .int a3), (1, .int r_15), (4, .int r_15), (0, .ref o), (3, .int a3)]) hx hb dX9_rings_33 rfl hl (by decide) rfl (fun ls hl => ?_)
        exact tb_X9_rings_34 C ih S_15 G_15 r_15 a3 a3 hw H locs hP hD hS ls (lv_sub hl [3, 1, 0, 4] rfl)
      · have hw := hw.2 c_23
        refine lv_goto (tgt := 34) hx hb dX9_rings_26 (by decide) ?_
        exact tb_X9_rings_34 C ih S_15 G_15 a1 a2 a3 hw H locs hP hD hS ls (lv_sub hl [1, 2, 3, 4] rfl)
set_option maxHeartbeats 4000000 in
set_option maxRecDepth 100000 in
theorem tb_X9_rings_0 {p : Program} {l : Launch} {e : Env} {s : State} {m : MethodId} {below : List Frame} {meth : Method} {c : Code} {args : Array Value} {dC : Nat → ClassId} {dI : Nat → Nat → Nat} {cI cJ cZ : ClassId} {o : Nat} {ad : Nat → Nat} {A : Nat → Prop} {Q : Int32 → mS → mG → Prop} (C : mCx p s m args meth c cX9_rings 5 (some .int) wsX9_rings A dC dI cI cJ cZ) : ∀ (S : mS) (G : mG) , wp_X9_rings_0 Q  S G  → mAt p l e rm_X9_rings s m args below meth c dC dI cI cJ cZ o ad A (MQ below (va_Qi (fun r (u : mS × mG) => Q r u.1 u.2) (mB dC dI cI cJ cZ o ad A) A) args s 0 0 A) 0 5 [(0, .ref o)] [] S G := by
  obtain ⟨hx, hb, hml, hown, hts, hr, hlocks, hA, hK⟩ := id C
  intro S G  hw H locs hP hD hS ls hl
  rw [wp_X9_rings_0] at hw
  refine lv_bipush (v := 41) hx hb dX9_rings_0 (by decide) ?_
  refine lv_istore_n (lv' := [(1, .int (41 : Int32)), (0, .ref o)]) hx hb dX9_rings_2 rfl hl (by decide) rfl (fun ls hl => ?_)
  refine lv_iconst (v := -1) hx hb dX9_rings_3 (by decide) ?_
  refine lv_istore_n (lv' := [(2, .int (-1 : Int32)), (1, .int (41 : Int32)), (0, .ref o)]) hx hb dX9_rings_4 rfl hl (by decide) rfl (fun ls hl => ?_)
  refine lv_iconst (v := 0) hx hb dX9_rings_5 (by decide) ?_
  refine lv_istore_n (lv' := [(3, .int (0 : Int32)), (2, .int (-1 : Int32)), (1, .int (41 : Int32)), (0, .ref o)]) hx hb dX9_rings_6 rfl hl (by decide) rfl (fun ls hl => ?_)
  obtain ⟨n9, hw⟩ := hw
  exact tb_X9_rings_7 C  n9 S G (41 : Int32) (-1 : Int32) (0 : Int32) hw H locs hP hD hS ls (lv_sub hl [3, 2, 1, 0] rfl)
set_option maxHeartbeats 4000000 in
set_option maxRecDepth 100000 in
theorem c_X9_rings (l : Launch) (dC : Nat → ClassId) (dI : Nat → Nat → Nat) (cI cJ cZ : ClassId) (o : Nat) (ad : Nat → Nat) (S : mS) (G : mG) (sz : Nat)  (Q : Int32 → mS → mG → Prop) (hw : wp_X9_rings_0 Q S G ) : Met l yX9_rings wsX9_rings rm_X9_rings (va_Pc [.ref o] (mPre dC dI cI cJ cZ o ad S G sz)) (va_Qi (fun r (u : mS × mG) => Q r u.1 u.2) (mB dC dI cI cJ cZ o ad (mA cI cJ cZ o ad S G sz)) (mA cI cJ cZ o ad S G sz)) 0 0 (mA cI cJ cZ o ad S G sz) := by
  refine Met.ofW (cc := cX9_rings) (maxL := 5) (ret := (some .int)) (by decide) rfl ?_
  intro p e s m args below meth c s₁ B hml hv
  obtain ⟨rfl, hsz, hP, hK, hD0⟩ := hv
  subst hsz
  have hl := lv_entry ([.ref o]) (n := 5) (Nat.le_of_ble_eq_true rfl)
  rw [lg_entry_eq]
  generalize (lg_sl ([.ref o]) ++ List.replicate (5 - (lg_sl ([.ref o])).length) Slot.unset).toArray = ls at hl ⊢
  exact tb_X9_rings_0 (Q := Q) (p := p) ⟨B.exec, B.bytes, hml, findClass_of_methodNamed B.named, atoms_spec (ws := wsX9_rings) B.pre, B.returns, B.notSynchronized, fun q h => Or.inr h, hK⟩ S G  hw s.heap [] hP (hD0.self (sz := s.heap.size)) va_S.rf ls hl
theorem iw_X9_ring : ∀ w ∈ u_ws RX9 TX9 38, w ∈ wsX9_ring := fun w h => List.mem_cons_of_mem _ (by first | exact List.mem_append_right _ h | decide +kernel +revert)
theorem lk_X9_ring_93 : Cond.fieldLink RX9 93 "TermKeeperModel" "ringRow" "[I" ∈ wsX9_ring := by decide +kernel
theorem lk_X9_ring_105 : Cond.fieldLink RX9 105 "TermKeeperModel" "thrown" "I" ∈ wsX9_ring := by decide +kernel
abbrev rm_X9_ring : Room := { frames := 2, cells := 0, slots := 0, locals := 48 }
def wp_X9_ring_26 (Q : Int32 → mS → mG → Prop) (S : mS) (G : mG) (a1 : Int32) (a2 : Int32) (k0 : Int32) : Prop :=
    (wp_X9_right_0 (fun r_27 S_27 G_27 =>
      ((¬ r_27 = 0 →
        ((¬ a1 = (-1 : Int32) →
          (vp_in a1 40 ∧
            (Q (S_27 34 (Int32.toNatClampNeg a1)) S_27 G_27)))
         ∧ (a1 = (-1 : Int32) →
          (Q a2 S_27 G_27))))
       ∧ (r_27 = 0 →
        (Q (0 : Int32) S_27 G_27)))) S G k0 (1 : Int32))
def wp_X9_ring_25 (Q : Int32 → mS → mG → Prop) (S : mS) (G : mG) (a1 : Int32) (a2 : Int32) : Prop :=
    (wp_X9_ring_26 Q  S G a1 a2 (0 : Int32))
def wp_X9_ring_0 (Q : Int32 → mS → mG → Prop) (S : mS) (G : mG) (a1 : Int32) : Prop :=
    (∀ S_2 : mS, S_2 = mst S 0 0 (0 : Int32) →
      (wp_X9_rings_0 (fun r_6 S_6 G_6 =>
        ((a1 < (-1 : Int32) →
          (wp_X9_ring_25 Q  S_6 G_6 a1 r_6))
         ∧ (¬ a1 < (-1 : Int32) →
          ((r_6 ≤ a1 →
            (wp_X9_ring_25 Q  S_6 G_6 a1 r_6))
           ∧ (¬ r_6 ≤ a1 →
            (wp_X9_ring_26 Q  S_6 G_6 a1 r_6 (1 : Int32))))))) S_2 G ))
set_option maxHeartbeats 4000000 in
set_option maxRecDepth 100000 in
theorem tb_X9_ring_26 {p : Program} {l : Launch} {e : Env} {s : State} {m : MethodId} {below : List Frame} {meth : Method} {c : Code} {args : Array Value} {dC : Nat → ClassId} {dI : Nat → Nat → Nat} {cI cJ cZ : ClassId} {o : Nat} {ad : Nat → Nat} {A : Nat → Prop} {Q : Int32 → mS → mG → Prop} (C : mCx p s m args meth c cX9_ring 3 (some .int) wsX9_ring A dC dI cI cJ cZ) : ∀ (S : mS) (G : mG) (a1 : Int32) (a2 : Int32) (k0 : Int32), wp_X9_ring_26 Q  S G a1 a2 k0 → mAt p l e rm_X9_ring s m args below meth c dC dI cI cJ cZ o ad A (MQ below (va_Qi (fun r (u : mS × mG) => Q r u.1 u.2) (mB dC dI cI cJ cZ o ad A) A) args s 0 0 A) 26 3 [(0, .ref o), (1, .int a1), (2, .int a2)] [.int k0, .ref o] S G := by
  obtain ⟨hx, hb, hml, hown, hts, hr, hlocks, hA, hK⟩ := id C
  intro S G a1 a2 k0 hw H locs hP hD hS ls hl
  rw [wp_X9_ring_26] at hw
  refine lv_iconst (v := 1) hx hb dX9_ring_26 (by decide) ?_
  have hFc := mFree hD hS hA
  refine va_calli (va_runV (As := [.int k0, .int (1 : Int32)]) (rest := []) ⟨hx, hb, hml, hown, hts⟩ (c_X9_right l dC dI cI cJ cZ o ad S G H.size k0 (1 : Int32) _ hw) (cwV 2 hts gX9_ring_X9_right rfl rfl rfl (by decide +kernel) ⟨Nat.le_of_ble_eq_true rfl, Nat.le_of_ble_eq_true rfl⟩) (mPreV [.int k0, .int (1 : Int32)] hK hP hD) rfl rfl hl.1 rfl (lv_room (Nat.le_of_ble_eq_true rfl)) dX9_ring_27 ⟨Nat.zero_le _, Nat.zero_le _⟩) hS (fun q _ h => hFc q h) hFc (fun r_27 u t H1 locs ht hvm hw hB hz1 hk1 hS => ?_)
  obtain ⟨S_27, G_27⟩ := u
  obtain ⟨hP, -, hD1⟩ := hB
  rw [ht] at hP
  have hw := id hw
  have hP : va_P (dC, dI) vwCl (mW cI cJ cZ o ad S_27 G_27) H1 := hP
  have hD : va_D A (mW cI cJ cZ o ad S_27 G_27) := mGain hD1 hFc
  generalize H1 = H at hP hS ⊢
  refine lv_if_ne (tgt := 35) hx hb dX9_ring_30 (by decide) (fun c_30 => ?_) (fun c_30 => ?_)
  · have hw := hw.1 c_30
    refine lv_iload_n hx hb dX9_ring_35 rfl (lv_at hl 1 rfl) ?_
    refine lv_iconst (v := -1) hx hb dX9_ring_36 (by decide) ?_
    refine lv_icmp_ne (tgt := 44) hx hb dX9_ring_37 (by decide) (fun c_37 => ?_) (fun c_37 => ?_)
    · have hw := hw.1 c_37
      refine lv_aload_n hx hb dX9_ring_44 rfl (lv_at hl 0 rfl) ?_
      refine va_get (D := (dC, dI)) (ci := 10) (v := .ref (ad 34)) (C := RX9) (T := TX9) (N := 38) hx hb hts iw_X9_ring hown hK hP 0 rfl rfl 34 (by decide) (hts _ lk_X9_ring_93) (fun _ h9 => h9) rfl dX9_ring_45 ?_
      refine lv_iload_n hx hb dX9_ring_48 rfl (lv_at hl 1 rfl) ?_
      refine va_iald hx hb hK hP 28 0 rfl rfl hw.1 dX9_ring_49 ?_
      have hw := hw.2
      exact W.iret (v := (S_27 34 (Int32.toNatClampNeg a1))) hx hb hr (fun t ht hW => ⟨⟨(S_27 34 (Int32.toNatClampNeg a1)), (S_27, G_27), rfl, hw, by rw [ht]; exact hP, va_K.moved hW.alike hK, hD⟩, hS.F ht⟩) hS.2.2 dX9_ring_50
    · have hw := hw.2 c_37
      refine lv_iload_n hx hb dX9_ring_40 rfl (lv_at hl 2 rfl) ?_
      refine lv_goto (tgt := 50) hx hb dX9_ring_41 (by decide) ?_
      exact W.iret (v := a2) hx hb hr (fun t ht hW => ⟨⟨a2, (S_27, G_27), rfl, hw, by rw [ht]; exact hP, va_K.moved hW.alike hK, hD⟩, hS.F ht⟩) hS.2.2 dX9_ring_50
  · have hw := hw.2 c_30
    refine lv_iconst (v := 0) hx hb dX9_ring_33 (by decide) ?_
    exact W.iret (v := (0 : Int32)) hx hb hr (fun t ht hW => ⟨⟨(0 : Int32), (S_27, G_27), rfl, hw, by rw [ht]; exact hP, va_K.moved hW.alike hK, hD⟩, hS.F ht⟩) hS.2.2 dX9_ring_34
set_option maxHeartbeats 4000000 in
set_option maxRecDepth 100000 in
theorem tb_X9_ring_25 {p : Program} {l : Launch} {e : Env} {s : State} {m : MethodId} {below : List Frame} {meth : Method} {c : Code} {args : Array Value} {dC : Nat → ClassId} {dI : Nat → Nat → Nat} {cI cJ cZ : ClassId} {o : Nat} {ad : Nat → Nat} {A : Nat → Prop} {Q : Int32 → mS → mG → Prop} (C : mCx p s m args meth c cX9_ring 3 (some .int) wsX9_ring A dC dI cI cJ cZ) : ∀ (S : mS) (G : mG) (a1 : Int32) (a2 : Int32), wp_X9_ring_25 Q  S G a1 a2 → mAt p l e rm_X9_ring s m args below meth c dC dI cI cJ cZ o ad A (MQ below (va_Qi (fun r (u : mS × mG) => Q r u.1 u.2) (mB dC dI cI cJ cZ o ad A) A) args s 0 0 A) 25 3 [(0, .ref o), (1, .int a1), (2, .int a2)] [.ref o] S G := by
  obtain ⟨hx, hb, hml, hown, hts, hr, hlocks, hA, hK⟩ := id C
  intro S G a1 a2 hw H locs hP hD hS ls hl
  rw [wp_X9_ring_25] at hw
  refine lv_iconst (v := 0) hx hb dX9_ring_25 (by decide) ?_
  exact tb_X9_ring_26 C  S G a1 a2 (0 : Int32) hw H locs hP hD hS ls (lv_sub hl [0, 1, 2] rfl)
set_option maxHeartbeats 4000000 in
set_option maxRecDepth 100000 in
theorem tb_X9_ring_0 {p : Program} {l : Launch} {e : Env} {s : State} {m : MethodId} {below : List Frame} {meth : Method} {c : Code} {args : Array Value} {dC : Nat → ClassId} {dI : Nat → Nat → Nat} {cI cJ cZ : ClassId} {o : Nat} {ad : Nat → Nat} {A : Nat → Prop} {Q : Int32 → mS → mG → Prop} (C : mCx p s m args meth c cX9_ring 3 (some .int) wsX9_ring A dC dI cI cJ cZ) : ∀ (S : mS) (G : mG) (a1 : Int32), wp_X9_ring_0 Q  S G a1 → mAt p l e rm_X9_ring s m args below meth c dC dI cI cJ cZ o ad A (MQ below (va_Qi (fun r (u : mS × mG) => Q r u.1 u.2) (mB dC dI cI cJ cZ o ad A) A) args s 0 0 A) 0 3 [(0, .ref o), (1, .int a1)] [] S G := by
  obtain ⟨hx, hb, hml, hown, hts, hr, hlocks, hA, hK⟩ := id C
  intro S G a1 hw H locs hP hD hS ls hl
  rw [wp_X9_ring_0] at hw
  refine lv_aload_n hx hb dX9_ring_0 rfl (lv_at hl 0 rfl) ?_
  refine lv_iconst (v := 0) hx hb dX9_ring_1 (by decide) ?_
  refine va_put (D := (dC, dI)) (ci := 10) (v := .int (0 : Int32)) (C := RX9) (T := TX9) (N := 38) hx hb hts iw_X9_ring tyX9 tyX9_ok nmX9 hown hK hP hD hS 0 rfl rfl 0 (by decide) (hts _ lk_X9_ring_105) (fun _ h9 => h9) rfl (tyX9_ok 0 (by decide)) rfl rfl (Nat.le_of_ble_eq_true rfl) dX9_ring_2 (fun H locs hP hD hS => ?_)
  obtain ⟨S_2, eS_2⟩ : ∃ y : mS, y = mst S 0 0 (0 : Int32) := ⟨_, rfl⟩
  have hw := hw S_2 eS_2
  have hP : va_P (dC, dI) vwCl (mW cI cJ cZ o ad S_2 G) H := by rw [eS_2]; exact hP
  have hD : va_D A (mW cI cJ cZ o ad S_2 G) := by rw [eS_2]; exact hD
  refine lv_aload_n hx hb dX9_ring_5 rfl (lv_at hl 0 rfl) ?_
  have hFc := mFree hD hS hA
  refine va_calli (va_runV (As := []) (rest := []) ⟨hx, hb, hml, hown, hts⟩ (c_X9_rings l dC dI cI cJ cZ o ad S_2 G H.size  _ hw) (cwV 0 hts gX9_ring_X9_rings rfl rfl rfl (by decide +kernel) ⟨Nat.le_of_ble_eq_true rfl, Nat.le_of_ble_eq_true rfl⟩) (mPreV [] hK hP hD) rfl rfl hl.1 rfl (lv_room (Nat.le_of_ble_eq_true rfl)) dX9_ring_6 ⟨Nat.zero_le _, Nat.zero_le _⟩) hS (fun q _ h => hFc q h) hFc (fun r_6 u t H1 locs ht hvm hw hB hz1 hk1 hS => ?_)
  obtain ⟨S_6, G_6⟩ := u
  obtain ⟨hP, -, hD1⟩ := hB
  rw [ht] at hP
  have hw := id hw
  have hP : va_P (dC, dI) vwCl (mW cI cJ cZ o ad S_6 G_6) H1 := hP
  have hD : va_D A (mW cI cJ cZ o ad S_6 G_6) := mGain hD1 hFc
  generalize H1 = H at hP hS ⊢
  refine lv_istore_n (lv' := [(2, .int r_6), (0, .ref o), (1, .int a1)]) hx hb dX9_ring_9 rfl hl (by decide) rfl (fun ls hl => ?_)
  refine lv_aload_n hx hb dX9_ring_10 rfl (lv_at hl 1 rfl) ?_
  refine lv_iload_n hx hb dX9_ring_11 rfl (lv_at hl 2 rfl) ?_
  refine lv_iconst (v := -1) hx hb dX9_ring_12 (by decide) ?_
  refine lv_icmp_lt (tgt := 25) hx hb dX9_ring_13 (by decide) (fun c_13 => ?_) (fun c_13 => ?_)
  · have hw := hw.1 c_13
    exact tb_X9_ring_25 C  S_6 G_6 a1 r_6 hw H locs hP hD hS ls (lv_sub hl [1, 2, 0] rfl)
  · have hw := hw.2 c_13
    refine lv_iload_n hx hb dX9_ring_16 rfl (lv_at hl 2 rfl) ?_
    refine lv_iload_n hx hb dX9_ring_17 rfl (lv_at hl 0 rfl) ?_
    refine lv_icmp_ge (tgt := 25) hx hb dX9_ring_18 (by decide) (fun c_18 => ?_) (fun c_18 => ?_)
    · have hw := hw.1 c_18
      exact tb_X9_ring_25 C  S_6 G_6 a1 r_6 hw H locs hP hD hS ls (lv_sub hl [1, 2, 0] rfl)
    · have hw := hw.2 c_18
      refine lv_iconst (v := 1) hx hb dX9_ring_21 (by decide) ?_
      refine lv_goto (tgt := 26) hx hb dX9_ring_22 (by decide) ?_
      exact tb_X9_ring_26 C  S_6 G_6 a1 r_6 (1 : Int32) hw H locs hP hD hS ls (lv_sub hl [1, 2, 0] rfl)
set_option maxHeartbeats 4000000 in
set_option maxRecDepth 100000 in
theorem c_X9_ring (l : Launch) (dC : Nat → ClassId) (dI : Nat → Nat → Nat) (cI cJ cZ : ClassId) (o : Nat) (ad : Nat → Nat) (S : mS) (G : mG) (sz : Nat) (a1 : Int32) (Q : Int32 → mS → mG → Prop) (hw : wp_X9_ring_0 Q S G a1) : Met l yX9_ring wsX9_ring rm_X9_ring (va_Pc [.ref o, .int a1] (mPre dC dI cI cJ cZ o ad S G sz)) (va_Qi (fun r (u : mS × mG) => Q r u.1 u.2) (mB dC dI cI cJ cZ o ad (mA cI cJ cZ o ad S G sz)) (mA cI cJ cZ o ad S G sz)) 0 0 (mA cI cJ cZ o ad S G sz) := by
  refine Met.ofW (cc := cX9_ring) (maxL := 3) (ret := (some .int)) (by decide) rfl ?_
  intro p e s m args below meth c s₁ B hml hv
  obtain ⟨rfl, hsz, hP, hK, hD0⟩ := hv
  subst hsz
  have hl := lv_entry ([.ref o, .int a1]) (n := 3) (Nat.le_of_ble_eq_true rfl)
  rw [lg_entry_eq]
  generalize (lg_sl ([.ref o, .int a1]) ++ List.replicate (3 - (lg_sl ([.ref o, .int a1])).length) Slot.unset).toArray = ls at hl ⊢
  exact tb_X9_ring_0 (Q := Q) (p := p) ⟨B.exec, B.bytes, hml, findClass_of_methodNamed B.named, atoms_spec (ws := wsX9_ring) B.pre, B.returns, B.notSynchronized, fun q h => Or.inr h, hK⟩ S G a1 hw s.heap [] hP (hD0.self (sz := s.heap.size)) va_S.rf ls hl
theorem iw_X9_explains : ∀ w ∈ u_ws RX9 TX9 38, w ∈ wsX9_explains := fun w h => List.mem_cons_of_mem _ (by first | exact List.mem_append_right _ h | decide +kernel +revert)
theorem lk_X9_explains_46 : Cond.fieldLink RX9 46 "TermKeeperModel" "definitions" "[J" ∈ wsX9_explains := by decide +kernel
theorem lk_X9_explains_210 : Cond.constantLong RX9 210 (-1) ∈ wsX9_explains := by decide +kernel
abbrev rm_X9_explains : Room := { frames := 0, cells := 0, slots := 0, locals := 0 }
def wp_X9_explains_93 (Q : Int32 → mS → mG → Prop) (k6_ : mS → mG → Int64 → Int64 → Int32 → Prop) (k17_ : mS → mG → Int64 → Int64 → Int32 → Int32 → Prop) (S : mS) (G : mG) (a3 : Int64) (a5 : Int64) (a7 : Int32) (a8 : Int32) : Prop :=
    (∀ v8_93 : Int32, v8_93 = a8 + (1 : Int32) →
      (k17_ S G a3 a5 a7 v8_93))
def wp_X9_explains_99 (Q : Int32 → mS → mG → Prop) (k6_ : mS → mG → Int64 → Int64 → Int32 → Prop) (S : mS) (G : mG) (a3 : Int64) (a5 : Int64) (a7 : Int32) : Prop :=
    (k6_ S G a3 a5 a7)
def wp_X9_explains_17 (Q : Int32 → mS → mG → Prop) (k6_ : mS → mG → Int64 → Int64 → Int32 → Prop) : Nat → mS → mG → Int64 → Int64 → Int32 → Int32 → Prop
  | 0, _, _, _, _, _, _ => False
  | n + 1, S, G, a3, a5, a7, a8 =>
    (((40 : Int32) ≤ a8 →
      (wp_X9_explains_99 Q k6_ S G a3 a5 a7))
     ∧ (¬ (40 : Int32) ≤ a8 →
      (((lg_cmp ((a3 >>> (Int32.toInt64 a8 &&& 63)) &&& (1 : Int64)) (0 : Int64)) = 0 →
        (wp_X9_explains_93 Q k6_ (wp_X9_explains_17 Q k6_ n) S G a3 a5 a7 a8))
       ∧ (¬ (lg_cmp ((a3 >>> (Int32.toInt64 a8 &&& 63)) &&& (1 : Int64)) (0 : Int64)) = 0 →
        (((lg_cmp ((a5 >>> (Int32.toInt64 a8 &&& 63)) &&& (1 : Int64)) (1 : Int64)) = 0 →
          (wp_X9_explains_93 Q k6_ (wp_X9_explains_17 Q k6_ n) S G a3 a5 a7 a8))
         ∧ (¬ (lg_cmp ((a5 >>> (Int32.toInt64 a8 &&& 63)) &&& (1 : Int64)) (1 : Int64)) = 0 →
          (vp_in a8 40 ∧
            (((lg_cmp (G 17 (Int32.toNatClampNeg a8)) (0 : Int64)) = 0 →
              (wp_X9_explains_93 Q k6_ (wp_X9_explains_17 Q k6_ n) S G a3 a5 a7 a8))
             ∧ (¬ (lg_cmp (G 17 (Int32.toNatClampNeg a8)) (0 : Int64)) = 0 →
              (vp_in a8 40 ∧
                (((lg_cmp ((G 17 (Int32.toNatClampNeg a8)) &&& (a5 ^^^ (-1 : Int64))) (0 : Int64)) = 0 →
                  (∀ v5_88 : Int64, v5_88 = (a5 ||| ((1 : Int64) <<< (Int32.toInt64 a8 &&& 63))) →
                    (wp_X9_explains_93 Q k6_ (wp_X9_explains_17 Q k6_ n) S G a3 v5_88 (1 : Int32) a8)))
                 ∧ (¬ (lg_cmp ((G 17 (Int32.toNatClampNeg a8)) &&& (a5 ^^^ (-1 : Int64))) (0 : Int64)) = 0 →
                  (wp_X9_explains_93 Q k6_ (wp_X9_explains_17 Q k6_ n) S G a3 a5 a7 a8)))))))))))))
def wp_X9_explains_102 (Q : Int32 → mS → mG → Prop) (S : mS) (G : mG) (a3 : Int64) (a5 : Int64) : Prop :=
    ((¬ (lg_cmp a5 a3) = 0 →
      (Q (0 : Int32) S G))
     ∧ ((lg_cmp a5 a3) = 0 →
      (Q (1 : Int32) S G)))
def wp_X9_explains_6 (Q : Int32 → mS → mG → Prop) : Nat → mS → mG → Int64 → Int64 → Int32 → Prop
  | 0, _, _, _, _, _ => False
  | n + 1, S, G, a3, a5, a7 =>
    ((a7 = 0 →
      (wp_X9_explains_102 Q  S G a3 a5))
     ∧ (¬ a7 = 0 →
      (∃ n9 : Nat, wp_X9_explains_17 Q (wp_X9_explains_6 Q  n) n9 S G a3 a5 (0 : Int32) (0 : Int32))))
def wp_X9_explains_0 (Q : Int32 → mS → mG → Prop) (S : mS) (G : mG) (a1 : Int64) (a3 : Int64) : Prop :=
    (∃ n9 : Nat, wp_X9_explains_6 Q  n9 S G a3 a1 (1 : Int32))
set_option maxHeartbeats 4000000 in
set_option maxRecDepth 100000 in
theorem tb_X9_explains_93 {p : Program} {l : Launch} {e : Env} {s : State} {m : MethodId} {below : List Frame} {meth : Method} {c : Code} {args : Array Value} {dC : Nat → ClassId} {dI : Nat → Nat → Nat} {cI cJ cZ : ClassId} {o : Nat} {ad : Nat → Nat} {A : Nat → Prop} {Q : Int32 → mS → mG → Prop} (C : mCx p s m args meth c cX9_explains 9 (some .boolean) wsX9_explains A dC dI cI cJ cZ) {k6_ : mS → mG → Int64 → Int64 → Int32 → Prop} (h6_ : ∀ (S : mS) (G : mG) (a3 : Int64) (a5 : Int64) (a7 : Int32), k6_ S G a3 a5 a7 → mAt p l e rm_X9_explains s m args below meth c dC dI cI cJ cZ o ad A (MQ below (va_Qi (fun r (u : mS × mG) => Q r u.1 u.2) (mB dC dI cI cJ cZ o ad A) A) args s 0 0 A) 6 9 [(0, .ref o), (3, .long a3), (5, .long a5), (7, .int a7)] [] S G) {k17_ : mS → mG → Int64 → Int64 → Int32 → Int32 → Prop} (h17_ : ∀ (S : mS) (G : mG) (a3 : Int64) (a5 : Int64) (a7 : Int32) (a8 : Int32), k17_ S G a3 a5 a7 a8 → mAt p l e rm_X9_explains s m args below meth c dC dI cI cJ cZ o ad A (MQ below (va_Qi (fun r (u : mS × mG) => Q r u.1 u.2) (mB dC dI cI cJ cZ o ad A) A) args s 0 0 A) 17 9 [(0, .ref o), (3, .long a3), (5, .long a5), (7, .int a7), (8, .int a8)] [] S G) : ∀ (S : mS) (G : mG) (a3 : Int64) (a5 : Int64) (a7 : Int32) (a8 : Int32), wp_X9_explains_93 Q k6_ k17_ S G a3 a5 a7 a8 → mAt p l e rm_X9_explains s m args below meth c dC dI cI cJ cZ o ad A (MQ below (va_Qi (fun r (u : mS × mG) => Q r u.1 u.2) (mB dC dI cI cJ cZ o ad A) A) args s 0 0 A) 93 9 [(0, .ref o), (3, .long a3), (5, .long a5), (7, .int a7), (8, .int a8)] [] S G := by
  obtain ⟨hx, hb, hml, hown, hts, hr, hlocks, hA, hK⟩ := id C
  intro S G a3 a5 a7 a8 hw H locs hP hD hS ls hl
  rw [wp_X9_explains_93] at hw
  obtain ⟨v8_93, ev8_93⟩ : ∃ y : Int32, y = a8 + (1 : Int32) := ⟨_, rfl⟩
  have hw := hw v8_93 ev8_93
  refine lv_iinc (v := v8_93) (lv' := [(8, .int v8_93), (0, .ref o), (3, .long a3), (5, .long a5), (7, .int a7)]) hx hb dX9_explains_93 hl (k := 4) rfl (by rw [ev8_93]; rfl) (by decide) rfl (fun ls hl => ?_)
  refine lv_goto (tgt := 17) hx hb dX9_explains_96 (by decide) ?_
  exact h17_ S G a3 a5 a7 v8_93 hw H locs hP hD hS ls (lv_sub hl [1, 2, 3, 4, 0] rfl)
set_option maxHeartbeats 4000000 in
set_option maxRecDepth 100000 in
theorem tb_X9_explains_99 {p : Program} {l : Launch} {e : Env} {s : State} {m : MethodId} {below : List Frame} {meth : Method} {c : Code} {args : Array Value} {dC : Nat → ClassId} {dI : Nat → Nat → Nat} {cI cJ cZ : ClassId} {o : Nat} {ad : Nat → Nat} {A : Nat → Prop} {Q : Int32 → mS → mG → Prop} (C : mCx p s m args meth c cX9_explains 9 (some .boolean) wsX9_explains A dC dI cI cJ cZ) {k6_ : mS → mG → Int64 → Int64 → Int32 → Prop} (h6_ : ∀ (S : mS) (G : mG) (a3 : Int64) (a5 : Int64) (a7 : Int32), k6_ S G a3 a5 a7 → mAt p l e rm_X9_explains s m args below meth c dC dI cI cJ cZ o ad A (MQ below (va_Qi (fun r (u : mS × mG) => Q r u.1 u.2) (mB dC dI cI cJ cZ o ad A) A) args s 0 0 A) 6 9 [(0, .ref o), (3, .long a3), (5, .long a5), (7, .int a7)] [] S G) : ∀ (S : mS) (G : mG) (a3 : Int64) (a5 : Int64) (a7 : Int32), wp_X9_explains_99 Q k6_ S G a3 a5 a7 → mAt p l e rm_X9_explains s m args below meth c dC dI cI cJ cZ o ad A (MQ below (va_Qi (fun r (u : mS × mG) => Q r u.1 u.2) (mB dC dI cI cJ cZ o ad A) A) args s 0 0 A) 99 9 [(0, .ref o), (3, .long a3), (5, .long a5), (7, .int a7)] [] S G := by
  obtain ⟨hx, hb, hml, hown, hts, hr, hlocks, hA, hK⟩ := id C
  intro S G a3 a5 a7 hw H locs hP hD hS ls hl
  rw [wp_X9_explains_99] at hw
  refine lv_goto (tgt := 6) hx hb dX9_explains_99 (by decide) ?_
  exact h6_ S G a3 a5 a7 hw H locs hP hD hS ls (lv_sub hl [0, 1, 2, 3] rfl)
set_option maxHeartbeats 4000000 in
set_option maxRecDepth 100000 in
theorem tb_X9_explains_17 {p : Program} {l : Launch} {e : Env} {s : State} {m : MethodId} {below : List Frame} {meth : Method} {c : Code} {args : Array Value} {dC : Nat → ClassId} {dI : Nat → Nat → Nat} {cI cJ cZ : ClassId} {o : Nat} {ad : Nat → Nat} {A : Nat → Prop} {Q : Int32 → mS → mG → Prop} (C : mCx p s m args meth c cX9_explains 9 (some .boolean) wsX9_explains A dC dI cI cJ cZ) {k6_ : mS → mG → Int64 → Int64 → Int32 → Prop} (h6_ : ∀ (S : mS) (G : mG) (a3 : Int64) (a5 : Int64) (a7 : Int32), k6_ S G a3 a5 a7 → mAt p l e rm_X9_explains s m args below meth c dC dI cI cJ cZ o ad A (MQ below (va_Qi (fun r (u : mS × mG) => Q r u.1 u.2) (mB dC dI cI cJ cZ o ad A) A) args s 0 0 A) 6 9 [(0, .ref o), (3, .long a3), (5, .long a5), (7, .int a7)] [] S G) : ∀ (n : Nat) (S : mS) (G : mG) (a3 : Int64) (a5 : Int64) (a7 : Int32) (a8 : Int32), wp_X9_explains_17 Q k6_ n S G a3 a5 a7 a8 → mAt p l e rm_X9_explains s m args below meth c dC dI cI cJ cZ o ad A (MQ below (va_Qi (fun r (u : mS × mG) => Q r u.1 u.2) (mB dC dI cI cJ cZ o ad A) A) args s 0 0 A) 17 9 [(0, .ref o), (3, .long a3), (5, .long a5), (7, .int a7), (8, .int a8)] [] S G := by
  obtain ⟨hx, hb, hml, hown, hts, hr, hlocks, hA, hK⟩ := id C
  intro n
  induction n with
  | zero => intro S G a3 a5 a7 a8 hw; exact hw.elim
  | succ n ih =>
    intro S G a3 a5 a7 a8 hw H locs hP hD hS ls hl
    rw [wp_X9_explains_17] at hw
    refine lv_iload hx hb dX9_explains_17 (lv_at hl 4 rfl) ?_
    refine lv_bipush (v := 40) hx hb dX9_explains_19 (by decide) ?_
    refine lv_icmp_ge (tgt := 99) hx hb dX9_explains_21 (by decide) (fun c_21 => ?_) (fun c_21 => ?_)
    · have hw := hw.1 c_21
      exact tb_X9_explains_99 C h6_ S G a3 a5 a7 hw H locs hP hD hS ls (lv_sub hl [0, 1, 2, 3] rfl)
    · have hw := hw.2 c_21
      refine lv_lload_n hx hb dX9_explains_24 rfl (lv_at hl 1 rfl) ?_
      refine lv_iload hx hb dX9_explains_25 (lv_at hl 4 rfl) ?_
      refine lv_lshr hx hb dX9_explains_27 rfl ?_
      refine lv_lconst (v := 1) hx hb dX9_explains_28 (by decide) ?_
      refine lv_land hx hb dX9_explains_29 ?_
      refine lv_lconst (v := 0) hx hb dX9_explains_30 (by decide) ?_
      refine W.lcmp hx hb dX9_explains_31 ?_
      refine lv_if_eq (tgt := 93) hx hb dX9_explains_32 (by decide) (fun c_32 => ?_) (fun c_32 => ?_)
      · have hw := hw.1 c_32
        exact tb_X9_explains_93 C h6_ ih S G a3 a5 a7 a8 hw H locs hP hD hS ls (lv_sub hl [0, 1, 2, 3, 4] rfl)
      · have hw := hw.2 c_32
        refine lv_lload hx hb dX9_explains_35 (lv_at hl 2 rfl) ?_
        refine lv_iload hx hb dX9_explains_37 (lv_at hl 4 rfl) ?_
        refine lv_lshr hx hb dX9_explains_39 rfl ?_
        refine lv_lconst (v := 1) hx hb dX9_explains_40 (by decide) ?_
        refine lv_land hx hb dX9_explains_41 ?_
        refine lv_lconst (v := 1) hx hb dX9_explains_42 (by decide) ?_
        refine W.lcmp hx hb dX9_explains_43 ?_
        refine lv_if_eq (tgt := 93) hx hb dX9_explains_44 (by decide) (fun c_44 => ?_) (fun c_44 => ?_)
        · have hw := hw.1 c_44
          exact tb_X9_explains_93 C h6_ ih S G a3 a5 a7 a8 hw H locs hP hD hS ls (lv_sub hl [0, 1, 2, 3, 4] rfl)
        · have hw := hw.2 c_44
          refine lv_aload_n hx hb dX9_explains_47 rfl (lv_at hl 0 rfl) ?_
          refine va_get (D := (dC, dI)) (ci := 10) (v := .ref (ad 17)) (C := RX9) (T := TX9) (N := 38) hx hb hts iw_X9_explains hown hK hP 0 rfl rfl 17 (by decide) (hts _ lk_X9_explains_46) (fun _ h9 => h9) rfl dX9_explains_48 ?_
          refine lv_iload hx hb dX9_explains_51 (lv_at hl 4 rfl) ?_
          refine va_lald hx hb hK hP 13 1 rfl rfl hw.1 dX9_explains_53 ?_
          have hw := hw.2
          refine lv_lconst (v := 0) hx hb dX9_explains_54 (by decide) ?_
          refine W.lcmp hx hb dX9_explains_55 ?_
          refine lv_if_eq (tgt := 93) hx hb dX9_explains_56 (by decide) (fun c_56 => ?_) (fun c_56 => ?_)
          · have hw := hw.1 c_56
            exact tb_X9_explains_93 C h6_ ih S G a3 a5 a7 a8 hw H locs hP hD hS ls (lv_sub hl [0, 1, 2, 3, 4] rfl)
          · have hw := hw.2 c_56
            refine lv_aload_n hx hb dX9_explains_59 rfl (lv_at hl 0 rfl) ?_
            refine va_get (D := (dC, dI)) (ci := 10) (v := .ref (ad 17)) (C := RX9) (T := TX9) (N := 38) hx hb hts iw_X9_explains hown hK hP 0 rfl rfl 17 (by decide) (hts _ lk_X9_explains_46) (fun _ h9 => h9) rfl dX9_explains_60 ?_
            refine lv_iload hx hb dX9_explains_63 (lv_at hl 4 rfl) ?_
            refine va_lald hx hb hK hP 13 1 rfl rfl hw.1 dX9_explains_65 ?_
            have hw := hw.2
            refine lv_lload hx hb dX9_explains_66 (lv_at hl 2 rfl) ?_
            refine lv_ldc2 (v := -1) hx hb hown (hts _ lk_X9_explains_210) dX9_explains_68 ?_
            refine lv_lxor hx hb dX9_explains_71 ?_
            refine lv_land hx hb dX9_explains_72 ?_
            refine lv_lconst (v := 0) hx hb dX9_explains_73 (by decide) ?_
            refine W.lcmp hx hb dX9_explains_74 ?_
            refine lv_if_eq (tgt := 81) hx hb dX9_explains_75 (by decide) (fun c_75 => ?_) (fun c_75 => ?_)
            · have hw := hw.1 c_75
              refine lv_lload hx hb dX9_explains_81 (lv_at hl 2 rfl) ?_
              refine lv_lconst (v := 1) hx hb dX9_explains_83 (by decide) ?_
              refine lv_iload hx hb dX9_explains_84 (lv_at hl 4 rfl) ?_
              refine lv_lshl hx hb dX9_explains_86 rfl ?_
              refine lv_lor hx hb dX9_explains_87 ?_
              refine lv_topl (fun v5_88 ev5_88 => ?_)
              have hw := hw v5_88 ev5_88
              refine lv_lstore (lv' := [(5, .long v5_88), (0, .ref o), (3, .long a3), (7, .int a7), (8, .int a8)]) hx hb dX9_explains_88 hl (by decide) rfl (fun ls hl => ?_)
              refine lv_iconst (v := 1) hx hb dX9_explains_90 (by decide) ?_
              refine lv_istore (lv' := [(7, .int (1 : Int32)), (5, .long v5_88), (0, .ref o), (3, .long a3), (8, .int a8)]) hx hb dX9_explains_91 hl (by decide) rfl (fun ls hl => ?_)
              exact tb_X9_explains_93 C h6_ ih S G a3 v5_88 (1 : Int32) a8 hw H locs hP hD hS ls (lv_sub hl [2, 3, 1, 0, 4] rfl)
            · have hw := hw.2 c_75
              refine lv_goto (tgt := 93) hx hb dX9_explains_78 (by decide) ?_
              exact tb_X9_explains_93 C h6_ ih S G a3 a5 a7 a8 hw H locs hP hD hS ls (lv_sub hl [0, 1, 2, 3, 4] rfl)
set_option maxHeartbeats 4000000 in
set_option maxRecDepth 100000 in
theorem tb_X9_explains_102 {p : Program} {l : Launch} {e : Env} {s : State} {m : MethodId} {below : List Frame} {meth : Method} {c : Code} {args : Array Value} {dC : Nat → ClassId} {dI : Nat → Nat → Nat} {cI cJ cZ : ClassId} {o : Nat} {ad : Nat → Nat} {A : Nat → Prop} {Q : Int32 → mS → mG → Prop} (C : mCx p s m args meth c cX9_explains 9 (some .boolean) wsX9_explains A dC dI cI cJ cZ) : ∀ (S : mS) (G : mG) (a3 : Int64) (a5 : Int64), wp_X9_explains_102 Q  S G a3 a5 → mAt p l e rm_X9_explains s m args below meth c dC dI cI cJ cZ o ad A (MQ below (va_Qi (fun r (u : mS × mG) => Q r u.1 u.2) (mB dC dI cI cJ cZ o ad A) A) args s 0 0 A) 102 9 [(0, .ref o), (3, .long a3), (5, .long a5)] [] S G := by
  obtain ⟨hx, hb, hml, hown, hts, hr, hlocks, hA, hK⟩ := id C
  intro S G a3 a5 hw H locs hP hD hS ls hl
  rw [wp_X9_explains_102] at hw
  refine lv_lload hx hb dX9_explains_102 (lv_at hl 2 rfl) ?_
  refine lv_lload_n hx hb dX9_explains_104 rfl (lv_at hl 1 rfl) ?_
  refine W.lcmp hx hb dX9_explains_105 ?_
  refine lv_if_ne (tgt := 113) hx hb dX9_explains_106 (by decide) (fun c_106 => ?_) (fun c_106 => ?_)
  · have hw := hw.1 c_106
    refine lv_iconst (v := 0) hx hb dX9_explains_113 (by decide) ?_
    exact W.zret (v := (0 : Int32)) hx hb hr rfl (fun t ht hW => ⟨⟨(0 : Int32), (S, G), rfl, hw, by rw [ht]; exact hP, va_K.moved hW.alike hK, hD⟩, hS.F ht⟩) hS.2.2 dX9_explains_114
  · have hw := hw.2 c_106
    refine lv_iconst (v := 1) hx hb dX9_explains_109 (by decide) ?_
    refine lv_goto (tgt := 114) hx hb dX9_explains_110 (by decide) ?_
    exact W.zret (v := (1 : Int32)) hx hb hr rfl (fun t ht hW => ⟨⟨(1 : Int32), (S, G), rfl, hw, by rw [ht]; exact hP, va_K.moved hW.alike hK, hD⟩, hS.F ht⟩) hS.2.2 dX9_explains_114
set_option maxHeartbeats 4000000 in
set_option maxRecDepth 100000 in
theorem tb_X9_explains_6 {p : Program} {l : Launch} {e : Env} {s : State} {m : MethodId} {below : List Frame} {meth : Method} {c : Code} {args : Array Value} {dC : Nat → ClassId} {dI : Nat → Nat → Nat} {cI cJ cZ : ClassId} {o : Nat} {ad : Nat → Nat} {A : Nat → Prop} {Q : Int32 → mS → mG → Prop} (C : mCx p s m args meth c cX9_explains 9 (some .boolean) wsX9_explains A dC dI cI cJ cZ) : ∀ (n : Nat) (S : mS) (G : mG) (a3 : Int64) (a5 : Int64) (a7 : Int32), wp_X9_explains_6 Q  n S G a3 a5 a7 → mAt p l e rm_X9_explains s m args below meth c dC dI cI cJ cZ o ad A (MQ below (va_Qi (fun r (u : mS × mG) => Q r u.1 u.2) (mB dC dI cI cJ cZ o ad A) A) args s 0 0 A) 6 9 [(0, .ref o), (3, .long a3), (5, .long a5), (7, .int a7)] [] S G := by
  obtain ⟨hx, hb, hml, hown, hts, hr, hlocks, hA, hK⟩ := id C
  intro n
  induction n with
  | zero => intro S G a3 a5 a7 hw; exact hw.elim
  | succ n ih =>
    intro S G a3 a5 a7 hw H locs hP hD hS ls hl
    rw [wp_X9_explains_6] at hw
    refine lv_iload hx hb dX9_explains_6 (lv_at hl 3 rfl) ?_
    refine lv_if_eq (tgt := 102) hx hb dX9_explains_8 (by decide) (fun c_8 => ?_) (fun c_8 => ?_)
    · have hw := hw.1 c_8
      exact tb_X9_explains_102 C  S G a3 a5 hw H locs hP hD hS ls (lv_sub hl [0, 1, 2] rfl)
    · have hw := hw.2 c_8
      refine lv_iconst (v := 0) hx hb dX9_explains_11 (by decide) ?_
      refine lv_istore (lv' := [(7, .int (0 : Int32)), (0, .ref o), (3, .long a3), (5, .long a5)]) hx hb dX9_explains_12 hl (by decide) rfl (fun ls hl => ?_)
      refine lv_iconst (v := 0) hx hb dX9_explains_14 (by decide) ?_
      refine lv_istore (lv' := [(8, .int (0 : Int32)), (7, .int (0 : Int32)), (0, .ref o), (3, .long a3), (5, .long a5)]) hx hb dX9_explains_15 hl (by decide) rfl (fun ls hl => ?_)
      obtain ⟨n9, hw⟩ := hw
      exact tb_X9_explains_17 C ih n9 S G a3 a5 (0 : Int32) (0 : Int32) hw H locs hP hD hS ls (lv_sub hl [2, 3, 4, 1, 0] rfl)
set_option maxHeartbeats 4000000 in
set_option maxRecDepth 100000 in
theorem tb_X9_explains_0 {p : Program} {l : Launch} {e : Env} {s : State} {m : MethodId} {below : List Frame} {meth : Method} {c : Code} {args : Array Value} {dC : Nat → ClassId} {dI : Nat → Nat → Nat} {cI cJ cZ : ClassId} {o : Nat} {ad : Nat → Nat} {A : Nat → Prop} {Q : Int32 → mS → mG → Prop} (C : mCx p s m args meth c cX9_explains 9 (some .boolean) wsX9_explains A dC dI cI cJ cZ) : ∀ (S : mS) (G : mG) (a1 : Int64) (a3 : Int64), wp_X9_explains_0 Q  S G a1 a3 → mAt p l e rm_X9_explains s m args below meth c dC dI cI cJ cZ o ad A (MQ below (va_Qi (fun r (u : mS × mG) => Q r u.1 u.2) (mB dC dI cI cJ cZ o ad A) A) args s 0 0 A) 0 9 [(0, .ref o), (1, .long a1), (3, .long a3)] [] S G := by
  obtain ⟨hx, hb, hml, hown, hts, hr, hlocks, hA, hK⟩ := id C
  intro S G a1 a3 hw H locs hP hD hS ls hl
  rw [wp_X9_explains_0] at hw
  refine lv_lload_n hx hb dX9_explains_0 rfl (lv_at hl 1 rfl) ?_
  refine lv_lstore (lv' := [(5, .long a1), (0, .ref o), (1, .long a1), (3, .long a3)]) hx hb dX9_explains_1 hl (by decide) rfl (fun ls hl => ?_)
  refine lv_iconst (v := 1) hx hb dX9_explains_3 (by decide) ?_
  refine lv_istore (lv' := [(7, .int (1 : Int32)), (5, .long a1), (0, .ref o), (1, .long a1), (3, .long a3)]) hx hb dX9_explains_4 hl (by decide) rfl (fun ls hl => ?_)
  obtain ⟨n9, hw⟩ := hw
  exact tb_X9_explains_6 C  n9 S G a3 a1 (1 : Int32) hw H locs hP hD hS ls (lv_sub hl [2, 4, 1, 0] rfl)
set_option maxHeartbeats 4000000 in
set_option maxRecDepth 100000 in
theorem c_X9_explains (l : Launch) (dC : Nat → ClassId) (dI : Nat → Nat → Nat) (cI cJ cZ : ClassId) (o : Nat) (ad : Nat → Nat) (S : mS) (G : mG) (sz : Nat) (a1 : Int64) (a3 : Int64) (Q : Int32 → mS → mG → Prop) (hw : wp_X9_explains_0 Q S G a1 a3) : Met l yX9_explains wsX9_explains rm_X9_explains (va_Pc [.ref o, .long a1, .long a3] (mPre dC dI cI cJ cZ o ad S G sz)) (va_Qi (fun r (u : mS × mG) => Q r u.1 u.2) (mB dC dI cI cJ cZ o ad (mA cI cJ cZ o ad S G sz)) (mA cI cJ cZ o ad S G sz)) 0 0 (mA cI cJ cZ o ad S G sz) := by
  refine Met.ofW (cc := cX9_explains) (maxL := 9) (ret := (some .boolean)) (by decide) rfl ?_
  intro p e s m args below meth c s₁ B hml hv
  obtain ⟨rfl, hsz, hP, hK, hD0⟩ := hv
  subst hsz
  have hl := lv_entry ([.ref o, .long a1, .long a3]) (n := 9) (Nat.le_of_ble_eq_true rfl)
  rw [lg_entry_eq]
  generalize (lg_sl ([.ref o, .long a1, .long a3]) ++ List.replicate (9 - (lg_sl ([.ref o, .long a1, .long a3])).length) Slot.unset).toArray = ls at hl ⊢
  exact tb_X9_explains_0 (Q := Q) (p := p) ⟨B.exec, B.bytes, hml, findClass_of_methodNamed B.named, atoms_spec (ws := wsX9_explains) B.pre, B.returns, B.notSynchronized, fun q h => Or.inr h, hK⟩ S G a1 a3 hw s.heap [] hP (hD0.self (sz := s.heap.size)) va_S.rf ls hl
theorem iw_X9_fewest : ∀ w ∈ u_ws RX9 TX9 38, w ∈ wsX9_fewest := fun w h => List.mem_cons_of_mem _ (by first | exact List.mem_append_right _ h | decide +kernel +revert)
theorem lk_X9_fewest_46 : Cond.fieldLink RX9 46 "TermKeeperModel" "definitions" "[J" ∈ wsX9_fewest := by decide +kernel
theorem lk_X9_fewest_96 : Cond.fieldLink RX9 96 "TermKeeperModel" "matter" "[I" ∈ wsX9_fewest := by decide +kernel
theorem lk_X9_fewest_105 : Cond.fieldLink RX9 105 "TermKeeperModel" "thrown" "I" ∈ wsX9_fewest := by decide +kernel
theorem lk_X9_fewest_210 : Cond.constantLong RX9 210 (-1) ∈ wsX9_fewest := by decide +kernel
abbrev rm_X9_fewest : Room := { frames := 1, cells := 0, slots := 0, locals := 28 }
def wp_X9_fewest_39 (Q : Int64 → mS → mG → Prop) (k9_ : mS → mG → Int64 → Int32 → Prop) (S : mS) (G : mG) (a1 : Int64) (a3 : Int32) : Prop :=
    (∀ v3_39 : Int32, v3_39 = a3 + (1 : Int32) →
      (k9_ S G a1 v3_39))
def wp_X9_fewest_77 (Q : Int64 → mS → mG → Prop) (S : mS) (G : mG) : Prop :=
    (Q (-1 : Int64) S G)
def wp_X9_fewest_92 (Q : Int64 → mS → mG → Prop) (k50_ : mS → mG → Int64 → Int32 → Int32 → Prop) (S : mS) (G : mG) (a1 : Int64) (a3 : Int32) (a4 : Int32) : Prop :=
    (∀ v4_92 : Int32, v4_92 = a4 + (1 : Int32) →
      (k50_ S G a1 a3 v4_92))
def wp_X9_fewest_160 (Q : Int64 → mS → mG → Prop) (k107_ : mS → mG → Int64 → Int32 → Int64 → Int32 → Int32 → Prop) (k124_ : mS → mG → Int64 → Int32 → Int64 → Int32 → Int32 → Int64 → Int32 → Int32 → Prop) (S : mS) (G : mG) (a1 : Int64) (a3 : Int32) (a4 : Int64) (a6 : Int32) (a7 : Int32) (a8 : Int64) (a10 : Int32) (a11 : Int32) : Prop :=
    (∀ v11_160 : Int32, v11_160 = a11 + (1 : Int32) →
      (k124_ S G a1 a3 a4 a6 a7 a8 a10 v11_160))
def wp_X9_fewest_194 (Q : Int64 → mS → mG → Prop) (k107_ : mS → mG → Int64 → Int32 → Int64 → Int32 → Int32 → Prop) (S : mS) (G : mG) (a1 : Int64) (a3 : Int32) (a4 : Int64) (a6 : Int32) (a7 : Int32) : Prop :=
    (∀ v7_194 : Int32, v7_194 = a7 + (1 : Int32) →
      (k107_ S G a1 a3 a4 a6 v7_194))
def wp_X9_fewest_166 (Q : Int64 → mS → mG → Prop) (k107_ : mS → mG → Int64 → Int32 → Int64 → Int32 → Int32 → Prop) (S : mS) (G : mG) (a1 : Int64) (a3 : Int32) (a4 : Int64) (a6 : Int32) (a7 : Int32) (a8 : Int64) (a10 : Int32) : Prop :=
    ((a6 ≤ a10 →
      (wp_X9_fewest_194 Q k107_ S G a1 a3 a4 a6 a7))
     ∧ (¬ a6 ≤ a10 →
      (wp_X9_explains_0 (fun r_177 S_177 G_177 =>
        ((¬ r_177 = 0 →
          (wp_X9_fewest_194 Q k107_ S_177 G_177 a1 a3 a8 a10 a7))
         ∧ (r_177 = 0 →
          (wp_X9_fewest_194 Q k107_ S_177 G_177 a1 a3 a4 a6 a7)))) S G a8 a1)))
def wp_X9_fewest_124 (Q : Int64 → mS → mG → Prop) (k107_ : mS → mG → Int64 → Int32 → Int64 → Int32 → Int32 → Prop) : Nat → mS → mG → Int64 → Int32 → Int64 → Int32 → Int32 → Int64 → Int32 → Int32 → Prop
  | 0, _, _, _, _, _, _, _, _, _, _ => False
  | n + 1, S, G, a1, a3, a4, a6, a7, a8, a10, a11 =>
    ((a3 ≤ a11 →
      (wp_X9_fewest_166 Q k107_ S G a1 a3 a4 a6 a7 a8 a10))
     ∧ (¬ a3 ≤ a11 →
      ((¬ ((a7 >>> (a11 &&& 31)) &&& (1 : Int32)) = 0 →
        (vp_in a11 14 ∧
          (∀ v8_155 : Int64, v8_155 = (a8 ||| ((1 : Int64) <<< (Int32.toInt64 (S 35 (Int32.toNatClampNeg a11)) &&& 63))) →
            (∀ v10_157 : Int32, v10_157 = a10 + (1 : Int32) →
              (wp_X9_fewest_160 Q k107_ (wp_X9_fewest_124 Q k107_ n) S G a1 a3 a4 a6 a7 v8_155 v10_157 a11)))))
       ∧ (((a7 >>> (a11 &&& 31)) &&& (1 : Int32)) = 0 →
        (wp_X9_fewest_160 Q k107_ (wp_X9_fewest_124 Q k107_ n) S G a1 a3 a4 a6 a7 a8 a10 a11)))))
def wp_X9_fewest_107 (Q : Int64 → mS → mG → Prop) : Nat → mS → mG → Int64 → Int32 → Int64 → Int32 → Int32 → Prop
  | 0, _, _, _, _, _, _, _ => False
  | n + 1, S, G, a1, a3, a4, a6, a7 =>
    ((((1 : Int32) <<< (a3 &&& 31)) ≤ a7 →
      (Q a4 S G))
     ∧ (¬ ((1 : Int32) <<< (a3 &&& 31)) ≤ a7 →
      (∃ n9 : Nat, wp_X9_fewest_124 Q (wp_X9_fewest_107 Q  n) n9 S G a1 a3 a4 a6 a7 (0 : Int64) (0 : Int32) (0 : Int32))))
def wp_X9_fewest_98 (Q : Int64 → mS → mG → Prop) (S : mS) (G : mG) (a1 : Int64) (a3 : Int32) : Prop :=
    (∃ n9 : Nat, wp_X9_fewest_107 Q  n9 S G a1 a3 a1 a3 (0 : Int32))
def wp_X9_fewest_50 (Q : Int64 → mS → mG → Prop) : Nat → mS → mG → Int64 → Int32 → Int32 → Prop
  | 0, _, _, _, _, _ => False
  | n + 1, S, G, a1, a3, a4 =>
    (((40 : Int32) ≤ a4 →
      (wp_X9_fewest_98 Q  S G a1 a3))
     ∧ (¬ (40 : Int32) ≤ a4 →
      ((¬ (lg_cmp ((a1 >>> (Int32.toInt64 a4 &&& 63)) &&& (1 : Int64)) (0 : Int64)) = 0 →
        ((¬ a3 = (14 : Int32) →
          (vp_in a3 14 ∧ ∀ S_88 : mS, S_88 = mst S 35 (Int32.toNatClampNeg a3) a4 →
            (∀ v3_89 : Int32, v3_89 = a3 + (1 : Int32) →
              (wp_X9_fewest_92 Q (wp_X9_fewest_50 Q  n) S_88 G a1 v3_89 a4))))
         ∧ (a3 = (14 : Int32) →
          (wp_X9_fewest_77 Q  S G ))))
       ∧ ((lg_cmp ((a1 >>> (Int32.toInt64 a4 &&& 63)) &&& (1 : Int64)) (0 : Int64)) = 0 →
        (wp_X9_fewest_92 Q (wp_X9_fewest_50 Q  n) S G a1 a3 a4)))))
def wp_X9_fewest_45 (Q : Int64 → mS → mG → Prop) (S : mS) (G : mG) (a1 : Int64) : Prop :=
    (∃ n9 : Nat, wp_X9_fewest_50 Q  n9 S G a1 (0 : Int32) (0 : Int32))
def wp_X9_fewest_9 (Q : Int64 → mS → mG → Prop) : Nat → mS → mG → Int64 → Int32 → Prop
  | 0, _, _, _, _ => False
  | n + 1, S, G, a1, a3 =>
    (((40 : Int32) ≤ a3 →
      (wp_X9_fewest_45 Q  S G a1))
     ∧ (¬ (40 : Int32) ≤ a3 →
      (vp_in a3 40 ∧
        (((lg_cmp (G 17 (Int32.toNatClampNeg a3)) (0 : Int64)) = 0 →
          (wp_X9_fewest_39 Q (wp_X9_fewest_9 Q  n) S G a1 a3))
         ∧ (¬ (lg_cmp (G 17 (Int32.toNatClampNeg a3)) (0 : Int64)) = 0 →
          (vp_in a3 40 ∧
            (∀ v1_38 : Int64, v1_38 = (a1 ||| ((G 17 (Int32.toNatClampNeg a3)) ||| ((1 : Int64) <<< (Int32.toInt64 a3 &&& 63)))) →
              (wp_X9_fewest_39 Q (wp_X9_fewest_9 Q  n) S G v1_38 a3))))))))
def wp_X9_fewest_0 (Q : Int64 → mS → mG → Prop) (S : mS) (G : mG) : Prop :=
    (∀ S_2 : mS, S_2 = mst S 0 0 (0 : Int32) →
      (∃ n9 : Nat, wp_X9_fewest_9 Q  n9 S_2 G (0 : Int64) (0 : Int32)))
set_option maxHeartbeats 4000000 in
set_option maxRecDepth 100000 in
theorem tb_X9_fewest_39 {p : Program} {l : Launch} {e : Env} {s : State} {m : MethodId} {below : List Frame} {meth : Method} {c : Code} {args : Array Value} {dC : Nat → ClassId} {dI : Nat → Nat → Nat} {cI cJ cZ : ClassId} {o : Nat} {ad : Nat → Nat} {A : Nat → Prop} {Q : Int64 → mS → mG → Prop} (C : mCx p s m args meth c cX9_fewest 12 (some .long) wsX9_fewest A dC dI cI cJ cZ) {k9_ : mS → mG → Int64 → Int32 → Prop} (h9_ : ∀ (S : mS) (G : mG) (a1 : Int64) (a3 : Int32), k9_ S G a1 a3 → mAt p l e rm_X9_fewest s m args below meth c dC dI cI cJ cZ o ad A (MQ below (va_Ql (fun r (u : mS × mG) => Q r u.1 u.2) (mB dC dI cI cJ cZ o ad A) A) args s 0 0 A) 9 12 [(0, .ref o), (1, .long a1), (3, .int a3)] [] S G) : ∀ (S : mS) (G : mG) (a1 : Int64) (a3 : Int32), wp_X9_fewest_39 Q k9_ S G a1 a3 → mAt p l e rm_X9_fewest s m args below meth c dC dI cI cJ cZ o ad A (MQ below (va_Ql (fun r (u : mS × mG) => Q r u.1 u.2) (mB dC dI cI cJ cZ o ad A) A) args s 0 0 A) 39 12 [(0, .ref o), (1, .long a1), (3, .int a3)] [] S G := by
  obtain ⟨hx, hb, hml, hown, hts, hr, hlocks, hA, hK⟩ := id C
  intro S G a1 a3 hw H locs hP hD hS ls hl
  rw [wp_X9_fewest_39] at hw
  obtain ⟨v3_39, ev3_39⟩ : ∃ y : Int32, y = a3 + (1 : Int32) := ⟨_, rfl⟩
  have hw := hw v3_39 ev3_39
  refine lv_iinc (v := v3_39) (lv' := [(3, .int v3_39), (0, .ref o), (1, .long a1)]) hx hb dX9_fewest_39 hl (k := 2) rfl (by rw [ev3_39]; rfl) (by decide) rfl (fun ls hl => ?_)
  refine lv_goto (tgt := 9) hx hb dX9_fewest_42 (by decide) ?_
  exact h9_ S G a1 v3_39 hw H locs hP hD hS ls (lv_sub hl [1, 2, 0] rfl)
set_option maxHeartbeats 4000000 in
set_option maxRecDepth 100000 in
theorem tb_X9_fewest_77 {p : Program} {l : Launch} {e : Env} {s : State} {m : MethodId} {below : List Frame} {meth : Method} {c : Code} {args : Array Value} {dC : Nat → ClassId} {dI : Nat → Nat → Nat} {cI cJ cZ : ClassId} {o : Nat} {ad : Nat → Nat} {A : Nat → Prop} {Q : Int64 → mS → mG → Prop} (C : mCx p s m args meth c cX9_fewest 12 (some .long) wsX9_fewest A dC dI cI cJ cZ) : ∀ (S : mS) (G : mG) , wp_X9_fewest_77 Q  S G  → mAt p l e rm_X9_fewest s m args below meth c dC dI cI cJ cZ o ad A (MQ below (va_Ql (fun r (u : mS × mG) => Q r u.1 u.2) (mB dC dI cI cJ cZ o ad A) A) args s 0 0 A) 77 12 [(0, .ref o)] [] S G := by
  obtain ⟨hx, hb, hml, hown, hts, hr, hlocks, hA, hK⟩ := id C
  intro S G  hw H locs hP hD hS ls hl
  rw [wp_X9_fewest_77] at hw
  refine lv_ldc2 (v := -1) hx hb hown (hts _ lk_X9_fewest_210) dX9_fewest_77 ?_
  exact W.lret (v := (-1 : Int64)) hx hb hr (fun t ht hW => ⟨⟨(-1 : Int64), (S, G), rfl, hw, by rw [ht]; exact hP, va_K.moved hW.alike hK, hD⟩, hS.F ht⟩) hS.2.2 dX9_fewest_80
set_option maxHeartbeats 4000000 in
set_option maxRecDepth 100000 in
theorem tb_X9_fewest_92 {p : Program} {l : Launch} {e : Env} {s : State} {m : MethodId} {below : List Frame} {meth : Method} {c : Code} {args : Array Value} {dC : Nat → ClassId} {dI : Nat → Nat → Nat} {cI cJ cZ : ClassId} {o : Nat} {ad : Nat → Nat} {A : Nat → Prop} {Q : Int64 → mS → mG → Prop} (C : mCx p s m args meth c cX9_fewest 12 (some .long) wsX9_fewest A dC dI cI cJ cZ) {k50_ : mS → mG → Int64 → Int32 → Int32 → Prop} (h50_ : ∀ (S : mS) (G : mG) (a1 : Int64) (a3 : Int32) (a4 : Int32), k50_ S G a1 a3 a4 → mAt p l e rm_X9_fewest s m args below meth c dC dI cI cJ cZ o ad A (MQ below (va_Ql (fun r (u : mS × mG) => Q r u.1 u.2) (mB dC dI cI cJ cZ o ad A) A) args s 0 0 A) 50 12 [(0, .ref o), (1, .long a1), (3, .int a3), (4, .int a4)] [] S G) : ∀ (S : mS) (G : mG) (a1 : Int64) (a3 : Int32) (a4 : Int32), wp_X9_fewest_92 Q k50_ S G a1 a3 a4 → mAt p l e rm_X9_fewest s m args below meth c dC dI cI cJ cZ o ad A (MQ below (va_Ql (fun r (u : mS × mG) => Q r u.1 u.2) (mB dC dI cI cJ cZ o ad A) A) args s 0 0 A) 92 12 [(0, .ref o), (1, .long a1), (3, .int a3), (4, .int a4)] [] S G := by
  obtain ⟨hx, hb, hml, hown, hts, hr, hlocks, hA, hK⟩ := id C
  intro S G a1 a3 a4 hw H locs hP hD hS ls hl
  rw [wp_X9_fewest_92] at hw
  obtain ⟨v4_92, ev4_92⟩ : ∃ y : Int32, y = a4 + (1 : Int32) := ⟨_, rfl⟩
  have hw := hw v4_92 ev4_92
  refine lv_iinc (v := v4_92) (lv' := [(4, .int v4_92), (0, .ref o), (1, .long a1), (3, .int a3)]) hx hb dX9_fewest_92 hl (k := 3) rfl (by rw [ev4_92]; rfl) (by decide) rfl (fun ls hl => ?_)
  refine lv_goto (tgt := 50) hx hb dX9_fewest_95 (by decide) ?_
  exact h50_ S G a1 a3 v4_92 hw H locs hP hD hS ls (lv_sub hl [1, 2, 3, 0] rfl)
set_option maxHeartbeats 4000000 in
set_option maxRecDepth 100000 in
theorem tb_X9_fewest_160 {p : Program} {l : Launch} {e : Env} {s : State} {m : MethodId} {below : List Frame} {meth : Method} {c : Code} {args : Array Value} {dC : Nat → ClassId} {dI : Nat → Nat → Nat} {cI cJ cZ : ClassId} {o : Nat} {ad : Nat → Nat} {A : Nat → Prop} {Q : Int64 → mS → mG → Prop} (C : mCx p s m args meth c cX9_fewest 12 (some .long) wsX9_fewest A dC dI cI cJ cZ) {k107_ : mS → mG → Int64 → Int32 → Int64 → Int32 → Int32 → Prop} (h107_ : ∀ (S : mS) (G : mG) (a1 : Int64) (a3 : Int32) (a4 : Int64) (a6 : Int32) (a7 : Int32), k107_ S G a1 a3 a4 a6 a7 → mAt p l e rm_X9_fewest s m args below meth c dC dI cI cJ cZ o ad A (MQ below (va_Ql (fun r (u : mS × mG) => Q r u.1 u.2) (mB dC dI cI cJ cZ o ad A) A) args s 0 0 A) 107 12 [(0, .ref o), (1, .long a1), (3, .int a3), (4, .long a4), (6, .int a6), (7, .int a7)] [] S G) {k124_ : mS → mG → Int64 → Int32 → Int64 → Int32 → Int32 → Int64 → Int32 → Int32 → Prop} (h124_ : ∀ (S : mS) (G : mG) (a1 : Int64) (a3 : Int32) (a4 : Int64) (a6 : Int32) (a7 : Int32) (a8 : Int64) (a10 : Int32) (a11 : Int32), k124_ S G a1 a3 a4 a6 a7 a8 a10 a11 → mAt p l e rm_X9_fewest s m args below meth c dC dI cI cJ cZ o ad A (MQ below (va_Ql (fun r (u : mS × mG) => Q r u.1 u.2) (mB dC dI cI cJ cZ o ad A) A) args s 0 0 A) 124 12 [(0, .ref o), (1, .long a1), (3, .int a3), (4, .long a4), (6, .int a6), (7, .int a7), (8, .long a8), (10, .int a10), (11, .int a11)] [] S G) : ∀ (S : mS) (G : mG) (a1 : Int64) (a3 : Int32) (a4 : Int64) (a6 : Int32) (a7 : Int32) (a8 : Int64) (a10 : Int32) (a11 : Int32), wp_X9_fewest_160 Q k107_ k124_ S G a1 a3 a4 a6 a7 a8 a10 a11 → mAt p l e rm_X9_fewest s m args below meth c dC dI cI cJ cZ o ad A (MQ below (va_Ql (fun r (u : mS × mG) => Q r u.1 u.2) (mB dC dI cI cJ cZ o ad A) A) args s 0 0 A) 160 12 [(0, .ref o), (1, .long a1), (3, .int a3), (4, .long a4), (6, .int a6), (7, .int a7), (8, .long a8), (10, .int a10), (11, .int a11)] [] S G := by
  obtain ⟨hx, hb, hml, hown, hts, hr, hlocks, hA, hK⟩ := id C
  intro S G a1 a3 a4 a6 a7 a8 a10 a11 hw H locs hP hD hS ls hl
  rw [wp_X9_fewest_160] at hw
  obtain ⟨v11_160, ev11_160⟩ : ∃ y : Int32, y = a11 + (1 : Int32) := ⟨_, rfl⟩
  have hw := hw v11_160 ev11_160
  refine lv_iinc (v := v11_160) (lv' := [(11, .int v11_160), (0, .ref o), (1, .long a1), (3, .int a3), (4, .long a4), (6, .int a6), (7, .int a7), (8, .long a8), (10, .int a10)]) hx hb dX9_fewest_160 hl (k := 8) rfl (by rw [ev11_160]; rfl) (by decide) rfl (fun ls hl => ?_)
  refine lv_goto (tgt := 124) hx hb dX9_fewest_163 (by decide) ?_
  exact h124_ S G a1 a3 a4 a6 a7 a8 a10 v11_160 hw H locs hP hD hS ls (lv_sub hl [1, 2, 3, 4, 5, 6, 7, 8, 0] rfl)
set_option maxHeartbeats 4000000 in
set_option maxRecDepth 100000 in
theorem tb_X9_fewest_194 {p : Program} {l : Launch} {e : Env} {s : State} {m : MethodId} {below : List Frame} {meth : Method} {c : Code} {args : Array Value} {dC : Nat → ClassId} {dI : Nat → Nat → Nat} {cI cJ cZ : ClassId} {o : Nat} {ad : Nat → Nat} {A : Nat → Prop} {Q : Int64 → mS → mG → Prop} (C : mCx p s m args meth c cX9_fewest 12 (some .long) wsX9_fewest A dC dI cI cJ cZ) {k107_ : mS → mG → Int64 → Int32 → Int64 → Int32 → Int32 → Prop} (h107_ : ∀ (S : mS) (G : mG) (a1 : Int64) (a3 : Int32) (a4 : Int64) (a6 : Int32) (a7 : Int32), k107_ S G a1 a3 a4 a6 a7 → mAt p l e rm_X9_fewest s m args below meth c dC dI cI cJ cZ o ad A (MQ below (va_Ql (fun r (u : mS × mG) => Q r u.1 u.2) (mB dC dI cI cJ cZ o ad A) A) args s 0 0 A) 107 12 [(0, .ref o), (1, .long a1), (3, .int a3), (4, .long a4), (6, .int a6), (7, .int a7)] [] S G) : ∀ (S : mS) (G : mG) (a1 : Int64) (a3 : Int32) (a4 : Int64) (a6 : Int32) (a7 : Int32), wp_X9_fewest_194 Q k107_ S G a1 a3 a4 a6 a7 → mAt p l e rm_X9_fewest s m args below meth c dC dI cI cJ cZ o ad A (MQ below (va_Ql (fun r (u : mS × mG) => Q r u.1 u.2) (mB dC dI cI cJ cZ o ad A) A) args s 0 0 A) 194 12 [(0, .ref o), (1, .long a1), (3, .int a3), (4, .long a4), (6, .int a6), (7, .int a7)] [] S G := by
  obtain ⟨hx, hb, hml, hown, hts, hr, hlocks, hA, hK⟩ := id C
  intro S G a1 a3 a4 a6 a7 hw H locs hP hD hS ls hl
  rw [wp_X9_fewest_194] at hw
  obtain ⟨v7_194, ev7_194⟩ : ∃ y : Int32, y = a7 + (1 : Int32) := ⟨_, rfl⟩
  have hw := hw v7_194 ev7_194
  refine lv_iinc (v := v7_194) (lv' := [(7, .int v7_194), (0, .ref o), (1, .long a1), (3, .int a3), (4, .long a4), (6, .int a6)]) hx hb dX9_fewest_194 hl (k := 5) rfl (by rw [ev7_194]; rfl) (by decide) rfl (fun ls hl => ?_)
  refine lv_goto (tgt := 107) hx hb dX9_fewest_197 (by decide) ?_
  exact h107_ S G a1 a3 a4 a6 v7_194 hw H locs hP hD hS ls (lv_sub hl [1, 2, 3, 4, 5, 0] rfl)
set_option maxHeartbeats 4000000 in
set_option maxRecDepth 100000 in
theorem tb_X9_fewest_166 {p : Program} {l : Launch} {e : Env} {s : State} {m : MethodId} {below : List Frame} {meth : Method} {c : Code} {args : Array Value} {dC : Nat → ClassId} {dI : Nat → Nat → Nat} {cI cJ cZ : ClassId} {o : Nat} {ad : Nat → Nat} {A : Nat → Prop} {Q : Int64 → mS → mG → Prop} (C : mCx p s m args meth c cX9_fewest 12 (some .long) wsX9_fewest A dC dI cI cJ cZ) {k107_ : mS → mG → Int64 → Int32 → Int64 → Int32 → Int32 → Prop} (h107_ : ∀ (S : mS) (G : mG) (a1 : Int64) (a3 : Int32) (a4 : Int64) (a6 : Int32) (a7 : Int32), k107_ S G a1 a3 a4 a6 a7 → mAt p l e rm_X9_fewest s m args below meth c dC dI cI cJ cZ o ad A (MQ below (va_Ql (fun r (u : mS × mG) => Q r u.1 u.2) (mB dC dI cI cJ cZ o ad A) A) args s 0 0 A) 107 12 [(0, .ref o), (1, .long a1), (3, .int a3), (4, .long a4), (6, .int a6), (7, .int a7)] [] S G) : ∀ (S : mS) (G : mG) (a1 : Int64) (a3 : Int32) (a4 : Int64) (a6 : Int32) (a7 : Int32) (a8 : Int64) (a10 : Int32), wp_X9_fewest_166 Q k107_ S G a1 a3 a4 a6 a7 a8 a10 → mAt p l e rm_X9_fewest s m args below meth c dC dI cI cJ cZ o ad A (MQ below (va_Ql (fun r (u : mS × mG) => Q r u.1 u.2) (mB dC dI cI cJ cZ o ad A) A) args s 0 0 A) 166 12 [(0, .ref o), (1, .long a1), (3, .int a3), (4, .long a4), (6, .int a6), (7, .int a7), (8, .long a8), (10, .int a10)] [] S G := by
  obtain ⟨hx, hb, hml, hown, hts, hr, hlocks, hA, hK⟩ := id C
  intro S G a1 a3 a4 a6 a7 a8 a10 hw H locs hP hD hS ls hl
  rw [wp_X9_fewest_166] at hw
  refine lv_iload hx hb dX9_fewest_166 (lv_at hl 7 rfl) ?_
  refine lv_iload hx hb dX9_fewest_168 (lv_at hl 4 rfl) ?_
  refine lv_icmp_ge (tgt := 194) hx hb dX9_fewest_170 (by decide) (fun c_170 => ?_) (fun c_170 => ?_)
  · have hw := hw.1 c_170
    exact tb_X9_fewest_194 C h107_ S G a1 a3 a4 a6 a7 hw H locs hP hD hS ls (lv_sub hl [0, 1, 2, 3, 4, 5] rfl)
  · have hw := hw.2 c_170
    refine lv_aload_n hx hb dX9_fewest_173 rfl (lv_at hl 0 rfl) ?_
    refine lv_lload hx hb dX9_fewest_174 (lv_at hl 6 rfl) ?_
    refine lv_lload_n hx hb dX9_fewest_176 rfl (lv_at hl 1 rfl) ?_
    have hFc := mFree hD hS hA
    refine va_calli (va_runV (As := [.long a8, .long a1]) (rest := []) ⟨hx, hb, hml, hown, hts⟩ (c_X9_explains l dC dI cI cJ cZ o ad S G H.size a8 a1 _ hw) (cwV 2 hts gX9_fewest_X9_explains rfl rfl rfl (by decide +kernel) ⟨Nat.le_of_ble_eq_true rfl, Nat.le_of_ble_eq_true rfl⟩) (mPreV [.long a8, .long a1] hK hP hD) rfl rfl hl.1 rfl (lv_room (Nat.le_of_ble_eq_true rfl)) dX9_fewest_177 ⟨Nat.zero_le _, Nat.zero_le _⟩) hS (fun q _ h => hFc q h) hFc (fun r_177 u t H1 locs ht hvm hw hB hz1 hk1 hS => ?_)
    obtain ⟨S_177, G_177⟩ := u
    obtain ⟨hP, -, hD1⟩ := hB
    rw [ht] at hP
    have hw := id hw
    have hP : va_P (dC, dI) vwCl (mW cI cJ cZ o ad S_177 G_177) H1 := hP
    have hD : va_D A (mW cI cJ cZ o ad S_177 G_177) := mGain hD1 hFc
    generalize H1 = H at hP hS ⊢
    refine lv_if_ne (tgt := 186) hx hb dX9_fewest_180 (by decide) (fun c_180 => ?_) (fun c_180 => ?_)
    · have hw := hw.1 c_180
      refine lv_lload hx hb dX9_fewest_186 (lv_at hl 6 rfl) ?_
      refine lv_lstore (lv' := [(4, .long a8), (0, .ref o), (1, .long a1), (3, .int a3), (6, .int a6), (7, .int a7), (8, .long a8), (10, .int a10)]) hx hb dX9_fewest_188 hl (by decide) rfl (fun ls hl => ?_)
      refine lv_iload hx hb dX9_fewest_190 (lv_at hl 7 rfl) ?_
      refine lv_istore (lv' := [(6, .int a10), (4, .long a8), (0, .ref o), (1, .long a1), (3, .int a3), (7, .int a7), (8, .long a8), (10, .int a10)]) hx hb dX9_fewest_192 hl (by decide) rfl (fun ls hl => ?_)
      exact tb_X9_fewest_194 C h107_ S_177 G_177 a1 a3 a8 a10 a7 hw H locs hP hD hS ls (lv_sub hl [2, 3, 4, 1, 0, 5] rfl)
    · have hw := hw.2 c_180
      refine lv_goto (tgt := 194) hx hb dX9_fewest_183 (by decide) ?_
      exact tb_X9_fewest_194 C h107_ S_177 G_177 a1 a3 a4 a6 a7 hw H locs hP hD hS ls (lv_sub hl [0, 1, 2, 3, 4, 5] rfl)
set_option maxHeartbeats 4000000 in
set_option maxRecDepth 100000 in
theorem tb_X9_fewest_124 {p : Program} {l : Launch} {e : Env} {s : State} {m : MethodId} {below : List Frame} {meth : Method} {c : Code} {args : Array Value} {dC : Nat → ClassId} {dI : Nat → Nat → Nat} {cI cJ cZ : ClassId} {o : Nat} {ad : Nat → Nat} {A : Nat → Prop} {Q : Int64 → mS → mG → Prop} (C : mCx p s m args meth c cX9_fewest 12 (some .long) wsX9_fewest A dC dI cI cJ cZ) {k107_ : mS → mG → Int64 → Int32 → Int64 → Int32 → Int32 → Prop} (h107_ : ∀ (S : mS) (G : mG) (a1 : Int64) (a3 : Int32) (a4 : Int64) (a6 : Int32) (a7 : Int32), k107_ S G a1 a3 a4 a6 a7 → mAt p l e rm_X9_fewest s m args below meth c dC dI cI cJ cZ o ad A (MQ below (va_Ql (fun r (u : mS × mG) => Q r u.1 u.2) (mB dC dI cI cJ cZ o ad A) A) args s 0 0 A) 107 12 [(0, .ref o), (1, .long a1), (3, .int a3), (4, .long a4), (6, .int a6), (7, .int a7)] [] S G) : ∀ (n : Nat) (S : mS) (G : mG) (a1 : Int64) (a3 : Int32) (a4 : Int64) (a6 : Int32) (a7 : Int32) (a8 : Int64) (a10 : Int32) (a11 : Int32), wp_X9_fewest_124 Q k107_ n S G a1 a3 a4 a6 a7 a8 a10 a11 → mAt p l e rm_X9_fewest s m args below meth c dC dI cI cJ cZ o ad A (MQ below (va_Ql (fun r (u : mS × mG) => Q r u.1 u.2) (mB dC dI cI cJ cZ o ad A) A) args s 0 0 A) 124 12 [(0, .ref o), (1, .long a1), (3, .int a3), (4, .long a4), (6, .int a6), (7, .int a7), (8, .long a8), (10, .int a10), (11, .int a11)] [] S G := by
  obtain ⟨hx, hb, hml, hown, hts, hr, hlocks, hA, hK⟩ := id C
  intro n
  induction n with
  | zero => intro S G a1 a3 a4 a6 a7 a8 a10 a11 hw; exact hw.elim
  | succ n ih =>
    intro S G a1 a3 a4 a6 a7 a8 a10 a11 hw H locs hP hD hS ls hl
    rw [wp_X9_fewest_124] at hw
    refine lv_iload hx hb dX9_fewest_124 (lv_at hl 8 rfl) ?_
    refine lv_iload_n hx hb dX9_fewest_126 rfl (lv_at hl 2 rfl) ?_
    refine lv_icmp_ge (tgt := 166) hx hb dX9_fewest_127 (by decide) (fun c_127 => ?_) (fun c_127 => ?_)
    · have hw := hw.1 c_127
      exact tb_X9_fewest_166 C h107_ S G a1 a3 a4 a6 a7 a8 a10 hw H locs hP hD hS ls (lv_sub hl [0, 1, 2, 3, 4, 5, 6, 7] rfl)
    · have hw := hw.2 c_127
      refine lv_iload hx hb dX9_fewest_130 (lv_at hl 5 rfl) ?_
      refine lv_iload hx hb dX9_fewest_132 (lv_at hl 8 rfl) ?_
      refine lv_ishr hx hb dX9_fewest_134 ?_
      refine lv_iconst (v := 1) hx hb dX9_fewest_135 (by decide) ?_
      refine lv_iand hx hb dX9_fewest_136 ?_
      refine lv_if_ne (tgt := 143) hx hb dX9_fewest_137 (by decide) (fun c_137 => ?_) (fun c_137 => ?_)
      · have hw := hw.1 c_137
        refine lv_lload hx hb dX9_fewest_143 (lv_at hl 6 rfl) ?_
        refine lv_lconst (v := 1) hx hb dX9_fewest_145 (by decide) ?_
        refine lv_aload_n hx hb dX9_fewest_146 rfl (lv_at hl 0 rfl) ?_
        refine va_get (D := (dC, dI)) (ci := 10) (v := .ref (ad 35)) (C := RX9) (T := TX9) (N := 38) hx hb hts iw_X9_fewest hown hK hP 0 rfl rfl 35 (by decide) (hts _ lk_X9_fewest_96) (fun _ h9 => h9) rfl dX9_fewest_147 ?_
        refine lv_iload hx hb dX9_fewest_150 (lv_at hl 8 rfl) ?_
        refine va_iald hx hb hK hP 29 0 rfl rfl hw.1 dX9_fewest_152 ?_
        have hw := hw.2
        refine lv_lshl hx hb dX9_fewest_153 rfl ?_
        refine lv_lor hx hb dX9_fewest_154 ?_
        refine lv_topl (fun v8_155 ev8_155 => ?_)
        have hw := hw v8_155 ev8_155
        refine lv_lstore (lv' := [(8, .long v8_155), (0, .ref o), (1, .long a1), (3, .int a3), (4, .long a4), (6, .int a6), (7, .int a7), (10, .int a10), (11, .int a11)]) hx hb dX9_fewest_155 hl (by decide) rfl (fun ls hl => ?_)
        obtain ⟨v10_157, ev10_157⟩ : ∃ y : Int32, y = a10 + (1 : Int32) := ⟨_, rfl⟩
        have hw := hw v10_157 ev10_157
        refine lv_iinc (v := v10_157) (lv' := [(10, .int v10_157), (8, .long v8_155), (0, .ref o), (1, .long a1), (3, .int a3), (4, .long a4), (6, .int a6), (7, .int a7), (11, .int a11)]) hx hb dX9_fewest_157 hl (k := 7) rfl (by rw [ev10_157]; rfl) (by decide) rfl (fun ls hl => ?_)
        exact tb_X9_fewest_160 C h107_ ih S G a1 a3 a4 a6 a7 v8_155 v10_157 a11 hw H locs hP hD hS ls (lv_sub hl [2, 3, 4, 5, 6, 7, 1, 0, 8] rfl)
      · have hw := hw.2 c_137
        refine lv_goto (tgt := 160) hx hb dX9_fewest_140 (by decide) ?_
        exact tb_X9_fewest_160 C h107_ ih S G a1 a3 a4 a6 a7 a8 a10 a11 hw H locs hP hD hS ls (lv_sub hl [0, 1, 2, 3, 4, 5, 6, 7, 8] rfl)
set_option maxHeartbeats 4000000 in
set_option maxRecDepth 100000 in
theorem tb_X9_fewest_107 {p : Program} {l : Launch} {e : Env} {s : State} {m : MethodId} {below : List Frame} {meth : Method} {c : Code} {args : Array Value} {dC : Nat → ClassId} {dI : Nat → Nat → Nat} {cI cJ cZ : ClassId} {o : Nat} {ad : Nat → Nat} {A : Nat → Prop} {Q : Int64 → mS → mG → Prop} (C : mCx p s m args meth c cX9_fewest 12 (some .long) wsX9_fewest A dC dI cI cJ cZ) : ∀ (n : Nat) (S : mS) (G : mG) (a1 : Int64) (a3 : Int32) (a4 : Int64) (a6 : Int32) (a7 : Int32), wp_X9_fewest_107 Q  n S G a1 a3 a4 a6 a7 → mAt p l e rm_X9_fewest s m args below meth c dC dI cI cJ cZ o ad A (MQ below (va_Ql (fun r (u : mS × mG) => Q r u.1 u.2) (mB dC dI cI cJ cZ o ad A) A) args s 0 0 A) 107 12 [(0, .ref o), (1, .long a1), (3, .int a3), (4, .long a4), (6, .int a6), (7, .int a7)] [] S G := by
  obtain ⟨hx, hb, hml, hown, hts, hr, hlocks, hA, hK⟩ := id C
  intro n
  induction n with
  | zero => intro S G a1 a3 a4 a6 a7 hw; exact hw.elim
  | succ n ih =>
    intro S G a1 a3 a4 a6 a7 hw H locs hP hD hS ls hl
    rw [wp_X9_fewest_107] at hw
    refine lv_iload hx hb dX9_fewest_107 (lv_at hl 5 rfl) ?_
    refine lv_iconst (v := 1) hx hb dX9_fewest_109 (by decide) ?_
    refine lv_iload_n hx hb dX9_fewest_110 rfl (lv_at hl 2 rfl) ?_
    refine lv_ishl hx hb dX9_fewest_111 ?_
    refine lv_icmp_ge (tgt := 200) hx hb dX9_fewest_112 (by decide) (fun c_112 => ?_) (fun c_112 => ?_)
    · have hw := hw.1 c_112
      refine lv_lload hx hb dX9_fewest_200 (lv_at hl 3 rfl) ?_
      exact W.lret (v := a4) hx hb hr (fun t ht hW => ⟨⟨a4, (S, G), rfl, hw, by rw [ht]; exact hP, va_K.moved hW.alike hK, hD⟩, hS.F ht⟩) hS.2.2 dX9_fewest_202
    · have hw := hw.2 c_112
      refine lv_lconst (v := 0) hx hb dX9_fewest_115 (by decide) ?_
      refine lv_lstore (lv' := [(8, .long (0 : Int64)), (0, .ref o), (1, .long a1), (3, .int a3), (4, .long a4), (6, .int a6), (7, .int a7)]) hx hb dX9_fewest_116 hl (by decide) rfl (fun ls hl => ?_)
      refine lv_iconst (v := 0) hx hb dX9_fewest_118 (by decide) ?_
      refine lv_istore (lv' := [(10, .int (0 : Int32)), (8, .long (0 : Int64)), (0, .ref o), (1, .long a1), (3, .int a3), (4, .long a4), (6, .int a6), (7, .int a7)]) hx hb dX9_fewest_119 hl (by decide) rfl (fun ls hl => ?_)
      refine lv_iconst (v := 0) hx hb dX9_fewest_121 (by decide) ?_
      refine lv_istore (lv' := [(11, .int (0 : Int32)), (10, .int (0 : Int32)), (8, .long (0 : Int64)), (0, .ref o), (1, .long a1), (3, .int a3), (4, .long a4), (6, .int a6), (7, .int a7)]) hx hb dX9_fewest_122 hl (by decide) rfl (fun ls hl => ?_)
      obtain ⟨n9, hw⟩ := hw
      exact tb_X9_fewest_124 C ih n9 S G a1 a3 a4 a6 a7 (0 : Int64) (0 : Int32) (0 : Int32) hw H locs hP hD hS ls (lv_sub hl [3, 4, 5, 6, 7, 8, 2, 1, 0] rfl)
set_option maxHeartbeats 4000000 in
set_option maxRecDepth 100000 in
theorem tb_X9_fewest_98 {p : Program} {l : Launch} {e : Env} {s : State} {m : MethodId} {below : List Frame} {meth : Method} {c : Code} {args : Array Value} {dC : Nat → ClassId} {dI : Nat → Nat → Nat} {cI cJ cZ : ClassId} {o : Nat} {ad : Nat → Nat} {A : Nat → Prop} {Q : Int64 → mS → mG → Prop} (C : mCx p s m args meth c cX9_fewest 12 (some .long) wsX9_fewest A dC dI cI cJ cZ) : ∀ (S : mS) (G : mG) (a1 : Int64) (a3 : Int32), wp_X9_fewest_98 Q  S G a1 a3 → mAt p l e rm_X9_fewest s m args below meth c dC dI cI cJ cZ o ad A (MQ below (va_Ql (fun r (u : mS × mG) => Q r u.1 u.2) (mB dC dI cI cJ cZ o ad A) A) args s 0 0 A) 98 12 [(0, .ref o), (1, .long a1), (3, .int a3)] [] S G := by
  obtain ⟨hx, hb, hml, hown, hts, hr, hlocks, hA, hK⟩ := id C
  intro S G a1 a3 hw H locs hP hD hS ls hl
  rw [wp_X9_fewest_98] at hw
  refine lv_lload_n hx hb dX9_fewest_98 rfl (lv_at hl 1 rfl) ?_
  refine lv_lstore (lv' := [(4, .long a1), (0, .ref o), (1, .long a1), (3, .int a3)]) hx hb dX9_fewest_99 hl (by decide) rfl (fun ls hl => ?_)
  refine lv_iload_n hx hb dX9_fewest_101 rfl (lv_at hl 3 rfl) ?_
  refine lv_istore (lv' := [(6, .int a3), (4, .long a1), (0, .ref o), (1, .long a1), (3, .int a3)]) hx hb dX9_fewest_102 hl (by decide) rfl (fun ls hl => ?_)
  refine lv_iconst (v := 0) hx hb dX9_fewest_104 (by decide) ?_
  refine lv_istore (lv' := [(7, .int (0 : Int32)), (6, .int a3), (4, .long a1), (0, .ref o), (1, .long a1), (3, .int a3)]) hx hb dX9_fewest_105 hl (by decide) rfl (fun ls hl => ?_)
  obtain ⟨n9, hw⟩ := hw
  exact tb_X9_fewest_107 C  n9 S G a1 a3 a1 a3 (0 : Int32) hw H locs hP hD hS ls (lv_sub hl [3, 4, 5, 2, 1, 0] rfl)
set_option maxHeartbeats 4000000 in
set_option maxRecDepth 100000 in
theorem tb_X9_fewest_50 {p : Program} {l : Launch} {e : Env} {s : State} {m : MethodId} {below : List Frame} {meth : Method} {c : Code} {args : Array Value} {dC : Nat → ClassId} {dI : Nat → Nat → Nat} {cI cJ cZ : ClassId} {o : Nat} {ad : Nat → Nat} {A : Nat → Prop} {Q : Int64 → mS → mG → Prop} (C : mCx p s m args meth c cX9_fewest 12 (some .long) wsX9_fewest A dC dI cI cJ cZ) : ∀ (n : Nat) (S : mS) (G : mG) (a1 : Int64) (a3 : Int32) (a4 : Int32), wp_X9_fewest_50 Q  n S G a1 a3 a4 → mAt p l e rm_X9_fewest s m args below meth c dC dI cI cJ cZ o ad A (MQ below (va_Ql (fun r (u : mS × mG) => Q r u.1 u.2) (mB dC dI cI cJ cZ o ad A) A) args s 0 0 A) 50 12 [(0, .ref o), (1, .long a1), (3, .int a3), (4, .int a4)] [] S G := by
  obtain ⟨hx, hb, hml, hown, hts, hr, hlocks, hA, hK⟩ := id C
  intro n
  induction n with
  | zero => intro S G a1 a3 a4 hw; exact hw.elim
  | succ n ih =>
    intro S G a1 a3 a4 hw H locs hP hD hS ls hl
    rw [wp_X9_fewest_50] at hw
    refine lv_iload hx hb dX9_fewest_50 (lv_at hl 3 rfl) ?_
    refine lv_bipush (v := 40) hx hb dX9_fewest_52 (by decide) ?_
    refine lv_icmp_ge (tgt := 98) hx hb dX9_fewest_54 (by decide) (fun c_54 => ?_) (fun c_54 => ?_)
    · have hw := hw.1 c_54
      exact tb_X9_fewest_98 C  S G a1 a3 hw H locs hP hD hS ls (lv_sub hl [0, 1, 2] rfl)
    · have hw := hw.2 c_54
      refine lv_lload_n hx hb dX9_fewest_57 rfl (lv_at hl 1 rfl) ?_
      refine lv_iload hx hb dX9_fewest_58 (lv_at hl 3 rfl) ?_
      refine lv_lshr hx hb dX9_fewest_60 rfl ?_
      refine lv_lconst (v := 1) hx hb dX9_fewest_61 (by decide) ?_
      refine lv_land hx hb dX9_fewest_62 ?_
      refine lv_lconst (v := 0) hx hb dX9_fewest_63 (by decide) ?_
      refine W.lcmp hx hb dX9_fewest_64 ?_
      refine lv_if_ne (tgt := 71) hx hb dX9_fewest_65 (by decide) (fun c_65 => ?_) (fun c_65 => ?_)
      · have hw := hw.1 c_65
        refine lv_iload_n hx hb dX9_fewest_71 rfl (lv_at hl 2 rfl) ?_
        refine lv_bipush (v := 14) hx hb dX9_fewest_72 (by decide) ?_
        refine lv_icmp_ne (tgt := 81) hx hb dX9_fewest_74 (by decide) (fun c_74 => ?_) (fun c_74 => ?_)
        · have hw := hw.1 c_74
          refine lv_aload_n hx hb dX9_fewest_81 rfl (lv_at hl 0 rfl) ?_
          refine va_get (D := (dC, dI)) (ci := 10) (v := .ref (ad 35)) (C := RX9) (T := TX9) (N := 38) hx hb hts iw_X9_fewest hown hK hP 0 rfl rfl 35 (by decide) (hts _ lk_X9_fewest_96) (fun _ h9 => h9) rfl dX9_fewest_82 ?_
          refine lv_iload_n hx hb dX9_fewest_85 rfl (lv_at hl 2 rfl) ?_
          refine lv_iload hx hb dX9_fewest_86 (lv_at hl 3 rfl) ?_
          refine va_iast hx hb hK hP hD hS 29 0 rfl rfl hw.1 dX9_fewest_88 (fun H locs hP hD hS => ?_)
          obtain ⟨S_88, eS_88⟩ : ∃ y : mS, y = mst S 35 (Int32.toNatClampNeg a3) a4 := ⟨_, rfl⟩
          have hw := hw.2 S_88 eS_88
          have hP : va_P (dC, dI) vwCl (mW cI cJ cZ o ad S_88 G) H := by rw [eS_88]; exact hP
          have hD : va_D A (mW cI cJ cZ o ad S_88 G) := by rw [eS_88]; exact hD
          obtain ⟨v3_89, ev3_89⟩ : ∃ y : Int32, y = a3 + (1 : Int32) := ⟨_, rfl⟩
          have hw := hw v3_89 ev3_89
          refine lv_iinc (v := v3_89) (lv' := [(3, .int v3_89), (0, .ref o), (1, .long a1), (4, .int a4)]) hx hb dX9_fewest_89 hl (k := 2) rfl (by rw [ev3_89]; rfl) (by decide) rfl (fun ls hl => ?_)
          exact tb_X9_fewest_92 C ih S_88 G a1 v3_89 a4 hw H locs hP hD hS ls (lv_sub hl [1, 2, 0, 3] rfl)
        · have hw := hw.2 c_74
          exact tb_X9_fewest_77 C  S G  hw H locs hP hD hS ls (lv_sub hl [0] rfl)
      · have hw := hw.2 c_65
        refine lv_goto (tgt := 92) hx hb dX9_fewest_68 (by decide) ?_
        exact tb_X9_fewest_92 C ih S G a1 a3 a4 hw H locs hP hD hS ls (lv_sub hl [0, 1, 2, 3] rfl)
set_option maxHeartbeats 4000000 in
set_option maxRecDepth 100000 in
theorem tb_X9_fewest_45 {p : Program} {l : Launch} {e : Env} {s : State} {m : MethodId} {below : List Frame} {meth : Method} {c : Code} {args : Array Value} {dC : Nat → ClassId} {dI : Nat → Nat → Nat} {cI cJ cZ : ClassId} {o : Nat} {ad : Nat → Nat} {A : Nat → Prop} {Q : Int64 → mS → mG → Prop} (C : mCx p s m args meth c cX9_fewest 12 (some .long) wsX9_fewest A dC dI cI cJ cZ) : ∀ (S : mS) (G : mG) (a1 : Int64), wp_X9_fewest_45 Q  S G a1 → mAt p l e rm_X9_fewest s m args below meth c dC dI cI cJ cZ o ad A (MQ below (va_Ql (fun r (u : mS × mG) => Q r u.1 u.2) (mB dC dI cI cJ cZ o ad A) A) args s 0 0 A) 45 12 [(0, .ref o), (1, .long a1)] [] S G := by
  obtain ⟨hx, hb, hml, hown, hts, hr, hlocks, hA, hK⟩ := id C
  intro S G a1 hw H locs hP hD hS ls hl
  rw [wp_X9_fewest_45] at hw
  refine lv_iconst (v := 0) hx hb dX9_fewest_45 (by decide) ?_
  refine lv_istore_n (lv' := [(3, .int (0 : Int32)), (0, .ref o), (1, .long a1)]) hx hb dX9_fewest_46 rfl hl (by decide) rfl (fun ls hl => ?_)
  refine lv_iconst (v := 0) hx hb dX9_fewest_47 (by decide) ?_
  refine lv_istore (lv' := [(4, .int (0 : Int32)), (3, .int (0 : Int32)), (0, .ref o), (1, .long a1)]) hx hb dX9_fewest_48 hl (by decide) rfl (fun ls hl => ?_)
  obtain ⟨n9, hw⟩ := hw
  exact tb_X9_fewest_50 C  n9 S G a1 (0 : Int32) (0 : Int32) hw H locs hP hD hS ls (lv_sub hl [2, 3, 1, 0] rfl)
set_option maxHeartbeats 4000000 in
set_option maxRecDepth 100000 in
theorem tb_X9_fewest_9 {p : Program} {l : Launch} {e : Env} {s : State} {m : MethodId} {below : List Frame} {meth : Method} {c : Code} {args : Array Value} {dC : Nat → ClassId} {dI : Nat → Nat → Nat} {cI cJ cZ : ClassId} {o : Nat} {ad : Nat → Nat} {A : Nat → Prop} {Q : Int64 → mS → mG → Prop} (C : mCx p s m args meth c cX9_fewest 12 (some .long) wsX9_fewest A dC dI cI cJ cZ) : ∀ (n : Nat) (S : mS) (G : mG) (a1 : Int64) (a3 : Int32), wp_X9_fewest_9 Q  n S G a1 a3 → mAt p l e rm_X9_fewest s m args below meth c dC dI cI cJ cZ o ad A (MQ below (va_Ql (fun r (u : mS × mG) => Q r u.1 u.2) (mB dC dI cI cJ cZ o ad A) A) args s 0 0 A) 9 12 [(0, .ref o), (1, .long a1), (3, .int a3)] [] S G := by
  obtain ⟨hx, hb, hml, hown, hts, hr, hlocks, hA, hK⟩ := id C
  intro n
  induction n with
  | zero => intro S G a1 a3 hw; exact hw.elim
  | succ n ih =>
    intro S G a1 a3 hw H locs hP hD hS ls hl
    rw [wp_X9_fewest_9] at hw
    refine lv_iload_n hx hb dX9_fewest_9 rfl (lv_at hl 2 rfl) ?_
    refine lv_bipush (v := 40) hx hb dX9_fewest_10 (by decide) ?_
    refine lv_icmp_ge (tgt := 45) hx hb dX9_fewest_12 (by decide) (fun c_12 => ?_) (fun c_12 => ?_)
    · have hw := hw.1 c_12
      exact tb_X9_fewest_45 C  S G a1 hw H locs hP hD hS ls (lv_sub hl [0, 1] rfl)
    · have hw := hw.2 c_12
      refine lv_aload_n hx hb dX9_fewest_15 rfl (lv_at hl 0 rfl) ?_
      refine va_get (D := (dC, dI)) (ci := 10) (v := .ref (ad 17)) (C := RX9) (T := TX9) (N := 38) hx hb hts iw_X9_fewest hown hK hP 0 rfl rfl 17 (by decide) (hts _ lk_X9_fewest_46) (fun _ h9 => h9) rfl dX9_fewest_16 ?_
      refine lv_iload_n hx hb dX9_fewest_19 rfl (lv_at hl 2 rfl) ?_
      refine va_lald hx hb hK hP 13 1 rfl rfl hw.1 dX9_fewest_20 ?_
      have hw := hw.2
      refine lv_lconst (v := 0) hx hb dX9_fewest_21 (by decide) ?_
      refine W.lcmp hx hb dX9_fewest_22 ?_
      refine lv_if_eq (tgt := 39) hx hb dX9_fewest_23 (by decide) (fun c_23 => ?_) (fun c_23 => ?_)
      · have hw := hw.1 c_23
        exact tb_X9_fewest_39 C ih S G a1 a3 hw H locs hP hD hS ls (lv_sub hl [0, 1, 2] rfl)
      · have hw := hw.2 c_23
        refine lv_lload_n hx hb dX9_fewest_26 rfl (lv_at hl 1 rfl) ?_
        refine lv_aload_n hx hb dX9_fewest_27 rfl (lv_at hl 0 rfl) ?_
        refine va_get (D := (dC, dI)) (ci := 10) (v := .ref (ad 17)) (C := RX9) (T := TX9) (N := 38) hx hb hts iw_X9_fewest hown hK hP 0 rfl rfl 17 (by decide) (hts _ lk_X9_fewest_46) (fun _ h9 => h9) rfl dX9_fewest_28 ?_
        refine lv_iload_n hx hb dX9_fewest_31 rfl (lv_at hl 2 rfl) ?_
        refine va_lald hx hb hK hP 13 1 rfl rfl hw.1 dX9_fewest_32 ?_
        have hw := hw.2
        refine lv_lconst (v := 1) hx hb dX9_fewest_33 (by decide) ?_
        refine lv_iload_n hx hb dX9_fewest_34 rfl (lv_at hl 2 rfl) ?_
        refine lv_lshl hx hb dX9_fewest_35 rfl ?_
        refine lv_lor hx hb dX9_fewest_36 ?_
        refine lv_lor hx hb dX9_fewest_37 ?_
        refine lv_topl (fun v1_38 ev1_38 => ?_)
        have hw := hw v1_38 ev1_38
        refine lv_lstore_n (lv' := [(1, .long v1_38), (0, .ref o), (3, .int a3)]) hx hb dX9_fewest_38 rfl hl (by decide) rfl (fun ls hl => ?_)
        exact tb_X9_fewest_39 C ih S G v1_38 a3 hw H locs hP hD hS ls (lv_sub hl [1, 0, 2] rfl)
set_option maxHeartbeats 4000000 in
set_option maxRecDepth 100000 in
theorem tb_X9_fewest_0 {p : Program} {l : Launch} {e : Env} {s : State} {m : MethodId} {below : List Frame} {meth : Method} {c : Code} {args : Array Value} {dC : Nat → ClassId} {dI : Nat → Nat → Nat} {cI cJ cZ : ClassId} {o : Nat} {ad : Nat → Nat} {A : Nat → Prop} {Q : Int64 → mS → mG → Prop} (C : mCx p s m args meth c cX9_fewest 12 (some .long) wsX9_fewest A dC dI cI cJ cZ) : ∀ (S : mS) (G : mG) , wp_X9_fewest_0 Q  S G  → mAt p l e rm_X9_fewest s m args below meth c dC dI cI cJ cZ o ad A (MQ below (va_Ql (fun r (u : mS × mG) => Q r u.1 u.2) (mB dC dI cI cJ cZ o ad A) A) args s 0 0 A) 0 12 [(0, .ref o)] [] S G := by
  obtain ⟨hx, hb, hml, hown, hts, hr, hlocks, hA, hK⟩ := id C
  intro S G  hw H locs hP hD hS ls hl
  rw [wp_X9_fewest_0] at hw
  refine lv_aload_n hx hb dX9_fewest_0 rfl (lv_at hl 0 rfl) ?_
  refine lv_iconst (v := 0) hx hb dX9_fewest_1 (by decide) ?_
  refine va_put (D := (dC, dI)) (ci := 10) (v := .int (0 : Int32)) (C := RX9) (T := TX9) (N := 38) hx hb hts iw_X9_fewest tyX9 tyX9_ok nmX9 hown hK hP hD hS 0 rfl rfl 0 (by decide) (hts _ lk_X9_fewest_105) (fun _ h9 => h9) rfl (tyX9_ok 0 (by decide)) rfl rfl (Nat.le_of_ble_eq_true rfl) dX9_fewest_2 (fun H locs hP hD hS => ?_)
  obtain ⟨S_2, eS_2⟩ : ∃ y : mS, y = mst S 0 0 (0 : Int32) := ⟨_, rfl⟩
  have hw := hw S_2 eS_2
  have hP : va_P (dC, dI) vwCl (mW cI cJ cZ o ad S_2 G) H := by rw [eS_2]; exact hP
  have hD : va_D A (mW cI cJ cZ o ad S_2 G) := by rw [eS_2]; exact hD
  refine lv_lconst (v := 0) hx hb dX9_fewest_5 (by decide) ?_
  refine lv_lstore_n (lv' := [(1, .long (0 : Int64)), (0, .ref o)]) hx hb dX9_fewest_6 rfl hl (by decide) rfl (fun ls hl => ?_)
  refine lv_iconst (v := 0) hx hb dX9_fewest_7 (by decide) ?_
  refine lv_istore_n (lv' := [(3, .int (0 : Int32)), (1, .long (0 : Int64)), (0, .ref o)]) hx hb dX9_fewest_8 rfl hl (by decide) rfl (fun ls hl => ?_)
  obtain ⟨n9, hw⟩ := hw
  exact tb_X9_fewest_9 C  n9 S_2 G (0 : Int64) (0 : Int32) hw H locs hP hD hS ls (lv_sub hl [2, 1, 0] rfl)
set_option maxHeartbeats 4000000 in
set_option maxRecDepth 100000 in
theorem c_X9_fewest (l : Launch) (dC : Nat → ClassId) (dI : Nat → Nat → Nat) (cI cJ cZ : ClassId) (o : Nat) (ad : Nat → Nat) (S : mS) (G : mG) (sz : Nat)  (Q : Int64 → mS → mG → Prop) (hw : wp_X9_fewest_0 Q S G ) : Met l yX9_fewest wsX9_fewest rm_X9_fewest (va_Pc [.ref o] (mPre dC dI cI cJ cZ o ad S G sz)) (va_Ql (fun r (u : mS × mG) => Q r u.1 u.2) (mB dC dI cI cJ cZ o ad (mA cI cJ cZ o ad S G sz)) (mA cI cJ cZ o ad S G sz)) 0 0 (mA cI cJ cZ o ad S G sz) := by
  refine Met.ofW (cc := cX9_fewest) (maxL := 12) (ret := (some .long)) (by decide) rfl ?_
  intro p e s m args below meth c s₁ B hml hv
  obtain ⟨rfl, hsz, hP, hK, hD0⟩ := hv
  subst hsz
  have hl := lv_entry ([.ref o]) (n := 12) (Nat.le_of_ble_eq_true rfl)
  rw [lg_entry_eq]
  generalize (lg_sl ([.ref o]) ++ List.replicate (12 - (lg_sl ([.ref o])).length) Slot.unset).toArray = ls at hl ⊢
  exact tb_X9_fewest_0 (Q := Q) (p := p) ⟨B.exec, B.bytes, hml, findClass_of_methodNamed B.named, atoms_spec (ws := wsX9_fewest) B.pre, B.returns, B.notSynchronized, fun q h => Or.inr h, hK⟩ S G  hw s.heap [] hP (hD0.self (sz := s.heap.size)) va_S.rf ls hl
theorem iw_X9_marks : ∀ w ∈ u_ws RX9 TX9 38, w ∈ wsX9_marks := fun w h => List.mem_cons_of_mem _ (by first | exact List.mem_append_right _ h | decide +kernel +revert)
theorem lk_X9_marks_28 : Cond.fieldLink RX9 28 "TermKeeperModel" "thingOf" "[I" ∈ wsX9_marks := by decide +kernel
theorem lk_X9_marks_75 : Cond.fieldLink RX9 75 "TermKeeperModel" "useTerm" "[I" ∈ wsX9_marks := by decide +kernel
theorem lk_X9_marks_168 : Cond.fieldLink RX9 168 "TermKeeperModel" "uses" "I" ∈ wsX9_marks := by decide +kernel
abbrev rm_X9_marks_36 : Room := { frames := 6, cells := 0, slots := 0, locals := 152 }
def wp_X9_marks_36_67 (Q : mS → mG → Prop) (k25_ : mS → mG → Int32 → Prop) (S : mS) (G : mG) (a3 : Int32) : Prop :=
    (∀ v3_67 : Int32, v3_67 = a3 + (1 : Int32) →
      (k25_ S G v3_67))
def wp_X9_marks_36_25 (Q : mS → mG → Prop) : Nat → mS → mG → Int32 → Prop
  | 0, _, _, _ => False
  | n + 1, S, G, a3 =>
    (((S 25 0) ≤ a3 →
      (Q S G))
     ∧ (¬ (S 25 0) ≤ a3 →
      (vp_in a3 301 ∧
        (((S 28 (Int32.toNatClampNeg a3)) = (-1 : Int32) →
          (wp_X9_marks_36_67 Q (wp_X9_marks_36_25 Q  n) S G a3))
         ∧ (¬ (S 28 (Int32.toNatClampNeg a3)) = (-1 : Int32) →
          (vp_in a3 301 ∧
            (vp_in (S 28 (Int32.toNatClampNeg a3)) 60 ∧
              (vp_in (S 11 (Int32.toNatClampNeg (S 28 (Int32.toNatClampNeg a3)))) 40 ∧
                (vp_in a3 301 ∧
                  (vp_in (S 11 (Int32.toNatClampNeg (S 28 (Int32.toNatClampNeg a3)))) 40 ∧ ∀ G_66 : mG, G_66 = mstL G 36 (Int32.toNatClampNeg (S 11 (Int32.toNatClampNeg (S 28 (Int32.toNatClampNeg a3))))) ((G 36 (Int32.toNatClampNeg (S 11 (Int32.toNatClampNeg (S 28 (Int32.toNatClampNeg a3)))))) ||| ((1 : Int64) <<< (Int32.toInt64 (S 28 (Int32.toNatClampNeg a3)) &&& 63))) →
                    (wp_X9_marks_36_67 Q (wp_X9_marks_36_25 Q  n) S G_66 a3)))))))))))
def wp_X9_marks_36_18 (Q : mS → mG → Prop) (S : mS) (G : mG) (a1 : Int32) : Prop :=
    (wp_X9_reads_0 (fun S_20 G_20 =>
      (∃ n9 : Nat, wp_X9_marks_36_25 Q  n9 S_20 G_20 (0 : Int32))) S G a1)
def wp_X9_marks_36_2 (Q : mS → mG → Prop) : Nat → mS → mG → Int32 → Int32 → Prop
  | 0, _, _, _, _ => False
  | n + 1, S, G, a1, a3 =>
    (((40 : Int32) ≤ a3 →
      (wp_X9_marks_36_18 Q  S G a1))
     ∧ (¬ (40 : Int32) ≤ a3 →
      (vp_in a3 40 ∧ ∀ G_11 : mG, G_11 = mstL G 36 (Int32.toNatClampNeg a3) (0 : Int64) →
        (∀ v3_12 : Int32, v3_12 = a3 + (1 : Int32) →
          ((wp_X9_marks_36_2 Q  n) S G_11 a1 v3_12)))))
def wp_X9_marks_36_0 (Q : mS → mG → Prop) (S : mS) (G : mG) (a1 : Int32) : Prop :=
    (∃ n9 : Nat, wp_X9_marks_36_2 Q  n9 S G a1 (0 : Int32))
set_option maxHeartbeats 4000000 in
set_option maxRecDepth 100000 in
theorem tb_X9_marks_36_67 {p : Program} {l : Launch} {e : Env} {s : State} {m : MethodId} {below : List Frame} {meth : Method} {c : Code} {args : Array Value} {dC : Nat → ClassId} {dI : Nat → Nat → Nat} {cI cJ cZ : ClassId} {o : Nat} {ad : Nat → Nat} {A : Nat → Prop} {Q : mS → mG → Prop} (C : mCx p s m args meth c cX9_marks 4 none wsX9_marks A dC dI cI cJ cZ) {k25_ : mS → mG → Int32 → Prop} (h25_ : ∀ (S : mS) (G : mG) (a3 : Int32), k25_ S G a3 → mAt p l e rm_X9_marks_36 s m args below meth c dC dI cI cJ cZ o ad A (MQ below (va_Qv (fun (u : mS × mG) => Q u.1 u.2) (mB dC dI cI cJ cZ o ad A) A) args s 0 0 A) 25 4 [(0, .ref o), (2, .ref (ad 36)), (3, .int a3)] [] S G) : ∀ (S : mS) (G : mG) (a3 : Int32), wp_X9_marks_36_67 Q k25_ S G a3 → mAt p l e rm_X9_marks_36 s m args below meth c dC dI cI cJ cZ o ad A (MQ below (va_Qv (fun (u : mS × mG) => Q u.1 u.2) (mB dC dI cI cJ cZ o ad A) A) args s 0 0 A) 67 4 [(0, .ref o), (2, .ref (ad 36)), (3, .int a3)] [] S G := by
  obtain ⟨hx, hb, hml, hown, hts, hr, hlocks, hA, hK⟩ := id C
  intro S G a3 hw H locs hP hD hS ls hl
  rw [wp_X9_marks_36_67] at hw
  obtain ⟨v3_67, ev3_67⟩ : ∃ y : Int32, y = a3 + (1 : Int32) := ⟨_, rfl⟩
  have hw := hw v3_67 ev3_67
  refine lv_iinc (v := v3_67) (lv' := [(3, .int v3_67), (0, .ref o), (2, .ref (ad 36))]) hx hb dX9_marks_67 hl (k := 2) rfl (by rw [ev3_67]; rfl) (by decide) rfl (fun ls hl => ?_)
  refine lv_goto (tgt := 25) hx hb dX9_marks_70 (by decide) ?_
  exact h25_ S G v3_67 hw H locs hP hD hS ls (lv_sub hl [1, 2, 0] rfl)
set_option maxHeartbeats 4000000 in
set_option maxRecDepth 100000 in
theorem tb_X9_marks_36_25 {p : Program} {l : Launch} {e : Env} {s : State} {m : MethodId} {below : List Frame} {meth : Method} {c : Code} {args : Array Value} {dC : Nat → ClassId} {dI : Nat → Nat → Nat} {cI cJ cZ : ClassId} {o : Nat} {ad : Nat → Nat} {A : Nat → Prop} {Q : mS → mG → Prop} (C : mCx p s m args meth c cX9_marks 4 none wsX9_marks A dC dI cI cJ cZ) : ∀ (n : Nat) (S : mS) (G : mG) (a3 : Int32), wp_X9_marks_36_25 Q  n S G a3 → mAt p l e rm_X9_marks_36 s m args below meth c dC dI cI cJ cZ o ad A (MQ below (va_Qv (fun (u : mS × mG) => Q u.1 u.2) (mB dC dI cI cJ cZ o ad A) A) args s 0 0 A) 25 4 [(0, .ref o), (2, .ref (ad 36)), (3, .int a3)] [] S G := by
  obtain ⟨hx, hb, hml, hown, hts, hr, hlocks, hA, hK⟩ := id C
  intro n
  induction n with
  | zero => intro S G a3 hw; exact hw.elim
  | succ n ih =>
    intro S G a3 hw H locs hP hD hS ls hl
    rw [wp_X9_marks_36_25] at hw
    refine lv_iload_n hx hb dX9_marks_25 rfl (lv_at hl 2 rfl) ?_
    refine lv_aload_n hx hb dX9_marks_26 rfl (lv_at hl 0 rfl) ?_
    refine va_get (D := (dC, dI)) (ci := 10) (v := .int (S 25 0)) (C := RX9) (T := TX9) (N := 38) hx hb hts iw_X9_marks hown hK hP 0 rfl rfl 25 (by decide) (hts _ lk_X9_marks_168) (fun _ h9 => h9) rfl dX9_marks_27 ?_
    refine lv_icmp_ge (tgt := 73) hx hb dX9_marks_30 (by decide) (fun c_30 => ?_) (fun c_30 => ?_)
    · have hw := hw.1 c_30
      exact W.vret hx hb hr (fun t ht hW => ⟨⟨(S, G), rfl, hw, by rw [ht]; exact hP, va_K.moved hW.alike hK, hD⟩, hS.F ht⟩) hS.2.2 dX9_marks_73
    · have hw := hw.2 c_30
      refine lv_aload_n hx hb dX9_marks_33 rfl (lv_at hl 0 rfl) ?_
      refine va_get (D := (dC, dI)) (ci := 10) (v := .ref (ad 28)) (C := RX9) (T := TX9) (N := 38) hx hb hts iw_X9_marks hown hK hP 0 rfl rfl 28 (by decide) (hts _ lk_X9_marks_75) (fun _ h9 => h9) rfl dX9_marks_34 ?_
      refine lv_iload_n hx hb dX9_marks_37 rfl (lv_at hl 2 rfl) ?_
      refine va_iald hx hb hK hP 22 0 rfl rfl hw.1 dX9_marks_38 ?_
      have hw := hw.2
      refine lv_iconst (v := -1) hx hb dX9_marks_39 (by decide) ?_
      refine lv_icmp_eq (tgt := 67) hx hb dX9_marks_40 (by decide) (fun c_40 => ?_) (fun c_40 => ?_)
      · have hw := hw.1 c_40
        exact tb_X9_marks_36_67 C ih S G a3 hw H locs hP hD hS ls (lv_sub hl [0, 1, 2] rfl)
      · have hw := hw.2 c_40
        refine lv_aload_n hx hb dX9_marks_43 rfl (lv_at hl 1 rfl) ?_
        refine lv_aload_n hx hb dX9_marks_44 rfl (lv_at hl 0 rfl) ?_
        refine va_get (D := (dC, dI)) (ci := 10) (v := .ref (ad 11)) (C := RX9) (T := TX9) (N := 38) hx hb hts iw_X9_marks hown hK hP 0 rfl rfl 11 (by decide) (hts _ lk_X9_marks_28) (fun _ h9 => h9) rfl dX9_marks_45 ?_
        refine lv_aload_n hx hb dX9_marks_48 rfl (lv_at hl 0 rfl) ?_
        refine va_get (D := (dC, dI)) (ci := 10) (v := .ref (ad 28)) (C := RX9) (T := TX9) (N := 38) hx hb hts iw_X9_marks hown hK hP 0 rfl rfl 28 (by decide) (hts _ lk_X9_marks_75) (fun _ h9 => h9) rfl dX9_marks_49 ?_
        refine lv_iload_n hx hb dX9_marks_52 rfl (lv_at hl 2 rfl) ?_
        refine va_iald hx hb hK hP 22 0 rfl rfl hw.1 dX9_marks_53 ?_
        have hw := hw.2
        refine va_iald hx hb hK hP 7 0 rfl rfl hw.1 dX9_marks_54 ?_
        have hw := hw.2
        refine lv_dup2_11 hx hb dX9_marks_55 rfl rfl ?_
        refine va_lald hx hb hK hP 30 1 rfl rfl hw.1 dX9_marks_56 ?_
        have hw := hw.2
        refine lv_lconst (v := 1) hx hb dX9_marks_57 (by decide) ?_
        refine lv_aload_n hx hb dX9_marks_58 rfl (lv_at hl 0 rfl) ?_
        refine va_get (D := (dC, dI)) (ci := 10) (v := .ref (ad 28)) (C := RX9) (T := TX9) (N := 38) hx hb hts iw_X9_marks hown hK hP 0 rfl rfl 28 (by decide) (hts _ lk_X9_marks_75) (fun _ h9 => h9) rfl dX9_marks_59 ?_
        refine lv_iload_n hx hb dX9_marks_62 rfl (lv_at hl 2 rfl) ?_
        refine va_iald hx hb hK hP 22 0 rfl rfl hw.1 dX9_marks_63 ?_
        have hw := hw.2
        refine lv_lshl hx hb dX9_marks_64 rfl ?_
        refine lv_lor hx hb dX9_marks_65 ?_
        refine va_last hx hb hK hP hD hS 30 1 rfl rfl hw.1 dX9_marks_66 (fun H locs hP hD hS => ?_)
        obtain ⟨G_66, eG_66⟩ : ∃ y : mG, y = mstL G 36 (Int32.toNatClampNeg (S 11 (Int32.toNatClampNeg (S 28 (Int32.toNatClampNeg a3))))) ((G 36 (Int32.toNatClampNeg (S 11 (Int32.toNatClampNeg (S 28 (Int32.toNatClampNeg a3)))))) ||| ((1 : Int64) <<< (Int32.toInt64 (S 28 (Int32.toNatClampNeg a3)) &&& 63))) := ⟨_, rfl⟩
        have hw := hw.2 G_66 eG_66
        have hP : va_P (dC, dI) vwCl (mW cI cJ cZ o ad S G_66) H := by rw [eG_66]; exact hP
        have hD : va_D A (mW cI cJ cZ o ad S G_66) := by rw [eG_66]; exact hD
        exact tb_X9_marks_36_67 C ih S G_66 a3 hw H locs hP hD hS ls (lv_sub hl [0, 1, 2] rfl)
set_option maxHeartbeats 4000000 in
set_option maxRecDepth 100000 in
theorem tb_X9_marks_36_18 {p : Program} {l : Launch} {e : Env} {s : State} {m : MethodId} {below : List Frame} {meth : Method} {c : Code} {args : Array Value} {dC : Nat → ClassId} {dI : Nat → Nat → Nat} {cI cJ cZ : ClassId} {o : Nat} {ad : Nat → Nat} {A : Nat → Prop} {Q : mS → mG → Prop} (C : mCx p s m args meth c cX9_marks 4 none wsX9_marks A dC dI cI cJ cZ) : ∀ (S : mS) (G : mG) (a1 : Int32), wp_X9_marks_36_18 Q  S G a1 → mAt p l e rm_X9_marks_36 s m args below meth c dC dI cI cJ cZ o ad A (MQ below (va_Qv (fun (u : mS × mG) => Q u.1 u.2) (mB dC dI cI cJ cZ o ad A) A) args s 0 0 A) 18 4 [(0, .ref o), (1, .int a1), (2, .ref (ad 36))] [] S G := by
  obtain ⟨hx, hb, hml, hown, hts, hr, hlocks, hA, hK⟩ := id C
  intro S G a1 hw H locs hP hD hS ls hl
  rw [wp_X9_marks_36_18] at hw
  refine lv_aload_n hx hb dX9_marks_18 rfl (lv_at hl 0 rfl) ?_
  refine lv_iload_n hx hb dX9_marks_19 rfl (lv_at hl 1 rfl) ?_
  have hFc := mFree hD hS hA
  refine va_callv (va_runV (As := [.int a1]) (rest := []) ⟨hx, hb, hml, hown, hts⟩ (c_X9_reads l dC dI cI cJ cZ o ad S G H.size a1 _ hw) (cwV 1 hts gX9_marks_X9_reads rfl rfl rfl (by decide +kernel) ⟨Nat.le_of_ble_eq_true rfl, Nat.le_of_ble_eq_true rfl⟩) (mPreV [.int a1] hK hP hD) rfl rfl hl.1 rfl (lv_room (Nat.le_of_ble_eq_true rfl)) dX9_marks_20 ⟨Nat.zero_le _, Nat.zero_le _⟩) hS (fun q _ h => hFc q h) hFc (fun u t H1 locs ht hvm hw hB hz1 hk1 hS => ?_)
  obtain ⟨S_20, G_20⟩ := u
  obtain ⟨hP, -, hD1⟩ := hB
  rw [ht] at hP
  have hw := id hw
  have hP : va_P (dC, dI) vwCl (mW cI cJ cZ o ad S_20 G_20) H1 := hP
  have hD : va_D A (mW cI cJ cZ o ad S_20 G_20) := mGain hD1 hFc
  generalize H1 = H at hP hS ⊢
  refine lv_iconst (v := 0) hx hb dX9_marks_23 (by decide) ?_
  refine lv_istore_n (lv' := [(3, .int (0 : Int32)), (0, .ref o), (1, .int a1), (2, .ref (ad 36))]) hx hb dX9_marks_24 rfl hl (by decide) rfl (fun ls hl => ?_)
  obtain ⟨n9, hw⟩ := hw
  exact tb_X9_marks_36_25 C  n9 S_20 G_20 (0 : Int32) hw H locs hP hD hS ls (lv_sub hl [1, 3, 0] rfl)
set_option maxHeartbeats 4000000 in
set_option maxRecDepth 100000 in
theorem tb_X9_marks_36_2 {p : Program} {l : Launch} {e : Env} {s : State} {m : MethodId} {below : List Frame} {meth : Method} {c : Code} {args : Array Value} {dC : Nat → ClassId} {dI : Nat → Nat → Nat} {cI cJ cZ : ClassId} {o : Nat} {ad : Nat → Nat} {A : Nat → Prop} {Q : mS → mG → Prop} (C : mCx p s m args meth c cX9_marks 4 none wsX9_marks A dC dI cI cJ cZ) : ∀ (n : Nat) (S : mS) (G : mG) (a1 : Int32) (a3 : Int32), wp_X9_marks_36_2 Q  n S G a1 a3 → mAt p l e rm_X9_marks_36 s m args below meth c dC dI cI cJ cZ o ad A (MQ below (va_Qv (fun (u : mS × mG) => Q u.1 u.2) (mB dC dI cI cJ cZ o ad A) A) args s 0 0 A) 2 4 [(0, .ref o), (1, .int a1), (2, .ref (ad 36)), (3, .int a3)] [] S G := by
  obtain ⟨hx, hb, hml, hown, hts, hr, hlocks, hA, hK⟩ := id C
  intro n
  induction n with
  | zero => intro S G a1 a3 hw; exact hw.elim
  | succ n ih =>
    intro S G a1 a3 hw H locs hP hD hS ls hl
    rw [wp_X9_marks_36_2] at hw
    refine lv_iload_n hx hb dX9_marks_2 rfl (lv_at hl 3 rfl) ?_
    refine lv_bipush (v := 40) hx hb dX9_marks_3 (by decide) ?_
    refine lv_icmp_ge (tgt := 18) hx hb dX9_marks_5 (by decide) (fun c_5 => ?_) (fun c_5 => ?_)
    · have hw := hw.1 c_5
      exact tb_X9_marks_36_18 C  S G a1 hw H locs hP hD hS ls (lv_sub hl [0, 1, 2] rfl)
    · have hw := hw.2 c_5
      refine lv_aload_n hx hb dX9_marks_8 rfl (lv_at hl 2 rfl) ?_
      refine lv_iload_n hx hb dX9_marks_9 rfl (lv_at hl 3 rfl) ?_
      refine lv_lconst (v := 0) hx hb dX9_marks_10 (by decide) ?_
      refine va_last hx hb hK hP hD hS 30 1 rfl rfl hw.1 dX9_marks_11 (fun H locs hP hD hS => ?_)
      obtain ⟨G_11, eG_11⟩ : ∃ y : mG, y = mstL G 36 (Int32.toNatClampNeg a3) (0 : Int64) := ⟨_, rfl⟩
      have hw := hw.2 G_11 eG_11
      have hP : va_P (dC, dI) vwCl (mW cI cJ cZ o ad S G_11) H := by rw [eG_11]; exact hP
      have hD : va_D A (mW cI cJ cZ o ad S G_11) := by rw [eG_11]; exact hD
      obtain ⟨v3_12, ev3_12⟩ : ∃ y : Int32, y = a3 + (1 : Int32) := ⟨_, rfl⟩
      have hw := hw v3_12 ev3_12
      refine lv_iinc (v := v3_12) (lv' := [(3, .int v3_12), (0, .ref o), (1, .int a1), (2, .ref (ad 36))]) hx hb dX9_marks_12 hl (k := 3) rfl (by rw [ev3_12]; rfl) (by decide) rfl (fun ls hl => ?_)
      refine lv_goto (tgt := 2) hx hb dX9_marks_15 (by decide) ?_
      exact ih S G_11 a1 v3_12 hw H locs hP hD hS ls (lv_sub hl [1, 2, 3, 0] rfl)
set_option maxHeartbeats 4000000 in
set_option maxRecDepth 100000 in
theorem tb_X9_marks_36_0 {p : Program} {l : Launch} {e : Env} {s : State} {m : MethodId} {below : List Frame} {meth : Method} {c : Code} {args : Array Value} {dC : Nat → ClassId} {dI : Nat → Nat → Nat} {cI cJ cZ : ClassId} {o : Nat} {ad : Nat → Nat} {A : Nat → Prop} {Q : mS → mG → Prop} (C : mCx p s m args meth c cX9_marks 4 none wsX9_marks A dC dI cI cJ cZ) : ∀ (S : mS) (G : mG) (a1 : Int32), wp_X9_marks_36_0 Q  S G a1 → mAt p l e rm_X9_marks_36 s m args below meth c dC dI cI cJ cZ o ad A (MQ below (va_Qv (fun (u : mS × mG) => Q u.1 u.2) (mB dC dI cI cJ cZ o ad A) A) args s 0 0 A) 0 4 [(0, .ref o), (1, .int a1), (2, .ref (ad 36))] [] S G := by
  obtain ⟨hx, hb, hml, hown, hts, hr, hlocks, hA, hK⟩ := id C
  intro S G a1 hw H locs hP hD hS ls hl
  rw [wp_X9_marks_36_0] at hw
  refine lv_iconst (v := 0) hx hb dX9_marks_0 (by decide) ?_
  refine lv_istore_n (lv' := [(3, .int (0 : Int32)), (0, .ref o), (1, .int a1), (2, .ref (ad 36))]) hx hb dX9_marks_1 rfl hl (by decide) rfl (fun ls hl => ?_)
  obtain ⟨n9, hw⟩ := hw
  exact tb_X9_marks_36_2 C  n9 S G a1 (0 : Int32) hw H locs hP hD hS ls (lv_sub hl [1, 2, 3, 0] rfl)
set_option maxHeartbeats 4000000 in
set_option maxRecDepth 100000 in
theorem c_X9_marks_36 (l : Launch) (dC : Nat → ClassId) (dI : Nat → Nat → Nat) (cI cJ cZ : ClassId) (o : Nat) (ad : Nat → Nat) (S : mS) (G : mG) (sz : Nat) (a1 : Int32) (Q : mS → mG → Prop) (hw : wp_X9_marks_36_0 Q S G a1) : Met l yX9_marks wsX9_marks rm_X9_marks_36 (va_Pc [.ref o, .int a1, .ref (ad 36)] (mPre dC dI cI cJ cZ o ad S G sz)) (va_Qv (fun (u : mS × mG) => Q u.1 u.2) (mB dC dI cI cJ cZ o ad (mA cI cJ cZ o ad S G sz)) (mA cI cJ cZ o ad S G sz)) 0 0 (mA cI cJ cZ o ad S G sz) := by
  refine Met.ofW (cc := cX9_marks) (maxL := 4) (ret := none) (by decide) rfl ?_
  intro p e s m args below meth c s₁ B hml hv
  obtain ⟨rfl, hsz, hP, hK, hD0⟩ := hv
  subst hsz
  have hl := lv_entry ([.ref o, .int a1, .ref (ad 36)]) (n := 4) (Nat.le_of_ble_eq_true rfl)
  rw [lg_entry_eq]
  generalize (lg_sl ([.ref o, .int a1, .ref (ad 36)]) ++ List.replicate (4 - (lg_sl ([.ref o, .int a1, .ref (ad 36)])).length) Slot.unset).toArray = ls at hl ⊢
  exact tb_X9_marks_36_0 (Q := Q) (p := p) ⟨B.exec, B.bytes, hml, findClass_of_methodNamed B.named, atoms_spec (ws := wsX9_marks) B.pre, B.returns, B.notSynchronized, fun q h => Or.inr h, hK⟩ S G a1 hw s.heap [] hP (hD0.self (sz := s.heap.size)) va_S.rf ls hl
abbrev rm_X9_marks_37 : Room := { frames := 6, cells := 0, slots := 0, locals := 152 }
def wp_X9_marks_37_67 (Q : mS → mG → Prop) (k25_ : mS → mG → Int32 → Prop) (S : mS) (G : mG) (a3 : Int32) : Prop :=
    (∀ v3_67 : Int32, v3_67 = a3 + (1 : Int32) →
      (k25_ S G v3_67))
def wp_X9_marks_37_25 (Q : mS → mG → Prop) : Nat → mS → mG → Int32 → Prop
  | 0, _, _, _ => False
  | n + 1, S, G, a3 =>
    (((S 25 0) ≤ a3 →
      (Q S G))
     ∧ (¬ (S 25 0) ≤ a3 →
      (vp_in a3 301 ∧
        (((S 28 (Int32.toNatClampNeg a3)) = (-1 : Int32) →
          (wp_X9_marks_37_67 Q (wp_X9_marks_37_25 Q  n) S G a3))
         ∧ (¬ (S 28 (Int32.toNatClampNeg a3)) = (-1 : Int32) →
          (vp_in a3 301 ∧
            (vp_in (S 28 (Int32.toNatClampNeg a3)) 60 ∧
              (vp_in (S 11 (Int32.toNatClampNeg (S 28 (Int32.toNatClampNeg a3)))) 40 ∧
                (vp_in a3 301 ∧
                  (vp_in (S 11 (Int32.toNatClampNeg (S 28 (Int32.toNatClampNeg a3)))) 40 ∧ ∀ G_66 : mG, G_66 = mstL G 37 (Int32.toNatClampNeg (S 11 (Int32.toNatClampNeg (S 28 (Int32.toNatClampNeg a3))))) ((G 37 (Int32.toNatClampNeg (S 11 (Int32.toNatClampNeg (S 28 (Int32.toNatClampNeg a3)))))) ||| ((1 : Int64) <<< (Int32.toInt64 (S 28 (Int32.toNatClampNeg a3)) &&& 63))) →
                    (wp_X9_marks_37_67 Q (wp_X9_marks_37_25 Q  n) S G_66 a3)))))))))))
def wp_X9_marks_37_18 (Q : mS → mG → Prop) (S : mS) (G : mG) (a1 : Int32) : Prop :=
    (wp_X9_reads_0 (fun S_20 G_20 =>
      (∃ n9 : Nat, wp_X9_marks_37_25 Q  n9 S_20 G_20 (0 : Int32))) S G a1)
def wp_X9_marks_37_2 (Q : mS → mG → Prop) : Nat → mS → mG → Int32 → Int32 → Prop
  | 0, _, _, _, _ => False
  | n + 1, S, G, a1, a3 =>
    (((40 : Int32) ≤ a3 →
      (wp_X9_marks_37_18 Q  S G a1))
     ∧ (¬ (40 : Int32) ≤ a3 →
      (vp_in a3 40 ∧ ∀ G_11 : mG, G_11 = mstL G 37 (Int32.toNatClampNeg a3) (0 : Int64) →
        (∀ v3_12 : Int32, v3_12 = a3 + (1 : Int32) →
          ((wp_X9_marks_37_2 Q  n) S G_11 a1 v3_12)))))
def wp_X9_marks_37_0 (Q : mS → mG → Prop) (S : mS) (G : mG) (a1 : Int32) : Prop :=
    (∃ n9 : Nat, wp_X9_marks_37_2 Q  n9 S G a1 (0 : Int32))
set_option maxHeartbeats 4000000 in
set_option maxRecDepth 100000 in
theorem tb_X9_marks_37_67 {p : Program} {l : Launch} {e : Env} {s : State} {m : MethodId} {below : List Frame} {meth : Method} {c : Code} {args : Array Value} {dC : Nat → ClassId} {dI : Nat → Nat → Nat} {cI cJ cZ : ClassId} {o : Nat} {ad : Nat → Nat} {A : Nat → Prop} {Q : mS → mG → Prop} (C : mCx p s m args meth c cX9_marks 4 none wsX9_marks A dC dI cI cJ cZ) {k25_ : mS → mG → Int32 → Prop} (h25_ : ∀ (S : mS) (G : mG) (a3 : Int32), k25_ S G a3 → mAt p l e rm_X9_marks_37 s m args below meth c dC dI cI cJ cZ o ad A (MQ below (va_Qv (fun (u : mS × mG) => Q u.1 u.2) (mB dC dI cI cJ cZ o ad A) A) args s 0 0 A) 25 4 [(0, .ref o), (2, .ref (ad 37)), (3, .int a3)] [] S G) : ∀ (S : mS) (G : mG) (a3 : Int32), wp_X9_marks_37_67 Q k25_ S G a3 → mAt p l e rm_X9_marks_37 s m args below meth c dC dI cI cJ cZ o ad A (MQ below (va_Qv (fun (u : mS × mG) => Q u.1 u.2) (mB dC dI cI cJ cZ o ad A) A) args s 0 0 A) 67 4 [(0, .ref o), (2, .ref (ad 37)), (3, .int a3)] [] S G := by
  obtain ⟨hx, hb, hml, hown, hts, hr, hlocks, hA, hK⟩ := id C
  intro S G a3 hw H locs hP hD hS ls hl
  rw [wp_X9_marks_37_67] at hw
  obtain ⟨v3_67, ev3_67⟩ : ∃ y : Int32, y = a3 + (1 : Int32) := ⟨_, rfl⟩
  have hw := hw v3_67 ev3_67
  refine lv_iinc (v := v3_67) (lv' := [(3, .int v3_67), (0, .ref o), (2, .ref (ad 37))]) hx hb dX9_marks_67 hl (k := 2) rfl (by rw [ev3_67]; rfl) (by decide) rfl (fun ls hl => ?_)
  refine lv_goto (tgt := 25) hx hb dX9_marks_70 (by decide) ?_
  exact h25_ S G v3_67 hw H locs hP hD hS ls (lv_sub hl [1, 2, 0] rfl)
set_option maxHeartbeats 4000000 in
set_option maxRecDepth 100000 in
theorem tb_X9_marks_37_25 {p : Program} {l : Launch} {e : Env} {s : State} {m : MethodId} {below : List Frame} {meth : Method} {c : Code} {args : Array Value} {dC : Nat → ClassId} {dI : Nat → Nat → Nat} {cI cJ cZ : ClassId} {o : Nat} {ad : Nat → Nat} {A : Nat → Prop} {Q : mS → mG → Prop} (C : mCx p s m args meth c cX9_marks 4 none wsX9_marks A dC dI cI cJ cZ) : ∀ (n : Nat) (S : mS) (G : mG) (a3 : Int32), wp_X9_marks_37_25 Q  n S G a3 → mAt p l e rm_X9_marks_37 s m args below meth c dC dI cI cJ cZ o ad A (MQ below (va_Qv (fun (u : mS × mG) => Q u.1 u.2) (mB dC dI cI cJ cZ o ad A) A) args s 0 0 A) 25 4 [(0, .ref o), (2, .ref (ad 37)), (3, .int a3)] [] S G := by
  obtain ⟨hx, hb, hml, hown, hts, hr, hlocks, hA, hK⟩ := id C
  intro n
  induction n with
  | zero => intro S G a3 hw; exact hw.elim
  | succ n ih =>
    intro S G a3 hw H locs hP hD hS ls hl
    rw [wp_X9_marks_37_25] at hw
    refine lv_iload_n hx hb dX9_marks_25 rfl (lv_at hl 2 rfl) ?_
    refine lv_aload_n hx hb dX9_marks_26 rfl (lv_at hl 0 rfl) ?_
    refine va_get (D := (dC, dI)) (ci := 10) (v := .int (S 25 0)) (C := RX9) (T := TX9) (N := 38) hx hb hts iw_X9_marks hown hK hP 0 rfl rfl 25 (by decide) (hts _ lk_X9_marks_168) (fun _ h9 => h9) rfl dX9_marks_27 ?_
    refine lv_icmp_ge (tgt := 73) hx hb dX9_marks_30 (by decide) (fun c_30 => ?_) (fun c_30 => ?_)
    · have hw := hw.1 c_30
      exact W.vret hx hb hr (fun t ht hW => ⟨⟨(S, G), rfl, hw, by rw [ht]; exact hP, va_K.moved hW.alike hK, hD⟩, hS.F ht⟩) hS.2.2 dX9_marks_73
    · have hw := hw.2 c_30
      refine lv_aload_n hx hb dX9_marks_33 rfl (lv_at hl 0 rfl) ?_
      refine va_get (D := (dC, dI)) (ci := 10) (v := .ref (ad 28)) (C := RX9) (T := TX9) (N := 38) hx hb hts iw_X9_marks hown hK hP 0 rfl rfl 28 (by decide) (hts _ lk_X9_marks_75) (fun _ h9 => h9) rfl dX9_marks_34 ?_
      refine lv_iload_n hx hb dX9_marks_37 rfl (lv_at hl 2 rfl) ?_
      refine va_iald hx hb hK hP 22 0 rfl rfl hw.1 dX9_marks_38 ?_
      have hw := hw.2
      refine lv_iconst (v := -1) hx hb dX9_marks_39 (by decide) ?_
      refine lv_icmp_eq (tgt := 67) hx hb dX9_marks_40 (by decide) (fun c_40 => ?_) (fun c_40 => ?_)
      · have hw := hw.1 c_40
        exact tb_X9_marks_37_67 C ih S G a3 hw H locs hP hD hS ls (lv_sub hl [0, 1, 2] rfl)
      · have hw := hw.2 c_40
        refine lv_aload_n hx hb dX9_marks_43 rfl (lv_at hl 1 rfl) ?_
        refine lv_aload_n hx hb dX9_marks_44 rfl (lv_at hl 0 rfl) ?_
        refine va_get (D := (dC, dI)) (ci := 10) (v := .ref (ad 11)) (C := RX9) (T := TX9) (N := 38) hx hb hts iw_X9_marks hown hK hP 0 rfl rfl 11 (by decide) (hts _ lk_X9_marks_28) (fun _ h9 => h9) rfl dX9_marks_45 ?_
        refine lv_aload_n hx hb dX9_marks_48 rfl (lv_at hl 0 rfl) ?_
        refine va_get (D := (dC, dI)) (ci := 10) (v := .ref (ad 28)) (C := RX9) (T := TX9) (N := 38) hx hb hts iw_X9_marks hown hK hP 0 rfl rfl 28 (by decide) (hts _ lk_X9_marks_75) (fun _ h9 => h9) rfl dX9_marks_49 ?_
        refine lv_iload_n hx hb dX9_marks_52 rfl (lv_at hl 2 rfl) ?_
        refine va_iald hx hb hK hP 22 0 rfl rfl hw.1 dX9_marks_53 ?_
        have hw := hw.2
        refine va_iald hx hb hK hP 7 0 rfl rfl hw.1 dX9_marks_54 ?_
        have hw := hw.2
        refine lv_dup2_11 hx hb dX9_marks_55 rfl rfl ?_
        refine va_lald hx hb hK hP 31 1 rfl rfl hw.1 dX9_marks_56 ?_
        have hw := hw.2
        refine lv_lconst (v := 1) hx hb dX9_marks_57 (by decide) ?_
        refine lv_aload_n hx hb dX9_marks_58 rfl (lv_at hl 0 rfl) ?_
        refine va_get (D := (dC, dI)) (ci := 10) (v := .ref (ad 28)) (C := RX9) (T := TX9) (N := 38) hx hb hts iw_X9_marks hown hK hP 0 rfl rfl 28 (by decide) (hts _ lk_X9_marks_75) (fun _ h9 => h9) rfl dX9_marks_59 ?_
        refine lv_iload_n hx hb dX9_marks_62 rfl (lv_at hl 2 rfl) ?_
        refine va_iald hx hb hK hP 22 0 rfl rfl hw.1 dX9_marks_63 ?_
        have hw := hw.2
        refine lv_lshl hx hb dX9_marks_64 rfl ?_
        refine lv_lor hx hb dX9_marks_65 ?_
        refine va_last hx hb hK hP hD hS 31 1 rfl rfl hw.1 dX9_marks_66 (fun H locs hP hD hS => ?_)
        obtain ⟨G_66, eG_66⟩ : ∃ y : mG, y = mstL G 37 (Int32.toNatClampNeg (S 11 (Int32.toNatClampNeg (S 28 (Int32.toNatClampNeg a3))))) ((G 37 (Int32.toNatClampNeg (S 11 (Int32.toNatClampNeg (S 28 (Int32.toNatClampNeg a3)))))) ||| ((1 : Int64) <<< (Int32.toInt64 (S 28 (Int32.toNatClampNeg a3)) &&& 63))) := ⟨_, rfl⟩
        have hw := hw.2 G_66 eG_66
        have hP : va_P (dC, dI) vwCl (mW cI cJ cZ o ad S G_66) H := by rw [eG_66]; exact hP
        have hD : va_D A (mW cI cJ cZ o ad S G_66) := by rw [eG_66]; exact hD
        exact tb_X9_marks_37_67 C ih S G_66 a3 hw H locs hP hD hS ls (lv_sub hl [0, 1, 2] rfl)
set_option maxHeartbeats 4000000 in
set_option maxRecDepth 100000 in
theorem tb_X9_marks_37_18 {p : Program} {l : Launch} {e : Env} {s : State} {m : MethodId} {below : List Frame} {meth : Method} {c : Code} {args : Array Value} {dC : Nat → ClassId} {dI : Nat → Nat → Nat} {cI cJ cZ : ClassId} {o : Nat} {ad : Nat → Nat} {A : Nat → Prop} {Q : mS → mG → Prop} (C : mCx p s m args meth c cX9_marks 4 none wsX9_marks A dC dI cI cJ cZ) : ∀ (S : mS) (G : mG) (a1 : Int32), wp_X9_marks_37_18 Q  S G a1 → mAt p l e rm_X9_marks_37 s m args below meth c dC dI cI cJ cZ o ad A (MQ below (va_Qv (fun (u : mS × mG) => Q u.1 u.2) (mB dC dI cI cJ cZ o ad A) A) args s 0 0 A) 18 4 [(0, .ref o), (1, .int a1), (2, .ref (ad 37))] [] S G := by
  obtain ⟨hx, hb, hml, hown, hts, hr, hlocks, hA, hK⟩ := id C
  intro S G a1 hw H locs hP hD hS ls hl
  rw [wp_X9_marks_37_18] at hw
  refine lv_aload_n hx hb dX9_marks_18 rfl (lv_at hl 0 rfl) ?_
  refine lv_iload_n hx hb dX9_marks_19 rfl (lv_at hl 1 rfl) ?_
  have hFc := mFree hD hS hA
  refine va_callv (va_runV (As := [.int a1]) (rest := []) ⟨hx, hb, hml, hown, hts⟩ (c_X9_reads l dC dI cI cJ cZ o ad S G H.size a1 _ hw) (cwV 1 hts gX9_marks_X9_reads rfl rfl rfl (by decide +kernel) ⟨Nat.le_of_ble_eq_true rfl, Nat.le_of_ble_eq_true rfl⟩) (mPreV [.int a1] hK hP hD) rfl rfl hl.1 rfl (lv_room (Nat.le_of_ble_eq_true rfl)) dX9_marks_20 ⟨Nat.zero_le _, Nat.zero_le _⟩) hS (fun q _ h => hFc q h) hFc (fun u t H1 locs ht hvm hw hB hz1 hk1 hS => ?_)
  obtain ⟨S_20, G_20⟩ := u
  obtain ⟨hP, -, hD1⟩ := hB
  rw [ht] at hP
  have hw := id hw
  have hP : va_P (dC, dI) vwCl (mW cI cJ cZ o ad S_20 G_20) H1 := hP
  have hD : va_D A (mW cI cJ cZ o ad S_20 G_20) := mGain hD1 hFc
  generalize H1 = H at hP hS ⊢
  refine lv_iconst (v := 0) hx hb dX9_marks_23 (by decide) ?_
  refine lv_istore_n (lv' := [(3, .int (0 : Int32)), (0, .ref o), (1, .int a1), (2, .ref (ad 37))]) hx hb dX9_marks_24 rfl hl (by decide) rfl (fun ls hl => ?_)
  obtain ⟨n9, hw⟩ := hw
  exact tb_X9_marks_37_25 C  n9 S_20 G_20 (0 : Int32) hw H locs hP hD hS ls (lv_sub hl [1, 3, 0] rfl)
set_option maxHeartbeats 4000000 in
set_option maxRecDepth 100000 in
theorem tb_X9_marks_37_2 {p : Program} {l : Launch} {e : Env} {s : State} {m : MethodId} {below : List Frame} {meth : Method} {c : Code} {args : Array Value} {dC : Nat → ClassId} {dI : Nat → Nat → Nat} {cI cJ cZ : ClassId} {o : Nat} {ad : Nat → Nat} {A : Nat → Prop} {Q : mS → mG → Prop} (C : mCx p s m args meth c cX9_marks 4 none wsX9_marks A dC dI cI cJ cZ) : ∀ (n : Nat) (S : mS) (G : mG) (a1 : Int32) (a3 : Int32), wp_X9_marks_37_2 Q  n S G a1 a3 → mAt p l e rm_X9_marks_37 s m args below meth c dC dI cI cJ cZ o ad A (MQ below (va_Qv (fun (u : mS × mG) => Q u.1 u.2) (mB dC dI cI cJ cZ o ad A) A) args s 0 0 A) 2 4 [(0, .ref o), (1, .int a1), (2, .ref (ad 37)), (3, .int a3)] [] S G := by
  obtain ⟨hx, hb, hml, hown, hts, hr, hlocks, hA, hK⟩ := id C
  intro n
  induction n with
  | zero => intro S G a1 a3 hw; exact hw.elim
  | succ n ih =>
    intro S G a1 a3 hw H locs hP hD hS ls hl
    rw [wp_X9_marks_37_2] at hw
    refine lv_iload_n hx hb dX9_marks_2 rfl (lv_at hl 3 rfl) ?_
    refine lv_bipush (v := 40) hx hb dX9_marks_3 (by decide) ?_
    refine lv_icmp_ge (tgt := 18) hx hb dX9_marks_5 (by decide) (fun c_5 => ?_) (fun c_5 => ?_)
    · have hw := hw.1 c_5
      exact tb_X9_marks_37_18 C  S G a1 hw H locs hP hD hS ls (lv_sub hl [0, 1, 2] rfl)
    · have hw := hw.2 c_5
      refine lv_aload_n hx hb dX9_marks_8 rfl (lv_at hl 2 rfl) ?_
      refine lv_iload_n hx hb dX9_marks_9 rfl (lv_at hl 3 rfl) ?_
      refine lv_lconst (v := 0) hx hb dX9_marks_10 (by decide) ?_
      refine va_last hx hb hK hP hD hS 31 1 rfl rfl hw.1 dX9_marks_11 (fun H locs hP hD hS => ?_)
      obtain ⟨G_11, eG_11⟩ : ∃ y : mG, y = mstL G 37 (Int32.toNatClampNeg a3) (0 : Int64) := ⟨_, rfl⟩
      have hw := hw.2 G_11 eG_11
      have hP : va_P (dC, dI) vwCl (mW cI cJ cZ o ad S G_11) H := by rw [eG_11]; exact hP
      have hD : va_D A (mW cI cJ cZ o ad S G_11) := by rw [eG_11]; exact hD
      obtain ⟨v3_12, ev3_12⟩ : ∃ y : Int32, y = a3 + (1 : Int32) := ⟨_, rfl⟩
      have hw := hw v3_12 ev3_12
      refine lv_iinc (v := v3_12) (lv' := [(3, .int v3_12), (0, .ref o), (1, .int a1), (2, .ref (ad 37))]) hx hb dX9_marks_12 hl (k := 3) rfl (by rw [ev3_12]; rfl) (by decide) rfl (fun ls hl => ?_)
      refine lv_goto (tgt := 2) hx hb dX9_marks_15 (by decide) ?_
      exact ih S G_11 a1 v3_12 hw H locs hP hD hS ls (lv_sub hl [1, 2, 3, 0] rfl)
set_option maxHeartbeats 4000000 in
set_option maxRecDepth 100000 in
theorem tb_X9_marks_37_0 {p : Program} {l : Launch} {e : Env} {s : State} {m : MethodId} {below : List Frame} {meth : Method} {c : Code} {args : Array Value} {dC : Nat → ClassId} {dI : Nat → Nat → Nat} {cI cJ cZ : ClassId} {o : Nat} {ad : Nat → Nat} {A : Nat → Prop} {Q : mS → mG → Prop} (C : mCx p s m args meth c cX9_marks 4 none wsX9_marks A dC dI cI cJ cZ) : ∀ (S : mS) (G : mG) (a1 : Int32), wp_X9_marks_37_0 Q  S G a1 → mAt p l e rm_X9_marks_37 s m args below meth c dC dI cI cJ cZ o ad A (MQ below (va_Qv (fun (u : mS × mG) => Q u.1 u.2) (mB dC dI cI cJ cZ o ad A) A) args s 0 0 A) 0 4 [(0, .ref o), (1, .int a1), (2, .ref (ad 37))] [] S G := by
  obtain ⟨hx, hb, hml, hown, hts, hr, hlocks, hA, hK⟩ := id C
  intro S G a1 hw H locs hP hD hS ls hl
  rw [wp_X9_marks_37_0] at hw
  refine lv_iconst (v := 0) hx hb dX9_marks_0 (by decide) ?_
  refine lv_istore_n (lv' := [(3, .int (0 : Int32)), (0, .ref o), (1, .int a1), (2, .ref (ad 37))]) hx hb dX9_marks_1 rfl hl (by decide) rfl (fun ls hl => ?_)
  obtain ⟨n9, hw⟩ := hw
  exact tb_X9_marks_37_2 C  n9 S G a1 (0 : Int32) hw H locs hP hD hS ls (lv_sub hl [1, 2, 3, 0] rfl)
set_option maxHeartbeats 4000000 in
set_option maxRecDepth 100000 in
theorem c_X9_marks_37 (l : Launch) (dC : Nat → ClassId) (dI : Nat → Nat → Nat) (cI cJ cZ : ClassId) (o : Nat) (ad : Nat → Nat) (S : mS) (G : mG) (sz : Nat) (a1 : Int32) (Q : mS → mG → Prop) (hw : wp_X9_marks_37_0 Q S G a1) : Met l yX9_marks wsX9_marks rm_X9_marks_37 (va_Pc [.ref o, .int a1, .ref (ad 37)] (mPre dC dI cI cJ cZ o ad S G sz)) (va_Qv (fun (u : mS × mG) => Q u.1 u.2) (mB dC dI cI cJ cZ o ad (mA cI cJ cZ o ad S G sz)) (mA cI cJ cZ o ad S G sz)) 0 0 (mA cI cJ cZ o ad S G sz) := by
  refine Met.ofW (cc := cX9_marks) (maxL := 4) (ret := none) (by decide) rfl ?_
  intro p e s m args below meth c s₁ B hml hv
  obtain ⟨rfl, hsz, hP, hK, hD0⟩ := hv
  subst hsz
  have hl := lv_entry ([.ref o, .int a1, .ref (ad 37)]) (n := 4) (Nat.le_of_ble_eq_true rfl)
  rw [lg_entry_eq]
  generalize (lg_sl ([.ref o, .int a1, .ref (ad 37)]) ++ List.replicate (4 - (lg_sl ([.ref o, .int a1, .ref (ad 37)])).length) Slot.unset).toArray = ls at hl ⊢
  exact tb_X9_marks_37_0 (Q := Q) (p := p) ⟨B.exec, B.bytes, hml, findClass_of_methodNamed B.named, atoms_spec (ws := wsX9_marks) B.pre, B.returns, B.notSynchronized, fun q h => Or.inr h, hK⟩ S G a1 hw s.heap [] hP (hD0.self (sz := s.heap.size)) va_S.rf ls hl
theorem iw_X9_crossing : ∀ w ∈ u_ws RX9 TX9 38, w ∈ wsX9_crossing := fun w h => List.mem_cons_of_mem _ (by first | exact List.mem_append_right _ h | decide +kernel +revert)
theorem lk_X9_crossing_99 : Cond.fieldLink RX9 99 "TermKeeperModel" "used" "[J" ∈ wsX9_crossing := by decide +kernel
theorem lk_X9_crossing_102 : Cond.fieldLink RX9 102 "TermKeeperModel" "usedOther" "[J" ∈ wsX9_crossing := by decide +kernel
abbrev rm_X9_crossing : Room := { frames := 7, cells := 0, slots := 0, locals := 175 }
def wp_X9_crossing_99 (Q : Int64 → mS → mG → Prop) (k41_ : mS → mG → Int64 → Int32 → Prop) (S : mS) (G : mG) (a3 : Int64) (a5 : Int32) : Prop :=
    (∀ v5_99 : Int32, v5_99 = a5 + (1 : Int32) →
      (k41_ S G a3 v5_99))
def wp_X9_crossing_41 (Q : Int64 → mS → mG → Prop) : Nat → mS → mG → Int64 → Int32 → Prop
  | 0, _, _, _, _ => False
  | n + 1, S, G, a3, a5 =>
    (((40 : Int32) ≤ a5 →
      (Q a3 S G))
     ∧ (¬ (40 : Int32) ≤ a5 →
      (vp_in a5 40 ∧
        (((lg_cmp (G 36 (Int32.toNatClampNeg a5)) (0 : Int64)) = 0 →
          (wp_X9_crossing_99 Q (wp_X9_crossing_41 Q  n) S G a3 a5))
         ∧ (¬ (lg_cmp (G 36 (Int32.toNatClampNeg a5)) (0 : Int64)) = 0 →
          (vp_in a5 40 ∧
            (((lg_cmp (G 37 (Int32.toNatClampNeg a5)) (0 : Int64)) = 0 →
              (wp_X9_crossing_99 Q (wp_X9_crossing_41 Q  n) S G a3 a5))
             ∧ (¬ (lg_cmp (G 37 (Int32.toNatClampNeg a5)) (0 : Int64)) = 0 →
              (vp_in a5 40 ∧
                (vp_in a5 40 ∧
                  ((¬ (lg_cmp ((G 36 (Int32.toNatClampNeg a5)) &&& (G 37 (Int32.toNatClampNeg a5))) (0 : Int64)) = 0 →
                    (wp_X9_crossing_99 Q (wp_X9_crossing_41 Q  n) S G a3 a5))
                   ∧ ((lg_cmp ((G 36 (Int32.toNatClampNeg a5)) &&& (G 37 (Int32.toNatClampNeg a5))) (0 : Int64)) = 0 →
                    (∀ v3_98 : Int64, v3_98 = (a3 ||| ((1 : Int64) <<< (Int32.toInt64 a5 &&& 63))) →
                      (wp_X9_crossing_99 Q (wp_X9_crossing_41 Q  n) S G v3_98 a5))))))))))))))
def wp_X9_crossing_0 (Q : Int64 → mS → mG → Prop) (S : mS) (G : mG) (a1 : Int32) (a2 : Int32) : Prop :=
    (wp_X9_isText_0 (fun r_2 S_2 G_2 =>
      ((r_2 = 0 →
        (Q (0 : Int64) S_2 G_2))
       ∧ (¬ r_2 = 0 →
        (wp_X9_isText_0 (fun r_10 S_10 G_10 =>
          ((¬ r_10 = 0 →
            (wp_X9_marks_36_0 (fun S_24 G_24 =>
              (wp_X9_marks_37_0 (fun S_33 G_33 =>
                (∃ n9 : Nat, wp_X9_crossing_41 Q  n9 S_33 G_33 (0 : Int64) (0 : Int32))) S_24 G_24 a2)) S_10 G_10 a1))
           ∧ (r_10 = 0 →
            (Q (0 : Int64) S_10 G_10)))) S_2 G_2 a2)))) S G a1)
set_option maxHeartbeats 4000000 in
set_option maxRecDepth 100000 in
theorem tb_X9_crossing_99 {p : Program} {l : Launch} {e : Env} {s : State} {m : MethodId} {below : List Frame} {meth : Method} {c : Code} {args : Array Value} {dC : Nat → ClassId} {dI : Nat → Nat → Nat} {cI cJ cZ : ClassId} {o : Nat} {ad : Nat → Nat} {A : Nat → Prop} {Q : Int64 → mS → mG → Prop} (C : mCx p s m args meth c cX9_crossing 6 (some .long) wsX9_crossing A dC dI cI cJ cZ) {k41_ : mS → mG → Int64 → Int32 → Prop} (h41_ : ∀ (S : mS) (G : mG) (a3 : Int64) (a5 : Int32), k41_ S G a3 a5 → mAt p l e rm_X9_crossing s m args below meth c dC dI cI cJ cZ o ad A (MQ below (va_Ql (fun r (u : mS × mG) => Q r u.1 u.2) (mB dC dI cI cJ cZ o ad A) A) args s 0 0 A) 41 6 [(0, .ref o), (3, .long a3), (5, .int a5)] [] S G) : ∀ (S : mS) (G : mG) (a3 : Int64) (a5 : Int32), wp_X9_crossing_99 Q k41_ S G a3 a5 → mAt p l e rm_X9_crossing s m args below meth c dC dI cI cJ cZ o ad A (MQ below (va_Ql (fun r (u : mS × mG) => Q r u.1 u.2) (mB dC dI cI cJ cZ o ad A) A) args s 0 0 A) 99 6 [(0, .ref o), (3, .long a3), (5, .int a5)] [] S G := by
  obtain ⟨hx, hb, hml, hown, hts, hr, hlocks, hA, hK⟩ := id C
  intro S G a3 a5 hw H locs hP hD hS ls hl
  rw [wp_X9_crossing_99] at hw
  obtain ⟨v5_99, ev5_99⟩ : ∃ y : Int32, y = a5 + (1 : Int32) := ⟨_, rfl⟩
  have hw := hw v5_99 ev5_99
  refine lv_iinc (v := v5_99) (lv' := [(5, .int v5_99), (0, .ref o), (3, .long a3)]) hx hb dX9_crossing_99 hl (k := 2) rfl (by rw [ev5_99]; rfl) (by decide) rfl (fun ls hl => ?_)
  refine lv_goto (tgt := 41) hx hb dX9_crossing_102 (by decide) ?_
  exact h41_ S G a3 v5_99 hw H locs hP hD hS ls (lv_sub hl [1, 2, 0] rfl)
set_option maxHeartbeats 4000000 in
set_option maxRecDepth 100000 in
theorem tb_X9_crossing_41 {p : Program} {l : Launch} {e : Env} {s : State} {m : MethodId} {below : List Frame} {meth : Method} {c : Code} {args : Array Value} {dC : Nat → ClassId} {dI : Nat → Nat → Nat} {cI cJ cZ : ClassId} {o : Nat} {ad : Nat → Nat} {A : Nat → Prop} {Q : Int64 → mS → mG → Prop} (C : mCx p s m args meth c cX9_crossing 6 (some .long) wsX9_crossing A dC dI cI cJ cZ) : ∀ (n : Nat) (S : mS) (G : mG) (a3 : Int64) (a5 : Int32), wp_X9_crossing_41 Q  n S G a3 a5 → mAt p l e rm_X9_crossing s m args below meth c dC dI cI cJ cZ o ad A (MQ below (va_Ql (fun r (u : mS × mG) => Q r u.1 u.2) (mB dC dI cI cJ cZ o ad A) A) args s 0 0 A) 41 6 [(0, .ref o), (3, .long a3), (5, .int a5)] [] S G := by
  obtain ⟨hx, hb, hml, hown, hts, hr, hlocks, hA, hK⟩ := id C
  intro n
  induction n with
  | zero => intro S G a3 a5 hw; exact hw.elim
  | succ n ih =>
    intro S G a3 a5 hw H locs hP hD hS ls hl
    rw [wp_X9_crossing_41] at hw
    refine lv_iload hx hb dX9_crossing_41 (lv_at hl 2 rfl) ?_
    refine lv_bipush (v := 40) hx hb dX9_crossing_43 (by decide) ?_
    refine lv_icmp_ge (tgt := 105) hx hb dX9_crossing_45 (by decide) (fun c_45 => ?_) (fun c_45 => ?_)
    · have hw := hw.1 c_45
      refine lv_lload_n hx hb dX9_crossing_105 rfl (lv_at hl 1 rfl) ?_
      exact W.lret (v := a3) hx hb hr (fun t ht hW => ⟨⟨a3, (S, G), rfl, hw, by rw [ht]; exact hP, va_K.moved hW.alike hK, hD⟩, hS.F ht⟩) hS.2.2 dX9_crossing_106
    · have hw := hw.2 c_45
      refine lv_aload_n hx hb dX9_crossing_48 rfl (lv_at hl 0 rfl) ?_
      refine va_get (D := (dC, dI)) (ci := 10) (v := .ref (ad 36)) (C := RX9) (T := TX9) (N := 38) hx hb hts iw_X9_crossing hown hK hP 0 rfl rfl 36 (by decide) (hts _ lk_X9_crossing_99) (fun _ h9 => h9) rfl dX9_crossing_49 ?_
      refine lv_iload hx hb dX9_crossing_52 (lv_at hl 2 rfl) ?_
      refine va_lald hx hb hK hP 30 1 rfl rfl hw.1 dX9_crossing_54 ?_
      have hw := hw.2
      refine lv_lconst (v := 0) hx hb dX9_crossing_55 (by decide) ?_
      refine W.lcmp hx hb dX9_crossing_56 ?_
      refine lv_if_eq (tgt := 99) hx hb dX9_crossing_57 (by decide) (fun c_57 => ?_) (fun c_57 => ?_)
      · have hw := hw.1 c_57
        exact tb_X9_crossing_99 C ih S G a3 a5 hw H locs hP hD hS ls (lv_sub hl [0, 1, 2] rfl)
      · have hw := hw.2 c_57
        refine lv_aload_n hx hb dX9_crossing_60 rfl (lv_at hl 0 rfl) ?_
        refine va_get (D := (dC, dI)) (ci := 10) (v := .ref (ad 37)) (C := RX9) (T := TX9) (N := 38) hx hb hts iw_X9_crossing hown hK hP 0 rfl rfl 37 (by decide) (hts _ lk_X9_crossing_102) (fun _ h9 => h9) rfl dX9_crossing_61 ?_
        refine lv_iload hx hb dX9_crossing_64 (lv_at hl 2 rfl) ?_
        refine va_lald hx hb hK hP 31 1 rfl rfl hw.1 dX9_crossing_66 ?_
        have hw := hw.2
        refine lv_lconst (v := 0) hx hb dX9_crossing_67 (by decide) ?_
        refine W.lcmp hx hb dX9_crossing_68 ?_
        refine lv_if_eq (tgt := 99) hx hb dX9_crossing_69 (by decide) (fun c_69 => ?_) (fun c_69 => ?_)
        · have hw := hw.1 c_69
          exact tb_X9_crossing_99 C ih S G a3 a5 hw H locs hP hD hS ls (lv_sub hl [0, 1, 2] rfl)
        · have hw := hw.2 c_69
          refine lv_aload_n hx hb dX9_crossing_72 rfl (lv_at hl 0 rfl) ?_
          refine va_get (D := (dC, dI)) (ci := 10) (v := .ref (ad 36)) (C := RX9) (T := TX9) (N := 38) hx hb hts iw_X9_crossing hown hK hP 0 rfl rfl 36 (by decide) (hts _ lk_X9_crossing_99) (fun _ h9 => h9) rfl dX9_crossing_73 ?_
          refine lv_iload hx hb dX9_crossing_76 (lv_at hl 2 rfl) ?_
          refine va_lald hx hb hK hP 30 1 rfl rfl hw.1 dX9_crossing_78 ?_
          have hw := hw.2
          refine lv_aload_n hx hb dX9_crossing_79 rfl (lv_at hl 0 rfl) ?_
          refine va_get (D := (dC, dI)) (ci := 10) (v := .ref (ad 37)) (C := RX9) (T := TX9) (N := 38) hx hb hts iw_X9_crossing hown hK hP 0 rfl rfl 37 (by decide) (hts _ lk_X9_crossing_102) (fun _ h9 => h9) rfl dX9_crossing_80 ?_
          refine lv_iload hx hb dX9_crossing_83 (lv_at hl 2 rfl) ?_
          refine va_lald hx hb hK hP 31 1 rfl rfl hw.1 dX9_crossing_85 ?_
          have hw := hw.2
          refine lv_land hx hb dX9_crossing_86 ?_
          refine lv_lconst (v := 0) hx hb dX9_crossing_87 (by decide) ?_
          refine W.lcmp hx hb dX9_crossing_88 ?_
          refine lv_if_ne (tgt := 99) hx hb dX9_crossing_89 (by decide) (fun c_89 => ?_) (fun c_89 => ?_)
          · have hw := hw.1 c_89
            exact tb_X9_crossing_99 C ih S G a3 a5 hw H locs hP hD hS ls (lv_sub hl [0, 1, 2] rfl)
          · have hw := hw.2 c_89
            refine lv_lload_n hx hb dX9_crossing_92 rfl (lv_at hl 1 rfl) ?_
            refine lv_lconst (v := 1) hx hb dX9_crossing_93 (by decide) ?_
            refine lv_iload hx hb dX9_crossing_94 (lv_at hl 2 rfl) ?_
            refine lv_lshl hx hb dX9_crossing_96 rfl ?_
            refine lv_lor hx hb dX9_crossing_97 ?_
            refine lv_topl (fun v3_98 ev3_98 => ?_)
            have hw := hw v3_98 ev3_98
            refine lv_lstore_n (lv' := [(3, .long v3_98), (0, .ref o), (5, .int a5)]) hx hb dX9_crossing_98 rfl hl (by decide) rfl (fun ls hl => ?_)
            exact tb_X9_crossing_99 C ih S G v3_98 a5 hw H locs hP hD hS ls (lv_sub hl [1, 0, 2] rfl)
set_option maxHeartbeats 4000000 in
set_option maxRecDepth 100000 in
theorem tb_X9_crossing_0 {p : Program} {l : Launch} {e : Env} {s : State} {m : MethodId} {below : List Frame} {meth : Method} {c : Code} {args : Array Value} {dC : Nat → ClassId} {dI : Nat → Nat → Nat} {cI cJ cZ : ClassId} {o : Nat} {ad : Nat → Nat} {A : Nat → Prop} {Q : Int64 → mS → mG → Prop} (C : mCx p s m args meth c cX9_crossing 6 (some .long) wsX9_crossing A dC dI cI cJ cZ) : ∀ (S : mS) (G : mG) (a1 : Int32) (a2 : Int32), wp_X9_crossing_0 Q  S G a1 a2 → mAt p l e rm_X9_crossing s m args below meth c dC dI cI cJ cZ o ad A (MQ below (va_Ql (fun r (u : mS × mG) => Q r u.1 u.2) (mB dC dI cI cJ cZ o ad A) A) args s 0 0 A) 0 6 [(0, .ref o), (1, .int a1), (2, .int a2)] [] S G := by
  obtain ⟨hx, hb, hml, hown, hts, hr, hlocks, hA, hK⟩ := id C
  intro S G a1 a2 hw H locs hP hD hS ls hl
  rw [wp_X9_crossing_0] at hw
  refine lv_aload_n hx hb dX9_crossing_0 rfl (lv_at hl 0 rfl) ?_
  refine lv_iload_n hx hb dX9_crossing_1 rfl (lv_at hl 1 rfl) ?_
  have hFc := mFree hD hS hA
  refine va_calli (va_runV (As := [.int a1]) (rest := []) ⟨hx, hb, hml, hown, hts⟩ (c_X9_isText l dC dI cI cJ cZ o ad S G H.size a1 _ hw) (cwV 1 hts gX9_crossing_X9_isText rfl rfl rfl (by decide +kernel) ⟨Nat.le_of_ble_eq_true rfl, Nat.le_of_ble_eq_true rfl⟩) (mPreV [.int a1] hK hP hD) rfl rfl hl.1 rfl (lv_room (Nat.le_of_ble_eq_true rfl)) dX9_crossing_2 ⟨Nat.zero_le _, Nat.zero_le _⟩) hS (fun q _ h => hFc q h) hFc (fun r_2 u t H1 locs ht hvm hw hB hz1 hk1 hS => ?_)
  obtain ⟨S_2, G_2⟩ := u
  obtain ⟨hP, -, hD1⟩ := hB
  rw [ht] at hP
  have hw := id hw
  have hP : va_P (dC, dI) vwCl (mW cI cJ cZ o ad S_2 G_2) H1 := hP
  have hD : va_D A (mW cI cJ cZ o ad S_2 G_2) := mGain hD1 hFc
  generalize H1 = H at hP hS ⊢
  refine lv_if_eq (tgt := 16) hx hb dX9_crossing_5 (by decide) (fun c_5 => ?_) (fun c_5 => ?_)
  · have hw := hw.1 c_5
    refine lv_lconst (v := 0) hx hb dX9_crossing_16 (by decide) ?_
    exact W.lret (v := (0 : Int64)) hx hb hr (fun t ht hW => ⟨⟨(0 : Int64), (S_2, G_2), rfl, hw, by rw [ht]; exact hP, va_K.moved hW.alike hK, hD⟩, hS.F ht⟩) hS.2.2 dX9_crossing_17
  · have hw := hw.2 c_5
    refine lv_aload_n hx hb dX9_crossing_8 rfl (lv_at hl 0 rfl) ?_
    refine lv_iload_n hx hb dX9_crossing_9 rfl (lv_at hl 2 rfl) ?_
    have hFc := mFree hD hS hA
    refine va_calli (va_runV (As := [.int a2]) (rest := []) ⟨hx, hb, hml, hown, hts⟩ (c_X9_isText l dC dI cI cJ cZ o ad S_2 G_2 H.size a2 _ hw) (cwV 1 hts gX9_crossing_X9_isText rfl rfl rfl (by decide +kernel) ⟨Nat.le_of_ble_eq_true rfl, Nat.le_of_ble_eq_true rfl⟩) (mPreV [.int a2] hK hP hD) rfl rfl hl.1 rfl (lv_room (Nat.le_of_ble_eq_true rfl)) dX9_crossing_10 ⟨Nat.zero_le _, Nat.zero_le _⟩) hS (fun q _ h => hFc q h) hFc (fun r_10 u t H1 locs ht hvm hw hB hz1 hk1 hS => ?_)
    obtain ⟨S_10, G_10⟩ := u
    obtain ⟨hP, -, hD1⟩ := hB
    rw [ht] at hP
    have hw := id hw
    have hP : va_P (dC, dI) vwCl (mW cI cJ cZ o ad S_10 G_10) H1 := hP
    have hD : va_D A (mW cI cJ cZ o ad S_10 G_10) := mGain hD1 hFc
    generalize H1 = H at hP hS ⊢
    refine lv_if_ne (tgt := 18) hx hb dX9_crossing_13 (by decide) (fun c_13 => ?_) (fun c_13 => ?_)
    · have hw := hw.1 c_13
      refine lv_aload_n hx hb dX9_crossing_18 rfl (lv_at hl 0 rfl) ?_
      refine lv_iload_n hx hb dX9_crossing_19 rfl (lv_at hl 1 rfl) ?_
      refine lv_aload_n hx hb dX9_crossing_20 rfl (lv_at hl 0 rfl) ?_
      refine va_get (D := (dC, dI)) (ci := 10) (v := .ref (ad 36)) (C := RX9) (T := TX9) (N := 38) hx hb hts iw_X9_crossing hown hK hP 0 rfl rfl 36 (by decide) (hts _ lk_X9_crossing_99) (fun _ h9 => h9) rfl dX9_crossing_21 ?_
      have hFc := mFree hD hS hA
      refine va_callv (va_runV (As := [.int a1, .ref (ad 36)]) (rest := []) ⟨hx, hb, hml, hown, hts⟩ (c_X9_marks_36 l dC dI cI cJ cZ o ad S_10 G_10 H.size a1 _ hw) (cwV 2 hts gX9_crossing_X9_marks rfl rfl rfl (by decide +kernel) ⟨Nat.le_of_ble_eq_true rfl, Nat.le_of_ble_eq_true rfl⟩) (mPreV [.int a1, .ref (ad 36)] hK hP hD) rfl rfl hl.1 rfl (lv_room (Nat.le_of_ble_eq_true rfl)) dX9_crossing_24 ⟨Nat.zero_le _, Nat.zero_le _⟩) hS (fun q _ h => hFc q h) hFc (fun u t H1 locs ht hvm hw hB hz1 hk1 hS => ?_)
      obtain ⟨S_24, G_24⟩ := u
      obtain ⟨hP, -, hD1⟩ := hB
      rw [ht] at hP
      have hw := id hw
      have hP : va_P (dC, dI) vwCl (mW cI cJ cZ o ad S_24 G_24) H1 := hP
      have hD : va_D A (mW cI cJ cZ o ad S_24 G_24) := mGain hD1 hFc
      generalize H1 = H at hP hS ⊢
      refine lv_aload_n hx hb dX9_crossing_27 rfl (lv_at hl 0 rfl) ?_
      refine lv_iload_n hx hb dX9_crossing_28 rfl (lv_at hl 2 rfl) ?_
      refine lv_aload_n hx hb dX9_crossing_29 rfl (lv_at hl 0 rfl) ?_
      refine va_get (D := (dC, dI)) (ci := 10) (v := .ref (ad 37)) (C := RX9) (T := TX9) (N := 38) hx hb hts iw_X9_crossing hown hK hP 0 rfl rfl 37 (by decide) (hts _ lk_X9_crossing_102) (fun _ h9 => h9) rfl dX9_crossing_30 ?_
      have hFc := mFree hD hS hA
      refine va_callv (va_runV (As := [.int a2, .ref (ad 37)]) (rest := []) ⟨hx, hb, hml, hown, hts⟩ (c_X9_marks_37 l dC dI cI cJ cZ o ad S_24 G_24 H.size a2 _ hw) (cwV 2 hts gX9_crossing_X9_marks rfl rfl rfl (by decide +kernel) ⟨Nat.le_of_ble_eq_true rfl, Nat.le_of_ble_eq_true rfl⟩) (mPreV [.int a2, .ref (ad 37)] hK hP hD) rfl rfl hl.1 rfl (lv_room (Nat.le_of_ble_eq_true rfl)) dX9_crossing_33 ⟨Nat.zero_le _, Nat.zero_le _⟩) hS (fun q _ h => hFc q h) hFc (fun u t H1 locs ht hvm hw hB hz1 hk1 hS => ?_)
      obtain ⟨S_33, G_33⟩ := u
      obtain ⟨hP, -, hD1⟩ := hB
      rw [ht] at hP
      have hw := id hw
      have hP : va_P (dC, dI) vwCl (mW cI cJ cZ o ad S_33 G_33) H1 := hP
      have hD : va_D A (mW cI cJ cZ o ad S_33 G_33) := mGain hD1 hFc
      generalize H1 = H at hP hS ⊢
      refine lv_lconst (v := 0) hx hb dX9_crossing_36 (by decide) ?_
      refine lv_lstore_n (lv' := [(3, .long (0 : Int64)), (0, .ref o), (1, .int a1), (2, .int a2)]) hx hb dX9_crossing_37 rfl hl (by decide) rfl (fun ls hl => ?_)
      refine lv_iconst (v := 0) hx hb dX9_crossing_38 (by decide) ?_
      refine lv_istore (lv' := [(5, .int (0 : Int32)), (3, .long (0 : Int64)), (0, .ref o), (1, .int a1), (2, .int a2)]) hx hb dX9_crossing_39 hl (by decide) rfl (fun ls hl => ?_)
      obtain ⟨n9, hw⟩ := hw
      exact tb_X9_crossing_41 C  n9 S_33 G_33 (0 : Int64) (0 : Int32) hw H locs hP hD hS ls (lv_sub hl [2, 1, 0] rfl)
    · have hw := hw.2 c_13
      refine lv_lconst (v := 0) hx hb dX9_crossing_16 (by decide) ?_
      exact W.lret (v := (0 : Int64)) hx hb hr (fun t ht hW => ⟨⟨(0 : Int64), (S_10, G_10), rfl, hw, by rw [ht]; exact hP, va_K.moved hW.alike hK, hD⟩, hS.F ht⟩) hS.2.2 dX9_crossing_17
set_option maxHeartbeats 4000000 in
set_option maxRecDepth 100000 in
theorem c_X9_crossing (l : Launch) (dC : Nat → ClassId) (dI : Nat → Nat → Nat) (cI cJ cZ : ClassId) (o : Nat) (ad : Nat → Nat) (S : mS) (G : mG) (sz : Nat) (a1 : Int32) (a2 : Int32) (Q : Int64 → mS → mG → Prop) (hw : wp_X9_crossing_0 Q S G a1 a2) : Met l yX9_crossing wsX9_crossing rm_X9_crossing (va_Pc [.ref o, .int a1, .int a2] (mPre dC dI cI cJ cZ o ad S G sz)) (va_Ql (fun r (u : mS × mG) => Q r u.1 u.2) (mB dC dI cI cJ cZ o ad (mA cI cJ cZ o ad S G sz)) (mA cI cJ cZ o ad S G sz)) 0 0 (mA cI cJ cZ o ad S G sz) := by
  refine Met.ofW (cc := cX9_crossing) (maxL := 6) (ret := (some .long)) (by decide) rfl ?_
  intro p e s m args below meth c s₁ B hml hv
  obtain ⟨rfl, hsz, hP, hK, hD0⟩ := hv
  subst hsz
  have hl := lv_entry ([.ref o, .int a1, .int a2]) (n := 6) (Nat.le_of_ble_eq_true rfl)
  rw [lg_entry_eq]
  generalize (lg_sl ([.ref o, .int a1, .int a2]) ++ List.replicate (6 - (lg_sl ([.ref o, .int a1, .int a2])).length) Slot.unset).toArray = ls at hl ⊢
  exact tb_X9_crossing_0 (Q := Q) (p := p) ⟨B.exec, B.bytes, hml, findClass_of_methodNamed B.named, atoms_spec (ws := wsX9_crossing) B.pre, B.returns, B.notSynchronized, fun q h => Or.inr h, hK⟩ S G a1 a2 hw s.heap [] hP (hD0.self (sz := s.heap.size)) va_S.rf ls hl
