theorem iw_X9_lays : ∀ w ∈ u_ws RX9 TX9 38, w ∈ wsX9_lays := fun w h => List.mem_cons_of_mem _ (by first | exact List.mem_append_right _ h | decide +kernel +revert)
theorem lk_X9_lays_54 : Cond.fieldLink RX9 54 "TermKeeperModel" "text" "[I" ∈ wsX9_lays := by decide +kernel
theorem lk_X9_lays_57 : Cond.fieldLink RX9 57 "TermKeeperModel" "size" "[I" ∈ wsX9_lays := by decide +kernel
abbrev rm_X9_lays : Room := { frames := 0, cells := 0, slots := 0, locals := 0 }
def wp_X9_lays_3 (Q : mS → mG → Prop) : Nat → mS → mG → Int32 → Int32 → Int32 → Prop
  | 0, _, _, _, _, _ => False
  | n + 1, S, G, a1, a2, a3 =>
    ((a3 < 0 →
      (Q S G))
     ∧ (¬ a3 < 0 →
      (vp_in a1 8 ∧
        (vp_in (((600 : Int32) * a1) + (S 20 (Int32.toNatClampNeg a1))) 4800 ∧ ∀ S_30 : mS, S_30 = mst S 19 (Int32.toNatClampNeg (((600 : Int32) * a1) + (S 20 (Int32.toNatClampNeg a1)))) ((a2 >>> (a3 &&& 31)) &&& (255 : Int32)) →
          (vp_in a1 8 ∧
            (vp_in a1 8 ∧ ∀ S_40 : mS, S_40 = mst S_30 20 (Int32.toNatClampNeg a1) ((S_30 20 (Int32.toNatClampNeg a1)) + (1 : Int32)) →
              (∀ v3_41 : Int32, v3_41 = a3 + (-8 : Int32) →
                ((wp_X9_lays_3 Q  n) S_40 G a1 a2 v3_41))))))))
def wp_X9_lays_0 (Q : mS → mG → Prop) (S : mS) (G : mG) (a1 : Int32) (a2 : Int32) : Prop :=
    (∃ n9 : Nat, wp_X9_lays_3 Q  n9 S G a1 a2 (24 : Int32))
set_option maxHeartbeats 4000000 in
set_option maxRecDepth 100000 in
theorem tb_X9_lays_3 {p : Program} {l : Launch} {e : Env} {s : State} {m : MethodId} {below : List Frame} {meth : Method} {c : Code} {args : Array Value} {dC : Nat → ClassId} {dI : Nat → Nat → Nat} {cI cJ cZ : ClassId} {o : Nat} {ad : Nat → Nat} {A : Nat → Prop} {Q : mS → mG → Prop} (C : mCx p s m args meth c cX9_lays 4 none wsX9_lays A dC dI cI cJ cZ) : ∀ (n : Nat) (S : mS) (G : mG) (a1 : Int32) (a2 : Int32) (a3 : Int32), wp_X9_lays_3 Q  n S G a1 a2 a3 → mAt p l e rm_X9_lays s m args below meth c dC dI cI cJ cZ o ad A (MQ below (va_Qv (fun (u : mS × mG) => Q u.1 u.2) (mB dC dI cI cJ cZ o ad A) A) args s 0 0 A) 3 4 [(0, .ref o), (1, .int a1), (2, .int a2), (3, .int a3)] [] S G := by
  obtain ⟨hx, hb, hml, hown, hts, hr, hlocks, hA, hK⟩ := id C
  intro n
  induction n with
  | zero => intro S G a1 a2 a3 hw; exact hw.elim
  | succ n ih =>
    intro S G a1 a2 a3 hw H locs hP hD hS ls hl
    rw [wp_X9_lays_3] at hw
    refine lv_iload_n hx hb dX9_lays_3 rfl (lv_at hl 3 rfl) ?_
    refine lv_if_lt (tgt := 47) hx hb dX9_lays_4 (by decide) (fun c_4 => ?_) (fun c_4 => ?_)
    · have hw := hw.1 c_4
      exact W.vret hx hb hr (fun t ht hW => ⟨⟨(S, G), rfl, hw, by rw [ht]; exact hP, va_K.moved hW.alike hK, hD⟩, hS.F ht⟩) hS.2.2 dX9_lays_47
    · have hw := hw.2 c_4
      refine lv_aload_n hx hb dX9_lays_7 rfl (lv_at hl 0 rfl) ?_
      refine va_get (D := (dC, dI)) (ci := 10) (v := .ref (ad 19)) (C := RX9) (T := TX9) (N := 38) hx hb hts iw_X9_lays hown hK hP 0 rfl rfl 19 (by decide) (hts _ lk_X9_lays_54) (fun _ h9 => h9) rfl dX9_lays_8 ?_
      refine lv_sipush (v := 600) hx hb dX9_lays_11 (by decide) ?_
      refine lv_iload_n hx hb dX9_lays_14 rfl (lv_at hl 1 rfl) ?_
      refine lv_imul hx hb dX9_lays_15 ?_
      refine lv_aload_n hx hb dX9_lays_16 rfl (lv_at hl 0 rfl) ?_
      refine va_get (D := (dC, dI)) (ci := 10) (v := .ref (ad 20)) (C := RX9) (T := TX9) (N := 38) hx hb hts iw_X9_lays hown hK hP 0 rfl rfl 20 (by decide) (hts _ lk_X9_lays_57) (fun _ h9 => h9) rfl dX9_lays_17 ?_
      refine lv_iload_n hx hb dX9_lays_20 rfl (lv_at hl 1 rfl) ?_
      refine va_iald hx hb hK hP 16 0 rfl rfl hw.1 dX9_lays_21 ?_
      have hw := hw.2
      refine lv_iadd hx hb dX9_lays_22 ?_
      refine lv_iload_n hx hb dX9_lays_23 rfl (lv_at hl 2 rfl) ?_
      refine lv_iload_n hx hb dX9_lays_24 rfl (lv_at hl 3 rfl) ?_
      refine lv_ishr hx hb dX9_lays_25 ?_
      refine lv_sipush (v := 255) hx hb dX9_lays_26 (by decide) ?_
      refine lv_iand hx hb dX9_lays_29 ?_
      refine va_iast hx hb hK hP hD hS 15 0 rfl rfl hw.1 dX9_lays_30 (fun H locs hP hD hS => ?_)
      obtain ⟨S_30, eS_30⟩ : ∃ y : mS, y = mst S 19 (Int32.toNatClampNeg (((600 : Int32) * a1) + (S 20 (Int32.toNatClampNeg a1)))) ((a2 >>> (a3 &&& 31)) &&& (255 : Int32)) := ⟨_, rfl⟩
      have hw := hw.2 S_30 eS_30
      have hP : va_P (dC, dI) vwCl (mW cI cJ cZ o ad S_30 G) H := by rw [eS_30]; exact hP
      have hD : va_D A (mW cI cJ cZ o ad S_30 G) := by rw [eS_30]; exact hD
      refine lv_aload_n hx hb dX9_lays_31 rfl (lv_at hl 0 rfl) ?_
      refine va_get (D := (dC, dI)) (ci := 10) (v := .ref (ad 20)) (C := RX9) (T := TX9) (N := 38) hx hb hts iw_X9_lays hown hK hP 0 rfl rfl 20 (by decide) (hts _ lk_X9_lays_57) (fun _ h9 => h9) rfl dX9_lays_32 ?_
      refine lv_iload_n hx hb dX9_lays_35 rfl (lv_at hl 1 rfl) ?_
      refine lv_dup2_11 hx hb dX9_lays_36 rfl rfl ?_
      refine va_iald hx hb hK hP 16 0 rfl rfl hw.1 dX9_lays_37 ?_
      have hw := hw.2
      refine lv_iconst (v := 1) hx hb dX9_lays_38 (by decide) ?_
      refine lv_iadd hx hb dX9_lays_39 ?_
      refine va_iast hx hb hK hP hD hS 16 0 rfl rfl hw.1 dX9_lays_40 (fun H locs hP hD hS => ?_)
      obtain ⟨S_40, eS_40⟩ : ∃ y : mS, y = mst S_30 20 (Int32.toNatClampNeg a1) ((S_30 20 (Int32.toNatClampNeg a1)) + (1 : Int32)) := ⟨_, rfl⟩
      have hw := hw.2 S_40 eS_40
      have hP : va_P (dC, dI) vwCl (mW cI cJ cZ o ad S_40 G) H := by rw [eS_40]; exact hP
      have hD : va_D A (mW cI cJ cZ o ad S_40 G) := by rw [eS_40]; exact hD
      obtain ⟨v3_41, ev3_41⟩ : ∃ y : Int32, y = a3 + (-8 : Int32) := ⟨_, rfl⟩
      have hw := hw v3_41 ev3_41
      refine lv_iinc (v := v3_41) (lv' := [(3, .int v3_41), (0, .ref o), (1, .int a1), (2, .int a2)]) hx hb dX9_lays_41 hl (k := 3) rfl (by rw [ev3_41]; rfl) (by decide) rfl (fun ls hl => ?_)
      refine lv_goto (tgt := 3) hx hb dX9_lays_44 (by decide) ?_
      exact ih S_40 G a1 a2 v3_41 hw H locs hP hD hS ls (lv_sub hl [1, 2, 3, 0] rfl)
set_option maxHeartbeats 4000000 in
set_option maxRecDepth 100000 in
theorem tb_X9_lays_0 {p : Program} {l : Launch} {e : Env} {s : State} {m : MethodId} {below : List Frame} {meth : Method} {c : Code} {args : Array Value} {dC : Nat → ClassId} {dI : Nat → Nat → Nat} {cI cJ cZ : ClassId} {o : Nat} {ad : Nat → Nat} {A : Nat → Prop} {Q : mS → mG → Prop} (C : mCx p s m args meth c cX9_lays 4 none wsX9_lays A dC dI cI cJ cZ) : ∀ (S : mS) (G : mG) (a1 : Int32) (a2 : Int32), wp_X9_lays_0 Q  S G a1 a2 → mAt p l e rm_X9_lays s m args below meth c dC dI cI cJ cZ o ad A (MQ below (va_Qv (fun (u : mS × mG) => Q u.1 u.2) (mB dC dI cI cJ cZ o ad A) A) args s 0 0 A) 0 4 [(0, .ref o), (1, .int a1), (2, .int a2)] [] S G := by
  obtain ⟨hx, hb, hml, hown, hts, hr, hlocks, hA, hK⟩ := id C
  intro S G a1 a2 hw H locs hP hD hS ls hl
  rw [wp_X9_lays_0] at hw
  refine lv_bipush (v := 24) hx hb dX9_lays_0 (by decide) ?_
  refine lv_istore_n (lv' := [(3, .int (24 : Int32)), (0, .ref o), (1, .int a1), (2, .int a2)]) hx hb dX9_lays_2 rfl hl (by decide) rfl (fun ls hl => ?_)
  obtain ⟨n9, hw⟩ := hw
  exact tb_X9_lays_3 C  n9 S G a1 a2 (24 : Int32) hw H locs hP hD hS ls (lv_sub hl [1, 2, 3, 0] rfl)
set_option maxHeartbeats 4000000 in
set_option maxRecDepth 100000 in
theorem c_X9_lays (l : Launch) (dC : Nat → ClassId) (dI : Nat → Nat → Nat) (cI cJ cZ : ClassId) (o : Nat) (ad : Nat → Nat) (S : mS) (G : mG) (sz : Nat) (a1 : Int32) (a2 : Int32) (Q : mS → mG → Prop) (hw : wp_X9_lays_0 Q S G a1 a2) : Met l yX9_lays wsX9_lays rm_X9_lays (va_Pc [.ref o, .int a1, .int a2] (mPre dC dI cI cJ cZ o ad S G sz)) (va_Qv (fun (u : mS × mG) => Q u.1 u.2) (mB dC dI cI cJ cZ o ad (mA cI cJ cZ o ad S G sz)) (mA cI cJ cZ o ad S G sz)) 0 0 (mA cI cJ cZ o ad S G sz) := by
  refine Met.ofW (cc := cX9_lays) (maxL := 4) (ret := none) (by decide) rfl ?_
  intro p e s m args below meth c s₁ B hml hv
  obtain ⟨rfl, hsz, hP, hK, hD0⟩ := hv
  subst hsz
  have hl := lv_entry ([.ref o, .int a1, .int a2]) (n := 4) (Nat.le_of_ble_eq_true rfl)
  rw [lg_entry_eq]
  generalize (lg_sl ([.ref o, .int a1, .int a2]) ++ List.replicate (4 - (lg_sl ([.ref o, .int a1, .int a2])).length) Slot.unset).toArray = ls at hl ⊢
  exact tb_X9_lays_0 (Q := Q) (p := p) ⟨B.exec, B.bytes, hml, findClass_of_methodNamed B.named, atoms_spec (ws := wsX9_lays) B.pre, B.returns, B.notSynchronized, fun q h => Or.inr h, hK⟩ S G a1 a2 hw s.heap [] hP (hD0.self (sz := s.heap.size)) va_S.rf ls hl
theorem iw_X9_write : ∀ w ∈ u_ws RX9 TX9 38, w ∈ wsX9_write := fun w h => List.mem_cons_of_mem _ (by first | exact List.mem_append_right _ h | decide +kernel +revert)
theorem lk_X9_write_57 : Cond.fieldLink RX9 57 "TermKeeperModel" "size" "[I" ∈ wsX9_write := by decide +kernel
abbrev rm_X9_write : Room := { frames := 2, cells := 0, slots := 0, locals := 43 }
def wp_X9_write_0 (Q : Int32 → mS → mG → Prop) (S : mS) (G : mG) (a1 : Int32) (a2 : Int32) (a3 : Int32) (a4 : Int32) (a5 : Int32) (a6 : Int32) : Prop :=
    (wp_X9_isText_0 (fun r_2 S_2 G_2 =>
      ((¬ r_2 = 0 →
        (vp_in a1 8 ∧
          ((((S_2 20 (Int32.toNatClampNeg a1)) + (20 : Int32)) ≤ (600 : Int32) →
            (wp_X9_lays_0 (fun S_30 G_30 =>
              (wp_X9_lays_0 (fun S_36 G_36 =>
                (wp_X9_lays_0 (fun S_43 G_43 =>
                  (wp_X9_lays_0 (fun S_50 G_50 =>
                    (wp_X9_lays_0 (fun S_57 G_57 =>
                      (vp_in a1 8 ∧
                        (Q (S_57 20 (Int32.toNatClampNeg a1)) S_57 G_57))) S_50 G_50 a1 a6)) S_43 G_43 a1 a5)) S_36 G_36 a1 a4)) S_30 G_30 a1 a3)) S_2 G_2 a1 a2))
           ∧ (¬ ((S_2 20 (Int32.toNatClampNeg a1)) + (20 : Int32)) ≤ (600 : Int32) →
            (Q (-1 : Int32) S_2 G_2)))))
       ∧ (r_2 = 0 →
        (Q (0 : Int32) S_2 G_2)))) S G a1)
set_option maxHeartbeats 4000000 in
set_option maxRecDepth 100000 in
theorem tb_X9_write_0 {p : Program} {l : Launch} {e : Env} {s : State} {m : MethodId} {below : List Frame} {meth : Method} {c : Code} {args : Array Value} {dC : Nat → ClassId} {dI : Nat → Nat → Nat} {cI cJ cZ : ClassId} {o : Nat} {ad : Nat → Nat} {A : Nat → Prop} {Q : Int32 → mS → mG → Prop} (C : mCx p s m args meth c cX9_write 7 (some .int) wsX9_write A dC dI cI cJ cZ) : ∀ (S : mS) (G : mG) (a1 : Int32) (a2 : Int32) (a3 : Int32) (a4 : Int32) (a5 : Int32) (a6 : Int32), wp_X9_write_0 Q  S G a1 a2 a3 a4 a5 a6 → mAt p l e rm_X9_write s m args below meth c dC dI cI cJ cZ o ad A (MQ below (va_Qi (fun r (u : mS × mG) => Q r u.1 u.2) (mB dC dI cI cJ cZ o ad A) A) args s 0 0 A) 0 7 [(0, .ref o), (1, .int a1), (2, .int a2), (3, .int a3), (4, .int a4), (5, .int a5), (6, .int a6)] [] S G := by
  obtain ⟨hx, hb, hml, hown, hts, hr, hlocks, hA, hK⟩ := id C
  intro S G a1 a2 a3 a4 a5 a6 hw H locs hP hD hS ls hl
  rw [wp_X9_write_0] at hw
  refine lv_aload_n hx hb dX9_write_0 rfl (lv_at hl 0 rfl) ?_
  refine lv_iload_n hx hb dX9_write_1 rfl (lv_at hl 1 rfl) ?_
  have hFc := mFree hD hS hA
  refine va_calli (va_runV (As := [.int a1]) (rest := []) ⟨hx, hb, hml, hown, hts⟩ (c_X9_isText l dC dI cI cJ cZ o ad S G H.size a1 _ hw) (cwV 1 hts gX9_write_X9_isText rfl rfl rfl (by decide +kernel) ⟨Nat.le_of_ble_eq_true rfl, Nat.le_of_ble_eq_true rfl⟩) (mPreV [.int a1] hK hP hD) rfl rfl hl.1 rfl (lv_room (Nat.le_of_ble_eq_true rfl)) dX9_write_2 ⟨Nat.zero_le _, Nat.zero_le _⟩) hS (fun q _ h => hFc q h) hFc (fun r_2 u t H1 locs ht hvm hw hB hz1 hk1 hS => ?_)
  obtain ⟨S_2, G_2⟩ := u
  obtain ⟨hP, -, hD1⟩ := hB
  rw [ht] at hP
  have hw := id hw
  have hP : va_P (dC, dI) vwCl (mW cI cJ cZ o ad S_2 G_2) H1 := hP
  have hD : va_D A (mW cI cJ cZ o ad S_2 G_2) := mGain hD1 hFc
  generalize H1 = H at hP hS ⊢
  refine lv_if_ne (tgt := 10) hx hb dX9_write_5 (by decide) (fun c_5 => ?_) (fun c_5 => ?_)
  · have hw := hw.1 c_5
    refine lv_aload_n hx hb dX9_write_10 rfl (lv_at hl 0 rfl) ?_
    refine va_get (D := (dC, dI)) (ci := 10) (v := .ref (ad 20)) (C := RX9) (T := TX9) (N := 38) hx hb hts iw_X9_write hown hK hP 0 rfl rfl 20 (by decide) (hts _ lk_X9_write_57) (fun _ h9 => h9) rfl dX9_write_11 ?_
    refine lv_iload_n hx hb dX9_write_14 rfl (lv_at hl 1 rfl) ?_
    refine va_iald hx hb hK hP 16 0 rfl rfl hw.1 dX9_write_15 ?_
    have hw := hw.2
    refine lv_bipush (v := 20) hx hb dX9_write_16 (by decide) ?_
    refine lv_iadd hx hb dX9_write_18 ?_
    refine lv_sipush (v := 600) hx hb dX9_write_19 (by decide) ?_
    refine lv_icmp_le (tgt := 27) hx hb dX9_write_22 (by decide) (fun c_22 => ?_) (fun c_22 => ?_)
    · have hw := hw.1 c_22
      refine lv_aload_n hx hb dX9_write_27 rfl (lv_at hl 0 rfl) ?_
      refine lv_iload_n hx hb dX9_write_28 rfl (lv_at hl 1 rfl) ?_
      refine lv_iload_n hx hb dX9_write_29 rfl (lv_at hl 2 rfl) ?_
      have hFc := mFree hD hS hA
      refine va_callv (va_runV (As := [.int a1, .int a2]) (rest := []) ⟨hx, hb, hml, hown, hts⟩ (c_X9_lays l dC dI cI cJ cZ o ad S_2 G_2 H.size a1 a2 _ hw) (cwV 2 hts gX9_write_X9_lays rfl rfl rfl (by decide +kernel) ⟨Nat.le_of_ble_eq_true rfl, Nat.le_of_ble_eq_true rfl⟩) (mPreV [.int a1, .int a2] hK hP hD) rfl rfl hl.1 rfl (lv_room (Nat.le_of_ble_eq_true rfl)) dX9_write_30 ⟨Nat.zero_le _, Nat.zero_le _⟩) hS (fun q _ h => hFc q h) hFc (fun u t H1 locs ht hvm hw hB hz1 hk1 hS => ?_)
      obtain ⟨S_30, G_30⟩ := u
      obtain ⟨hP, -, hD1⟩ := hB
      rw [ht] at hP
      have hw := id hw
      have hP : va_P (dC, dI) vwCl (mW cI cJ cZ o ad S_30 G_30) H1 := hP
      have hD : va_D A (mW cI cJ cZ o ad S_30 G_30) := mGain hD1 hFc
      generalize H1 = H at hP hS ⊢
      refine lv_aload_n hx hb dX9_write_33 rfl (lv_at hl 0 rfl) ?_
      refine lv_iload_n hx hb dX9_write_34 rfl (lv_at hl 1 rfl) ?_
      refine lv_iload_n hx hb dX9_write_35 rfl (lv_at hl 3 rfl) ?_
      have hFc := mFree hD hS hA
      refine va_callv (va_runV (As := [.int a1, .int a3]) (rest := []) ⟨hx, hb, hml, hown, hts⟩ (c_X9_lays l dC dI cI cJ cZ o ad S_30 G_30 H.size a1 a3 _ hw) (cwV 2 hts gX9_write_X9_lays rfl rfl rfl (by decide +kernel) ⟨Nat.le_of_ble_eq_true rfl, Nat.le_of_ble_eq_true rfl⟩) (mPreV [.int a1, .int a3] hK hP hD) rfl rfl hl.1 rfl (lv_room (Nat.le_of_ble_eq_true rfl)) dX9_write_36 ⟨Nat.zero_le _, Nat.zero_le _⟩) hS (fun q _ h => hFc q h) hFc (fun u t H1 locs ht hvm hw hB hz1 hk1 hS => ?_)
      obtain ⟨S_36, G_36⟩ := u
      obtain ⟨hP, -, hD1⟩ := hB
      rw [ht] at hP
      have hw := id hw
      have hP : va_P (dC, dI) vwCl (mW cI cJ cZ o ad S_36 G_36) H1 := hP
      have hD : va_D A (mW cI cJ cZ o ad S_36 G_36) := mGain hD1 hFc
      generalize H1 = H at hP hS ⊢
      refine lv_aload_n hx hb dX9_write_39 rfl (lv_at hl 0 rfl) ?_
      refine lv_iload_n hx hb dX9_write_40 rfl (lv_at hl 1 rfl) ?_
      refine lv_iload hx hb dX9_write_41 (lv_at hl 4 rfl) ?_
      have hFc := mFree hD hS hA
      refine va_callv (va_runV (As := [.int a1, .int a4]) (rest := []) ⟨hx, hb, hml, hown, hts⟩ (c_X9_lays l dC dI cI cJ cZ o ad S_36 G_36 H.size a1 a4 _ hw) (cwV 2 hts gX9_write_X9_lays rfl rfl rfl (by decide +kernel) ⟨Nat.le_of_ble_eq_true rfl, Nat.le_of_ble_eq_true rfl⟩) (mPreV [.int a1, .int a4] hK hP hD) rfl rfl hl.1 rfl (lv_room (Nat.le_of_ble_eq_true rfl)) dX9_write_43 ⟨Nat.zero_le _, Nat.zero_le _⟩) hS (fun q _ h => hFc q h) hFc (fun u t H1 locs ht hvm hw hB hz1 hk1 hS => ?_)
      obtain ⟨S_43, G_43⟩ := u
      obtain ⟨hP, -, hD1⟩ := hB
      rw [ht] at hP
      have hw := id hw
      have hP : va_P (dC, dI) vwCl (mW cI cJ cZ o ad S_43 G_43) H1 := hP
      have hD : va_D A (mW cI cJ cZ o ad S_43 G_43) := mGain hD1 hFc
      generalize H1 = H at hP hS ⊢
      refine lv_aload_n hx hb dX9_write_46 rfl (lv_at hl 0 rfl) ?_
      refine lv_iload_n hx hb dX9_write_47 rfl (lv_at hl 1 rfl) ?_
      refine lv_iload hx hb dX9_write_48 (lv_at hl 5 rfl) ?_
      have hFc := mFree hD hS hA
      refine va_callv (va_runV (As := [.int a1, .int a5]) (rest := []) ⟨hx, hb, hml, hown, hts⟩ (c_X9_lays l dC dI cI cJ cZ o ad S_43 G_43 H.size a1 a5 _ hw) (cwV 2 hts gX9_write_X9_lays rfl rfl rfl (by decide +kernel) ⟨Nat.le_of_ble_eq_true rfl, Nat.le_of_ble_eq_true rfl⟩) (mPreV [.int a1, .int a5] hK hP hD) rfl rfl hl.1 rfl (lv_room (Nat.le_of_ble_eq_true rfl)) dX9_write_50 ⟨Nat.zero_le _, Nat.zero_le _⟩) hS (fun q _ h => hFc q h) hFc (fun u t H1 locs ht hvm hw hB hz1 hk1 hS => ?_)
      obtain ⟨S_50, G_50⟩ := u
      obtain ⟨hP, -, hD1⟩ := hB
      rw [ht] at hP
      have hw := id hw
      have hP : va_P (dC, dI) vwCl (mW cI cJ cZ o ad S_50 G_50) H1 := hP
      have hD : va_D A (mW cI cJ cZ o ad S_50 G_50) := mGain hD1 hFc
      generalize H1 = H at hP hS ⊢
      refine lv_aload_n hx hb dX9_write_53 rfl (lv_at hl 0 rfl) ?_
      refine lv_iload_n hx hb dX9_write_54 rfl (lv_at hl 1 rfl) ?_
      refine lv_iload hx hb dX9_write_55 (lv_at hl 6 rfl) ?_
      have hFc := mFree hD hS hA
      refine va_callv (va_runV (As := [.int a1, .int a6]) (rest := []) ⟨hx, hb, hml, hown, hts⟩ (c_X9_lays l dC dI cI cJ cZ o ad S_50 G_50 H.size a1 a6 _ hw) (cwV 2 hts gX9_write_X9_lays rfl rfl rfl (by decide +kernel) ⟨Nat.le_of_ble_eq_true rfl, Nat.le_of_ble_eq_true rfl⟩) (mPreV [.int a1, .int a6] hK hP hD) rfl rfl hl.1 rfl (lv_room (Nat.le_of_ble_eq_true rfl)) dX9_write_57 ⟨Nat.zero_le _, Nat.zero_le _⟩) hS (fun q _ h => hFc q h) hFc (fun u t H1 locs ht hvm hw hB hz1 hk1 hS => ?_)
      obtain ⟨S_57, G_57⟩ := u
      obtain ⟨hP, -, hD1⟩ := hB
      rw [ht] at hP
      have hw := id hw
      have hP : va_P (dC, dI) vwCl (mW cI cJ cZ o ad S_57 G_57) H1 := hP
      have hD : va_D A (mW cI cJ cZ o ad S_57 G_57) := mGain hD1 hFc
      generalize H1 = H at hP hS ⊢
      refine lv_aload_n hx hb dX9_write_60 rfl (lv_at hl 0 rfl) ?_
      refine va_get (D := (dC, dI)) (ci := 10) (v := .ref (ad 20)) (C := RX9) (T := TX9) (N := 38) hx hb hts iw_X9_write hown hK hP 0 rfl rfl 20 (by decide) (hts _ lk_X9_write_57) (fun _ h9 => h9) rfl dX9_write_61 ?_
      refine lv_iload_n hx hb dX9_write_64 rfl (lv_at hl 1 rfl) ?_
      refine va_iald hx hb hK hP 16 0 rfl rfl hw.1 dX9_write_65 ?_
      have hw := hw.2
      exact W.iret (v := (S_57 20 (Int32.toNatClampNeg a1))) hx hb hr (fun t ht hW => ⟨⟨(S_57 20 (Int32.toNatClampNeg a1)), (S_57, G_57), rfl, hw, by rw [ht]; exact hP, va_K.moved hW.alike hK, hD⟩, hS.F ht⟩) hS.2.2 dX9_write_66
    · have hw := hw.2 c_22
      refine lv_iconst (v := -1) hx hb dX9_write_25 (by decide) ?_
      exact W.iret (v := (-1 : Int32)) hx hb hr (fun t ht hW => ⟨⟨(-1 : Int32), (S_2, G_2), rfl, hw, by rw [ht]; exact hP, va_K.moved hW.alike hK, hD⟩, hS.F ht⟩) hS.2.2 dX9_write_26
  · have hw := hw.2 c_5
    refine lv_iconst (v := 0) hx hb dX9_write_8 (by decide) ?_
    exact W.iret (v := (0 : Int32)) hx hb hr (fun t ht hW => ⟨⟨(0 : Int32), (S_2, G_2), rfl, hw, by rw [ht]; exact hP, va_K.moved hW.alike hK, hD⟩, hS.F ht⟩) hS.2.2 dX9_write_9
set_option maxHeartbeats 4000000 in
set_option maxRecDepth 100000 in
theorem c_X9_write (l : Launch) (dC : Nat → ClassId) (dI : Nat → Nat → Nat) (cI cJ cZ : ClassId) (o : Nat) (ad : Nat → Nat) (S : mS) (G : mG) (sz : Nat) (a1 : Int32) (a2 : Int32) (a3 : Int32) (a4 : Int32) (a5 : Int32) (a6 : Int32) (Q : Int32 → mS → mG → Prop) (hw : wp_X9_write_0 Q S G a1 a2 a3 a4 a5 a6) : Met l yX9_write wsX9_write rm_X9_write (va_Pc [.ref o, .int a1, .int a2, .int a3, .int a4, .int a5, .int a6] (mPre dC dI cI cJ cZ o ad S G sz)) (va_Qi (fun r (u : mS × mG) => Q r u.1 u.2) (mB dC dI cI cJ cZ o ad (mA cI cJ cZ o ad S G sz)) (mA cI cJ cZ o ad S G sz)) 0 0 (mA cI cJ cZ o ad S G sz) := by
  refine Met.ofW (cc := cX9_write) (maxL := 7) (ret := (some .int)) (by decide) rfl ?_
  intro p e s m args below meth c s₁ B hml hv
  obtain ⟨rfl, hsz, hP, hK, hD0⟩ := hv
  subst hsz
  have hl := lv_entry ([.ref o, .int a1, .int a2, .int a3, .int a4, .int a5, .int a6]) (n := 7) (Nat.le_of_ble_eq_true rfl)
  rw [lg_entry_eq]
  generalize (lg_sl ([.ref o, .int a1, .int a2, .int a3, .int a4, .int a5, .int a6]) ++ List.replicate (7 - (lg_sl ([.ref o, .int a1, .int a2, .int a3, .int a4, .int a5, .int a6])).length) Slot.unset).toArray = ls at hl ⊢
  exact tb_X9_write_0 (Q := Q) (p := p) ⟨B.exec, B.bytes, hml, findClass_of_methodNamed B.named, atoms_spec (ws := wsX9_write) B.pre, B.returns, B.notSynchronized, fun q h => Or.inr h, hK⟩ S G a1 a2 a3 a4 a5 a6 hw s.heap [] hP (hD0.self (sz := s.heap.size)) va_S.rf ls hl
theorem iw_X9_cut : ∀ w ∈ u_ws RX9 TX9 38, w ∈ wsX9_cut := fun w h => List.mem_cons_of_mem _ (by first | exact List.mem_append_right _ h | decide +kernel +revert)
theorem lk_X9_cut_57 : Cond.fieldLink RX9 57 "TermKeeperModel" "size" "[I" ∈ wsX9_cut := by decide +kernel
abbrev rm_X9_cut : Room := { frames := 2, cells := 0, slots := 0, locals := 43 }
def wp_X9_cut_0 (Q : Int32 → mS → mG → Prop) (S : mS) (G : mG) (a1 : Int32) (a2 : Int32) : Prop :=
    (wp_X9_isText_0 (fun r_2 S_2 G_2 =>
      ((¬ r_2 = 0 →
        ((a2 < 0 →
          (Q (-1 : Int32) S_2 G_2))
         ∧ (¬ a2 < 0 →
          (vp_in a1 8 ∧
            ((a2 ≤ (S_2 20 (Int32.toNatClampNeg a1)) →
              (vp_in a1 8 ∧
                (∀ v3_34 : Int32, v3_34 = ((S_2 20 (Int32.toNatClampNeg a1)) - a2) →
                  (vp_in a1 8 ∧ ∀ S_41 : mS, S_41 = mst S_2 20 (Int32.toNatClampNeg a1) a2 →
                    (Q v3_34 S_41 G_2)))))
             ∧ (¬ a2 ≤ (S_2 20 (Int32.toNatClampNeg a1)) →
              (Q (-1 : Int32) S_2 G_2)))))))
       ∧ (r_2 = 0 →
        (Q (0 : Int32) S_2 G_2)))) S G a1)
set_option maxHeartbeats 4000000 in
set_option maxRecDepth 100000 in
theorem tb_X9_cut_0 {p : Program} {l : Launch} {e : Env} {s : State} {m : MethodId} {below : List Frame} {meth : Method} {c : Code} {args : Array Value} {dC : Nat → ClassId} {dI : Nat → Nat → Nat} {cI cJ cZ : ClassId} {o : Nat} {ad : Nat → Nat} {A : Nat → Prop} {Q : Int32 → mS → mG → Prop} (C : mCx p s m args meth c cX9_cut 4 (some .int) wsX9_cut A dC dI cI cJ cZ) : ∀ (S : mS) (G : mG) (a1 : Int32) (a2 : Int32), wp_X9_cut_0 Q  S G a1 a2 → mAt p l e rm_X9_cut s m args below meth c dC dI cI cJ cZ o ad A (MQ below (va_Qi (fun r (u : mS × mG) => Q r u.1 u.2) (mB dC dI cI cJ cZ o ad A) A) args s 0 0 A) 0 4 [(0, .ref o), (1, .int a1), (2, .int a2)] [] S G := by
  obtain ⟨hx, hb, hml, hown, hts, hr, hlocks, hA, hK⟩ := id C
  intro S G a1 a2 hw H locs hP hD hS ls hl
  rw [wp_X9_cut_0] at hw
  refine lv_aload_n hx hb dX9_cut_0 rfl (lv_at hl 0 rfl) ?_
  refine lv_iload_n hx hb dX9_cut_1 rfl (lv_at hl 1 rfl) ?_
  have hFc := mFree hD hS hA
  refine va_calli (va_runV (As := [.int a1]) (rest := []) ⟨hx, hb, hml, hown, hts⟩ (c_X9_isText l dC dI cI cJ cZ o ad S G H.size a1 _ hw) (cwV 1 hts gX9_cut_X9_isText rfl rfl rfl (by decide +kernel) ⟨Nat.le_of_ble_eq_true rfl, Nat.le_of_ble_eq_true rfl⟩) (mPreV [.int a1] hK hP hD) rfl rfl hl.1 rfl (lv_room (Nat.le_of_ble_eq_true rfl)) dX9_cut_2 ⟨Nat.zero_le _, Nat.zero_le _⟩) hS (fun q _ h => hFc q h) hFc (fun r_2 u t H1 locs ht hvm hw hB hz1 hk1 hS => ?_)
  obtain ⟨S_2, G_2⟩ := u
  obtain ⟨hP, -, hD1⟩ := hB
  rw [ht] at hP
  have hw := id hw
  have hP : va_P (dC, dI) vwCl (mW cI cJ cZ o ad S_2 G_2) H1 := hP
  have hD : va_D A (mW cI cJ cZ o ad S_2 G_2) := mGain hD1 hFc
  generalize H1 = H at hP hS ⊢
  refine lv_if_ne (tgt := 10) hx hb dX9_cut_5 (by decide) (fun c_5 => ?_) (fun c_5 => ?_)
  · have hw := hw.1 c_5
    refine lv_iload_n hx hb dX9_cut_10 rfl (lv_at hl 2 rfl) ?_
    refine lv_if_lt (tgt := 24) hx hb dX9_cut_11 (by decide) (fun c_11 => ?_) (fun c_11 => ?_)
    · have hw := hw.1 c_11
      refine lv_iconst (v := -1) hx hb dX9_cut_24 (by decide) ?_
      exact W.iret (v := (-1 : Int32)) hx hb hr (fun t ht hW => ⟨⟨(-1 : Int32), (S_2, G_2), rfl, hw, by rw [ht]; exact hP, va_K.moved hW.alike hK, hD⟩, hS.F ht⟩) hS.2.2 dX9_cut_25
    · have hw := hw.2 c_11
      refine lv_iload_n hx hb dX9_cut_14 rfl (lv_at hl 2 rfl) ?_
      refine lv_aload_n hx hb dX9_cut_15 rfl (lv_at hl 0 rfl) ?_
      refine va_get (D := (dC, dI)) (ci := 10) (v := .ref (ad 20)) (C := RX9) (T := TX9) (N := 38) hx hb hts iw_X9_cut hown hK hP 0 rfl rfl 20 (by decide) (hts _ lk_X9_cut_57) (fun _ h9 => h9) rfl dX9_cut_16 ?_
      refine lv_iload_n hx hb dX9_cut_19 rfl (lv_at hl 1 rfl) ?_
      refine va_iald hx hb hK hP 16 0 rfl rfl hw.1 dX9_cut_20 ?_
      have hw := hw.2
      refine lv_icmp_le (tgt := 26) hx hb dX9_cut_21 (by decide) (fun c_21 => ?_) (fun c_21 => ?_)
      · have hw := hw.1 c_21
        refine lv_aload_n hx hb dX9_cut_26 rfl (lv_at hl 0 rfl) ?_
        refine va_get (D := (dC, dI)) (ci := 10) (v := .ref (ad 20)) (C := RX9) (T := TX9) (N := 38) hx hb hts iw_X9_cut hown hK hP 0 rfl rfl 20 (by decide) (hts _ lk_X9_cut_57) (fun _ h9 => h9) rfl dX9_cut_27 ?_
        refine lv_iload_n hx hb dX9_cut_30 rfl (lv_at hl 1 rfl) ?_
        refine va_iald hx hb hK hP 16 0 rfl rfl hw.1 dX9_cut_31 ?_
        have hw := hw.2
        refine lv_iload_n hx hb dX9_cut_32 rfl (lv_at hl 2 rfl) ?_
        refine lv_isub hx hb dX9_cut_33 ?_
        refine lv_topi (fun v3_34 ev3_34 => ?_)
        have hw := hw v3_34 ev3_34
        refine lv_istore_n (lv' := [(3, .int v3_34), (0, .ref o), (1, .int a1), (2, .int a2)]) hx hb dX9_cut_34 rfl hl (by decide) rfl (fun ls hl => ?_)
        refine lv_aload_n hx hb dX9_cut_35 rfl (lv_at hl 1 rfl) ?_
        refine va_get (D := (dC, dI)) (ci := 10) (v := .ref (ad 20)) (C := RX9) (T := TX9) (N := 38) hx hb hts iw_X9_cut hown hK hP 0 rfl rfl 20 (by decide) (hts _ lk_X9_cut_57) (fun _ h9 => h9) rfl dX9_cut_36 ?_
        refine lv_iload_n hx hb dX9_cut_39 rfl (lv_at hl 2 rfl) ?_
        refine lv_iload_n hx hb dX9_cut_40 rfl (lv_at hl 3 rfl) ?_
        refine va_iast hx hb hK hP hD hS 16 0 rfl rfl hw.1 dX9_cut_41 (fun H locs hP hD hS => ?_)
        obtain ⟨S_41, eS_41⟩ : ∃ y : mS, y = mst S_2 20 (Int32.toNatClampNeg a1) a2 := ⟨_, rfl⟩
        have hw := hw.2 S_41 eS_41
        have hP : va_P (dC, dI) vwCl (mW cI cJ cZ o ad S_41 G_2) H := by rw [eS_41]; exact hP
        have hD : va_D A (mW cI cJ cZ o ad S_41 G_2) := by rw [eS_41]; exact hD
        refine lv_iload_n hx hb dX9_cut_42 rfl (lv_at hl 0 rfl) ?_
        exact W.iret (v := v3_34) hx hb hr (fun t ht hW => ⟨⟨v3_34, (S_41, G_2), rfl, hw, by rw [ht]; exact hP, va_K.moved hW.alike hK, hD⟩, hS.F ht⟩) hS.2.2 dX9_cut_43
      · have hw := hw.2 c_21
        refine lv_iconst (v := -1) hx hb dX9_cut_24 (by decide) ?_
        exact W.iret (v := (-1 : Int32)) hx hb hr (fun t ht hW => ⟨⟨(-1 : Int32), (S_2, G_2), rfl, hw, by rw [ht]; exact hP, va_K.moved hW.alike hK, hD⟩, hS.F ht⟩) hS.2.2 dX9_cut_25
  · have hw := hw.2 c_5
    refine lv_iconst (v := 0) hx hb dX9_cut_8 (by decide) ?_
    exact W.iret (v := (0 : Int32)) hx hb hr (fun t ht hW => ⟨⟨(0 : Int32), (S_2, G_2), rfl, hw, by rw [ht]; exact hP, va_K.moved hW.alike hK, hD⟩, hS.F ht⟩) hS.2.2 dX9_cut_9
set_option maxHeartbeats 4000000 in
set_option maxRecDepth 100000 in
theorem c_X9_cut (l : Launch) (dC : Nat → ClassId) (dI : Nat → Nat → Nat) (cI cJ cZ : ClassId) (o : Nat) (ad : Nat → Nat) (S : mS) (G : mG) (sz : Nat) (a1 : Int32) (a2 : Int32) (Q : Int32 → mS → mG → Prop) (hw : wp_X9_cut_0 Q S G a1 a2) : Met l yX9_cut wsX9_cut rm_X9_cut (va_Pc [.ref o, .int a1, .int a2] (mPre dC dI cI cJ cZ o ad S G sz)) (va_Qi (fun r (u : mS × mG) => Q r u.1 u.2) (mB dC dI cI cJ cZ o ad (mA cI cJ cZ o ad S G sz)) (mA cI cJ cZ o ad S G sz)) 0 0 (mA cI cJ cZ o ad S G sz) := by
  refine Met.ofW (cc := cX9_cut) (maxL := 4) (ret := (some .int)) (by decide) rfl ?_
  intro p e s m args below meth c s₁ B hml hv
  obtain ⟨rfl, hsz, hP, hK, hD0⟩ := hv
  subst hsz
  have hl := lv_entry ([.ref o, .int a1, .int a2]) (n := 4) (Nat.le_of_ble_eq_true rfl)
  rw [lg_entry_eq]
  generalize (lg_sl ([.ref o, .int a1, .int a2]) ++ List.replicate (4 - (lg_sl ([.ref o, .int a1, .int a2])).length) Slot.unset).toArray = ls at hl ⊢
  exact tb_X9_cut_0 (Q := Q) (p := p) ⟨B.exec, B.bytes, hml, findClass_of_methodNamed B.named, atoms_spec (ws := wsX9_cut) B.pre, B.returns, B.notSynchronized, fun q h => Or.inr h, hK⟩ S G a1 a2 hw s.heap [] hP (hD0.self (sz := s.heap.size)) va_S.rf ls hl
theorem iw_X9_byteAt : ∀ w ∈ u_ws RX9 TX9 38, w ∈ wsX9_byteAt := fun w h => List.mem_cons_of_mem _ (by first | exact List.mem_append_right _ h | decide +kernel +revert)
theorem lk_X9_byteAt_54 : Cond.fieldLink RX9 54 "TermKeeperModel" "text" "[I" ∈ wsX9_byteAt := by decide +kernel
theorem lk_X9_byteAt_57 : Cond.fieldLink RX9 57 "TermKeeperModel" "size" "[I" ∈ wsX9_byteAt := by decide +kernel
abbrev rm_X9_byteAt : Room := { frames := 2, cells := 0, slots := 0, locals := 43 }
def wp_X9_byteAt_29 (Q : Int32 → mS → mG → Prop) (S : mS) (G : mG) (a1 : Int32) (a2 : Int32) (k0 : Int32) : Prop :=
    (wp_X9_right_0 (fun r_30 S_30 G_30 =>
      ((¬ r_30 = 0 →
        ((¬ a2 = (-1 : Int32) →
          (vp_in (((600 : Int32) * a1) + a2) 4800 ∧
            (Q (S_30 19 (Int32.toNatClampNeg (((600 : Int32) * a1) + a2))) S_30 G_30)))
         ∧ (a2 = (-1 : Int32) →
          (vp_in a1 8 ∧
            (Q (S_30 20 (Int32.toNatClampNeg a1)) S_30 G_30)))))
       ∧ (r_30 = 0 →
        (Q (0 : Int32) S_30 G_30)))) S G k0 (2 : Int32))
def wp_X9_byteAt_28 (Q : Int32 → mS → mG → Prop) (S : mS) (G : mG) (a1 : Int32) (a2 : Int32) : Prop :=
    (wp_X9_byteAt_29 Q  S G a1 a2 (0 : Int32))
def wp_X9_byteAt_0 (Q : Int32 → mS → mG → Prop) (S : mS) (G : mG) (a1 : Int32) (a2 : Int32) : Prop :=
    (wp_X9_isText_0 (fun r_2 S_2 G_2 =>
      ((r_2 = 0 →
        (Q (0 : Int32) S_2 G_2))
       ∧ (¬ r_2 = 0 →
        ((a2 < (-1 : Int32) →
          (wp_X9_byteAt_28 Q  S_2 G_2 a1 a2))
         ∧ (¬ a2 < (-1 : Int32) →
          (vp_in a1 8 ∧
            (((S_2 20 (Int32.toNatClampNeg a1)) ≤ a2 →
              (wp_X9_byteAt_28 Q  S_2 G_2 a1 a2))
             ∧ (¬ (S_2 20 (Int32.toNatClampNeg a1)) ≤ a2 →
              (wp_X9_byteAt_29 Q  S_2 G_2 a1 a2 (1 : Int32)))))))))) S G a1)
set_option maxHeartbeats 4000000 in
set_option maxRecDepth 100000 in
theorem tb_X9_byteAt_29 {p : Program} {l : Launch} {e : Env} {s : State} {m : MethodId} {below : List Frame} {meth : Method} {c : Code} {args : Array Value} {dC : Nat → ClassId} {dI : Nat → Nat → Nat} {cI cJ cZ : ClassId} {o : Nat} {ad : Nat → Nat} {A : Nat → Prop} {Q : Int32 → mS → mG → Prop} (C : mCx p s m args meth c cX9_byteAt 3 (some .int) wsX9_byteAt A dC dI cI cJ cZ) : ∀ (S : mS) (G : mG) (a1 : Int32) (a2 : Int32) (k0 : Int32), wp_X9_byteAt_29 Q  S G a1 a2 k0 → mAt p l e rm_X9_byteAt s m args below meth c dC dI cI cJ cZ o ad A (MQ below (va_Qi (fun r (u : mS × mG) => Q r u.1 u.2) (mB dC dI cI cJ cZ o ad A) A) args s 0 0 A) 29 3 [(0, .ref o), (1, .int a1), (2, .int a2)] [.int k0, .ref o] S G := by
  obtain ⟨hx, hb, hml, hown, hts, hr, hlocks, hA, hK⟩ := id C
  intro S G a1 a2 k0 hw H locs hP hD hS ls hl
  rw [wp_X9_byteAt_29] at hw
  refine lv_iconst (v := 2) hx hb dX9_byteAt_29 (by decide) ?_
  have hFc := mFree hD hS hA
  refine va_calli (va_runV (As := [.int k0, .int (2 : Int32)]) (rest := []) ⟨hx, hb, hml, hown, hts⟩ (c_X9_right l dC dI cI cJ cZ o ad S G H.size k0 (2 : Int32) _ hw) (cwV 2 hts gX9_byteAt_X9_right rfl rfl rfl (by decide +kernel) ⟨Nat.le_of_ble_eq_true rfl, Nat.le_of_ble_eq_true rfl⟩) (mPreV [.int k0, .int (2 : Int32)] hK hP hD) rfl rfl hl.1 rfl (lv_room (Nat.le_of_ble_eq_true rfl)) dX9_byteAt_30 ⟨Nat.zero_le _, Nat.zero_le _⟩) hS (fun q _ h => hFc q h) hFc (fun r_30 u t H1 locs ht hvm hw hB hz1 hk1 hS => ?_)
  obtain ⟨S_30, G_30⟩ := u
  obtain ⟨hP, -, hD1⟩ := hB
  rw [ht] at hP
  have hw := id hw
  have hP : va_P (dC, dI) vwCl (mW cI cJ cZ o ad S_30 G_30) H1 := hP
  have hD : va_D A (mW cI cJ cZ o ad S_30 G_30) := mGain hD1 hFc
  generalize H1 = H at hP hS ⊢
  refine lv_if_ne (tgt := 38) hx hb dX9_byteAt_33 (by decide) (fun c_33 => ?_) (fun c_33 => ?_)
  · have hw := hw.1 c_33
    refine lv_iload_n hx hb dX9_byteAt_38 rfl (lv_at hl 2 rfl) ?_
    refine lv_iconst (v := -1) hx hb dX9_byteAt_39 (by decide) ?_
    refine lv_icmp_ne (tgt := 52) hx hb dX9_byteAt_40 (by decide) (fun c_40 => ?_) (fun c_40 => ?_)
    · have hw := hw.1 c_40
      refine lv_aload_n hx hb dX9_byteAt_52 rfl (lv_at hl 0 rfl) ?_
      refine va_get (D := (dC, dI)) (ci := 10) (v := .ref (ad 19)) (C := RX9) (T := TX9) (N := 38) hx hb hts iw_X9_byteAt hown hK hP 0 rfl rfl 19 (by decide) (hts _ lk_X9_byteAt_54) (fun _ h9 => h9) rfl dX9_byteAt_53 ?_
      refine lv_sipush (v := 600) hx hb dX9_byteAt_56 (by decide) ?_
      refine lv_iload_n hx hb dX9_byteAt_59 rfl (lv_at hl 1 rfl) ?_
      refine lv_imul hx hb dX9_byteAt_60 ?_
      refine lv_iload_n hx hb dX9_byteAt_61 rfl (lv_at hl 2 rfl) ?_
      refine lv_iadd hx hb dX9_byteAt_62 ?_
      refine va_iald hx hb hK hP 15 0 rfl rfl hw.1 dX9_byteAt_63 ?_
      have hw := hw.2
      exact W.iret (v := (S_30 19 (Int32.toNatClampNeg (((600 : Int32) * a1) + a2)))) hx hb hr (fun t ht hW => ⟨⟨(S_30 19 (Int32.toNatClampNeg (((600 : Int32) * a1) + a2))), (S_30, G_30), rfl, hw, by rw [ht]; exact hP, va_K.moved hW.alike hK, hD⟩, hS.F ht⟩) hS.2.2 dX9_byteAt_64
    · have hw := hw.2 c_40
      refine lv_aload_n hx hb dX9_byteAt_43 rfl (lv_at hl 0 rfl) ?_
      refine va_get (D := (dC, dI)) (ci := 10) (v := .ref (ad 20)) (C := RX9) (T := TX9) (N := 38) hx hb hts iw_X9_byteAt hown hK hP 0 rfl rfl 20 (by decide) (hts _ lk_X9_byteAt_57) (fun _ h9 => h9) rfl dX9_byteAt_44 ?_
      refine lv_iload_n hx hb dX9_byteAt_47 rfl (lv_at hl 1 rfl) ?_
      refine va_iald hx hb hK hP 16 0 rfl rfl hw.1 dX9_byteAt_48 ?_
      have hw := hw.2
      refine lv_goto (tgt := 64) hx hb dX9_byteAt_49 (by decide) ?_
      exact W.iret (v := (S_30 20 (Int32.toNatClampNeg a1))) hx hb hr (fun t ht hW => ⟨⟨(S_30 20 (Int32.toNatClampNeg a1)), (S_30, G_30), rfl, hw, by rw [ht]; exact hP, va_K.moved hW.alike hK, hD⟩, hS.F ht⟩) hS.2.2 dX9_byteAt_64
  · have hw := hw.2 c_33
    refine lv_iconst (v := 0) hx hb dX9_byteAt_36 (by decide) ?_
    exact W.iret (v := (0 : Int32)) hx hb hr (fun t ht hW => ⟨⟨(0 : Int32), (S_30, G_30), rfl, hw, by rw [ht]; exact hP, va_K.moved hW.alike hK, hD⟩, hS.F ht⟩) hS.2.2 dX9_byteAt_37
set_option maxHeartbeats 4000000 in
set_option maxRecDepth 100000 in
theorem tb_X9_byteAt_28 {p : Program} {l : Launch} {e : Env} {s : State} {m : MethodId} {below : List Frame} {meth : Method} {c : Code} {args : Array Value} {dC : Nat → ClassId} {dI : Nat → Nat → Nat} {cI cJ cZ : ClassId} {o : Nat} {ad : Nat → Nat} {A : Nat → Prop} {Q : Int32 → mS → mG → Prop} (C : mCx p s m args meth c cX9_byteAt 3 (some .int) wsX9_byteAt A dC dI cI cJ cZ) : ∀ (S : mS) (G : mG) (a1 : Int32) (a2 : Int32), wp_X9_byteAt_28 Q  S G a1 a2 → mAt p l e rm_X9_byteAt s m args below meth c dC dI cI cJ cZ o ad A (MQ below (va_Qi (fun r (u : mS × mG) => Q r u.1 u.2) (mB dC dI cI cJ cZ o ad A) A) args s 0 0 A) 28 3 [(0, .ref o), (1, .int a1), (2, .int a2)] [.ref o] S G := by
  obtain ⟨hx, hb, hml, hown, hts, hr, hlocks, hA, hK⟩ := id C
  intro S G a1 a2 hw H locs hP hD hS ls hl
  rw [wp_X9_byteAt_28] at hw
  refine lv_iconst (v := 0) hx hb dX9_byteAt_28 (by decide) ?_
  exact tb_X9_byteAt_29 C  S G a1 a2 (0 : Int32) hw H locs hP hD hS ls (lv_sub hl [0, 1, 2] rfl)
set_option maxHeartbeats 4000000 in
set_option maxRecDepth 100000 in
theorem tb_X9_byteAt_0 {p : Program} {l : Launch} {e : Env} {s : State} {m : MethodId} {below : List Frame} {meth : Method} {c : Code} {args : Array Value} {dC : Nat → ClassId} {dI : Nat → Nat → Nat} {cI cJ cZ : ClassId} {o : Nat} {ad : Nat → Nat} {A : Nat → Prop} {Q : Int32 → mS → mG → Prop} (C : mCx p s m args meth c cX9_byteAt 3 (some .int) wsX9_byteAt A dC dI cI cJ cZ) : ∀ (S : mS) (G : mG) (a1 : Int32) (a2 : Int32), wp_X9_byteAt_0 Q  S G a1 a2 → mAt p l e rm_X9_byteAt s m args below meth c dC dI cI cJ cZ o ad A (MQ below (va_Qi (fun r (u : mS × mG) => Q r u.1 u.2) (mB dC dI cI cJ cZ o ad A) A) args s 0 0 A) 0 3 [(0, .ref o), (1, .int a1), (2, .int a2)] [] S G := by
  obtain ⟨hx, hb, hml, hown, hts, hr, hlocks, hA, hK⟩ := id C
  intro S G a1 a2 hw H locs hP hD hS ls hl
  rw [wp_X9_byteAt_0] at hw
  refine lv_aload_n hx hb dX9_byteAt_0 rfl (lv_at hl 0 rfl) ?_
  refine lv_iload_n hx hb dX9_byteAt_1 rfl (lv_at hl 1 rfl) ?_
  have hFc := mFree hD hS hA
  refine va_calli (va_runV (As := [.int a1]) (rest := []) ⟨hx, hb, hml, hown, hts⟩ (c_X9_isText l dC dI cI cJ cZ o ad S G H.size a1 _ hw) (cwV 1 hts gX9_byteAt_X9_isText rfl rfl rfl (by decide +kernel) ⟨Nat.le_of_ble_eq_true rfl, Nat.le_of_ble_eq_true rfl⟩) (mPreV [.int a1] hK hP hD) rfl rfl hl.1 rfl (lv_room (Nat.le_of_ble_eq_true rfl)) dX9_byteAt_2 ⟨Nat.zero_le _, Nat.zero_le _⟩) hS (fun q _ h => hFc q h) hFc (fun r_2 u t H1 locs ht hvm hw hB hz1 hk1 hS => ?_)
  obtain ⟨S_2, G_2⟩ := u
  obtain ⟨hP, -, hD1⟩ := hB
  rw [ht] at hP
  have hw := id hw
  have hP : va_P (dC, dI) vwCl (mW cI cJ cZ o ad S_2 G_2) H1 := hP
  have hD : va_D A (mW cI cJ cZ o ad S_2 G_2) := mGain hD1 hFc
  generalize H1 = H at hP hS ⊢
  refine lv_if_eq (tgt := 36) hx hb dX9_byteAt_5 (by decide) (fun c_5 => ?_) (fun c_5 => ?_)
  · have hw := hw.1 c_5
    refine lv_iconst (v := 0) hx hb dX9_byteAt_36 (by decide) ?_
    exact W.iret (v := (0 : Int32)) hx hb hr (fun t ht hW => ⟨⟨(0 : Int32), (S_2, G_2), rfl, hw, by rw [ht]; exact hP, va_K.moved hW.alike hK, hD⟩, hS.F ht⟩) hS.2.2 dX9_byteAt_37
  · have hw := hw.2 c_5
    refine lv_aload_n hx hb dX9_byteAt_8 rfl (lv_at hl 0 rfl) ?_
    refine lv_iload_n hx hb dX9_byteAt_9 rfl (lv_at hl 2 rfl) ?_
    refine lv_iconst (v := -1) hx hb dX9_byteAt_10 (by decide) ?_
    refine lv_icmp_lt (tgt := 28) hx hb dX9_byteAt_11 (by decide) (fun c_11 => ?_) (fun c_11 => ?_)
    · have hw := hw.1 c_11
      exact tb_X9_byteAt_28 C  S_2 G_2 a1 a2 hw H locs hP hD hS ls (lv_sub hl [0, 1, 2] rfl)
    · have hw := hw.2 c_11
      refine lv_iload_n hx hb dX9_byteAt_14 rfl (lv_at hl 2 rfl) ?_
      refine lv_aload_n hx hb dX9_byteAt_15 rfl (lv_at hl 0 rfl) ?_
      refine va_get (D := (dC, dI)) (ci := 10) (v := .ref (ad 20)) (C := RX9) (T := TX9) (N := 38) hx hb hts iw_X9_byteAt hown hK hP 0 rfl rfl 20 (by decide) (hts _ lk_X9_byteAt_57) (fun _ h9 => h9) rfl dX9_byteAt_16 ?_
      refine lv_iload_n hx hb dX9_byteAt_19 rfl (lv_at hl 1 rfl) ?_
      refine va_iald hx hb hK hP 16 0 rfl rfl hw.1 dX9_byteAt_20 ?_
      have hw := hw.2
      refine lv_icmp_ge (tgt := 28) hx hb dX9_byteAt_21 (by decide) (fun c_21 => ?_) (fun c_21 => ?_)
      · have hw := hw.1 c_21
        exact tb_X9_byteAt_28 C  S_2 G_2 a1 a2 hw H locs hP hD hS ls (lv_sub hl [0, 1, 2] rfl)
      · have hw := hw.2 c_21
        refine lv_iconst (v := 1) hx hb dX9_byteAt_24 (by decide) ?_
        refine lv_goto (tgt := 29) hx hb dX9_byteAt_25 (by decide) ?_
        exact tb_X9_byteAt_29 C  S_2 G_2 a1 a2 (1 : Int32) hw H locs hP hD hS ls (lv_sub hl [0, 1, 2] rfl)
set_option maxHeartbeats 4000000 in
set_option maxRecDepth 100000 in
theorem c_X9_byteAt (l : Launch) (dC : Nat → ClassId) (dI : Nat → Nat → Nat) (cI cJ cZ : ClassId) (o : Nat) (ad : Nat → Nat) (S : mS) (G : mG) (sz : Nat) (a1 : Int32) (a2 : Int32) (Q : Int32 → mS → mG → Prop) (hw : wp_X9_byteAt_0 Q S G a1 a2) : Met l yX9_byteAt wsX9_byteAt rm_X9_byteAt (va_Pc [.ref o, .int a1, .int a2] (mPre dC dI cI cJ cZ o ad S G sz)) (va_Qi (fun r (u : mS × mG) => Q r u.1 u.2) (mB dC dI cI cJ cZ o ad (mA cI cJ cZ o ad S G sz)) (mA cI cJ cZ o ad S G sz)) 0 0 (mA cI cJ cZ o ad S G sz) := by
  refine Met.ofW (cc := cX9_byteAt) (maxL := 3) (ret := (some .int)) (by decide) rfl ?_
  intro p e s m args below meth c s₁ B hml hv
  obtain ⟨rfl, hsz, hP, hK, hD0⟩ := hv
  subst hsz
  have hl := lv_entry ([.ref o, .int a1, .int a2]) (n := 3) (Nat.le_of_ble_eq_true rfl)
  rw [lg_entry_eq]
  generalize (lg_sl ([.ref o, .int a1, .int a2]) ++ List.replicate (3 - (lg_sl ([.ref o, .int a1, .int a2])).length) Slot.unset).toArray = ls at hl ⊢
  exact tb_X9_byteAt_0 (Q := Q) (p := p) ⟨B.exec, B.bytes, hml, findClass_of_methodNamed B.named, atoms_spec (ws := wsX9_byteAt) B.pre, B.returns, B.notSynchronized, fun q h => Or.inr h, hK⟩ S G a1 a2 hw s.heap [] hP (hD0.self (sz := s.heap.size)) va_S.rf ls hl
abbrev rm_X9_isGreat : Room := { frames := 0, cells := 0, slots := 0, locals := 0 }
def wp_X9_isGreat_0 (Q : Int32 → Prop) (a0 : Int32) : Prop :=
    ((a0 < (65 : Int32) →
      (Q (0 : Int32)))
     ∧ (¬ a0 < (65 : Int32) →
      (((90 : Int32) < a0 →
        (Q (0 : Int32)))
       ∧ (¬ (90 : Int32) < a0 →
        (Q (1 : Int32))))))
set_option maxHeartbeats 4000000 in
set_option maxRecDepth 100000 in
theorem tb_X9_isGreat_0 {p : Program} {l : Launch} {e : Env} {s : State} {m : MethodId} {below : List Frame} {meth : Method} {c : Code} {args : Array Value} {Q : Int32 → Prop} (C : sCx p s m args meth c cX9_isGreat 1 (some .boolean) RX9 wsX9_isGreat) : ∀ (a0 : Int32), wp_X9_isGreat_0 Q  a0 → sAt p l e rm_X9_isGreat s m args below meth c (MQ below (vp_Si (fun r => Q r)) args s 0 0 (fun _ => False)) 0 1 [(0, .int a0)] [] := by
  obtain ⟨hx, hb, hml, hown, hts, hr, hlocks⟩ := id C
  intro a0 hw ls hl
  rw [wp_X9_isGreat_0] at hw
  refine lv_iload_n hx hb dX9_isGreat_0 rfl (lv_at hl 0 rfl) ?_
  refine lv_bipush (v := 65) hx hb dX9_isGreat_1 (by decide) ?_
  refine lv_icmp_lt (tgt := 16) hx hb dX9_isGreat_3 (by decide) (fun c_3 => ?_) (fun c_3 => ?_)
  · have hw := hw.1 c_3
    refine lv_iconst (v := 0) hx hb dX9_isGreat_16 (by decide) ?_
    exact W.zret (v := (0 : Int32)) hx hb hr rfl (fun t ht hW => ⟨(0 : Int32), rfl, hw, ht⟩) (fun q h => absurd h List.not_mem_nil) dX9_isGreat_17
  · have hw := hw.2 c_3
    refine lv_iload_n hx hb dX9_isGreat_6 rfl (lv_at hl 0 rfl) ?_
    refine lv_bipush (v := 90) hx hb dX9_isGreat_7 (by decide) ?_
    refine lv_icmp_gt (tgt := 16) hx hb dX9_isGreat_9 (by decide) (fun c_9 => ?_) (fun c_9 => ?_)
    · have hw := hw.1 c_9
      refine lv_iconst (v := 0) hx hb dX9_isGreat_16 (by decide) ?_
      exact W.zret (v := (0 : Int32)) hx hb hr rfl (fun t ht hW => ⟨(0 : Int32), rfl, hw, ht⟩) (fun q h => absurd h List.not_mem_nil) dX9_isGreat_17
    · have hw := hw.2 c_9
      refine lv_iconst (v := 1) hx hb dX9_isGreat_12 (by decide) ?_
      refine lv_goto (tgt := 17) hx hb dX9_isGreat_13 (by decide) ?_
      exact W.zret (v := (1 : Int32)) hx hb hr rfl (fun t ht hW => ⟨(1 : Int32), rfl, hw, ht⟩) (fun q h => absurd h List.not_mem_nil) dX9_isGreat_17
set_option maxHeartbeats 4000000 in
set_option maxRecDepth 100000 in
theorem c_X9_isGreat (l : Launch) (a0 : Int32) (Q : Int32 → Prop) (hw : wp_X9_isGreat_0 Q a0) : Met l yX9_isGreat wsX9_isGreat rm_X9_isGreat (fun v _ => v = ([.int a0] : List Value).toArray) (vp_Si (fun r => Q r)) 0 0 (fun _ => False) := by
  refine Met.ofW (cc := cX9_isGreat) (maxL := 1) (ret := (some .boolean)) (by decide) rfl ?_
  intro p e s m args below meth c s₁ B hml hv
  subst hv
  have hl := lv_entry ([.int a0]) (n := 1) (Nat.le_of_ble_eq_true rfl)
  rw [lg_entry_eq]
  generalize (lg_sl ([.int a0]) ++ List.replicate (1 - (lg_sl ([.int a0])).length) Slot.unset).toArray = ls at hl ⊢
  exact tb_X9_isGreat_0 (Q := Q) (p := p) ⟨B.exec, B.bytes, hml, findClass_of_methodNamed B.named, atoms_spec (ws := wsX9_isGreat) B.pre, B.returns, B.notSynchronized⟩ a0 hw ls hl
abbrev rm_X9_letterOf : Room := { frames := 1, cells := 0, slots := 0, locals := 20 }
def wp_X9_letterOf_21 (Q : Int32 → Prop) (a0 : Int32) : Prop :=
    (wp_X9_isGreat_0 (fun r_22 =>
      ((r_22 = 0 →
        (Q (0 : Int32)))
       ∧ (¬ r_22 = 0 →
        (Q ((a0 - (65 : Int32)) + (1 : Int32)))))) a0)
def wp_X9_letterOf_0 (Q : Int32 → Prop) (a0 : Int32) : Prop :=
    ((a0 < (97 : Int32) →
      (wp_X9_letterOf_21 Q  a0))
     ∧ (¬ a0 < (97 : Int32) →
      (((122 : Int32) < a0 →
        (wp_X9_letterOf_21 Q  a0))
       ∧ (¬ (122 : Int32) < a0 →
        (Q ((a0 - (97 : Int32)) + (1 : Int32)))))))
set_option maxHeartbeats 4000000 in
set_option maxRecDepth 100000 in
theorem tb_X9_letterOf_21 {p : Program} {l : Launch} {e : Env} {s : State} {m : MethodId} {below : List Frame} {meth : Method} {c : Code} {args : Array Value} {Q : Int32 → Prop} (C : sCx p s m args meth c cX9_letterOf 1 (some .int) RX9 wsX9_letterOf) : ∀ (a0 : Int32), wp_X9_letterOf_21 Q  a0 → sAt p l e rm_X9_letterOf s m args below meth c (MQ below (vp_Si (fun r => Q r)) args s 0 0 (fun _ => False)) 21 1 [(0, .int a0)] [] := by
  obtain ⟨hx, hb, hml, hown, hts, hr, hlocks⟩ := id C
  intro a0 hw ls hl
  rw [wp_X9_letterOf_21] at hw
  refine lv_iload_n hx hb dX9_letterOf_21 rfl (lv_at hl 0 rfl) ?_
  refine vp_callSi (W.runS (As := [.int a0]) (rest := []) ⟨hx, hb, hml, hown, hts⟩ (c_X9_isGreat l a0 _ hw) (va_cwS 1 hts gX9_letterOf_X9_isGreat rfl rfl rfl (by decide +kernel) ⟨Nat.le_of_ble_eq_true rfl, Nat.le_of_ble_eq_true rfl⟩) preEq rfl rfl hl.1 rfl (lv_room (Nat.le_of_ble_eq_true rfl)) dX9_letterOf_22 ⟨Nat.zero_le _, Nat.zero_le _⟩) (fun r_22 hw => ?_)
  refine lv_if_eq (tgt := 37) hx hb dX9_letterOf_25 (by decide) (fun c_25 => ?_) (fun c_25 => ?_)
  · have hw := hw.1 c_25
    refine lv_iconst (v := 0) hx hb dX9_letterOf_37 (by decide) ?_
    exact W.iret (v := (0 : Int32)) hx hb hr (fun t ht hW => ⟨(0 : Int32), rfl, hw, ht⟩) (fun q h => absurd h List.not_mem_nil) dX9_letterOf_38
  · have hw := hw.2 c_25
    refine lv_iload_n hx hb dX9_letterOf_28 rfl (lv_at hl 0 rfl) ?_
    refine lv_bipush (v := 65) hx hb dX9_letterOf_29 (by decide) ?_
    refine lv_isub hx hb dX9_letterOf_31 ?_
    refine lv_iconst (v := 1) hx hb dX9_letterOf_32 (by decide) ?_
    refine lv_iadd hx hb dX9_letterOf_33 ?_
    refine lv_goto (tgt := 38) hx hb dX9_letterOf_34 (by decide) ?_
    exact W.iret (v := ((a0 - (65 : Int32)) + (1 : Int32))) hx hb hr (fun t ht hW => ⟨((a0 - (65 : Int32)) + (1 : Int32)), rfl, hw, ht⟩) (fun q h => absurd h List.not_mem_nil) dX9_letterOf_38
set_option maxHeartbeats 4000000 in
set_option maxRecDepth 100000 in
theorem tb_X9_letterOf_0 {p : Program} {l : Launch} {e : Env} {s : State} {m : MethodId} {below : List Frame} {meth : Method} {c : Code} {args : Array Value} {Q : Int32 → Prop} (C : sCx p s m args meth c cX9_letterOf 1 (some .int) RX9 wsX9_letterOf) : ∀ (a0 : Int32), wp_X9_letterOf_0 Q  a0 → sAt p l e rm_X9_letterOf s m args below meth c (MQ below (vp_Si (fun r => Q r)) args s 0 0 (fun _ => False)) 0 1 [(0, .int a0)] [] := by
  obtain ⟨hx, hb, hml, hown, hts, hr, hlocks⟩ := id C
  intro a0 hw ls hl
  rw [wp_X9_letterOf_0] at hw
  refine lv_iload_n hx hb dX9_letterOf_0 rfl (lv_at hl 0 rfl) ?_
  refine lv_bipush (v := 97) hx hb dX9_letterOf_1 (by decide) ?_
  refine lv_icmp_lt (tgt := 21) hx hb dX9_letterOf_3 (by decide) (fun c_3 => ?_) (fun c_3 => ?_)
  · have hw := hw.1 c_3
    exact tb_X9_letterOf_21 C  a0 hw ls (lv_sub hl [0] rfl)
  · have hw := hw.2 c_3
    refine lv_iload_n hx hb dX9_letterOf_6 rfl (lv_at hl 0 rfl) ?_
    refine lv_bipush (v := 122) hx hb dX9_letterOf_7 (by decide) ?_
    refine lv_icmp_gt (tgt := 21) hx hb dX9_letterOf_9 (by decide) (fun c_9 => ?_) (fun c_9 => ?_)
    · have hw := hw.1 c_9
      exact tb_X9_letterOf_21 C  a0 hw ls (lv_sub hl [0] rfl)
    · have hw := hw.2 c_9
      refine lv_iload_n hx hb dX9_letterOf_12 rfl (lv_at hl 0 rfl) ?_
      refine lv_bipush (v := 97) hx hb dX9_letterOf_13 (by decide) ?_
      refine lv_isub hx hb dX9_letterOf_15 ?_
      refine lv_iconst (v := 1) hx hb dX9_letterOf_16 (by decide) ?_
      refine lv_iadd hx hb dX9_letterOf_17 ?_
      refine lv_goto (tgt := 38) hx hb dX9_letterOf_18 (by decide) ?_
      exact W.iret (v := ((a0 - (97 : Int32)) + (1 : Int32))) hx hb hr (fun t ht hW => ⟨((a0 - (97 : Int32)) + (1 : Int32)), rfl, hw, ht⟩) (fun q h => absurd h List.not_mem_nil) dX9_letterOf_38
set_option maxHeartbeats 4000000 in
set_option maxRecDepth 100000 in
theorem c_X9_letterOf (l : Launch) (a0 : Int32) (Q : Int32 → Prop) (hw : wp_X9_letterOf_0 Q a0) : Met l yX9_letterOf wsX9_letterOf rm_X9_letterOf (fun v _ => v = ([.int a0] : List Value).toArray) (vp_Si (fun r => Q r)) 0 0 (fun _ => False) := by
  refine Met.ofW (cc := cX9_letterOf) (maxL := 1) (ret := (some .int)) (by decide) rfl ?_
  intro p e s m args below meth c s₁ B hml hv
  subst hv
  have hl := lv_entry ([.int a0]) (n := 1) (Nat.le_of_ble_eq_true rfl)
  rw [lg_entry_eq]
  generalize (lg_sl ([.int a0]) ++ List.replicate (1 - (lg_sl ([.int a0])).length) Slot.unset).toArray = ls at hl ⊢
  exact tb_X9_letterOf_0 (Q := Q) (p := p) ⟨B.exec, B.bytes, hml, findClass_of_methodNamed B.named, atoms_spec (ws := wsX9_letterOf) B.pre, B.returns, B.notSynchronized⟩ a0 hw ls hl
theorem iw_X9_at : ∀ w ∈ u_ws RX9 TX9 38, w ∈ wsX9_at := fun w h => List.mem_cons_of_mem _ (by first | exact List.mem_append_right _ h | decide +kernel +revert)
theorem lk_X9_at_54 : Cond.fieldLink RX9 54 "TermKeeperModel" "text" "[I" ∈ wsX9_at := by decide +kernel
abbrev rm_X9_at : Room := { frames := 0, cells := 0, slots := 0, locals := 0 }
def wp_X9_at_0 (Q : Int32 → mS → mG → Prop) (S : mS) (G : mG) (a1 : Int32) (a2 : Int32) : Prop :=
    (vp_in (((600 : Int32) * a1) + a2) 4800 ∧
      (Q (S 19 (Int32.toNatClampNeg (((600 : Int32) * a1) + a2))) S G))
set_option maxHeartbeats 4000000 in
set_option maxRecDepth 100000 in
theorem tb_X9_at_0 {p : Program} {l : Launch} {e : Env} {s : State} {m : MethodId} {below : List Frame} {meth : Method} {c : Code} {args : Array Value} {dC : Nat → ClassId} {dI : Nat → Nat → Nat} {cI cJ cZ : ClassId} {o : Nat} {ad : Nat → Nat} {A : Nat → Prop} {Q : Int32 → mS → mG → Prop} (C : mCx p s m args meth c cX9_at 3 (some .int) wsX9_at A dC dI cI cJ cZ) : ∀ (S : mS) (G : mG) (a1 : Int32) (a2 : Int32), wp_X9_at_0 Q  S G a1 a2 → mAt p l e rm_X9_at s m args below meth c dC dI cI cJ cZ o ad A (MQ below (va_Qi (fun r (u : mS × mG) => Q r u.1 u.2) (mB dC dI cI cJ cZ o ad A) A) args s 0 0 A) 0 3 [(0, .ref o), (1, .int a1), (2, .int a2)] [] S G := by
  obtain ⟨hx, hb, hml, hown, hts, hr, hlocks, hA, hK⟩ := id C
  intro S G a1 a2 hw H locs hP hD hS ls hl
  rw [wp_X9_at_0] at hw
  refine lv_aload_n hx hb dX9_at_0 rfl (lv_at hl 0 rfl) ?_
  refine va_get (D := (dC, dI)) (ci := 10) (v := .ref (ad 19)) (C := RX9) (T := TX9) (N := 38) hx hb hts iw_X9_at hown hK hP 0 rfl rfl 19 (by decide) (hts _ lk_X9_at_54) (fun _ h9 => h9) rfl dX9_at_1 ?_
  refine lv_sipush (v := 600) hx hb dX9_at_4 (by decide) ?_
  refine lv_iload_n hx hb dX9_at_7 rfl (lv_at hl 1 rfl) ?_
  refine lv_imul hx hb dX9_at_8 ?_
  refine lv_iload_n hx hb dX9_at_9 rfl (lv_at hl 2 rfl) ?_
  refine lv_iadd hx hb dX9_at_10 ?_
  refine va_iald hx hb hK hP 15 0 rfl rfl hw.1 dX9_at_11 ?_
  have hw := hw.2
  exact W.iret (v := (S 19 (Int32.toNatClampNeg (((600 : Int32) * a1) + a2)))) hx hb hr (fun t ht hW => ⟨⟨(S 19 (Int32.toNatClampNeg (((600 : Int32) * a1) + a2))), (S, G), rfl, hw, by rw [ht]; exact hP, va_K.moved hW.alike hK, hD⟩, hS.F ht⟩) hS.2.2 dX9_at_12
set_option maxHeartbeats 4000000 in
set_option maxRecDepth 100000 in
theorem c_X9_at (l : Launch) (dC : Nat → ClassId) (dI : Nat → Nat → Nat) (cI cJ cZ : ClassId) (o : Nat) (ad : Nat → Nat) (S : mS) (G : mG) (sz : Nat) (a1 : Int32) (a2 : Int32) (Q : Int32 → mS → mG → Prop) (hw : wp_X9_at_0 Q S G a1 a2) : Met l yX9_at wsX9_at rm_X9_at (va_Pc [.ref o, .int a1, .int a2] (mPre dC dI cI cJ cZ o ad S G sz)) (va_Qi (fun r (u : mS × mG) => Q r u.1 u.2) (mB dC dI cI cJ cZ o ad (mA cI cJ cZ o ad S G sz)) (mA cI cJ cZ o ad S G sz)) 0 0 (mA cI cJ cZ o ad S G sz) := by
  refine Met.ofW (cc := cX9_at) (maxL := 3) (ret := (some .int)) (by decide) rfl ?_
  intro p e s m args below meth c s₁ B hml hv
  obtain ⟨rfl, hsz, hP, hK, hD0⟩ := hv
  subst hsz
  have hl := lv_entry ([.ref o, .int a1, .int a2]) (n := 3) (Nat.le_of_ble_eq_true rfl)
  rw [lg_entry_eq]
  generalize (lg_sl ([.ref o, .int a1, .int a2]) ++ List.replicate (3 - (lg_sl ([.ref o, .int a1, .int a2])).length) Slot.unset).toArray = ls at hl ⊢
  exact tb_X9_at_0 (Q := Q) (p := p) ⟨B.exec, B.bytes, hml, findClass_of_methodNamed B.named, atoms_spec (ws := wsX9_at) B.pre, B.returns, B.notSynchronized, fun q h => Or.inr h, hK⟩ S G a1 a2 hw s.heap [] hP (hD0.self (sz := s.heap.size)) va_S.rf ls hl
theorem iw_X9_finds : ∀ w ∈ u_ws RX9 TX9 38, w ∈ wsX9_finds := fun w h => List.mem_cons_of_mem _ (by first | exact List.mem_append_right _ h | decide +kernel +revert)
theorem lk_X9_finds_57 : Cond.fieldLink RX9 57 "TermKeeperModel" "size" "[I" ∈ wsX9_finds := by decide +kernel
theorem lk_X9_finds_60 : Cond.fieldLink RX9 60 "TermKeeperModel" "begin" "[I" ∈ wsX9_finds := by decide +kernel
theorem lk_X9_finds_63 : Cond.fieldLink RX9 63 "TermKeeperModel" "end" "[I" ∈ wsX9_finds := by decide +kernel
theorem lk_X9_finds_66 : Cond.fieldLink RX9 66 "TermKeeperModel" "sentence" "[I" ∈ wsX9_finds := by decide +kernel
theorem lk_X9_finds_143 : Cond.fieldLink RX9 143 "TermKeeperModel" "found" "I" ∈ wsX9_finds := by decide +kernel
abbrev rm_X9_finds : Room := { frames := 2, cells := 0, slots := 0, locals := 40 }
def wp_X9_finds_66 (Q : mS → mG → Prop) (k9_ : mS → mG → Int32 → Int32 → Int32 → Prop) (S : mS) (G : mG) (a1 : Int32) (a2 : Int32) (a3 : Int32) : Prop :=
    (∀ v3_66 : Int32, v3_66 = a3 + (1 : Int32) →
      (k9_ S G a1 a2 v3_66))
def wp_X9_finds_63 (Q : mS → mG → Prop) (k9_ : mS → mG → Int32 → Int32 → Int32 → Prop) (S : mS) (G : mG) (a1 : Int32) (a2 : Int32) (a3 : Int32) : Prop :=
    (∀ v2_63 : Int32, v2_63 = a2 + (1 : Int32) →
      (wp_X9_finds_66 Q k9_ S G a1 v2_63 a3))
def wp_X9_finds_110 (Q : mS → mG → Prop) (k9_ : mS → mG → Int32 → Int32 → Int32 → Prop) (S : mS) (G : mG) (a1 : Int32) (a2 : Int32) (a3 : Int32) : Prop :=
    (vp_in (S 21 0) 301 ∧ ∀ S_119 : mS, S_119 = mst S 23 (Int32.toNatClampNeg (S 21 0)) a3 →
      (vp_in (S_119 21 0) 301 ∧ ∀ S_129 : mS, S_129 = mst S_119 24 (Int32.toNatClampNeg (S_119 21 0)) a2 →
        (∀ S_137 : mS, S_137 = mst S_129 21 0 ((S_129 21 0) + (1 : Int32)) →
          (k9_ S_137 G a1 a2 a3))))
def wp_X9_finds_82 (Q : mS → mG → Prop) (k9_ : mS → mG → Int32 → Int32 → Int32 → Prop) : Nat → mS → mG → Int32 → Int32 → Int32 → Prop
  | 0, _, _, _, _, _ => False
  | n + 1, S, G, a1, a2, a3 =>
    (vp_in a1 8 ∧
      (((S 20 (Int32.toNatClampNeg a1)) ≤ a3 →
        (wp_X9_finds_110 Q k9_ S G a1 a2 a3))
       ∧ (¬ (S 20 (Int32.toNatClampNeg a1)) ≤ a3 →
        (wp_X9_at_0 (fun r_95 S_95 G_95 =>
          (wp_X9_letterOf_0 (fun r_98 =>
            ((r_98 ≤ 0 →
              (wp_X9_finds_110 Q k9_ S_95 G_95 a1 a2 a3))
             ∧ (¬ r_98 ≤ 0 →
              (∀ v3_104 : Int32, v3_104 = a3 + (1 : Int32) →
                ((wp_X9_finds_82 Q k9_ n) S_95 G_95 a1 a2 v3_104))))) r_95)) S G a1 a3))))
def wp_X9_finds_9 (Q : mS → mG → Prop) : Nat → mS → mG → Int32 → Int32 → Int32 → Prop
  | 0, _, _, _, _, _ => False
  | n + 1, S, G, a1, a2, a3 =>
    (vp_in a1 8 ∧
      (((S 20 (Int32.toNatClampNeg a1)) ≤ a3 →
        (Q S G))
       ∧ (¬ (S 20 (Int32.toNatClampNeg a1)) ≤ a3 →
        (wp_X9_at_0 (fun r_22 S_22 G_22 =>
          (wp_X9_letterOf_0 (fun r_29 =>
            ((¬ r_29 = 0 →
              (vp_in (S_22 21 0) 301 ∧ ∀ S_81 : mS, S_81 = mst S_22 22 (Int32.toNatClampNeg (S_22 21 0)) a3 →
                (∃ n9 : Nat, wp_X9_finds_82 Q (wp_X9_finds_9 Q  n) n9 S_81 G_22 a1 a2 a3)))
             ∧ (r_29 = 0 →
              ((r_22 = (46 : Int32) →
                (wp_X9_finds_63 Q (wp_X9_finds_9 Q  n) S_22 G_22 a1 a2 a3))
               ∧ (¬ r_22 = (46 : Int32) →
                ((r_22 = (33 : Int32) →
                  (wp_X9_finds_63 Q (wp_X9_finds_9 Q  n) S_22 G_22 a1 a2 a3))
                 ∧ (¬ r_22 = (33 : Int32) →
                  ((r_22 = (63 : Int32) →
                    (wp_X9_finds_63 Q (wp_X9_finds_9 Q  n) S_22 G_22 a1 a2 a3))
                   ∧ (¬ r_22 = (63 : Int32) →
                    ((¬ r_22 = (59 : Int32) →
                      (wp_X9_finds_66 Q (wp_X9_finds_9 Q  n) S_22 G_22 a1 a2 a3))
                     ∧ (r_22 = (59 : Int32) →
                      (wp_X9_finds_63 Q (wp_X9_finds_9 Q  n) S_22 G_22 a1 a2 a3)))))))))))) r_22)) S G a1 a3))))
def wp_X9_finds_0 (Q : mS → mG → Prop) (S : mS) (G : mG) (a1 : Int32) : Prop :=
    (∀ S_2 : mS, S_2 = mst S 21 0 (0 : Int32) →
      (∃ n9 : Nat, wp_X9_finds_9 Q  n9 S_2 G a1 (0 : Int32) (0 : Int32)))
set_option maxHeartbeats 4000000 in
set_option maxRecDepth 100000 in
theorem tb_X9_finds_66 {p : Program} {l : Launch} {e : Env} {s : State} {m : MethodId} {below : List Frame} {meth : Method} {c : Code} {args : Array Value} {dC : Nat → ClassId} {dI : Nat → Nat → Nat} {cI cJ cZ : ClassId} {o : Nat} {ad : Nat → Nat} {A : Nat → Prop} {Q : mS → mG → Prop} (C : mCx p s m args meth c cX9_finds 5 none wsX9_finds A dC dI cI cJ cZ) {k9_ : mS → mG → Int32 → Int32 → Int32 → Prop} (h9_ : ∀ (S : mS) (G : mG) (a1 : Int32) (a2 : Int32) (a3 : Int32), k9_ S G a1 a2 a3 → mAt p l e rm_X9_finds s m args below meth c dC dI cI cJ cZ o ad A (MQ below (va_Qv (fun (u : mS × mG) => Q u.1 u.2) (mB dC dI cI cJ cZ o ad A) A) args s 0 0 A) 9 5 [(0, .ref o), (1, .int a1), (2, .int a2), (3, .int a3)] [] S G) : ∀ (S : mS) (G : mG) (a1 : Int32) (a2 : Int32) (a3 : Int32), wp_X9_finds_66 Q k9_ S G a1 a2 a3 → mAt p l e rm_X9_finds s m args below meth c dC dI cI cJ cZ o ad A (MQ below (va_Qv (fun (u : mS × mG) => Q u.1 u.2) (mB dC dI cI cJ cZ o ad A) A) args s 0 0 A) 66 5 [(0, .ref o), (1, .int a1), (2, .int a2), (3, .int a3)] [] S G := by
  obtain ⟨hx, hb, hml, hown, hts, hr, hlocks, hA, hK⟩ := id C
  intro S G a1 a2 a3 hw H locs hP hD hS ls hl
  rw [wp_X9_finds_66] at hw
  obtain ⟨v3_66, ev3_66⟩ : ∃ y : Int32, y = a3 + (1 : Int32) := ⟨_, rfl⟩
  have hw := hw v3_66 ev3_66
  refine lv_iinc (v := v3_66) (lv' := [(3, .int v3_66), (0, .ref o), (1, .int a1), (2, .int a2)]) hx hb dX9_finds_66 hl (k := 3) rfl (by rw [ev3_66]; rfl) (by decide) rfl (fun ls hl => ?_)
  refine lv_goto (tgt := 9) hx hb dX9_finds_69 (by decide) ?_
  exact h9_ S G a1 a2 v3_66 hw H locs hP hD hS ls (lv_sub hl [1, 2, 3, 0] rfl)
set_option maxHeartbeats 4000000 in
set_option maxRecDepth 100000 in
theorem tb_X9_finds_63 {p : Program} {l : Launch} {e : Env} {s : State} {m : MethodId} {below : List Frame} {meth : Method} {c : Code} {args : Array Value} {dC : Nat → ClassId} {dI : Nat → Nat → Nat} {cI cJ cZ : ClassId} {o : Nat} {ad : Nat → Nat} {A : Nat → Prop} {Q : mS → mG → Prop} (C : mCx p s m args meth c cX9_finds 5 none wsX9_finds A dC dI cI cJ cZ) {k9_ : mS → mG → Int32 → Int32 → Int32 → Prop} (h9_ : ∀ (S : mS) (G : mG) (a1 : Int32) (a2 : Int32) (a3 : Int32), k9_ S G a1 a2 a3 → mAt p l e rm_X9_finds s m args below meth c dC dI cI cJ cZ o ad A (MQ below (va_Qv (fun (u : mS × mG) => Q u.1 u.2) (mB dC dI cI cJ cZ o ad A) A) args s 0 0 A) 9 5 [(0, .ref o), (1, .int a1), (2, .int a2), (3, .int a3)] [] S G) : ∀ (S : mS) (G : mG) (a1 : Int32) (a2 : Int32) (a3 : Int32), wp_X9_finds_63 Q k9_ S G a1 a2 a3 → mAt p l e rm_X9_finds s m args below meth c dC dI cI cJ cZ o ad A (MQ below (va_Qv (fun (u : mS × mG) => Q u.1 u.2) (mB dC dI cI cJ cZ o ad A) A) args s 0 0 A) 63 5 [(0, .ref o), (1, .int a1), (2, .int a2), (3, .int a3)] [] S G := by
  obtain ⟨hx, hb, hml, hown, hts, hr, hlocks, hA, hK⟩ := id C
  intro S G a1 a2 a3 hw H locs hP hD hS ls hl
  rw [wp_X9_finds_63] at hw
  obtain ⟨v2_63, ev2_63⟩ : ∃ y : Int32, y = a2 + (1 : Int32) := ⟨_, rfl⟩
  have hw := hw v2_63 ev2_63
  refine lv_iinc (v := v2_63) (lv' := [(2, .int v2_63), (0, .ref o), (1, .int a1), (3, .int a3)]) hx hb dX9_finds_63 hl (k := 2) rfl (by rw [ev2_63]; rfl) (by decide) rfl (fun ls hl => ?_)
  exact tb_X9_finds_66 C h9_ S G a1 v2_63 a3 hw H locs hP hD hS ls (lv_sub hl [1, 2, 0, 3] rfl)
set_option maxHeartbeats 4000000 in
set_option maxRecDepth 100000 in
theorem tb_X9_finds_110 {p : Program} {l : Launch} {e : Env} {s : State} {m : MethodId} {below : List Frame} {meth : Method} {c : Code} {args : Array Value} {dC : Nat → ClassId} {dI : Nat → Nat → Nat} {cI cJ cZ : ClassId} {o : Nat} {ad : Nat → Nat} {A : Nat → Prop} {Q : mS → mG → Prop} (C : mCx p s m args meth c cX9_finds 5 none wsX9_finds A dC dI cI cJ cZ) {k9_ : mS → mG → Int32 → Int32 → Int32 → Prop} (h9_ : ∀ (S : mS) (G : mG) (a1 : Int32) (a2 : Int32) (a3 : Int32), k9_ S G a1 a2 a3 → mAt p l e rm_X9_finds s m args below meth c dC dI cI cJ cZ o ad A (MQ below (va_Qv (fun (u : mS × mG) => Q u.1 u.2) (mB dC dI cI cJ cZ o ad A) A) args s 0 0 A) 9 5 [(0, .ref o), (1, .int a1), (2, .int a2), (3, .int a3)] [] S G) : ∀ (S : mS) (G : mG) (a1 : Int32) (a2 : Int32) (a3 : Int32), wp_X9_finds_110 Q k9_ S G a1 a2 a3 → mAt p l e rm_X9_finds s m args below meth c dC dI cI cJ cZ o ad A (MQ below (va_Qv (fun (u : mS × mG) => Q u.1 u.2) (mB dC dI cI cJ cZ o ad A) A) args s 0 0 A) 110 5 [(0, .ref o), (1, .int a1), (2, .int a2), (3, .int a3)] [] S G := by
  obtain ⟨hx, hb, hml, hown, hts, hr, hlocks, hA, hK⟩ := id C
  intro S G a1 a2 a3 hw H locs hP hD hS ls hl
  rw [wp_X9_finds_110] at hw
  refine lv_aload_n hx hb dX9_finds_110 rfl (lv_at hl 0 rfl) ?_
  refine va_get (D := (dC, dI)) (ci := 10) (v := .ref (ad 23)) (C := RX9) (T := TX9) (N := 38) hx hb hts iw_X9_finds hown hK hP 0 rfl rfl 23 (by decide) (hts _ lk_X9_finds_63) (fun _ h9 => h9) rfl dX9_finds_111 ?_
  refine lv_aload_n hx hb dX9_finds_114 rfl (lv_at hl 0 rfl) ?_
  refine va_get (D := (dC, dI)) (ci := 10) (v := .int (S 21 0)) (C := RX9) (T := TX9) (N := 38) hx hb hts iw_X9_finds hown hK hP 0 rfl rfl 21 (by decide) (hts _ lk_X9_finds_143) (fun _ h9 => h9) rfl dX9_finds_115 ?_
  refine lv_iload_n hx hb dX9_finds_118 rfl (lv_at hl 3 rfl) ?_
  refine va_iast hx hb hK hP hD hS 18 0 rfl rfl hw.1 dX9_finds_119 (fun H locs hP hD hS => ?_)
  obtain ⟨S_119, eS_119⟩ : ∃ y : mS, y = mst S 23 (Int32.toNatClampNeg (S 21 0)) a3 := ⟨_, rfl⟩
  have hw := hw.2 S_119 eS_119
  have hP : va_P (dC, dI) vwCl (mW cI cJ cZ o ad S_119 G) H := by rw [eS_119]; exact hP
  have hD : va_D A (mW cI cJ cZ o ad S_119 G) := by rw [eS_119]; exact hD
  refine lv_aload_n hx hb dX9_finds_120 rfl (lv_at hl 0 rfl) ?_
  refine va_get (D := (dC, dI)) (ci := 10) (v := .ref (ad 24)) (C := RX9) (T := TX9) (N := 38) hx hb hts iw_X9_finds hown hK hP 0 rfl rfl 24 (by decide) (hts _ lk_X9_finds_66) (fun _ h9 => h9) rfl dX9_finds_121 ?_
  refine lv_aload_n hx hb dX9_finds_124 rfl (lv_at hl 0 rfl) ?_
  refine va_get (D := (dC, dI)) (ci := 10) (v := .int (S_119 21 0)) (C := RX9) (T := TX9) (N := 38) hx hb hts iw_X9_finds hown hK hP 0 rfl rfl 21 (by decide) (hts _ lk_X9_finds_143) (fun _ h9 => h9) rfl dX9_finds_125 ?_
  refine lv_iload_n hx hb dX9_finds_128 rfl (lv_at hl 2 rfl) ?_
  refine va_iast hx hb hK hP hD hS 19 0 rfl rfl hw.1 dX9_finds_129 (fun H locs hP hD hS => ?_)
  obtain ⟨S_129, eS_129⟩ : ∃ y : mS, y = mst S_119 24 (Int32.toNatClampNeg (S_119 21 0)) a2 := ⟨_, rfl⟩
  have hw := hw.2 S_129 eS_129
  have hP : va_P (dC, dI) vwCl (mW cI cJ cZ o ad S_129 G) H := by rw [eS_129]; exact hP
  have hD : va_D A (mW cI cJ cZ o ad S_129 G) := by rw [eS_129]; exact hD
  refine lv_aload_n hx hb dX9_finds_130 rfl (lv_at hl 0 rfl) ?_
  refine lv_dup hx hb dX9_finds_131 rfl ?_
  refine va_get (D := (dC, dI)) (ci := 10) (v := .int (S_129 21 0)) (C := RX9) (T := TX9) (N := 38) hx hb hts iw_X9_finds hown hK hP 0 rfl rfl 21 (by decide) (hts _ lk_X9_finds_143) (fun _ h9 => h9) rfl dX9_finds_132 ?_
  refine lv_iconst (v := 1) hx hb dX9_finds_135 (by decide) ?_
  refine lv_iadd hx hb dX9_finds_136 ?_
  refine va_put (D := (dC, dI)) (ci := 10) (v := .int ((S_129 21 0) + (1 : Int32))) (C := RX9) (T := TX9) (N := 38) hx hb hts iw_X9_finds tyX9 tyX9_ok nmX9 hown hK hP hD hS 0 rfl rfl 21 (by decide) (hts _ lk_X9_finds_143) (fun _ h9 => h9) rfl (tyX9_ok 21 (by decide)) rfl rfl (Nat.le_of_ble_eq_true rfl) dX9_finds_137 (fun H locs hP hD hS => ?_)
  obtain ⟨S_137, eS_137⟩ : ∃ y : mS, y = mst S_129 21 0 ((S_129 21 0) + (1 : Int32)) := ⟨_, rfl⟩
  have hw := hw S_137 eS_137
  have hP : va_P (dC, dI) vwCl (mW cI cJ cZ o ad S_137 G) H := by rw [eS_137]; exact hP
  have hD : va_D A (mW cI cJ cZ o ad S_137 G) := by rw [eS_137]; exact hD
  refine lv_goto (tgt := 9) hx hb dX9_finds_140 (by decide) ?_
  exact h9_ S_137 G a1 a2 a3 hw H locs hP hD hS ls (lv_sub hl [0, 1, 2, 3] rfl)
set_option maxHeartbeats 4000000 in
set_option maxRecDepth 100000 in
theorem tb_X9_finds_82 {p : Program} {l : Launch} {e : Env} {s : State} {m : MethodId} {below : List Frame} {meth : Method} {c : Code} {args : Array Value} {dC : Nat → ClassId} {dI : Nat → Nat → Nat} {cI cJ cZ : ClassId} {o : Nat} {ad : Nat → Nat} {A : Nat → Prop} {Q : mS → mG → Prop} (C : mCx p s m args meth c cX9_finds 5 none wsX9_finds A dC dI cI cJ cZ) {k9_ : mS → mG → Int32 → Int32 → Int32 → Prop} (h9_ : ∀ (S : mS) (G : mG) (a1 : Int32) (a2 : Int32) (a3 : Int32), k9_ S G a1 a2 a3 → mAt p l e rm_X9_finds s m args below meth c dC dI cI cJ cZ o ad A (MQ below (va_Qv (fun (u : mS × mG) => Q u.1 u.2) (mB dC dI cI cJ cZ o ad A) A) args s 0 0 A) 9 5 [(0, .ref o), (1, .int a1), (2, .int a2), (3, .int a3)] [] S G) : ∀ (n : Nat) (S : mS) (G : mG) (a1 : Int32) (a2 : Int32) (a3 : Int32), wp_X9_finds_82 Q k9_ n S G a1 a2 a3 → mAt p l e rm_X9_finds s m args below meth c dC dI cI cJ cZ o ad A (MQ below (va_Qv (fun (u : mS × mG) => Q u.1 u.2) (mB dC dI cI cJ cZ o ad A) A) args s 0 0 A) 82 5 [(0, .ref o), (1, .int a1), (2, .int a2), (3, .int a3)] [] S G := by
  obtain ⟨hx, hb, hml, hown, hts, hr, hlocks, hA, hK⟩ := id C
  intro n
  induction n with
  | zero => intro S G a1 a2 a3 hw; exact hw.elim
  | succ n ih =>
    intro S G a1 a2 a3 hw H locs hP hD hS ls hl
    rw [wp_X9_finds_82] at hw
    refine lv_iload_n hx hb dX9_finds_82 rfl (lv_at hl 3 rfl) ?_
    refine lv_aload_n hx hb dX9_finds_83 rfl (lv_at hl 0 rfl) ?_
    refine va_get (D := (dC, dI)) (ci := 10) (v := .ref (ad 20)) (C := RX9) (T := TX9) (N := 38) hx hb hts iw_X9_finds hown hK hP 0 rfl rfl 20 (by decide) (hts _ lk_X9_finds_57) (fun _ h9 => h9) rfl dX9_finds_84 ?_
    refine lv_iload_n hx hb dX9_finds_87 rfl (lv_at hl 1 rfl) ?_
    refine va_iald hx hb hK hP 16 0 rfl rfl hw.1 dX9_finds_88 ?_
    have hw := hw.2
    refine lv_icmp_ge (tgt := 110) hx hb dX9_finds_89 (by decide) (fun c_89 => ?_) (fun c_89 => ?_)
    · have hw := hw.1 c_89
      exact tb_X9_finds_110 C h9_ S G a1 a2 a3 hw H locs hP hD hS ls (lv_sub hl [0, 1, 2, 3] rfl)
    · have hw := hw.2 c_89
      refine lv_aload_n hx hb dX9_finds_92 rfl (lv_at hl 0 rfl) ?_
      refine lv_iload_n hx hb dX9_finds_93 rfl (lv_at hl 1 rfl) ?_
      refine lv_iload_n hx hb dX9_finds_94 rfl (lv_at hl 3 rfl) ?_
      have hFc := mFree hD hS hA
      refine va_calli (va_runV (As := [.int a1, .int a3]) (rest := []) ⟨hx, hb, hml, hown, hts⟩ (c_X9_at l dC dI cI cJ cZ o ad S G H.size a1 a3 _ hw) (cwV 2 hts gX9_finds_X9_at rfl rfl rfl (by decide +kernel) ⟨Nat.le_of_ble_eq_true rfl, Nat.le_of_ble_eq_true rfl⟩) (mPreV [.int a1, .int a3] hK hP hD) rfl rfl hl.1 rfl (lv_room (Nat.le_of_ble_eq_true rfl)) dX9_finds_95 ⟨Nat.zero_le _, Nat.zero_le _⟩) hS (fun q _ h => hFc q h) hFc (fun r_95 u t H1 locs ht hvm hw hB hz1 hk1 hS => ?_)
      obtain ⟨S_95, G_95⟩ := u
      obtain ⟨hP, -, hD1⟩ := hB
      rw [ht] at hP
      have hw := id hw
      have hP : va_P (dC, dI) vwCl (mW cI cJ cZ o ad S_95 G_95) H1 := hP
      have hD : va_D A (mW cI cJ cZ o ad S_95 G_95) := mGain hD1 hFc
      generalize H1 = H at hP hS ⊢
      refine vp_callSi (W.runS (As := [.int r_95]) (rest := []) ⟨hx, hb, hml, hown, hts⟩ (c_X9_letterOf l r_95 _ hw) (va_cwS 1 hts gX9_finds_X9_letterOf rfl rfl rfl (by decide +kernel) ⟨Nat.le_of_ble_eq_true rfl, Nat.le_of_ble_eq_true rfl⟩) preEq rfl rfl hl.1 rfl (lv_room (Nat.le_of_ble_eq_true rfl)) dX9_finds_98 ⟨Nat.zero_le _, Nat.zero_le _⟩) (fun r_98 hw => ?_)
      refine lv_if_le (tgt := 110) hx hb dX9_finds_101 (by decide) (fun c_101 => ?_) (fun c_101 => ?_)
      · have hw := hw.1 c_101
        exact tb_X9_finds_110 C h9_ S_95 G_95 a1 a2 a3 hw H locs hP hD hS ls (lv_sub hl [0, 1, 2, 3] rfl)
      · have hw := hw.2 c_101
        obtain ⟨v3_104, ev3_104⟩ : ∃ y : Int32, y = a3 + (1 : Int32) := ⟨_, rfl⟩
        have hw := hw v3_104 ev3_104
        refine lv_iinc (v := v3_104) (lv' := [(3, .int v3_104), (0, .ref o), (1, .int a1), (2, .int a2)]) hx hb dX9_finds_104 hl (k := 3) rfl (by rw [ev3_104]; rfl) (by decide) rfl (fun ls hl => ?_)
        refine lv_goto (tgt := 82) hx hb dX9_finds_107 (by decide) ?_
        exact ih S_95 G_95 a1 a2 v3_104 hw H locs hP hD hS ls (lv_sub hl [1, 2, 3, 0] rfl)
set_option maxHeartbeats 4000000 in
set_option maxRecDepth 100000 in
theorem tb_X9_finds_9 {p : Program} {l : Launch} {e : Env} {s : State} {m : MethodId} {below : List Frame} {meth : Method} {c : Code} {args : Array Value} {dC : Nat → ClassId} {dI : Nat → Nat → Nat} {cI cJ cZ : ClassId} {o : Nat} {ad : Nat → Nat} {A : Nat → Prop} {Q : mS → mG → Prop} (C : mCx p s m args meth c cX9_finds 5 none wsX9_finds A dC dI cI cJ cZ) : ∀ (n : Nat) (S : mS) (G : mG) (a1 : Int32) (a2 : Int32) (a3 : Int32), wp_X9_finds_9 Q  n S G a1 a2 a3 → mAt p l e rm_X9_finds s m args below meth c dC dI cI cJ cZ o ad A (MQ below (va_Qv (fun (u : mS × mG) => Q u.1 u.2) (mB dC dI cI cJ cZ o ad A) A) args s 0 0 A) 9 5 [(0, .ref o), (1, .int a1), (2, .int a2), (3, .int a3)] [] S G := by
  obtain ⟨hx, hb, hml, hown, hts, hr, hlocks, hA, hK⟩ := id C
  intro n
  induction n with
  | zero => intro S G a1 a2 a3 hw; exact hw.elim
  | succ n ih =>
    intro S G a1 a2 a3 hw H locs hP hD hS ls hl
    rw [wp_X9_finds_9] at hw
    refine lv_iload_n hx hb dX9_finds_9 rfl (lv_at hl 3 rfl) ?_
    refine lv_aload_n hx hb dX9_finds_10 rfl (lv_at hl 0 rfl) ?_
    refine va_get (D := (dC, dI)) (ci := 10) (v := .ref (ad 20)) (C := RX9) (T := TX9) (N := 38) hx hb hts iw_X9_finds hown hK hP 0 rfl rfl 20 (by decide) (hts _ lk_X9_finds_57) (fun _ h9 => h9) rfl dX9_finds_11 ?_
    refine lv_iload_n hx hb dX9_finds_14 rfl (lv_at hl 1 rfl) ?_
    refine va_iald hx hb hK hP 16 0 rfl rfl hw.1 dX9_finds_15 ?_
    have hw := hw.2
    refine lv_icmp_ge (tgt := 143) hx hb dX9_finds_16 (by decide) (fun c_16 => ?_) (fun c_16 => ?_)
    · have hw := hw.1 c_16
      exact W.vret hx hb hr (fun t ht hW => ⟨⟨(S, G), rfl, hw, by rw [ht]; exact hP, va_K.moved hW.alike hK, hD⟩, hS.F ht⟩) hS.2.2 dX9_finds_143
    · have hw := hw.2 c_16
      refine lv_aload_n hx hb dX9_finds_19 rfl (lv_at hl 0 rfl) ?_
      refine lv_iload_n hx hb dX9_finds_20 rfl (lv_at hl 1 rfl) ?_
      refine lv_iload_n hx hb dX9_finds_21 rfl (lv_at hl 3 rfl) ?_
      have hFc := mFree hD hS hA
      refine va_calli (va_runV (As := [.int a1, .int a3]) (rest := []) ⟨hx, hb, hml, hown, hts⟩ (c_X9_at l dC dI cI cJ cZ o ad S G H.size a1 a3 _ hw) (cwV 2 hts gX9_finds_X9_at rfl rfl rfl (by decide +kernel) ⟨Nat.le_of_ble_eq_true rfl, Nat.le_of_ble_eq_true rfl⟩) (mPreV [.int a1, .int a3] hK hP hD) rfl rfl hl.1 rfl (lv_room (Nat.le_of_ble_eq_true rfl)) dX9_finds_22 ⟨Nat.zero_le _, Nat.zero_le _⟩) hS (fun q _ h => hFc q h) hFc (fun r_22 u t H1 locs ht hvm hw hB hz1 hk1 hS => ?_)
      obtain ⟨S_22, G_22⟩ := u
      obtain ⟨hP, -, hD1⟩ := hB
      rw [ht] at hP
      have hw := id hw
      have hP : va_P (dC, dI) vwCl (mW cI cJ cZ o ad S_22 G_22) H1 := hP
      have hD : va_D A (mW cI cJ cZ o ad S_22 G_22) := mGain hD1 hFc
      generalize H1 = H at hP hS ⊢
      refine lv_istore (lv' := [(4, .int r_22), (0, .ref o), (1, .int a1), (2, .int a2), (3, .int a3)]) hx hb dX9_finds_25 hl (by decide) rfl (fun ls hl => ?_)
      refine lv_iload hx hb dX9_finds_27 (lv_at hl 0 rfl) ?_
      refine vp_callSi (W.runS (As := [.int r_22]) (rest := []) ⟨hx, hb, hml, hown, hts⟩ (c_X9_letterOf l r_22 _ hw) (va_cwS 1 hts gX9_finds_X9_letterOf rfl rfl rfl (by decide +kernel) ⟨Nat.le_of_ble_eq_true rfl, Nat.le_of_ble_eq_true rfl⟩) preEq rfl rfl hl.1 rfl (lv_room (Nat.le_of_ble_eq_true rfl)) dX9_finds_29 ⟨Nat.zero_le _, Nat.zero_le _⟩) (fun r_29 hw => ?_)
      refine lv_if_ne (tgt := 72) hx hb dX9_finds_32 (by decide) (fun c_32 => ?_) (fun c_32 => ?_)
      · have hw := hw.1 c_32
        refine lv_aload_n hx hb dX9_finds_72 rfl (lv_at hl 1 rfl) ?_
        refine va_get (D := (dC, dI)) (ci := 10) (v := .ref (ad 22)) (C := RX9) (T := TX9) (N := 38) hx hb hts iw_X9_finds hown hK hP 0 rfl rfl 22 (by decide) (hts _ lk_X9_finds_60) (fun _ h9 => h9) rfl dX9_finds_73 ?_
        refine lv_aload_n hx hb dX9_finds_76 rfl (lv_at hl 1 rfl) ?_
        refine va_get (D := (dC, dI)) (ci := 10) (v := .int (S_22 21 0)) (C := RX9) (T := TX9) (N := 38) hx hb hts iw_X9_finds hown hK hP 0 rfl rfl 21 (by decide) (hts _ lk_X9_finds_143) (fun _ h9 => h9) rfl dX9_finds_77 ?_
        refine lv_iload_n hx hb dX9_finds_80 rfl (lv_at hl 4 rfl) ?_
        refine va_iast hx hb hK hP hD hS 17 0 rfl rfl hw.1 dX9_finds_81 (fun H locs hP hD hS => ?_)
        obtain ⟨S_81, eS_81⟩ : ∃ y : mS, y = mst S_22 22 (Int32.toNatClampNeg (S_22 21 0)) a3 := ⟨_, rfl⟩
        have hw := hw.2 S_81 eS_81
        have hP : va_P (dC, dI) vwCl (mW cI cJ cZ o ad S_81 G_22) H := by rw [eS_81]; exact hP
        have hD : va_D A (mW cI cJ cZ o ad S_81 G_22) := by rw [eS_81]; exact hD
        obtain ⟨n9, hw⟩ := hw
        exact tb_X9_finds_82 C ih n9 S_81 G_22 a1 a2 a3 hw H locs hP hD hS ls (lv_sub hl [1, 2, 3, 4] rfl)
      · have hw := hw.2 c_32
        refine lv_iload hx hb dX9_finds_35 (lv_at hl 0 rfl) ?_
        refine lv_bipush (v := 46) hx hb dX9_finds_37 (by decide) ?_
        refine lv_icmp_eq (tgt := 63) hx hb dX9_finds_39 (by decide) (fun c_39 => ?_) (fun c_39 => ?_)
        · have hw := hw.1 c_39
          exact tb_X9_finds_63 C ih S_22 G_22 a1 a2 a3 hw H locs hP hD hS ls (lv_sub hl [1, 2, 3, 4] rfl)
        · have hw := hw.2 c_39
          refine lv_iload hx hb dX9_finds_42 (lv_at hl 0 rfl) ?_
          refine lv_bipush (v := 33) hx hb dX9_finds_44 (by decide) ?_
          refine lv_icmp_eq (tgt := 63) hx hb dX9_finds_46 (by decide) (fun c_46 => ?_) (fun c_46 => ?_)
          · have hw := hw.1 c_46
            exact tb_X9_finds_63 C ih S_22 G_22 a1 a2 a3 hw H locs hP hD hS ls (lv_sub hl [1, 2, 3, 4] rfl)
          · have hw := hw.2 c_46
            refine lv_iload hx hb dX9_finds_49 (lv_at hl 0 rfl) ?_
            refine lv_bipush (v := 63) hx hb dX9_finds_51 (by decide) ?_
            refine lv_icmp_eq (tgt := 63) hx hb dX9_finds_53 (by decide) (fun c_53 => ?_) (fun c_53 => ?_)
            · have hw := hw.1 c_53
              exact tb_X9_finds_63 C ih S_22 G_22 a1 a2 a3 hw H locs hP hD hS ls (lv_sub hl [1, 2, 3, 4] rfl)
            · have hw := hw.2 c_53
              refine lv_iload hx hb dX9_finds_56 (lv_at hl 0 rfl) ?_
              refine lv_bipush (v := 59) hx hb dX9_finds_58 (by decide) ?_
              refine lv_icmp_ne (tgt := 66) hx hb dX9_finds_60 (by decide) (fun c_60 => ?_) (fun c_60 => ?_)
              · have hw := hw.1 c_60
                exact tb_X9_finds_66 C ih S_22 G_22 a1 a2 a3 hw H locs hP hD hS ls (lv_sub hl [1, 2, 3, 4] rfl)
              · have hw := hw.2 c_60
                exact tb_X9_finds_63 C ih S_22 G_22 a1 a2 a3 hw H locs hP hD hS ls (lv_sub hl [1, 2, 3, 4] rfl)
set_option maxHeartbeats 4000000 in
set_option maxRecDepth 100000 in
theorem tb_X9_finds_0 {p : Program} {l : Launch} {e : Env} {s : State} {m : MethodId} {below : List Frame} {meth : Method} {c : Code} {args : Array Value} {dC : Nat → ClassId} {dI : Nat → Nat → Nat} {cI cJ cZ : ClassId} {o : Nat} {ad : Nat → Nat} {A : Nat → Prop} {Q : mS → mG → Prop} (C : mCx p s m args meth c cX9_finds 5 none wsX9_finds A dC dI cI cJ cZ) : ∀ (S : mS) (G : mG) (a1 : Int32), wp_X9_finds_0 Q  S G a1 → mAt p l e rm_X9_finds s m args below meth c dC dI cI cJ cZ o ad A (MQ below (va_Qv (fun (u : mS × mG) => Q u.1 u.2) (mB dC dI cI cJ cZ o ad A) A) args s 0 0 A) 0 5 [(0, .ref o), (1, .int a1)] [] S G := by
  obtain ⟨hx, hb, hml, hown, hts, hr, hlocks, hA, hK⟩ := id C
  intro S G a1 hw H locs hP hD hS ls hl
  rw [wp_X9_finds_0] at hw
  refine lv_aload_n hx hb dX9_finds_0 rfl (lv_at hl 0 rfl) ?_
  refine lv_iconst (v := 0) hx hb dX9_finds_1 (by decide) ?_
  refine va_put (D := (dC, dI)) (ci := 10) (v := .int (0 : Int32)) (C := RX9) (T := TX9) (N := 38) hx hb hts iw_X9_finds tyX9 tyX9_ok nmX9 hown hK hP hD hS 0 rfl rfl 21 (by decide) (hts _ lk_X9_finds_143) (fun _ h9 => h9) rfl (tyX9_ok 21 (by decide)) rfl rfl (Nat.le_of_ble_eq_true rfl) dX9_finds_2 (fun H locs hP hD hS => ?_)
  obtain ⟨S_2, eS_2⟩ : ∃ y : mS, y = mst S 21 0 (0 : Int32) := ⟨_, rfl⟩
  have hw := hw S_2 eS_2
  have hP : va_P (dC, dI) vwCl (mW cI cJ cZ o ad S_2 G) H := by rw [eS_2]; exact hP
  have hD : va_D A (mW cI cJ cZ o ad S_2 G) := by rw [eS_2]; exact hD
  refine lv_iconst (v := 0) hx hb dX9_finds_5 (by decide) ?_
  refine lv_istore_n (lv' := [(2, .int (0 : Int32)), (0, .ref o), (1, .int a1)]) hx hb dX9_finds_6 rfl hl (by decide) rfl (fun ls hl => ?_)
  refine lv_iconst (v := 0) hx hb dX9_finds_7 (by decide) ?_
  refine lv_istore_n (lv' := [(3, .int (0 : Int32)), (2, .int (0 : Int32)), (0, .ref o), (1, .int a1)]) hx hb dX9_finds_8 rfl hl (by decide) rfl (fun ls hl => ?_)
  obtain ⟨n9, hw⟩ := hw
  exact tb_X9_finds_9 C  n9 S_2 G a1 (0 : Int32) (0 : Int32) hw H locs hP hD hS ls (lv_sub hl [2, 3, 1, 0] rfl)
set_option maxHeartbeats 4000000 in
set_option maxRecDepth 100000 in
theorem c_X9_finds (l : Launch) (dC : Nat → ClassId) (dI : Nat → Nat → Nat) (cI cJ cZ : ClassId) (o : Nat) (ad : Nat → Nat) (S : mS) (G : mG) (sz : Nat) (a1 : Int32) (Q : mS → mG → Prop) (hw : wp_X9_finds_0 Q S G a1) : Met l yX9_finds wsX9_finds rm_X9_finds (va_Pc [.ref o, .int a1] (mPre dC dI cI cJ cZ o ad S G sz)) (va_Qv (fun (u : mS × mG) => Q u.1 u.2) (mB dC dI cI cJ cZ o ad (mA cI cJ cZ o ad S G sz)) (mA cI cJ cZ o ad S G sz)) 0 0 (mA cI cJ cZ o ad S G sz) := by
  refine Met.ofW (cc := cX9_finds) (maxL := 5) (ret := none) (by decide) rfl ?_
  intro p e s m args below meth c s₁ B hml hv
  obtain ⟨rfl, hsz, hP, hK, hD0⟩ := hv
  subst hsz
  have hl := lv_entry ([.ref o, .int a1]) (n := 5) (Nat.le_of_ble_eq_true rfl)
  rw [lg_entry_eq]
  generalize (lg_sl ([.ref o, .int a1]) ++ List.replicate (5 - (lg_sl ([.ref o, .int a1])).length) Slot.unset).toArray = ls at hl ⊢
  exact tb_X9_finds_0 (Q := Q) (p := p) ⟨B.exec, B.bytes, hml, findClass_of_methodNamed B.named, atoms_spec (ws := wsX9_finds) B.pre, B.returns, B.notSynchronized, fun q h => Or.inr h, hK⟩ S G a1 hw s.heap [] hP (hD0.self (sz := s.heap.size)) va_S.rf ls hl
theorem iw_X9_isTogether : ∀ w ∈ u_ws RX9 TX9 38, w ∈ wsX9_isTogether := fun w h => List.mem_cons_of_mem _ (by first | exact List.mem_append_right _ h | decide +kernel +revert)
theorem lk_X9_isTogether_60 : Cond.fieldLink RX9 60 "TermKeeperModel" "begin" "[I" ∈ wsX9_isTogether := by decide +kernel
theorem lk_X9_isTogether_63 : Cond.fieldLink RX9 63 "TermKeeperModel" "end" "[I" ∈ wsX9_isTogether := by decide +kernel
theorem lk_X9_isTogether_143 : Cond.fieldLink RX9 143 "TermKeeperModel" "found" "I" ∈ wsX9_isTogether := by decide +kernel
abbrev rm_X9_isTogether : Room := { frames := 1, cells := 0, slots := 0, locals := 22 }
def wp_X9_isTogether_61 (Q : Int32 → mS → mG → Prop) (S : mS) (G : mG) : Prop :=
    (Q (1 : Int32) S G)
def wp_X9_isTogether_0 (Q : Int32 → mS → mG → Prop) (S : mS) (G : mG) (a1 : Int32) (a2 : Int32) : Prop :=
    (((S 21 0) ≤ (a2 + (1 : Int32)) →
      (Q (0 : Int32) S G))
     ∧ (¬ (S 21 0) ≤ (a2 + (1 : Int32)) →
      (vp_in (a2 + (1 : Int32)) 301 ∧
        (vp_in a2 301 ∧
          ((¬ (S 22 (Int32.toNatClampNeg (a2 + (1 : Int32)))) = ((S 23 (Int32.toNatClampNeg a2)) + (1 : Int32)) →
            (Q (0 : Int32) S G))
           ∧ ((S 22 (Int32.toNatClampNeg (a2 + (1 : Int32)))) = ((S 23 (Int32.toNatClampNeg a2)) + (1 : Int32)) →
            (vp_in a2 301 ∧
              (wp_X9_at_0 (fun r_37 S_37 G_37 =>
                ((r_37 = (32 : Int32) →
                  (wp_X9_isTogether_61 Q  S_37 G_37 ))
                 ∧ (¬ r_37 = (32 : Int32) →
                  (vp_in a2 301 ∧
                    (wp_X9_at_0 (fun r_53 S_53 G_53 =>
                      ((¬ r_53 = (10 : Int32) →
                        (Q (0 : Int32) S_53 G_53))
                       ∧ (r_53 = (10 : Int32) →
                        (wp_X9_isTogether_61 Q  S_53 G_53 )))) S_37 G_37 a1 (S_37 23 (Int32.toNatClampNeg a2))))))) S G a1 (S 23 (Int32.toNatClampNeg a2))))))))))
set_option maxHeartbeats 4000000 in
set_option maxRecDepth 100000 in
theorem tb_X9_isTogether_61 {p : Program} {l : Launch} {e : Env} {s : State} {m : MethodId} {below : List Frame} {meth : Method} {c : Code} {args : Array Value} {dC : Nat → ClassId} {dI : Nat → Nat → Nat} {cI cJ cZ : ClassId} {o : Nat} {ad : Nat → Nat} {A : Nat → Prop} {Q : Int32 → mS → mG → Prop} (C : mCx p s m args meth c cX9_isTogether 3 (some .boolean) wsX9_isTogether A dC dI cI cJ cZ) : ∀ (S : mS) (G : mG) , wp_X9_isTogether_61 Q  S G  → mAt p l e rm_X9_isTogether s m args below meth c dC dI cI cJ cZ o ad A (MQ below (va_Qi (fun r (u : mS × mG) => Q r u.1 u.2) (mB dC dI cI cJ cZ o ad A) A) args s 0 0 A) 61 3 [(0, .ref o)] [] S G := by
  obtain ⟨hx, hb, hml, hown, hts, hr, hlocks, hA, hK⟩ := id C
  intro S G  hw H locs hP hD hS ls hl
  rw [wp_X9_isTogether_61] at hw
  refine lv_iconst (v := 1) hx hb dX9_isTogether_61 (by decide) ?_
  refine lv_goto (tgt := 66) hx hb dX9_isTogether_62 (by decide) ?_
  exact W.zret (v := (1 : Int32)) hx hb hr rfl (fun t ht hW => ⟨⟨(1 : Int32), (S, G), rfl, hw, by rw [ht]; exact hP, va_K.moved hW.alike hK, hD⟩, hS.F ht⟩) hS.2.2 dX9_isTogether_66
set_option maxHeartbeats 4000000 in
set_option maxRecDepth 100000 in
theorem tb_X9_isTogether_0 {p : Program} {l : Launch} {e : Env} {s : State} {m : MethodId} {below : List Frame} {meth : Method} {c : Code} {args : Array Value} {dC : Nat → ClassId} {dI : Nat → Nat → Nat} {cI cJ cZ : ClassId} {o : Nat} {ad : Nat → Nat} {A : Nat → Prop} {Q : Int32 → mS → mG → Prop} (C : mCx p s m args meth c cX9_isTogether 3 (some .boolean) wsX9_isTogether A dC dI cI cJ cZ) : ∀ (S : mS) (G : mG) (a1 : Int32) (a2 : Int32), wp_X9_isTogether_0 Q  S G a1 a2 → mAt p l e rm_X9_isTogether s m args below meth c dC dI cI cJ cZ o ad A (MQ below (va_Qi (fun r (u : mS × mG) => Q r u.1 u.2) (mB dC dI cI cJ cZ o ad A) A) args s 0 0 A) 0 3 [(0, .ref o), (1, .int a1), (2, .int a2)] [] S G := by
  obtain ⟨hx, hb, hml, hown, hts, hr, hlocks, hA, hK⟩ := id C
  intro S G a1 a2 hw H locs hP hD hS ls hl
  rw [wp_X9_isTogether_0] at hw
  refine lv_iload_n hx hb dX9_isTogether_0 rfl (lv_at hl 2 rfl) ?_
  refine lv_iconst (v := 1) hx hb dX9_isTogether_1 (by decide) ?_
  refine lv_iadd hx hb dX9_isTogether_2 ?_
  refine lv_aload_n hx hb dX9_isTogether_3 rfl (lv_at hl 0 rfl) ?_
  refine va_get (D := (dC, dI)) (ci := 10) (v := .int (S 21 0)) (C := RX9) (T := TX9) (N := 38) hx hb hts iw_X9_isTogether hown hK hP 0 rfl rfl 21 (by decide) (hts _ lk_X9_isTogether_143) (fun _ h9 => h9) rfl dX9_isTogether_4 ?_
  refine lv_icmp_ge (tgt := 65) hx hb dX9_isTogether_7 (by decide) (fun c_7 => ?_) (fun c_7 => ?_)
  · have hw := hw.1 c_7
    refine lv_iconst (v := 0) hx hb dX9_isTogether_65 (by decide) ?_
    exact W.zret (v := (0 : Int32)) hx hb hr rfl (fun t ht hW => ⟨⟨(0 : Int32), (S, G), rfl, hw, by rw [ht]; exact hP, va_K.moved hW.alike hK, hD⟩, hS.F ht⟩) hS.2.2 dX9_isTogether_66
  · have hw := hw.2 c_7
    refine lv_aload_n hx hb dX9_isTogether_10 rfl (lv_at hl 0 rfl) ?_
    refine va_get (D := (dC, dI)) (ci := 10) (v := .ref (ad 22)) (C := RX9) (T := TX9) (N := 38) hx hb hts iw_X9_isTogether hown hK hP 0 rfl rfl 22 (by decide) (hts _ lk_X9_isTogether_60) (fun _ h9 => h9) rfl dX9_isTogether_11 ?_
    refine lv_iload_n hx hb dX9_isTogether_14 rfl (lv_at hl 2 rfl) ?_
    refine lv_iconst (v := 1) hx hb dX9_isTogether_15 (by decide) ?_
    refine lv_iadd hx hb dX9_isTogether_16 ?_
    refine va_iald hx hb hK hP 17 0 rfl rfl hw.1 dX9_isTogether_17 ?_
    have hw := hw.2
    refine lv_aload_n hx hb dX9_isTogether_18 rfl (lv_at hl 0 rfl) ?_
    refine va_get (D := (dC, dI)) (ci := 10) (v := .ref (ad 23)) (C := RX9) (T := TX9) (N := 38) hx hb hts iw_X9_isTogether hown hK hP 0 rfl rfl 23 (by decide) (hts _ lk_X9_isTogether_63) (fun _ h9 => h9) rfl dX9_isTogether_19 ?_
    refine lv_iload_n hx hb dX9_isTogether_22 rfl (lv_at hl 2 rfl) ?_
    refine va_iald hx hb hK hP 18 0 rfl rfl hw.1 dX9_isTogether_23 ?_
    have hw := hw.2
    refine lv_iconst (v := 1) hx hb dX9_isTogether_24 (by decide) ?_
    refine lv_iadd hx hb dX9_isTogether_25 ?_
    refine lv_icmp_ne (tgt := 65) hx hb dX9_isTogether_26 (by decide) (fun c_26 => ?_) (fun c_26 => ?_)
    · have hw := hw.1 c_26
      refine lv_iconst (v := 0) hx hb dX9_isTogether_65 (by decide) ?_
      exact W.zret (v := (0 : Int32)) hx hb hr rfl (fun t ht hW => ⟨⟨(0 : Int32), (S, G), rfl, hw, by rw [ht]; exact hP, va_K.moved hW.alike hK, hD⟩, hS.F ht⟩) hS.2.2 dX9_isTogether_66
    · have hw := hw.2 c_26
      refine lv_aload_n hx hb dX9_isTogether_29 rfl (lv_at hl 0 rfl) ?_
      refine lv_iload_n hx hb dX9_isTogether_30 rfl (lv_at hl 1 rfl) ?_
      refine lv_aload_n hx hb dX9_isTogether_31 rfl (lv_at hl 0 rfl) ?_
      refine va_get (D := (dC, dI)) (ci := 10) (v := .ref (ad 23)) (C := RX9) (T := TX9) (N := 38) hx hb hts iw_X9_isTogether hown hK hP 0 rfl rfl 23 (by decide) (hts _ lk_X9_isTogether_63) (fun _ h9 => h9) rfl dX9_isTogether_32 ?_
      refine lv_iload_n hx hb dX9_isTogether_35 rfl (lv_at hl 2 rfl) ?_
      refine va_iald hx hb hK hP 18 0 rfl rfl hw.1 dX9_isTogether_36 ?_
      have hw := hw.2
      have hFc := mFree hD hS hA
      refine va_calli (va_runV (As := [.int a1, .int (S 23 (Int32.toNatClampNeg a2))]) (rest := []) ⟨hx, hb, hml, hown, hts⟩ (c_X9_at l dC dI cI cJ cZ o ad S G H.size a1 (S 23 (Int32.toNatClampNeg a2)) _ hw) (cwV 2 hts gX9_isTogether_X9_at rfl rfl rfl (by decide +kernel) ⟨Nat.le_of_ble_eq_true rfl, Nat.le_of_ble_eq_true rfl⟩) (mPreV [.int a1, .int (S 23 (Int32.toNatClampNeg a2))] hK hP hD) rfl rfl hl.1 rfl (lv_room (Nat.le_of_ble_eq_true rfl)) dX9_isTogether_37 ⟨Nat.zero_le _, Nat.zero_le _⟩) hS (fun q _ h => hFc q h) hFc (fun r_37 u t H1 locs ht hvm hw hB hz1 hk1 hS => ?_)
      obtain ⟨S_37, G_37⟩ := u
      obtain ⟨hP, -, hD1⟩ := hB
      rw [ht] at hP
      have hw := id hw
      have hP : va_P (dC, dI) vwCl (mW cI cJ cZ o ad S_37 G_37) H1 := hP
      have hD : va_D A (mW cI cJ cZ o ad S_37 G_37) := mGain hD1 hFc
      generalize H1 = H at hP hS ⊢
      refine lv_bipush (v := 32) hx hb dX9_isTogether_40 (by decide) ?_
      refine lv_icmp_eq (tgt := 61) hx hb dX9_isTogether_42 (by decide) (fun c_42 => ?_) (fun c_42 => ?_)
      · have hw := hw.1 c_42
        exact tb_X9_isTogether_61 C  S_37 G_37  hw H locs hP hD hS ls (lv_sub hl [0] rfl)
      · have hw := hw.2 c_42
        refine lv_aload_n hx hb dX9_isTogether_45 rfl (lv_at hl 0 rfl) ?_
        refine lv_iload_n hx hb dX9_isTogether_46 rfl (lv_at hl 1 rfl) ?_
        refine lv_aload_n hx hb dX9_isTogether_47 rfl (lv_at hl 0 rfl) ?_
        refine va_get (D := (dC, dI)) (ci := 10) (v := .ref (ad 23)) (C := RX9) (T := TX9) (N := 38) hx hb hts iw_X9_isTogether hown hK hP 0 rfl rfl 23 (by decide) (hts _ lk_X9_isTogether_63) (fun _ h9 => h9) rfl dX9_isTogether_48 ?_
        refine lv_iload_n hx hb dX9_isTogether_51 rfl (lv_at hl 2 rfl) ?_
        refine va_iald hx hb hK hP 18 0 rfl rfl hw.1 dX9_isTogether_52 ?_
        have hw := hw.2
        have hFc := mFree hD hS hA
        refine va_calli (va_runV (As := [.int a1, .int (S_37 23 (Int32.toNatClampNeg a2))]) (rest := []) ⟨hx, hb, hml, hown, hts⟩ (c_X9_at l dC dI cI cJ cZ o ad S_37 G_37 H.size a1 (S_37 23 (Int32.toNatClampNeg a2)) _ hw) (cwV 2 hts gX9_isTogether_X9_at rfl rfl rfl (by decide +kernel) ⟨Nat.le_of_ble_eq_true rfl, Nat.le_of_ble_eq_true rfl⟩) (mPreV [.int a1, .int (S_37 23 (Int32.toNatClampNeg a2))] hK hP hD) rfl rfl hl.1 rfl (lv_room (Nat.le_of_ble_eq_true rfl)) dX9_isTogether_53 ⟨Nat.zero_le _, Nat.zero_le _⟩) hS (fun q _ h => hFc q h) hFc (fun r_53 u t H1 locs ht hvm hw hB hz1 hk1 hS => ?_)
        obtain ⟨S_53, G_53⟩ := u
        obtain ⟨hP, -, hD1⟩ := hB
        rw [ht] at hP
        have hw := id hw
        have hP : va_P (dC, dI) vwCl (mW cI cJ cZ o ad S_53 G_53) H1 := hP
        have hD : va_D A (mW cI cJ cZ o ad S_53 G_53) := mGain hD1 hFc
        generalize H1 = H at hP hS ⊢
        refine lv_bipush (v := 10) hx hb dX9_isTogether_56 (by decide) ?_
        refine lv_icmp_ne (tgt := 65) hx hb dX9_isTogether_58 (by decide) (fun c_58 => ?_) (fun c_58 => ?_)
        · have hw := hw.1 c_58
          refine lv_iconst (v := 0) hx hb dX9_isTogether_65 (by decide) ?_
          exact W.zret (v := (0 : Int32)) hx hb hr rfl (fun t ht hW => ⟨⟨(0 : Int32), (S_53, G_53), rfl, hw, by rw [ht]; exact hP, va_K.moved hW.alike hK, hD⟩, hS.F ht⟩) hS.2.2 dX9_isTogether_66
        · have hw := hw.2 c_58
          exact tb_X9_isTogether_61 C  S_53 G_53  hw H locs hP hD hS ls (lv_sub hl [0] rfl)
set_option maxHeartbeats 4000000 in
set_option maxRecDepth 100000 in
theorem c_X9_isTogether (l : Launch) (dC : Nat → ClassId) (dI : Nat → Nat → Nat) (cI cJ cZ : ClassId) (o : Nat) (ad : Nat → Nat) (S : mS) (G : mG) (sz : Nat) (a1 : Int32) (a2 : Int32) (Q : Int32 → mS → mG → Prop) (hw : wp_X9_isTogether_0 Q S G a1 a2) : Met l yX9_isTogether wsX9_isTogether rm_X9_isTogether (va_Pc [.ref o, .int a1, .int a2] (mPre dC dI cI cJ cZ o ad S G sz)) (va_Qi (fun r (u : mS × mG) => Q r u.1 u.2) (mB dC dI cI cJ cZ o ad (mA cI cJ cZ o ad S G sz)) (mA cI cJ cZ o ad S G sz)) 0 0 (mA cI cJ cZ o ad S G sz) := by
  refine Met.ofW (cc := cX9_isTogether) (maxL := 3) (ret := (some .boolean)) (by decide) rfl ?_
  intro p e s m args below meth c s₁ B hml hv
  obtain ⟨rfl, hsz, hP, hK, hD0⟩ := hv
  subst hsz
  have hl := lv_entry ([.ref o, .int a1, .int a2]) (n := 3) (Nat.le_of_ble_eq_true rfl)
  rw [lg_entry_eq]
  generalize (lg_sl ([.ref o, .int a1, .int a2]) ++ List.replicate (3 - (lg_sl ([.ref o, .int a1, .int a2])).length) Slot.unset).toArray = ls at hl ⊢
  exact tb_X9_isTogether_0 (Q := Q) (p := p) ⟨B.exec, B.bytes, hml, findClass_of_methodNamed B.named, atoms_spec (ws := wsX9_isTogether) B.pre, B.returns, B.notSynchronized, fun q h => Or.inr h, hK⟩ S G a1 a2 hw s.heap [] hP (hD0.self (sz := s.heap.size)) va_S.rf ls hl
theorem iw_X9_isForm : ∀ w ∈ u_ws RX9 TX9 38, w ∈ wsX9_isForm := fun w h => List.mem_cons_of_mem _ (by first | exact List.mem_append_right _ h | decide +kernel +revert)
theorem lk_X9_isForm_16 : Cond.fieldLink RX9 16 "TermKeeperModel" "endingSize" "[I" ∈ wsX9_isForm := by decide +kernel
theorem lk_X9_isForm_22 : Cond.fieldLink RX9 22 "TermKeeperModel" "sizes" "[I" ∈ wsX9_isForm := by decide +kernel
theorem lk_X9_isForm_25 : Cond.fieldLink RX9 25 "TermKeeperModel" "words" "[I" ∈ wsX9_isForm := by decide +kernel
theorem lk_X9_isForm_34 : Cond.fieldLink RX9 34 "TermKeeperModel" "classesOf" "[I" ∈ wsX9_isForm := by decide +kernel
theorem lk_X9_isForm_116 : Cond.fieldLink RX9 116 "TermKeeperModel" "endings" "I" ∈ wsX9_isForm := by decide +kernel
abbrev rm_X9_isForm : Room := { frames := 0, cells := 0, slots := 0, locals := 0 }
def wp_X9_isForm_0 (Q : Int32 → mS → mG → Prop) (S : mS) (G : mG) (a1 : Int32) (a2 : Int32) : Prop :=
    ((¬ a2 = (-1 : Int32) →
      (((S 3 0) ≤ a2 →
        (Q (0 : Int32) S G))
       ∧ (¬ (S 3 0) ≤ a2 →
        (vp_in a1 60 ∧
          ((¬ (((S 13 (Int32.toNatClampNeg a1)) >>> (a2 &&& 31)) &&& (1 : Int32)) = (1 : Int32) →
            (Q (0 : Int32) S G))
           ∧ ((((S 13 (Int32.toNatClampNeg a1)) >>> (a2 &&& 31)) &&& (1 : Int32)) = (1 : Int32) →
            (vp_in a1 60 ∧
              (vp_in ((((3 : Int32) * a1) + (S 10 (Int32.toNatClampNeg a1))) - (1 : Int32)) 180 ∧
                (vp_in a2 6 ∧
                  (((16 : Int32) < ((S 9 (Int32.toNatClampNeg ((((3 : Int32) * a1) + (S 10 (Int32.toNatClampNeg a1))) - (1 : Int32)))) + (S 7 (Int32.toNatClampNeg a2))) →
                    (Q (0 : Int32) S G))
                   ∧ (¬ (16 : Int32) < ((S 9 (Int32.toNatClampNeg ((((3 : Int32) * a1) + (S 10 (Int32.toNatClampNeg a1))) - (1 : Int32)))) + (S 7 (Int32.toNatClampNeg a2))) →
                    (Q (1 : Int32) S G))))))))))))
     ∧ (a2 = (-1 : Int32) →
      (Q (1 : Int32) S G)))
set_option maxHeartbeats 4000000 in
set_option maxRecDepth 100000 in
theorem tb_X9_isForm_0 {p : Program} {l : Launch} {e : Env} {s : State} {m : MethodId} {below : List Frame} {meth : Method} {c : Code} {args : Array Value} {dC : Nat → ClassId} {dI : Nat → Nat → Nat} {cI cJ cZ : ClassId} {o : Nat} {ad : Nat → Nat} {A : Nat → Prop} {Q : Int32 → mS → mG → Prop} (C : mCx p s m args meth c cX9_isForm 3 (some .boolean) wsX9_isForm A dC dI cI cJ cZ) : ∀ (S : mS) (G : mG) (a1 : Int32) (a2 : Int32), wp_X9_isForm_0 Q  S G a1 a2 → mAt p l e rm_X9_isForm s m args below meth c dC dI cI cJ cZ o ad A (MQ below (va_Qi (fun r (u : mS × mG) => Q r u.1 u.2) (mB dC dI cI cJ cZ o ad A) A) args s 0 0 A) 0 3 [(0, .ref o), (1, .int a1), (2, .int a2)] [] S G := by
  obtain ⟨hx, hb, hml, hown, hts, hr, hlocks, hA, hK⟩ := id C
  intro S G a1 a2 hw H locs hP hD hS ls hl
  rw [wp_X9_isForm_0] at hw
  refine lv_iload_n hx hb dX9_isForm_0 rfl (lv_at hl 2 rfl) ?_
  refine lv_iconst (v := -1) hx hb dX9_isForm_1 (by decide) ?_
  refine lv_icmp_ne (tgt := 7) hx hb dX9_isForm_2 (by decide) (fun c_2 => ?_) (fun c_2 => ?_)
  · have hw := hw.1 c_2
    refine lv_iload_n hx hb dX9_isForm_7 rfl (lv_at hl 2 rfl) ?_
    refine lv_aload_n hx hb dX9_isForm_8 rfl (lv_at hl 0 rfl) ?_
    refine va_get (D := (dC, dI)) (ci := 10) (v := .int (S 3 0)) (C := RX9) (T := TX9) (N := 38) hx hb hts iw_X9_isForm hown hK hP 0 rfl rfl 3 (by decide) (hts _ lk_X9_isForm_116) (fun _ h9 => h9) rfl dX9_isForm_9 ?_
    refine lv_icmp_ge (tgt := 62) hx hb dX9_isForm_12 (by decide) (fun c_12 => ?_) (fun c_12 => ?_)
    · have hw := hw.1 c_12
      refine lv_iconst (v := 0) hx hb dX9_isForm_62 (by decide) ?_
      exact W.zret (v := (0 : Int32)) hx hb hr rfl (fun t ht hW => ⟨⟨(0 : Int32), (S, G), rfl, hw, by rw [ht]; exact hP, va_K.moved hW.alike hK, hD⟩, hS.F ht⟩) hS.2.2 dX9_isForm_63
    · have hw := hw.2 c_12
      refine lv_aload_n hx hb dX9_isForm_15 rfl (lv_at hl 0 rfl) ?_
      refine va_get (D := (dC, dI)) (ci := 10) (v := .ref (ad 13)) (C := RX9) (T := TX9) (N := 38) hx hb hts iw_X9_isForm hown hK hP 0 rfl rfl 13 (by decide) (hts _ lk_X9_isForm_34) (fun _ h9 => h9) rfl dX9_isForm_16 ?_
      refine lv_iload_n hx hb dX9_isForm_19 rfl (lv_at hl 1 rfl) ?_
      refine va_iald hx hb hK hP 9 0 rfl rfl hw.1 dX9_isForm_20 ?_
      have hw := hw.2
      refine lv_iload_n hx hb dX9_isForm_21 rfl (lv_at hl 2 rfl) ?_
      refine lv_ishr hx hb dX9_isForm_22 ?_
      refine lv_iconst (v := 1) hx hb dX9_isForm_23 (by decide) ?_
      refine lv_iand hx hb dX9_isForm_24 ?_
      refine lv_iconst (v := 1) hx hb dX9_isForm_25 (by decide) ?_
      refine lv_icmp_ne (tgt := 62) hx hb dX9_isForm_26 (by decide) (fun c_26 => ?_) (fun c_26 => ?_)
      · have hw := hw.1 c_26
        refine lv_iconst (v := 0) hx hb dX9_isForm_62 (by decide) ?_
        exact W.zret (v := (0 : Int32)) hx hb hr rfl (fun t ht hW => ⟨⟨(0 : Int32), (S, G), rfl, hw, by rw [ht]; exact hP, va_K.moved hW.alike hK, hD⟩, hS.F ht⟩) hS.2.2 dX9_isForm_63
      · have hw := hw.2 c_26
        refine lv_aload_n hx hb dX9_isForm_29 rfl (lv_at hl 0 rfl) ?_
        refine va_get (D := (dC, dI)) (ci := 10) (v := .ref (ad 9)) (C := RX9) (T := TX9) (N := 38) hx hb hts iw_X9_isForm hown hK hP 0 rfl rfl 9 (by decide) (hts _ lk_X9_isForm_22) (fun _ h9 => h9) rfl dX9_isForm_30 ?_
        refine lv_iconst (v := 3) hx hb dX9_isForm_33 (by decide) ?_
        refine lv_iload_n hx hb dX9_isForm_34 rfl (lv_at hl 1 rfl) ?_
        refine lv_imul hx hb dX9_isForm_35 ?_
        refine lv_aload_n hx hb dX9_isForm_36 rfl (lv_at hl 0 rfl) ?_
        refine va_get (D := (dC, dI)) (ci := 10) (v := .ref (ad 10)) (C := RX9) (T := TX9) (N := 38) hx hb hts iw_X9_isForm hown hK hP 0 rfl rfl 10 (by decide) (hts _ lk_X9_isForm_25) (fun _ h9 => h9) rfl dX9_isForm_37 ?_
        refine lv_iload_n hx hb dX9_isForm_40 rfl (lv_at hl 1 rfl) ?_
        refine va_iald hx hb hK hP 6 0 rfl rfl hw.1 dX9_isForm_41 ?_
        have hw := hw.2
        refine lv_iadd hx hb dX9_isForm_42 ?_
        refine lv_iconst (v := 1) hx hb dX9_isForm_43 (by decide) ?_
        refine lv_isub hx hb dX9_isForm_44 ?_
        refine va_iald hx hb hK hP 5 0 rfl rfl hw.1 dX9_isForm_45 ?_
        have hw := hw.2
        refine lv_aload_n hx hb dX9_isForm_46 rfl (lv_at hl 0 rfl) ?_
        refine va_get (D := (dC, dI)) (ci := 10) (v := .ref (ad 7)) (C := RX9) (T := TX9) (N := 38) hx hb hts iw_X9_isForm hown hK hP 0 rfl rfl 7 (by decide) (hts _ lk_X9_isForm_16) (fun _ h9 => h9) rfl dX9_isForm_47 ?_
        refine lv_iload_n hx hb dX9_isForm_50 rfl (lv_at hl 2 rfl) ?_
        refine va_iald hx hb hK hP 3 0 rfl rfl hw.1 dX9_isForm_51 ?_
        have hw := hw.2
        refine lv_iadd hx hb dX9_isForm_52 ?_
        refine lv_bipush (v := 16) hx hb dX9_isForm_53 (by decide) ?_
        refine lv_icmp_gt (tgt := 62) hx hb dX9_isForm_55 (by decide) (fun c_55 => ?_) (fun c_55 => ?_)
        · have hw := hw.1 c_55
          refine lv_iconst (v := 0) hx hb dX9_isForm_62 (by decide) ?_
          exact W.zret (v := (0 : Int32)) hx hb hr rfl (fun t ht hW => ⟨⟨(0 : Int32), (S, G), rfl, hw, by rw [ht]; exact hP, va_K.moved hW.alike hK, hD⟩, hS.F ht⟩) hS.2.2 dX9_isForm_63
        · have hw := hw.2 c_55
          refine lv_iconst (v := 1) hx hb dX9_isForm_58 (by decide) ?_
          refine lv_goto (tgt := 63) hx hb dX9_isForm_59 (by decide) ?_
          exact W.zret (v := (1 : Int32)) hx hb hr rfl (fun t ht hW => ⟨⟨(1 : Int32), (S, G), rfl, hw, by rw [ht]; exact hP, va_K.moved hW.alike hK, hD⟩, hS.F ht⟩) hS.2.2 dX9_isForm_63
  · have hw := hw.2 c_2
    refine lv_iconst (v := 1) hx hb dX9_isForm_5 (by decide) ?_
    exact W.zret (v := (1 : Int32)) hx hb hr rfl (fun t ht hW => ⟨⟨(1 : Int32), (S, G), rfl, hw, by rw [ht]; exact hP, va_K.moved hW.alike hK, hD⟩, hS.F ht⟩) hS.2.2 dX9_isForm_6
set_option maxHeartbeats 4000000 in
set_option maxRecDepth 100000 in
theorem c_X9_isForm (l : Launch) (dC : Nat → ClassId) (dI : Nat → Nat → Nat) (cI cJ cZ : ClassId) (o : Nat) (ad : Nat → Nat) (S : mS) (G : mG) (sz : Nat) (a1 : Int32) (a2 : Int32) (Q : Int32 → mS → mG → Prop) (hw : wp_X9_isForm_0 Q S G a1 a2) : Met l yX9_isForm wsX9_isForm rm_X9_isForm (va_Pc [.ref o, .int a1, .int a2] (mPre dC dI cI cJ cZ o ad S G sz)) (va_Qi (fun r (u : mS × mG) => Q r u.1 u.2) (mB dC dI cI cJ cZ o ad (mA cI cJ cZ o ad S G sz)) (mA cI cJ cZ o ad S G sz)) 0 0 (mA cI cJ cZ o ad S G sz) := by
  refine Met.ofW (cc := cX9_isForm) (maxL := 3) (ret := (some .boolean)) (by decide) rfl ?_
  intro p e s m args below meth c s₁ B hml hv
  obtain ⟨rfl, hsz, hP, hK, hD0⟩ := hv
  subst hsz
  have hl := lv_entry ([.ref o, .int a1, .int a2]) (n := 3) (Nat.le_of_ble_eq_true rfl)
  rw [lg_entry_eq]
  generalize (lg_sl ([.ref o, .int a1, .int a2]) ++ List.replicate (3 - (lg_sl ([.ref o, .int a1, .int a2])).length) Slot.unset).toArray = ls at hl ⊢
  exact tb_X9_isForm_0 (Q := Q) (p := p) ⟨B.exec, B.bytes, hml, findClass_of_methodNamed B.named, atoms_spec (ws := wsX9_isForm) B.pre, B.returns, B.notSynchronized, fun q h => Or.inr h, hK⟩ S G a1 a2 hw s.heap [] hP (hD0.self (sz := s.heap.size)) va_S.rf ls hl
theorem iw_X9_stands : ∀ w ∈ u_ws RX9 TX9 38, w ∈ wsX9_stands := fun w h => List.mem_cons_of_mem _ (by first | exact List.mem_append_right _ h | decide +kernel +revert)
theorem lk_X9_stands_13 : Cond.fieldLink RX9 13 "TermKeeperModel" "ending" "[I" ∈ wsX9_stands := by decide +kernel
theorem lk_X9_stands_16 : Cond.fieldLink RX9 16 "TermKeeperModel" "endingSize" "[I" ∈ wsX9_stands := by decide +kernel
theorem lk_X9_stands_19 : Cond.fieldLink RX9 19 "TermKeeperModel" "letters" "[I" ∈ wsX9_stands := by decide +kernel
theorem lk_X9_stands_22 : Cond.fieldLink RX9 22 "TermKeeperModel" "sizes" "[I" ∈ wsX9_stands := by decide +kernel
theorem lk_X9_stands_25 : Cond.fieldLink RX9 25 "TermKeeperModel" "words" "[I" ∈ wsX9_stands := by decide +kernel
theorem lk_X9_stands_60 : Cond.fieldLink RX9 60 "TermKeeperModel" "begin" "[I" ∈ wsX9_stands := by decide +kernel
theorem lk_X9_stands_63 : Cond.fieldLink RX9 63 "TermKeeperModel" "end" "[I" ∈ wsX9_stands := by decide +kernel
abbrev rm_X9_stands : Room := { frames := 2, cells := 0, slots := 0, locals := 44 }
def wp_X9_stands_175 (Q : Int32 → mS → mG → Prop) (k3_ : mS → mG → Int32 → Int32 → Int32 → Int32 → Int32 → Prop) (k125_ : mS → mG → Int32 → Int32 → Int32 → Int32 → Int32 → Int32 → Int32 → Int32 → Prop) (S : mS) (G : mG) (a1 : Int32) (a2 : Int32) (a3 : Int32) (a4 : Int32) (a5 : Int32) (a6 : Int32) (a8 : Int32) (a9 : Int32) (k0 : Int32) : Prop :=
    (vp_in (a2 + a5) 301 ∧
      (wp_X9_at_0 (fun r_191 S_191 G_191 =>
        (wp_X9_letterOf_0 (fun r_194 =>
          ((r_194 = k0 →
            (∀ v9_204 : Int32, v9_204 = a9 + (1 : Int32) →
              (k125_ S_191 G_191 a1 a2 a3 a4 a5 a6 a8 v9_204)))
           ∧ (¬ r_194 = k0 →
            (Q (0 : Int32) S_191 G_191)))) r_191)) S G a1 ((S 22 (Int32.toNatClampNeg (a2 + a5))) + a9)))
def wp_X9_stands_210 (Q : Int32 → mS → mG → Prop) (k3_ : mS → mG → Int32 → Int32 → Int32 → Int32 → Int32 → Prop) (S : mS) (G : mG) (a1 : Int32) (a2 : Int32) (a3 : Int32) (a4 : Int32) (a5 : Int32) : Prop :=
    (∀ v5_210 : Int32, v5_210 = a5 + (1 : Int32) →
      (k3_ S G a1 a2 a3 a4 v5_210))
def wp_X9_stands_125 (Q : Int32 → mS → mG → Prop) (k3_ : mS → mG → Int32 → Int32 → Int32 → Int32 → Int32 → Prop) : Nat → mS → mG → Int32 → Int32 → Int32 → Int32 → Int32 → Int32 → Int32 → Int32 → Prop
  | 0, _, _, _, _, _, _, _, _, _, _ => False
  | n + 1, S, G, a1, a2, a3, a4, a5, a6, a8, a9 =>
    ((a8 ≤ a9 →
      (wp_X9_stands_210 Q k3_ S G a1 a2 a3 a4 a5))
     ∧ (¬ a8 ≤ a9 →
      ((a6 ≤ a9 →
        (vp_in ((((4 : Int32) * a4) + a9) - a6) 24 ∧
          (wp_X9_stands_175 Q k3_ (wp_X9_stands_125 Q k3_ n) S G a1 a2 a3 a4 a5 a6 a8 a9 (S 6 (Int32.toNatClampNeg ((((4 : Int32) * a4) + a9) - a6))))))
       ∧ (¬ a6 ≤ a9 →
        (vp_in ((((36 : Int32) * a3) + ((12 : Int32) * a5)) + a9) 2160 ∧
          (wp_X9_stands_175 Q k3_ (wp_X9_stands_125 Q k3_ n) S G a1 a2 a3 a4 a5 a6 a8 a9 (S 8 (Int32.toNatClampNeg ((((36 : Int32) * a3) + ((12 : Int32) * a5)) + a9)))))))))
def wp_X9_stands_94 (Q : Int32 → mS → mG → Prop) (k3_ : mS → mG → Int32 → Int32 → Int32 → Int32 → Int32 → Prop) (S : mS) (G : mG) (a1 : Int32) (a2 : Int32) (a3 : Int32) (a4 : Int32) (a5 : Int32) (a6 : Int32) (k0 : Int32) : Prop :=
    (vp_in (a2 + a5) 301 ∧
      (vp_in (a2 + a5) 301 ∧
        ((((S 23 (Int32.toNatClampNeg (a2 + a5))) - (S 22 (Int32.toNatClampNeg (a2 + a5)))) = k0 →
          (∃ n9 : Nat, wp_X9_stands_125 Q k3_ n9 S G a1 a2 a3 a4 a5 a6 k0 (0 : Int32)))
         ∧ (¬ ((S 23 (Int32.toNatClampNeg (a2 + a5))) - (S 22 (Int32.toNatClampNeg (a2 + a5)))) = k0 →
          (Q (0 : Int32) S G)))))
def wp_X9_stands_72 (Q : Int32 → mS → mG → Prop) (k3_ : mS → mG → Int32 → Int32 → Int32 → Int32 → Int32 → Prop) (S : mS) (G : mG) (a1 : Int32) (a2 : Int32) (a3 : Int32) (a4 : Int32) (a5 : Int32) (a6 : Int32) (k0 : Int32) : Prop :=
    ((k0 = 0 →
      (wp_X9_stands_94 Q k3_ S G a1 a2 a3 a4 a5 a6 a6))
     ∧ (¬ k0 = 0 →
      (vp_in a4 6 ∧
        (wp_X9_stands_94 Q k3_ S G a1 a2 a3 a4 a5 a6 (a6 + (S 7 (Int32.toNatClampNeg a4)))))))
def wp_X9_stands_71 (Q : Int32 → mS → mG → Prop) (k3_ : mS → mG → Int32 → Int32 → Int32 → Int32 → Int32 → Prop) (S : mS) (G : mG) (a1 : Int32) (a2 : Int32) (a3 : Int32) (a4 : Int32) (a5 : Int32) (a6 : Int32) : Prop :=
    (wp_X9_stands_72 Q k3_ S G a1 a2 a3 a4 a5 a6 (0 : Int32))
def wp_X9_stands_35 (Q : Int32 → mS → mG → Prop) (k3_ : mS → mG → Int32 → Int32 → Int32 → Int32 → Int32 → Prop) (S : mS) (G : mG) (a1 : Int32) (a2 : Int32) (a3 : Int32) (a4 : Int32) (a5 : Int32) : Prop :=
    (vp_in (((3 : Int32) * a3) + a5) 180 ∧
      (∀ v6_46 : Int32, v6_46 = (S 9 (Int32.toNatClampNeg (((3 : Int32) * a3) + a5))) →
        (vp_in a3 60 ∧
          ((¬ a5 = ((S 10 (Int32.toNatClampNeg a3)) - (1 : Int32)) →
            (wp_X9_stands_71 Q k3_ S G a1 a2 a3 a4 a5 v6_46))
           ∧ (a5 = ((S 10 (Int32.toNatClampNeg a3)) - (1 : Int32)) →
            ((a4 = (-1 : Int32) →
              (wp_X9_stands_71 Q k3_ S G a1 a2 a3 a4 a5 v6_46))
             ∧ (¬ a4 = (-1 : Int32) →
              (wp_X9_stands_72 Q k3_ S G a1 a2 a3 a4 a5 v6_46 (1 : Int32)))))))))
def wp_X9_stands_3 (Q : Int32 → mS → mG → Prop) : Nat → mS → mG → Int32 → Int32 → Int32 → Int32 → Int32 → Prop
  | 0, _, _, _, _, _, _, _ => False
  | n + 1, S, G, a1, a2, a3, a4, a5 =>
    (vp_in a3 60 ∧
      (((S 10 (Int32.toNatClampNeg a3)) ≤ a5 →
        (Q (1 : Int32) S G))
       ∧ (¬ (S 10 (Int32.toNatClampNeg a3)) ≤ a5 →
        ((a5 ≤ 0 →
          (wp_X9_stands_35 Q (wp_X9_stands_3 Q  n) S G a1 a2 a3 a4 a5))
         ∧ (¬ a5 ≤ 0 →
          (wp_X9_isTogether_0 (fun r_27 S_27 G_27 =>
            ((¬ r_27 = 0 →
              (wp_X9_stands_35 Q (wp_X9_stands_3 Q  n) S_27 G_27 a1 a2 a3 a4 a5))
             ∧ (r_27 = 0 →
              (Q (0 : Int32) S_27 G_27)))) S G a1 ((a2 + a5) - (1 : Int32))))))))
def wp_X9_stands_0 (Q : Int32 → mS → mG → Prop) (S : mS) (G : mG) (a1 : Int32) (a2 : Int32) (a3 : Int32) (a4 : Int32) : Prop :=
    (∃ n9 : Nat, wp_X9_stands_3 Q  n9 S G a1 a2 a3 a4 (0 : Int32))
set_option maxHeartbeats 4000000 in
set_option maxRecDepth 100000 in
theorem tb_X9_stands_175 {p : Program} {l : Launch} {e : Env} {s : State} {m : MethodId} {below : List Frame} {meth : Method} {c : Code} {args : Array Value} {dC : Nat → ClassId} {dI : Nat → Nat → Nat} {cI cJ cZ : ClassId} {o : Nat} {ad : Nat → Nat} {A : Nat → Prop} {Q : Int32 → mS → mG → Prop} (C : mCx p s m args meth c cX9_stands 11 (some .boolean) wsX9_stands A dC dI cI cJ cZ) {k3_ : mS → mG → Int32 → Int32 → Int32 → Int32 → Int32 → Prop} (h3_ : ∀ (S : mS) (G : mG) (a1 : Int32) (a2 : Int32) (a3 : Int32) (a4 : Int32) (a5 : Int32), k3_ S G a1 a2 a3 a4 a5 → mAt p l e rm_X9_stands s m args below meth c dC dI cI cJ cZ o ad A (MQ below (va_Qi (fun r (u : mS × mG) => Q r u.1 u.2) (mB dC dI cI cJ cZ o ad A) A) args s 0 0 A) 3 11 [(0, .ref o), (1, .int a1), (2, .int a2), (3, .int a3), (4, .int a4), (5, .int a5)] [] S G) {k125_ : mS → mG → Int32 → Int32 → Int32 → Int32 → Int32 → Int32 → Int32 → Int32 → Prop} (h125_ : ∀ (S : mS) (G : mG) (a1 : Int32) (a2 : Int32) (a3 : Int32) (a4 : Int32) (a5 : Int32) (a6 : Int32) (a8 : Int32) (a9 : Int32), k125_ S G a1 a2 a3 a4 a5 a6 a8 a9 → mAt p l e rm_X9_stands s m args below meth c dC dI cI cJ cZ o ad A (MQ below (va_Qi (fun r (u : mS × mG) => Q r u.1 u.2) (mB dC dI cI cJ cZ o ad A) A) args s 0 0 A) 125 11 [(0, .ref o), (1, .int a1), (2, .int a2), (3, .int a3), (4, .int a4), (5, .int a5), (6, .int a6), (8, .int a8), (9, .int a9)] [] S G) : ∀ (S : mS) (G : mG) (a1 : Int32) (a2 : Int32) (a3 : Int32) (a4 : Int32) (a5 : Int32) (a6 : Int32) (a8 : Int32) (a9 : Int32) (k0 : Int32), wp_X9_stands_175 Q k3_ k125_ S G a1 a2 a3 a4 a5 a6 a8 a9 k0 → mAt p l e rm_X9_stands s m args below meth c dC dI cI cJ cZ o ad A (MQ below (va_Qi (fun r (u : mS × mG) => Q r u.1 u.2) (mB dC dI cI cJ cZ o ad A) A) args s 0 0 A) 175 11 [(0, .ref o), (1, .int a1), (2, .int a2), (3, .int a3), (4, .int a4), (5, .int a5), (6, .int a6), (8, .int a8), (9, .int a9)] [.int k0] S G := by
  obtain ⟨hx, hb, hml, hown, hts, hr, hlocks, hA, hK⟩ := id C
  intro S G a1 a2 a3 a4 a5 a6 a8 a9 k0 hw H locs hP hD hS ls hl
  rw [wp_X9_stands_175] at hw
  refine lv_istore (lv' := [(10, .int k0), (0, .ref o), (1, .int a1), (2, .int a2), (3, .int a3), (4, .int a4), (5, .int a5), (6, .int a6), (8, .int a8), (9, .int a9)]) hx hb dX9_stands_175 hl (by decide) rfl (fun ls hl => ?_)
  refine lv_aload_n hx hb dX9_stands_177 rfl (lv_at hl 1 rfl) ?_
  refine lv_iload_n hx hb dX9_stands_178 rfl (lv_at hl 2 rfl) ?_
  refine lv_aload_n hx hb dX9_stands_179 rfl (lv_at hl 1 rfl) ?_
  refine va_get (D := (dC, dI)) (ci := 10) (v := .ref (ad 22)) (C := RX9) (T := TX9) (N := 38) hx hb hts iw_X9_stands hown hK hP 0 rfl rfl 22 (by decide) (hts _ lk_X9_stands_60) (fun _ h9 => h9) rfl dX9_stands_180 ?_
  refine lv_iload_n hx hb dX9_stands_183 rfl (lv_at hl 3 rfl) ?_
  refine lv_iload hx hb dX9_stands_184 (lv_at hl 6 rfl) ?_
  refine lv_iadd hx hb dX9_stands_186 ?_
  refine va_iald hx hb hK hP 17 0 rfl rfl hw.1 dX9_stands_187 ?_
  have hw := hw.2
  refine lv_iload hx hb dX9_stands_188 (lv_at hl 9 rfl) ?_
  refine lv_iadd hx hb dX9_stands_190 ?_
  have hFc := mFree hD hS hA
  refine va_calli (va_runV (As := [.int a1, .int ((S 22 (Int32.toNatClampNeg (a2 + a5))) + a9)]) (rest := []) ⟨hx, hb, hml, hown, hts⟩ (c_X9_at l dC dI cI cJ cZ o ad S G H.size a1 ((S 22 (Int32.toNatClampNeg (a2 + a5))) + a9) _ hw) (cwV 2 hts gX9_stands_X9_at rfl rfl rfl (by decide +kernel) ⟨Nat.le_of_ble_eq_true rfl, Nat.le_of_ble_eq_true rfl⟩) (mPreV [.int a1, .int ((S 22 (Int32.toNatClampNeg (a2 + a5))) + a9)] hK hP hD) rfl rfl hl.1 rfl (lv_room (Nat.le_of_ble_eq_true rfl)) dX9_stands_191 ⟨Nat.zero_le _, Nat.zero_le _⟩) hS (fun q _ h => hFc q h) hFc (fun r_191 u t H1 locs ht hvm hw hB hz1 hk1 hS => ?_)
  obtain ⟨S_191, G_191⟩ := u
  obtain ⟨hP, -, hD1⟩ := hB
  rw [ht] at hP
  have hw := id hw
  have hP : va_P (dC, dI) vwCl (mW cI cJ cZ o ad S_191 G_191) H1 := hP
  have hD : va_D A (mW cI cJ cZ o ad S_191 G_191) := mGain hD1 hFc
  generalize H1 = H at hP hS ⊢
  refine vp_callSi (W.runS (As := [.int r_191]) (rest := []) ⟨hx, hb, hml, hown, hts⟩ (c_X9_letterOf l r_191 _ hw) (va_cwS 1 hts gX9_stands_X9_letterOf rfl rfl rfl (by decide +kernel) ⟨Nat.le_of_ble_eq_true rfl, Nat.le_of_ble_eq_true rfl⟩) preEq rfl rfl hl.1 rfl (lv_room (Nat.le_of_ble_eq_true rfl)) dX9_stands_194 ⟨Nat.zero_le _, Nat.zero_le _⟩) (fun r_194 hw => ?_)
  refine lv_iload hx hb dX9_stands_197 (lv_at hl 0 rfl) ?_
  refine lv_icmp_eq (tgt := 204) hx hb dX9_stands_199 (by decide) (fun c_199 => ?_) (fun c_199 => ?_)
  · have hw := hw.1 c_199
    obtain ⟨v9_204, ev9_204⟩ : ∃ y : Int32, y = a9 + (1 : Int32) := ⟨_, rfl⟩
    have hw := hw v9_204 ev9_204
    refine lv_iinc (v := v9_204) (lv' := [(9, .int v9_204), (10, .int k0), (0, .ref o), (1, .int a1), (2, .int a2), (3, .int a3), (4, .int a4), (5, .int a5), (6, .int a6), (8, .int a8)]) hx hb dX9_stands_204 hl (k := 9) rfl (by rw [ev9_204]; rfl) (by decide) rfl (fun ls hl => ?_)
    refine lv_goto (tgt := 125) hx hb dX9_stands_207 (by decide) ?_
    exact h125_ S_191 G_191 a1 a2 a3 a4 a5 a6 a8 v9_204 hw H locs hP hD hS ls (lv_sub hl [2, 3, 4, 5, 6, 7, 8, 9, 0] rfl)
  · have hw := hw.2 c_199
    refine lv_iconst (v := 0) hx hb dX9_stands_202 (by decide) ?_
    exact W.zret (v := (0 : Int32)) hx hb hr rfl (fun t ht hW => ⟨⟨(0 : Int32), (S_191, G_191), rfl, hw, by rw [ht]; exact hP, va_K.moved hW.alike hK, hD⟩, hS.F ht⟩) hS.2.2 dX9_stands_203
set_option maxHeartbeats 4000000 in
set_option maxRecDepth 100000 in
theorem tb_X9_stands_210 {p : Program} {l : Launch} {e : Env} {s : State} {m : MethodId} {below : List Frame} {meth : Method} {c : Code} {args : Array Value} {dC : Nat → ClassId} {dI : Nat → Nat → Nat} {cI cJ cZ : ClassId} {o : Nat} {ad : Nat → Nat} {A : Nat → Prop} {Q : Int32 → mS → mG → Prop} (C : mCx p s m args meth c cX9_stands 11 (some .boolean) wsX9_stands A dC dI cI cJ cZ) {k3_ : mS → mG → Int32 → Int32 → Int32 → Int32 → Int32 → Prop} (h3_ : ∀ (S : mS) (G : mG) (a1 : Int32) (a2 : Int32) (a3 : Int32) (a4 : Int32) (a5 : Int32), k3_ S G a1 a2 a3 a4 a5 → mAt p l e rm_X9_stands s m args below meth c dC dI cI cJ cZ o ad A (MQ below (va_Qi (fun r (u : mS × mG) => Q r u.1 u.2) (mB dC dI cI cJ cZ o ad A) A) args s 0 0 A) 3 11 [(0, .ref o), (1, .int a1), (2, .int a2), (3, .int a3), (4, .int a4), (5, .int a5)] [] S G) : ∀ (S : mS) (G : mG) (a1 : Int32) (a2 : Int32) (a3 : Int32) (a4 : Int32) (a5 : Int32), wp_X9_stands_210 Q k3_ S G a1 a2 a3 a4 a5 → mAt p l e rm_X9_stands s m args below meth c dC dI cI cJ cZ o ad A (MQ below (va_Qi (fun r (u : mS × mG) => Q r u.1 u.2) (mB dC dI cI cJ cZ o ad A) A) args s 0 0 A) 210 11 [(0, .ref o), (1, .int a1), (2, .int a2), (3, .int a3), (4, .int a4), (5, .int a5)] [] S G := by
  obtain ⟨hx, hb, hml, hown, hts, hr, hlocks, hA, hK⟩ := id C
  intro S G a1 a2 a3 a4 a5 hw H locs hP hD hS ls hl
  rw [wp_X9_stands_210] at hw
  obtain ⟨v5_210, ev5_210⟩ : ∃ y : Int32, y = a5 + (1 : Int32) := ⟨_, rfl⟩
  have hw := hw v5_210 ev5_210
  refine lv_iinc (v := v5_210) (lv' := [(5, .int v5_210), (0, .ref o), (1, .int a1), (2, .int a2), (3, .int a3), (4, .int a4)]) hx hb dX9_stands_210 hl (k := 5) rfl (by rw [ev5_210]; rfl) (by decide) rfl (fun ls hl => ?_)
  refine lv_goto (tgt := 3) hx hb dX9_stands_213 (by decide) ?_
  exact h3_ S G a1 a2 a3 a4 v5_210 hw H locs hP hD hS ls (lv_sub hl [1, 2, 3, 4, 5, 0] rfl)
set_option maxHeartbeats 4000000 in
set_option maxRecDepth 100000 in
theorem tb_X9_stands_125 {p : Program} {l : Launch} {e : Env} {s : State} {m : MethodId} {below : List Frame} {meth : Method} {c : Code} {args : Array Value} {dC : Nat → ClassId} {dI : Nat → Nat → Nat} {cI cJ cZ : ClassId} {o : Nat} {ad : Nat → Nat} {A : Nat → Prop} {Q : Int32 → mS → mG → Prop} (C : mCx p s m args meth c cX9_stands 11 (some .boolean) wsX9_stands A dC dI cI cJ cZ) {k3_ : mS → mG → Int32 → Int32 → Int32 → Int32 → Int32 → Prop} (h3_ : ∀ (S : mS) (G : mG) (a1 : Int32) (a2 : Int32) (a3 : Int32) (a4 : Int32) (a5 : Int32), k3_ S G a1 a2 a3 a4 a5 → mAt p l e rm_X9_stands s m args below meth c dC dI cI cJ cZ o ad A (MQ below (va_Qi (fun r (u : mS × mG) => Q r u.1 u.2) (mB dC dI cI cJ cZ o ad A) A) args s 0 0 A) 3 11 [(0, .ref o), (1, .int a1), (2, .int a2), (3, .int a3), (4, .int a4), (5, .int a5)] [] S G) : ∀ (n : Nat) (S : mS) (G : mG) (a1 : Int32) (a2 : Int32) (a3 : Int32) (a4 : Int32) (a5 : Int32) (a6 : Int32) (a8 : Int32) (a9 : Int32), wp_X9_stands_125 Q k3_ n S G a1 a2 a3 a4 a5 a6 a8 a9 → mAt p l e rm_X9_stands s m args below meth c dC dI cI cJ cZ o ad A (MQ below (va_Qi (fun r (u : mS × mG) => Q r u.1 u.2) (mB dC dI cI cJ cZ o ad A) A) args s 0 0 A) 125 11 [(0, .ref o), (1, .int a1), (2, .int a2), (3, .int a3), (4, .int a4), (5, .int a5), (6, .int a6), (8, .int a8), (9, .int a9)] [] S G := by
  obtain ⟨hx, hb, hml, hown, hts, hr, hlocks, hA, hK⟩ := id C
  intro n
  induction n with
  | zero => intro S G a1 a2 a3 a4 a5 a6 a8 a9 hw; exact hw.elim
  | succ n ih =>
    intro S G a1 a2 a3 a4 a5 a6 a8 a9 hw H locs hP hD hS ls hl
    rw [wp_X9_stands_125] at hw
    refine lv_iload hx hb dX9_stands_125 (lv_at hl 8 rfl) ?_
    refine lv_iload hx hb dX9_stands_127 (lv_at hl 7 rfl) ?_
    refine lv_icmp_ge (tgt := 210) hx hb dX9_stands_129 (by decide) (fun c_129 => ?_) (fun c_129 => ?_)
    · have hw := hw.1 c_129
      exact tb_X9_stands_210 C h3_ S G a1 a2 a3 a4 a5 hw H locs hP hD hS ls (lv_sub hl [0, 1, 2, 3, 4, 5] rfl)
    · have hw := hw.2 c_129
      refine lv_iload hx hb dX9_stands_132 (lv_at hl 8 rfl) ?_
      refine lv_iload hx hb dX9_stands_134 (lv_at hl 6 rfl) ?_
      refine lv_icmp_ge (tgt := 160) hx hb dX9_stands_136 (by decide) (fun c_136 => ?_) (fun c_136 => ?_)
      · have hw := hw.1 c_136
        refine lv_aload_n hx hb dX9_stands_160 rfl (lv_at hl 0 rfl) ?_
        refine va_get (D := (dC, dI)) (ci := 10) (v := .ref (ad 6)) (C := RX9) (T := TX9) (N := 38) hx hb hts iw_X9_stands hown hK hP 0 rfl rfl 6 (by decide) (hts _ lk_X9_stands_13) (fun _ h9 => h9) rfl dX9_stands_161 ?_
        refine lv_iconst (v := 4) hx hb dX9_stands_164 (by decide) ?_
        refine lv_iload hx hb dX9_stands_165 (lv_at hl 4 rfl) ?_
        refine lv_imul hx hb dX9_stands_167 ?_
        refine lv_iload hx hb dX9_stands_168 (lv_at hl 8 rfl) ?_
        refine lv_iadd hx hb dX9_stands_170 ?_
        refine lv_iload hx hb dX9_stands_171 (lv_at hl 6 rfl) ?_
        refine lv_isub hx hb dX9_stands_173 ?_
        refine va_iald hx hb hK hP 2 0 rfl rfl hw.1 dX9_stands_174 ?_
        have hw := hw.2
        exact tb_X9_stands_175 C h3_ ih S G a1 a2 a3 a4 a5 a6 a8 a9 (S 6 (Int32.toNatClampNeg ((((4 : Int32) * a4) + a9) - a6))) hw H locs hP hD hS ls (lv_sub hl [0, 1, 2, 3, 4, 5, 6, 7, 8] rfl)
      · have hw := hw.2 c_136
        refine lv_aload_n hx hb dX9_stands_139 rfl (lv_at hl 0 rfl) ?_
        refine va_get (D := (dC, dI)) (ci := 10) (v := .ref (ad 8)) (C := RX9) (T := TX9) (N := 38) hx hb hts iw_X9_stands hown hK hP 0 rfl rfl 8 (by decide) (hts _ lk_X9_stands_19) (fun _ h9 => h9) rfl dX9_stands_140 ?_
        refine lv_bipush (v := 36) hx hb dX9_stands_143 (by decide) ?_
        refine lv_iload_n hx hb dX9_stands_145 rfl (lv_at hl 3 rfl) ?_
        refine lv_imul hx hb dX9_stands_146 ?_
        refine lv_bipush (v := 12) hx hb dX9_stands_147 (by decide) ?_
        refine lv_iload hx hb dX9_stands_149 (lv_at hl 5 rfl) ?_
        refine lv_imul hx hb dX9_stands_151 ?_
        refine lv_iadd hx hb dX9_stands_152 ?_
        refine lv_iload hx hb dX9_stands_153 (lv_at hl 8 rfl) ?_
        refine lv_iadd hx hb dX9_stands_155 ?_
        refine va_iald hx hb hK hP 4 0 rfl rfl hw.1 dX9_stands_156 ?_
        have hw := hw.2
        refine lv_goto (tgt := 175) hx hb dX9_stands_157 (by decide) ?_
        exact tb_X9_stands_175 C h3_ ih S G a1 a2 a3 a4 a5 a6 a8 a9 (S 8 (Int32.toNatClampNeg ((((36 : Int32) * a3) + ((12 : Int32) * a5)) + a9))) hw H locs hP hD hS ls (lv_sub hl [0, 1, 2, 3, 4, 5, 6, 7, 8] rfl)
set_option maxHeartbeats 4000000 in
set_option maxRecDepth 100000 in
theorem tb_X9_stands_94 {p : Program} {l : Launch} {e : Env} {s : State} {m : MethodId} {below : List Frame} {meth : Method} {c : Code} {args : Array Value} {dC : Nat → ClassId} {dI : Nat → Nat → Nat} {cI cJ cZ : ClassId} {o : Nat} {ad : Nat → Nat} {A : Nat → Prop} {Q : Int32 → mS → mG → Prop} (C : mCx p s m args meth c cX9_stands 11 (some .boolean) wsX9_stands A dC dI cI cJ cZ) {k3_ : mS → mG → Int32 → Int32 → Int32 → Int32 → Int32 → Prop} (h3_ : ∀ (S : mS) (G : mG) (a1 : Int32) (a2 : Int32) (a3 : Int32) (a4 : Int32) (a5 : Int32), k3_ S G a1 a2 a3 a4 a5 → mAt p l e rm_X9_stands s m args below meth c dC dI cI cJ cZ o ad A (MQ below (va_Qi (fun r (u : mS × mG) => Q r u.1 u.2) (mB dC dI cI cJ cZ o ad A) A) args s 0 0 A) 3 11 [(0, .ref o), (1, .int a1), (2, .int a2), (3, .int a3), (4, .int a4), (5, .int a5)] [] S G) : ∀ (S : mS) (G : mG) (a1 : Int32) (a2 : Int32) (a3 : Int32) (a4 : Int32) (a5 : Int32) (a6 : Int32) (k0 : Int32), wp_X9_stands_94 Q k3_ S G a1 a2 a3 a4 a5 a6 k0 → mAt p l e rm_X9_stands s m args below meth c dC dI cI cJ cZ o ad A (MQ below (va_Qi (fun r (u : mS × mG) => Q r u.1 u.2) (mB dC dI cI cJ cZ o ad A) A) args s 0 0 A) 94 11 [(0, .ref o), (1, .int a1), (2, .int a2), (3, .int a3), (4, .int a4), (5, .int a5), (6, .int a6)] [.int k0] S G := by
  obtain ⟨hx, hb, hml, hown, hts, hr, hlocks, hA, hK⟩ := id C
  intro S G a1 a2 a3 a4 a5 a6 k0 hw H locs hP hD hS ls hl
  rw [wp_X9_stands_94] at hw
  refine lv_istore (lv' := [(8, .int k0), (0, .ref o), (1, .int a1), (2, .int a2), (3, .int a3), (4, .int a4), (5, .int a5), (6, .int a6)]) hx hb dX9_stands_94 hl (by decide) rfl (fun ls hl => ?_)
  refine lv_aload_n hx hb dX9_stands_96 rfl (lv_at hl 1 rfl) ?_
  refine va_get (D := (dC, dI)) (ci := 10) (v := .ref (ad 23)) (C := RX9) (T := TX9) (N := 38) hx hb hts iw_X9_stands hown hK hP 0 rfl rfl 23 (by decide) (hts _ lk_X9_stands_63) (fun _ h9 => h9) rfl dX9_stands_97 ?_
  refine lv_iload_n hx hb dX9_stands_100 rfl (lv_at hl 3 rfl) ?_
  refine lv_iload hx hb dX9_stands_101 (lv_at hl 6 rfl) ?_
  refine lv_iadd hx hb dX9_stands_103 ?_
  refine va_iald hx hb hK hP 18 0 rfl rfl hw.1 dX9_stands_104 ?_
  have hw := hw.2
  refine lv_aload_n hx hb dX9_stands_105 rfl (lv_at hl 1 rfl) ?_
  refine va_get (D := (dC, dI)) (ci := 10) (v := .ref (ad 22)) (C := RX9) (T := TX9) (N := 38) hx hb hts iw_X9_stands hown hK hP 0 rfl rfl 22 (by decide) (hts _ lk_X9_stands_60) (fun _ h9 => h9) rfl dX9_stands_106 ?_
  refine lv_iload_n hx hb dX9_stands_109 rfl (lv_at hl 3 rfl) ?_
  refine lv_iload hx hb dX9_stands_110 (lv_at hl 6 rfl) ?_
  refine lv_iadd hx hb dX9_stands_112 ?_
  refine va_iald hx hb hK hP 17 0 rfl rfl hw.1 dX9_stands_113 ?_
  have hw := hw.2
  refine lv_isub hx hb dX9_stands_114 ?_
  refine lv_iload hx hb dX9_stands_115 (lv_at hl 0 rfl) ?_
  refine lv_icmp_eq (tgt := 122) hx hb dX9_stands_117 (by decide) (fun c_117 => ?_) (fun c_117 => ?_)
  · have hw := hw.1 c_117
    refine lv_iconst (v := 0) hx hb dX9_stands_122 (by decide) ?_
    refine lv_istore (lv' := [(9, .int (0 : Int32)), (8, .int k0), (0, .ref o), (1, .int a1), (2, .int a2), (3, .int a3), (4, .int a4), (5, .int a5), (6, .int a6)]) hx hb dX9_stands_123 hl (by decide) rfl (fun ls hl => ?_)
    obtain ⟨n9, hw⟩ := hw
    exact tb_X9_stands_125 C h3_ n9 S G a1 a2 a3 a4 a5 a6 k0 (0 : Int32) hw H locs hP hD hS ls (lv_sub hl [2, 3, 4, 5, 6, 7, 8, 1, 0] rfl)
  · have hw := hw.2 c_117
    refine lv_iconst (v := 0) hx hb dX9_stands_120 (by decide) ?_
    exact W.zret (v := (0 : Int32)) hx hb hr rfl (fun t ht hW => ⟨⟨(0 : Int32), (S, G), rfl, hw, by rw [ht]; exact hP, va_K.moved hW.alike hK, hD⟩, hS.F ht⟩) hS.2.2 dX9_stands_121
set_option maxHeartbeats 4000000 in
set_option maxRecDepth 100000 in
theorem tb_X9_stands_72 {p : Program} {l : Launch} {e : Env} {s : State} {m : MethodId} {below : List Frame} {meth : Method} {c : Code} {args : Array Value} {dC : Nat → ClassId} {dI : Nat → Nat → Nat} {cI cJ cZ : ClassId} {o : Nat} {ad : Nat → Nat} {A : Nat → Prop} {Q : Int32 → mS → mG → Prop} (C : mCx p s m args meth c cX9_stands 11 (some .boolean) wsX9_stands A dC dI cI cJ cZ) {k3_ : mS → mG → Int32 → Int32 → Int32 → Int32 → Int32 → Prop} (h3_ : ∀ (S : mS) (G : mG) (a1 : Int32) (a2 : Int32) (a3 : Int32) (a4 : Int32) (a5 : Int32), k3_ S G a1 a2 a3 a4 a5 → mAt p l e rm_X9_stands s m args below meth c dC dI cI cJ cZ o ad A (MQ below (va_Qi (fun r (u : mS × mG) => Q r u.1 u.2) (mB dC dI cI cJ cZ o ad A) A) args s 0 0 A) 3 11 [(0, .ref o), (1, .int a1), (2, .int a2), (3, .int a3), (4, .int a4), (5, .int a5)] [] S G) : ∀ (S : mS) (G : mG) (a1 : Int32) (a2 : Int32) (a3 : Int32) (a4 : Int32) (a5 : Int32) (a6 : Int32) (k0 : Int32), wp_X9_stands_72 Q k3_ S G a1 a2 a3 a4 a5 a6 k0 → mAt p l e rm_X9_stands s m args below meth c dC dI cI cJ cZ o ad A (MQ below (va_Qi (fun r (u : mS × mG) => Q r u.1 u.2) (mB dC dI cI cJ cZ o ad A) A) args s 0 0 A) 72 11 [(0, .ref o), (1, .int a1), (2, .int a2), (3, .int a3), (4, .int a4), (5, .int a5), (6, .int a6)] [.int k0] S G := by
  obtain ⟨hx, hb, hml, hown, hts, hr, hlocks, hA, hK⟩ := id C
  intro S G a1 a2 a3 a4 a5 a6 k0 hw H locs hP hD hS ls hl
  rw [wp_X9_stands_72] at hw
  refine lv_istore (lv' := [(7, .int k0), (0, .ref o), (1, .int a1), (2, .int a2), (3, .int a3), (4, .int a4), (5, .int a5), (6, .int a6)]) hx hb dX9_stands_72 hl (by decide) rfl (fun ls hl => ?_)
  refine lv_iload hx hb dX9_stands_74 (lv_at hl 0 rfl) ?_
  refine lv_if_eq (tgt := 92) hx hb dX9_stands_76 (by decide) (fun c_76 => ?_) (fun c_76 => ?_)
  · have hw := hw.1 c_76
    refine lv_iload hx hb dX9_stands_92 (lv_at hl 7 rfl) ?_
    exact tb_X9_stands_94 C h3_ S G a1 a2 a3 a4 a5 a6 a6 hw H locs hP hD hS ls (lv_sub hl [1, 2, 3, 4, 5, 6, 7] rfl)
  · have hw := hw.2 c_76
    refine lv_iload hx hb dX9_stands_79 (lv_at hl 7 rfl) ?_
    refine lv_aload_n hx hb dX9_stands_81 rfl (lv_at hl 1 rfl) ?_
    refine va_get (D := (dC, dI)) (ci := 10) (v := .ref (ad 7)) (C := RX9) (T := TX9) (N := 38) hx hb hts iw_X9_stands hown hK hP 0 rfl rfl 7 (by decide) (hts _ lk_X9_stands_16) (fun _ h9 => h9) rfl dX9_stands_82 ?_
    refine lv_iload hx hb dX9_stands_85 (lv_at hl 5 rfl) ?_
    refine va_iald hx hb hK hP 3 0 rfl rfl hw.1 dX9_stands_87 ?_
    have hw := hw.2
    refine lv_iadd hx hb dX9_stands_88 ?_
    refine lv_goto (tgt := 94) hx hb dX9_stands_89 (by decide) ?_
    exact tb_X9_stands_94 C h3_ S G a1 a2 a3 a4 a5 a6 (a6 + (S 7 (Int32.toNatClampNeg a4))) hw H locs hP hD hS ls (lv_sub hl [1, 2, 3, 4, 5, 6, 7] rfl)
set_option maxHeartbeats 4000000 in
set_option maxRecDepth 100000 in
theorem tb_X9_stands_71 {p : Program} {l : Launch} {e : Env} {s : State} {m : MethodId} {below : List Frame} {meth : Method} {c : Code} {args : Array Value} {dC : Nat → ClassId} {dI : Nat → Nat → Nat} {cI cJ cZ : ClassId} {o : Nat} {ad : Nat → Nat} {A : Nat → Prop} {Q : Int32 → mS → mG → Prop} (C : mCx p s m args meth c cX9_stands 11 (some .boolean) wsX9_stands A dC dI cI cJ cZ) {k3_ : mS → mG → Int32 → Int32 → Int32 → Int32 → Int32 → Prop} (h3_ : ∀ (S : mS) (G : mG) (a1 : Int32) (a2 : Int32) (a3 : Int32) (a4 : Int32) (a5 : Int32), k3_ S G a1 a2 a3 a4 a5 → mAt p l e rm_X9_stands s m args below meth c dC dI cI cJ cZ o ad A (MQ below (va_Qi (fun r (u : mS × mG) => Q r u.1 u.2) (mB dC dI cI cJ cZ o ad A) A) args s 0 0 A) 3 11 [(0, .ref o), (1, .int a1), (2, .int a2), (3, .int a3), (4, .int a4), (5, .int a5)] [] S G) : ∀ (S : mS) (G : mG) (a1 : Int32) (a2 : Int32) (a3 : Int32) (a4 : Int32) (a5 : Int32) (a6 : Int32), wp_X9_stands_71 Q k3_ S G a1 a2 a3 a4 a5 a6 → mAt p l e rm_X9_stands s m args below meth c dC dI cI cJ cZ o ad A (MQ below (va_Qi (fun r (u : mS × mG) => Q r u.1 u.2) (mB dC dI cI cJ cZ o ad A) A) args s 0 0 A) 71 11 [(0, .ref o), (1, .int a1), (2, .int a2), (3, .int a3), (4, .int a4), (5, .int a5), (6, .int a6)] [] S G := by
  obtain ⟨hx, hb, hml, hown, hts, hr, hlocks, hA, hK⟩ := id C
  intro S G a1 a2 a3 a4 a5 a6 hw H locs hP hD hS ls hl
  rw [wp_X9_stands_71] at hw
  refine lv_iconst (v := 0) hx hb dX9_stands_71 (by decide) ?_
  exact tb_X9_stands_72 C h3_ S G a1 a2 a3 a4 a5 a6 (0 : Int32) hw H locs hP hD hS ls (lv_sub hl [0, 1, 2, 3, 4, 5, 6] rfl)
set_option maxHeartbeats 4000000 in
set_option maxRecDepth 100000 in
theorem tb_X9_stands_35 {p : Program} {l : Launch} {e : Env} {s : State} {m : MethodId} {below : List Frame} {meth : Method} {c : Code} {args : Array Value} {dC : Nat → ClassId} {dI : Nat → Nat → Nat} {cI cJ cZ : ClassId} {o : Nat} {ad : Nat → Nat} {A : Nat → Prop} {Q : Int32 → mS → mG → Prop} (C : mCx p s m args meth c cX9_stands 11 (some .boolean) wsX9_stands A dC dI cI cJ cZ) {k3_ : mS → mG → Int32 → Int32 → Int32 → Int32 → Int32 → Prop} (h3_ : ∀ (S : mS) (G : mG) (a1 : Int32) (a2 : Int32) (a3 : Int32) (a4 : Int32) (a5 : Int32), k3_ S G a1 a2 a3 a4 a5 → mAt p l e rm_X9_stands s m args below meth c dC dI cI cJ cZ o ad A (MQ below (va_Qi (fun r (u : mS × mG) => Q r u.1 u.2) (mB dC dI cI cJ cZ o ad A) A) args s 0 0 A) 3 11 [(0, .ref o), (1, .int a1), (2, .int a2), (3, .int a3), (4, .int a4), (5, .int a5)] [] S G) : ∀ (S : mS) (G : mG) (a1 : Int32) (a2 : Int32) (a3 : Int32) (a4 : Int32) (a5 : Int32), wp_X9_stands_35 Q k3_ S G a1 a2 a3 a4 a5 → mAt p l e rm_X9_stands s m args below meth c dC dI cI cJ cZ o ad A (MQ below (va_Qi (fun r (u : mS × mG) => Q r u.1 u.2) (mB dC dI cI cJ cZ o ad A) A) args s 0 0 A) 35 11 [(0, .ref o), (1, .int a1), (2, .int a2), (3, .int a3), (4, .int a4), (5, .int a5)] [] S G := by
  obtain ⟨hx, hb, hml, hown, hts, hr, hlocks, hA, hK⟩ := id C
  intro S G a1 a2 a3 a4 a5 hw H locs hP hD hS ls hl
  rw [wp_X9_stands_35] at hw
  refine lv_aload_n hx hb dX9_stands_35 rfl (lv_at hl 0 rfl) ?_
  refine va_get (D := (dC, dI)) (ci := 10) (v := .ref (ad 9)) (C := RX9) (T := TX9) (N := 38) hx hb hts iw_X9_stands hown hK hP 0 rfl rfl 9 (by decide) (hts _ lk_X9_stands_22) (fun _ h9 => h9) rfl dX9_stands_36 ?_
  refine lv_iconst (v := 3) hx hb dX9_stands_39 (by decide) ?_
  refine lv_iload_n hx hb dX9_stands_40 rfl (lv_at hl 3 rfl) ?_
  refine lv_imul hx hb dX9_stands_41 ?_
  refine lv_iload hx hb dX9_stands_42 (lv_at hl 5 rfl) ?_
  refine lv_iadd hx hb dX9_stands_44 ?_
  refine va_iald hx hb hK hP 5 0 rfl rfl hw.1 dX9_stands_45 ?_
  have hw := hw.2
  refine lv_topi (fun v6_46 ev6_46 => ?_)
  have hw := hw v6_46 ev6_46
  refine lv_istore (lv' := [(6, .int v6_46), (0, .ref o), (1, .int a1), (2, .int a2), (3, .int a3), (4, .int a4), (5, .int a5)]) hx hb dX9_stands_46 hl (by decide) rfl (fun ls hl => ?_)
  refine lv_iload hx hb dX9_stands_48 (lv_at hl 6 rfl) ?_
  refine lv_aload_n hx hb dX9_stands_50 rfl (lv_at hl 1 rfl) ?_
  refine va_get (D := (dC, dI)) (ci := 10) (v := .ref (ad 10)) (C := RX9) (T := TX9) (N := 38) hx hb hts iw_X9_stands hown hK hP 0 rfl rfl 10 (by decide) (hts _ lk_X9_stands_25) (fun _ h9 => h9) rfl dX9_stands_51 ?_
  refine lv_iload_n hx hb dX9_stands_54 rfl (lv_at hl 4 rfl) ?_
  refine va_iald hx hb hK hP 6 0 rfl rfl hw.1 dX9_stands_55 ?_
  have hw := hw.2
  refine lv_iconst (v := 1) hx hb dX9_stands_56 (by decide) ?_
  refine lv_isub hx hb dX9_stands_57 ?_
  refine lv_icmp_ne (tgt := 71) hx hb dX9_stands_58 (by decide) (fun c_58 => ?_) (fun c_58 => ?_)
  · have hw := hw.1 c_58
    exact tb_X9_stands_71 C h3_ S G a1 a2 a3 a4 a5 v6_46 hw H locs hP hD hS ls (lv_sub hl [1, 2, 3, 4, 5, 6, 0] rfl)
  · have hw := hw.2 c_58
    refine lv_iload hx hb dX9_stands_61 (lv_at hl 5 rfl) ?_
    refine lv_iconst (v := -1) hx hb dX9_stands_63 (by decide) ?_
    refine lv_icmp_eq (tgt := 71) hx hb dX9_stands_64 (by decide) (fun c_64 => ?_) (fun c_64 => ?_)
    · have hw := hw.1 c_64
      exact tb_X9_stands_71 C h3_ S G a1 a2 a3 a4 a5 v6_46 hw H locs hP hD hS ls (lv_sub hl [1, 2, 3, 4, 5, 6, 0] rfl)
    · have hw := hw.2 c_64
      refine lv_iconst (v := 1) hx hb dX9_stands_67 (by decide) ?_
      refine lv_goto (tgt := 72) hx hb dX9_stands_68 (by decide) ?_
      exact tb_X9_stands_72 C h3_ S G a1 a2 a3 a4 a5 v6_46 (1 : Int32) hw H locs hP hD hS ls (lv_sub hl [1, 2, 3, 4, 5, 6, 0] rfl)
set_option maxHeartbeats 4000000 in
set_option maxRecDepth 100000 in
theorem tb_X9_stands_3 {p : Program} {l : Launch} {e : Env} {s : State} {m : MethodId} {below : List Frame} {meth : Method} {c : Code} {args : Array Value} {dC : Nat → ClassId} {dI : Nat → Nat → Nat} {cI cJ cZ : ClassId} {o : Nat} {ad : Nat → Nat} {A : Nat → Prop} {Q : Int32 → mS → mG → Prop} (C : mCx p s m args meth c cX9_stands 11 (some .boolean) wsX9_stands A dC dI cI cJ cZ) : ∀ (n : Nat) (S : mS) (G : mG) (a1 : Int32) (a2 : Int32) (a3 : Int32) (a4 : Int32) (a5 : Int32), wp_X9_stands_3 Q  n S G a1 a2 a3 a4 a5 → mAt p l e rm_X9_stands s m args below meth c dC dI cI cJ cZ o ad A (MQ below (va_Qi (fun r (u : mS × mG) => Q r u.1 u.2) (mB dC dI cI cJ cZ o ad A) A) args s 0 0 A) 3 11 [(0, .ref o), (1, .int a1), (2, .int a2), (3, .int a3), (4, .int a4), (5, .int a5)] [] S G := by
  obtain ⟨hx, hb, hml, hown, hts, hr, hlocks, hA, hK⟩ := id C
  intro n
  induction n with
  | zero => intro S G a1 a2 a3 a4 a5 hw; exact hw.elim
  | succ n ih =>
    intro S G a1 a2 a3 a4 a5 hw H locs hP hD hS ls hl
    rw [wp_X9_stands_3] at hw
    refine lv_iload hx hb dX9_stands_3 (lv_at hl 5 rfl) ?_
    refine lv_aload_n hx hb dX9_stands_5 rfl (lv_at hl 0 rfl) ?_
    refine va_get (D := (dC, dI)) (ci := 10) (v := .ref (ad 10)) (C := RX9) (T := TX9) (N := 38) hx hb hts iw_X9_stands hown hK hP 0 rfl rfl 10 (by decide) (hts _ lk_X9_stands_25) (fun _ h9 => h9) rfl dX9_stands_6 ?_
    refine lv_iload_n hx hb dX9_stands_9 rfl (lv_at hl 3 rfl) ?_
    refine va_iald hx hb hK hP 6 0 rfl rfl hw.1 dX9_stands_10 ?_
    have hw := hw.2
    refine lv_icmp_ge (tgt := 216) hx hb dX9_stands_11 (by decide) (fun c_11 => ?_) (fun c_11 => ?_)
    · have hw := hw.1 c_11
      refine lv_iconst (v := 1) hx hb dX9_stands_216 (by decide) ?_
      exact W.zret (v := (1 : Int32)) hx hb hr rfl (fun t ht hW => ⟨⟨(1 : Int32), (S, G), rfl, hw, by rw [ht]; exact hP, va_K.moved hW.alike hK, hD⟩, hS.F ht⟩) hS.2.2 dX9_stands_217
    · have hw := hw.2 c_11
      refine lv_iload hx hb dX9_stands_14 (lv_at hl 5 rfl) ?_
      refine lv_if_le (tgt := 35) hx hb dX9_stands_16 (by decide) (fun c_16 => ?_) (fun c_16 => ?_)
      · have hw := hw.1 c_16
        exact tb_X9_stands_35 C ih S G a1 a2 a3 a4 a5 hw H locs hP hD hS ls (lv_sub hl [0, 1, 2, 3, 4, 5] rfl)
      · have hw := hw.2 c_16
        refine lv_aload_n hx hb dX9_stands_19 rfl (lv_at hl 0 rfl) ?_
        refine lv_iload_n hx hb dX9_stands_20 rfl (lv_at hl 1 rfl) ?_
        refine lv_iload_n hx hb dX9_stands_21 rfl (lv_at hl 2 rfl) ?_
        refine lv_iload hx hb dX9_stands_22 (lv_at hl 5 rfl) ?_
        refine lv_iadd hx hb dX9_stands_24 ?_
        refine lv_iconst (v := 1) hx hb dX9_stands_25 (by decide) ?_
        refine lv_isub hx hb dX9_stands_26 ?_
        have hFc := mFree hD hS hA
        refine va_calli (va_runV (As := [.int a1, .int ((a2 + a5) - (1 : Int32))]) (rest := []) ⟨hx, hb, hml, hown, hts⟩ (c_X9_isTogether l dC dI cI cJ cZ o ad S G H.size a1 ((a2 + a5) - (1 : Int32)) _ hw) (cwV 2 hts gX9_stands_X9_isTogether rfl rfl rfl (by decide +kernel) ⟨Nat.le_of_ble_eq_true rfl, Nat.le_of_ble_eq_true rfl⟩) (mPreV [.int a1, .int ((a2 + a5) - (1 : Int32))] hK hP hD) rfl rfl hl.1 rfl (lv_room (Nat.le_of_ble_eq_true rfl)) dX9_stands_27 ⟨Nat.zero_le _, Nat.zero_le _⟩) hS (fun q _ h => hFc q h) hFc (fun r_27 u t H1 locs ht hvm hw hB hz1 hk1 hS => ?_)
        obtain ⟨S_27, G_27⟩ := u
        obtain ⟨hP, -, hD1⟩ := hB
        rw [ht] at hP
        have hw := id hw
        have hP : va_P (dC, dI) vwCl (mW cI cJ cZ o ad S_27 G_27) H1 := hP
        have hD : va_D A (mW cI cJ cZ o ad S_27 G_27) := mGain hD1 hFc
        generalize H1 = H at hP hS ⊢
        refine lv_if_ne (tgt := 35) hx hb dX9_stands_30 (by decide) (fun c_30 => ?_) (fun c_30 => ?_)
        · have hw := hw.1 c_30
          exact tb_X9_stands_35 C ih S_27 G_27 a1 a2 a3 a4 a5 hw H locs hP hD hS ls (lv_sub hl [0, 1, 2, 3, 4, 5] rfl)
        · have hw := hw.2 c_30
          refine lv_iconst (v := 0) hx hb dX9_stands_33 (by decide) ?_
          exact W.zret (v := (0 : Int32)) hx hb hr rfl (fun t ht hW => ⟨⟨(0 : Int32), (S_27, G_27), rfl, hw, by rw [ht]; exact hP, va_K.moved hW.alike hK, hD⟩, hS.F ht⟩) hS.2.2 dX9_stands_34
set_option maxHeartbeats 4000000 in
set_option maxRecDepth 100000 in
theorem tb_X9_stands_0 {p : Program} {l : Launch} {e : Env} {s : State} {m : MethodId} {below : List Frame} {meth : Method} {c : Code} {args : Array Value} {dC : Nat → ClassId} {dI : Nat → Nat → Nat} {cI cJ cZ : ClassId} {o : Nat} {ad : Nat → Nat} {A : Nat → Prop} {Q : Int32 → mS → mG → Prop} (C : mCx p s m args meth c cX9_stands 11 (some .boolean) wsX9_stands A dC dI cI cJ cZ) : ∀ (S : mS) (G : mG) (a1 : Int32) (a2 : Int32) (a3 : Int32) (a4 : Int32), wp_X9_stands_0 Q  S G a1 a2 a3 a4 → mAt p l e rm_X9_stands s m args below meth c dC dI cI cJ cZ o ad A (MQ below (va_Qi (fun r (u : mS × mG) => Q r u.1 u.2) (mB dC dI cI cJ cZ o ad A) A) args s 0 0 A) 0 11 [(0, .ref o), (1, .int a1), (2, .int a2), (3, .int a3), (4, .int a4)] [] S G := by
  obtain ⟨hx, hb, hml, hown, hts, hr, hlocks, hA, hK⟩ := id C
  intro S G a1 a2 a3 a4 hw H locs hP hD hS ls hl
  rw [wp_X9_stands_0] at hw
  refine lv_iconst (v := 0) hx hb dX9_stands_0 (by decide) ?_
  refine lv_istore (lv' := [(5, .int (0 : Int32)), (0, .ref o), (1, .int a1), (2, .int a2), (3, .int a3), (4, .int a4)]) hx hb dX9_stands_1 hl (by decide) rfl (fun ls hl => ?_)
  obtain ⟨n9, hw⟩ := hw
  exact tb_X9_stands_3 C  n9 S G a1 a2 a3 a4 (0 : Int32) hw H locs hP hD hS ls (lv_sub hl [1, 2, 3, 4, 5, 0] rfl)
set_option maxHeartbeats 4000000 in
set_option maxRecDepth 100000 in
theorem c_X9_stands (l : Launch) (dC : Nat → ClassId) (dI : Nat → Nat → Nat) (cI cJ cZ : ClassId) (o : Nat) (ad : Nat → Nat) (S : mS) (G : mG) (sz : Nat) (a1 : Int32) (a2 : Int32) (a3 : Int32) (a4 : Int32) (Q : Int32 → mS → mG → Prop) (hw : wp_X9_stands_0 Q S G a1 a2 a3 a4) : Met l yX9_stands wsX9_stands rm_X9_stands (va_Pc [.ref o, .int a1, .int a2, .int a3, .int a4] (mPre dC dI cI cJ cZ o ad S G sz)) (va_Qi (fun r (u : mS × mG) => Q r u.1 u.2) (mB dC dI cI cJ cZ o ad (mA cI cJ cZ o ad S G sz)) (mA cI cJ cZ o ad S G sz)) 0 0 (mA cI cJ cZ o ad S G sz) := by
  refine Met.ofW (cc := cX9_stands) (maxL := 11) (ret := (some .boolean)) (by decide) rfl ?_
  intro p e s m args below meth c s₁ B hml hv
  obtain ⟨rfl, hsz, hP, hK, hD0⟩ := hv
  subst hsz
  have hl := lv_entry ([.ref o, .int a1, .int a2, .int a3, .int a4]) (n := 11) (Nat.le_of_ble_eq_true rfl)
  rw [lg_entry_eq]
  generalize (lg_sl ([.ref o, .int a1, .int a2, .int a3, .int a4]) ++ List.replicate (11 - (lg_sl ([.ref o, .int a1, .int a2, .int a3, .int a4])).length) Slot.unset).toArray = ls at hl ⊢
  exact tb_X9_stands_0 (Q := Q) (p := p) ⟨B.exec, B.bytes, hml, findClass_of_methodNamed B.named, atoms_spec (ws := wsX9_stands) B.pre, B.returns, B.notSynchronized, fun q h => Or.inr h, hK⟩ S G a1 a2 a3 a4 hw s.heap [] hP (hD0.self (sz := s.heap.size)) va_S.rf ls hl
theorem iw_X9_way : ∀ w ∈ u_ws RX9 TX9 38, w ∈ wsX9_way := fun w h => List.mem_cons_of_mem _ (by first | exact List.mem_append_right _ h | decide +kernel +revert)
theorem lk_X9_way_116 : Cond.fieldLink RX9 116 "TermKeeperModel" "endings" "I" ∈ wsX9_way := by decide +kernel
abbrev rm_X9_way : Room := { frames := 3, cells := 0, slots := 0, locals := 74 }
def wp_X9_way_34 (Q : Int32 → mS → mG → Prop) (S : mS) (G : mG) (a4 : Int32) : Prop :=
    (Q (a4 + (1 : Int32)) S G)
def wp_X9_way_39 (Q : Int32 → mS → mG → Prop) (k3_ : mS → mG → Int32 → Int32 → Int32 → Int32 → Prop) (S : mS) (G : mG) (a1 : Int32) (a2 : Int32) (a3 : Int32) (a4 : Int32) : Prop :=
    (∀ v4_39 : Int32, v4_39 = a4 + (1 : Int32) →
      (k3_ S G a1 a2 a3 v4_39))
def wp_X9_way_3 (Q : Int32 → mS → mG → Prop) : Nat → mS → mG → Int32 → Int32 → Int32 → Int32 → Prop
  | 0, _, _, _, _, _, _ => False
  | n + 1, S, G, a1, a2, a3, a4 =>
    (((S 3 0) ≤ a4 →
      (Q (-1 : Int32) S G))
     ∧ (¬ (S 3 0) ≤ a4 →
      (wp_X9_isForm_0 (fun r_16 S_16 G_16 =>
        ((r_16 = 0 →
          (wp_X9_way_39 Q (wp_X9_way_3 Q  n) S_16 G_16 a1 a2 a3 a4))
         ∧ (¬ r_16 = 0 →
          (wp_X9_stands_0 (fun r_28 S_28 G_28 =>
            ((r_28 = 0 →
              (wp_X9_way_39 Q (wp_X9_way_3 Q  n) S_28 G_28 a1 a2 a3 a4))
             ∧ (¬ r_28 = 0 →
              (wp_X9_way_34 Q  S_28 G_28 a4)))) S_16 G_16 a1 a2 a3 a4)))) S G a3 a4)))
def wp_X9_way_0 (Q : Int32 → mS → mG → Prop) (S : mS) (G : mG) (a1 : Int32) (a2 : Int32) (a3 : Int32) : Prop :=
    (∃ n9 : Nat, wp_X9_way_3 Q  n9 S G a1 a2 a3 (-1 : Int32))
set_option maxHeartbeats 4000000 in
set_option maxRecDepth 100000 in
theorem tb_X9_way_34 {p : Program} {l : Launch} {e : Env} {s : State} {m : MethodId} {below : List Frame} {meth : Method} {c : Code} {args : Array Value} {dC : Nat → ClassId} {dI : Nat → Nat → Nat} {cI cJ cZ : ClassId} {o : Nat} {ad : Nat → Nat} {A : Nat → Prop} {Q : Int32 → mS → mG → Prop} (C : mCx p s m args meth c cX9_way 5 (some .int) wsX9_way A dC dI cI cJ cZ) : ∀ (S : mS) (G : mG) (a4 : Int32), wp_X9_way_34 Q  S G a4 → mAt p l e rm_X9_way s m args below meth c dC dI cI cJ cZ o ad A (MQ below (va_Qi (fun r (u : mS × mG) => Q r u.1 u.2) (mB dC dI cI cJ cZ o ad A) A) args s 0 0 A) 34 5 [(0, .ref o), (4, .int a4)] [] S G := by
  obtain ⟨hx, hb, hml, hown, hts, hr, hlocks, hA, hK⟩ := id C
  intro S G a4 hw H locs hP hD hS ls hl
  rw [wp_X9_way_34] at hw
  refine lv_iload hx hb dX9_way_34 (lv_at hl 1 rfl) ?_
  refine lv_iconst (v := 1) hx hb dX9_way_36 (by decide) ?_
  refine lv_iadd hx hb dX9_way_37 ?_
  exact W.iret (v := (a4 + (1 : Int32))) hx hb hr (fun t ht hW => ⟨⟨(a4 + (1 : Int32)), (S, G), rfl, hw, by rw [ht]; exact hP, va_K.moved hW.alike hK, hD⟩, hS.F ht⟩) hS.2.2 dX9_way_38
set_option maxHeartbeats 4000000 in
set_option maxRecDepth 100000 in
theorem tb_X9_way_39 {p : Program} {l : Launch} {e : Env} {s : State} {m : MethodId} {below : List Frame} {meth : Method} {c : Code} {args : Array Value} {dC : Nat → ClassId} {dI : Nat → Nat → Nat} {cI cJ cZ : ClassId} {o : Nat} {ad : Nat → Nat} {A : Nat → Prop} {Q : Int32 → mS → mG → Prop} (C : mCx p s m args meth c cX9_way 5 (some .int) wsX9_way A dC dI cI cJ cZ) {k3_ : mS → mG → Int32 → Int32 → Int32 → Int32 → Prop} (h3_ : ∀ (S : mS) (G : mG) (a1 : Int32) (a2 : Int32) (a3 : Int32) (a4 : Int32), k3_ S G a1 a2 a3 a4 → mAt p l e rm_X9_way s m args below meth c dC dI cI cJ cZ o ad A (MQ below (va_Qi (fun r (u : mS × mG) => Q r u.1 u.2) (mB dC dI cI cJ cZ o ad A) A) args s 0 0 A) 3 5 [(0, .ref o), (1, .int a1), (2, .int a2), (3, .int a3), (4, .int a4)] [] S G) : ∀ (S : mS) (G : mG) (a1 : Int32) (a2 : Int32) (a3 : Int32) (a4 : Int32), wp_X9_way_39 Q k3_ S G a1 a2 a3 a4 → mAt p l e rm_X9_way s m args below meth c dC dI cI cJ cZ o ad A (MQ below (va_Qi (fun r (u : mS × mG) => Q r u.1 u.2) (mB dC dI cI cJ cZ o ad A) A) args s 0 0 A) 39 5 [(0, .ref o), (1, .int a1), (2, .int a2), (3, .int a3), (4, .int a4)] [] S G := by
  obtain ⟨hx, hb, hml, hown, hts, hr, hlocks, hA, hK⟩ := id C
  intro S G a1 a2 a3 a4 hw H locs hP hD hS ls hl
  rw [wp_X9_way_39] at hw
  obtain ⟨v4_39, ev4_39⟩ : ∃ y : Int32, y = a4 + (1 : Int32) := ⟨_, rfl⟩
  have hw := hw v4_39 ev4_39
  refine lv_iinc (v := v4_39) (lv' := [(4, .int v4_39), (0, .ref o), (1, .int a1), (2, .int a2), (3, .int a3)]) hx hb dX9_way_39 hl (k := 4) rfl (by rw [ev4_39]; rfl) (by decide) rfl (fun ls hl => ?_)
  refine lv_goto (tgt := 3) hx hb dX9_way_42 (by decide) ?_
  exact h3_ S G a1 a2 a3 v4_39 hw H locs hP hD hS ls (lv_sub hl [1, 2, 3, 4, 0] rfl)
set_option maxHeartbeats 4000000 in
set_option maxRecDepth 100000 in
theorem tb_X9_way_3 {p : Program} {l : Launch} {e : Env} {s : State} {m : MethodId} {below : List Frame} {meth : Method} {c : Code} {args : Array Value} {dC : Nat → ClassId} {dI : Nat → Nat → Nat} {cI cJ cZ : ClassId} {o : Nat} {ad : Nat → Nat} {A : Nat → Prop} {Q : Int32 → mS → mG → Prop} (C : mCx p s m args meth c cX9_way 5 (some .int) wsX9_way A dC dI cI cJ cZ) : ∀ (n : Nat) (S : mS) (G : mG) (a1 : Int32) (a2 : Int32) (a3 : Int32) (a4 : Int32), wp_X9_way_3 Q  n S G a1 a2 a3 a4 → mAt p l e rm_X9_way s m args below meth c dC dI cI cJ cZ o ad A (MQ below (va_Qi (fun r (u : mS × mG) => Q r u.1 u.2) (mB dC dI cI cJ cZ o ad A) A) args s 0 0 A) 3 5 [(0, .ref o), (1, .int a1), (2, .int a2), (3, .int a3), (4, .int a4)] [] S G := by
  obtain ⟨hx, hb, hml, hown, hts, hr, hlocks, hA, hK⟩ := id C
  intro n
  induction n with
  | zero => intro S G a1 a2 a3 a4 hw; exact hw.elim
  | succ n ih =>
    intro S G a1 a2 a3 a4 hw H locs hP hD hS ls hl
    rw [wp_X9_way_3] at hw
    refine lv_iload hx hb dX9_way_3 (lv_at hl 4 rfl) ?_
    refine lv_aload_n hx hb dX9_way_5 rfl (lv_at hl 0 rfl) ?_
    refine va_get (D := (dC, dI)) (ci := 10) (v := .int (S 3 0)) (C := RX9) (T := TX9) (N := 38) hx hb hts iw_X9_way hown hK hP 0 rfl rfl 3 (by decide) (hts _ lk_X9_way_116) (fun _ h9 => h9) rfl dX9_way_6 ?_
    refine lv_icmp_ge (tgt := 45) hx hb dX9_way_9 (by decide) (fun c_9 => ?_) (fun c_9 => ?_)
    · have hw := hw.1 c_9
      refine lv_iconst (v := -1) hx hb dX9_way_45 (by decide) ?_
      exact W.iret (v := (-1 : Int32)) hx hb hr (fun t ht hW => ⟨⟨(-1 : Int32), (S, G), rfl, hw, by rw [ht]; exact hP, va_K.moved hW.alike hK, hD⟩, hS.F ht⟩) hS.2.2 dX9_way_46
    · have hw := hw.2 c_9
      refine lv_aload_n hx hb dX9_way_12 rfl (lv_at hl 0 rfl) ?_
      refine lv_iload_n hx hb dX9_way_13 rfl (lv_at hl 3 rfl) ?_
      refine lv_iload hx hb dX9_way_14 (lv_at hl 4 rfl) ?_
      have hFc := mFree hD hS hA
      refine va_calli (va_runV (As := [.int a3, .int a4]) (rest := []) ⟨hx, hb, hml, hown, hts⟩ (c_X9_isForm l dC dI cI cJ cZ o ad S G H.size a3 a4 _ hw) (cwV 2 hts gX9_way_X9_isForm rfl rfl rfl (by decide +kernel) ⟨Nat.le_of_ble_eq_true rfl, Nat.le_of_ble_eq_true rfl⟩) (mPreV [.int a3, .int a4] hK hP hD) rfl rfl hl.1 rfl (lv_room (Nat.le_of_ble_eq_true rfl)) dX9_way_16 ⟨Nat.zero_le _, Nat.zero_le _⟩) hS (fun q _ h => hFc q h) hFc (fun r_16 u t H1 locs ht hvm hw hB hz1 hk1 hS => ?_)
      obtain ⟨S_16, G_16⟩ := u
      obtain ⟨hP, -, hD1⟩ := hB
      rw [ht] at hP
      have hw := id hw
      have hP : va_P (dC, dI) vwCl (mW cI cJ cZ o ad S_16 G_16) H1 := hP
      have hD : va_D A (mW cI cJ cZ o ad S_16 G_16) := mGain hD1 hFc
      generalize H1 = H at hP hS ⊢
      refine lv_if_eq (tgt := 39) hx hb dX9_way_19 (by decide) (fun c_19 => ?_) (fun c_19 => ?_)
      · have hw := hw.1 c_19
        exact tb_X9_way_39 C ih S_16 G_16 a1 a2 a3 a4 hw H locs hP hD hS ls (lv_sub hl [0, 1, 2, 3, 4] rfl)
      · have hw := hw.2 c_19
        refine lv_aload_n hx hb dX9_way_22 rfl (lv_at hl 0 rfl) ?_
        refine lv_iload_n hx hb dX9_way_23 rfl (lv_at hl 1 rfl) ?_
        refine lv_iload_n hx hb dX9_way_24 rfl (lv_at hl 2 rfl) ?_
        refine lv_iload_n hx hb dX9_way_25 rfl (lv_at hl 3 rfl) ?_
        refine lv_iload hx hb dX9_way_26 (lv_at hl 4 rfl) ?_
        have hFc := mFree hD hS hA
        refine va_calli (va_runV (As := [.int a1, .int a2, .int a3, .int a4]) (rest := []) ⟨hx, hb, hml, hown, hts⟩ (c_X9_stands l dC dI cI cJ cZ o ad S_16 G_16 H.size a1 a2 a3 a4 _ hw) (cwV 4 hts gX9_way_X9_stands rfl rfl rfl (by decide +kernel) ⟨Nat.le_of_ble_eq_true rfl, Nat.le_of_ble_eq_true rfl⟩) (mPreV [.int a1, .int a2, .int a3, .int a4] hK hP hD) rfl rfl hl.1 rfl (lv_room (Nat.le_of_ble_eq_true rfl)) dX9_way_28 ⟨Nat.zero_le _, Nat.zero_le _⟩) hS (fun q _ h => hFc q h) hFc (fun r_28 u t H1 locs ht hvm hw hB hz1 hk1 hS => ?_)
        obtain ⟨S_28, G_28⟩ := u
        obtain ⟨hP, -, hD1⟩ := hB
        rw [ht] at hP
        have hw := id hw
        have hP : va_P (dC, dI) vwCl (mW cI cJ cZ o ad S_28 G_28) H1 := hP
        have hD : va_D A (mW cI cJ cZ o ad S_28 G_28) := mGain hD1 hFc
        generalize H1 = H at hP hS ⊢
        refine lv_if_eq (tgt := 39) hx hb dX9_way_31 (by decide) (fun c_31 => ?_) (fun c_31 => ?_)
        · have hw := hw.1 c_31
          exact tb_X9_way_39 C ih S_28 G_28 a1 a2 a3 a4 hw H locs hP hD hS ls (lv_sub hl [0, 1, 2, 3, 4] rfl)
        · have hw := hw.2 c_31
          exact tb_X9_way_34 C  S_28 G_28 a4 hw H locs hP hD hS ls (lv_sub hl [0, 4] rfl)
set_option maxHeartbeats 4000000 in
set_option maxRecDepth 100000 in
theorem tb_X9_way_0 {p : Program} {l : Launch} {e : Env} {s : State} {m : MethodId} {below : List Frame} {meth : Method} {c : Code} {args : Array Value} {dC : Nat → ClassId} {dI : Nat → Nat → Nat} {cI cJ cZ : ClassId} {o : Nat} {ad : Nat → Nat} {A : Nat → Prop} {Q : Int32 → mS → mG → Prop} (C : mCx p s m args meth c cX9_way 5 (some .int) wsX9_way A dC dI cI cJ cZ) : ∀ (S : mS) (G : mG) (a1 : Int32) (a2 : Int32) (a3 : Int32), wp_X9_way_0 Q  S G a1 a2 a3 → mAt p l e rm_X9_way s m args below meth c dC dI cI cJ cZ o ad A (MQ below (va_Qi (fun r (u : mS × mG) => Q r u.1 u.2) (mB dC dI cI cJ cZ o ad A) A) args s 0 0 A) 0 5 [(0, .ref o), (1, .int a1), (2, .int a2), (3, .int a3)] [] S G := by
  obtain ⟨hx, hb, hml, hown, hts, hr, hlocks, hA, hK⟩ := id C
  intro S G a1 a2 a3 hw H locs hP hD hS ls hl
  rw [wp_X9_way_0] at hw
  refine lv_iconst (v := -1) hx hb dX9_way_0 (by decide) ?_
  refine lv_istore (lv' := [(4, .int (-1 : Int32)), (0, .ref o), (1, .int a1), (2, .int a2), (3, .int a3)]) hx hb dX9_way_1 hl (by decide) rfl (fun ls hl => ?_)
  obtain ⟨n9, hw⟩ := hw
  exact tb_X9_way_3 C  n9 S G a1 a2 a3 (-1 : Int32) hw H locs hP hD hS ls (lv_sub hl [1, 2, 3, 4, 0] rfl)
set_option maxHeartbeats 4000000 in
set_option maxRecDepth 100000 in
theorem c_X9_way (l : Launch) (dC : Nat → ClassId) (dI : Nat → Nat → Nat) (cI cJ cZ : ClassId) (o : Nat) (ad : Nat → Nat) (S : mS) (G : mG) (sz : Nat) (a1 : Int32) (a2 : Int32) (a3 : Int32) (Q : Int32 → mS → mG → Prop) (hw : wp_X9_way_0 Q S G a1 a2 a3) : Met l yX9_way wsX9_way rm_X9_way (va_Pc [.ref o, .int a1, .int a2, .int a3] (mPre dC dI cI cJ cZ o ad S G sz)) (va_Qi (fun r (u : mS × mG) => Q r u.1 u.2) (mB dC dI cI cJ cZ o ad (mA cI cJ cZ o ad S G sz)) (mA cI cJ cZ o ad S G sz)) 0 0 (mA cI cJ cZ o ad S G sz) := by
  refine Met.ofW (cc := cX9_way) (maxL := 5) (ret := (some .int)) (by decide) rfl ?_
  intro p e s m args below meth c s₁ B hml hv
  obtain ⟨rfl, hsz, hP, hK, hD0⟩ := hv
  subst hsz
  have hl := lv_entry ([.ref o, .int a1, .int a2, .int a3]) (n := 5) (Nat.le_of_ble_eq_true rfl)
  rw [lg_entry_eq]
  generalize (lg_sl ([.ref o, .int a1, .int a2, .int a3]) ++ List.replicate (5 - (lg_sl ([.ref o, .int a1, .int a2, .int a3])).length) Slot.unset).toArray = ls at hl ⊢
  exact tb_X9_way_0 (Q := Q) (p := p) ⟨B.exec, B.bytes, hml, findClass_of_methodNamed B.named, atoms_spec (ws := wsX9_way) B.pre, B.returns, B.notSynchronized, fun q h => Or.inr h, hK⟩ S G a1 a2 a3 hw s.heap [] hP (hD0.self (sz := s.heap.size)) va_S.rf ls hl
theorem iw_X9_score : ∀ w ∈ u_ws RX9 TX9 38, w ∈ wsX9_score := fun w h => List.mem_cons_of_mem _ (by first | exact List.mem_append_right _ h | decide +kernel +revert)
theorem lk_X9_score_37 : Cond.fieldLink RX9 37 "TermKeeperModel" "neighbour" "[I" ∈ wsX9_score := by decide +kernel
theorem lk_X9_score_40 : Cond.fieldLink RX9 40 "TermKeeperModel" "neighbourSize" "[I" ∈ wsX9_score := by decide +kernel
theorem lk_X9_score_43 : Cond.fieldLink RX9 43 "TermKeeperModel" "neighbours" "[I" ∈ wsX9_score := by decide +kernel
theorem lk_X9_score_60 : Cond.fieldLink RX9 60 "TermKeeperModel" "begin" "[I" ∈ wsX9_score := by decide +kernel
theorem lk_X9_score_63 : Cond.fieldLink RX9 63 "TermKeeperModel" "end" "[I" ∈ wsX9_score := by decide +kernel
theorem lk_X9_score_66 : Cond.fieldLink RX9 66 "TermKeeperModel" "sentence" "[I" ∈ wsX9_score := by decide +kernel
theorem lk_X9_score_143 : Cond.fieldLink RX9 143 "TermKeeperModel" "found" "I" ∈ wsX9_score := by decide +kernel
abbrev rm_X9_score : Room := { frames := 2, cells := 0, slots := 0, locals := 40 }
def wp_X9_score_170 (Q : Int32 → mS → mG → Prop) (k6_ : mS → mG → Int32 → Int32 → Int32 → Int32 → Int32 → Int32 → Prop) (k49_ : mS → mG → Int32 → Int32 → Int32 → Int32 → Int32 → Int32 → Int32 → Prop) (k102_ : mS → mG → Int32 → Int32 → Int32 → Int32 → Int32 → Int32 → Int32 → Int32 → Int32 → Prop) (S : mS) (G : mG) (a1 : Int32) (a2 : Int32) (a3 : Int32) (a4 : Int32) (a5 : Int32) (a6 : Int32) (a7 : Int32) (a9 : Int32) (k0 : Int32) : Prop :=
    (∀ v9_172 : Int32, v9_172 = a9 + (1 : Int32) →
      (k102_ S G a1 a2 a3 a4 a5 a6 a7 k0 v9_172))
def wp_X9_score_186 (Q : Int32 → mS → mG → Prop) (k6_ : mS → mG → Int32 → Int32 → Int32 → Int32 → Int32 → Int32 → Prop) (k49_ : mS → mG → Int32 → Int32 → Int32 → Int32 → Int32 → Int32 → Int32 → Prop) (S : mS) (G : mG) (a1 : Int32) (a2 : Int32) (a3 : Int32) (a4 : Int32) (a5 : Int32) (a6 : Int32) (a7 : Int32) : Prop :=
    (∀ v7_186 : Int32, v7_186 = a7 + (1 : Int32) →
      (k49_ S G a1 a2 a3 a4 a5 a6 v7_186))
def wp_X9_score_178 (Q : Int32 → mS → mG → Prop) (k6_ : mS → mG → Int32 → Int32 → Int32 → Int32 → Int32 → Int32 → Prop) (k49_ : mS → mG → Int32 → Int32 → Int32 → Int32 → Int32 → Int32 → Int32 → Prop) (S : mS) (G : mG) (a1 : Int32) (a2 : Int32) (a3 : Int32) (a4 : Int32) (a5 : Int32) (a6 : Int32) (a7 : Int32) (a8 : Int32) : Prop :=
    ((a8 = 0 →
      (wp_X9_score_186 Q k6_ k49_ S G a1 a2 a3 a4 a5 a6 a7))
     ∧ (¬ a8 = 0 →
      (∀ v5_183 : Int32, v5_183 = a5 + (1 : Int32) →
        (wp_X9_score_186 Q k6_ k49_ S G a1 a2 a3 a4 v5_183 a6 a7))))
def wp_X9_score_102 (Q : Int32 → mS → mG → Prop) (k6_ : mS → mG → Int32 → Int32 → Int32 → Int32 → Int32 → Int32 → Prop) (k49_ : mS → mG → Int32 → Int32 → Int32 → Int32 → Int32 → Int32 → Int32 → Prop) : Nat → mS → mG → Int32 → Int32 → Int32 → Int32 → Int32 → Int32 → Int32 → Int32 → Int32 → Prop
  | 0, _, _, _, _, _, _, _, _, _, _, _ => False
  | n + 1, S, G, a1, a2, a3, a4, a5, a6, a7, a8, a9 =>
    (vp_in (((8 : Int32) * a4) + a7) 320 ∧
      (((S 15 (Int32.toNatClampNeg (((8 : Int32) * a4) + a7))) ≤ a9 →
        (wp_X9_score_178 Q k6_ k49_ S G a1 a2 a3 a4 a5 a6 a7 a8))
       ∧ (¬ (S 15 (Int32.toNatClampNeg (((8 : Int32) * a4) + a7))) ≤ a9 →
        ((a8 = 0 →
          (wp_X9_score_178 Q k6_ k49_ S G a1 a2 a3 a4 a5 a6 a7 a8))
         ∧ (¬ a8 = 0 →
          (vp_in ((((96 : Int32) * a4) + ((12 : Int32) * a7)) + a9) 3840 ∧
            (vp_in a6 301 ∧
              (wp_X9_at_0 (fun r_156 S_156 G_156 =>
                (wp_X9_letterOf_0 (fun r_159 =>
                  ((¬ (S 14 (Int32.toNatClampNeg ((((96 : Int32) * a4) + ((12 : Int32) * a7)) + a9))) = r_159 →
                    (wp_X9_score_170 Q k6_ k49_ (wp_X9_score_102 Q k6_ k49_ n) S_156 G_156 a1 a2 a3 a4 a5 a6 a7 a9 (0 : Int32)))
                   ∧ ((S 14 (Int32.toNatClampNeg ((((96 : Int32) * a4) + ((12 : Int32) * a7)) + a9))) = r_159 →
                    (wp_X9_score_170 Q k6_ k49_ (wp_X9_score_102 Q k6_ k49_ n) S_156 G_156 a1 a2 a3 a4 a5 a6 a7 a9 (1 : Int32))))) r_156)) S G a1 ((S 22 (Int32.toNatClampNeg a6)) + a9)))))))))
def wp_X9_score_97 (Q : Int32 → mS → mG → Prop) (k6_ : mS → mG → Int32 → Int32 → Int32 → Int32 → Int32 → Int32 → Prop) (k49_ : mS → mG → Int32 → Int32 → Int32 → Int32 → Int32 → Int32 → Int32 → Prop) (S : mS) (G : mG) (a1 : Int32) (a2 : Int32) (a3 : Int32) (a4 : Int32) (a5 : Int32) (a6 : Int32) (a7 : Int32) (k0 : Int32) : Prop :=
    (∃ n9 : Nat, wp_X9_score_102 Q k6_ k49_ n9 S G a1 a2 a3 a4 a5 a6 a7 k0 (0 : Int32))
def wp_X9_score_192 (Q : Int32 → mS → mG → Prop) (k6_ : mS → mG → Int32 → Int32 → Int32 → Int32 → Int32 → Int32 → Prop) (S : mS) (G : mG) (a1 : Int32) (a2 : Int32) (a3 : Int32) (a4 : Int32) (a5 : Int32) (a6 : Int32) : Prop :=
    (∀ v6_192 : Int32, v6_192 = a6 + (1 : Int32) →
      (k6_ S G a1 a2 a3 a4 a5 v6_192))
def wp_X9_score_49 (Q : Int32 → mS → mG → Prop) (k6_ : mS → mG → Int32 → Int32 → Int32 → Int32 → Int32 → Int32 → Prop) : Nat → mS → mG → Int32 → Int32 → Int32 → Int32 → Int32 → Int32 → Int32 → Prop
  | 0, _, _, _, _, _, _, _, _, _ => False
  | n + 1, S, G, a1, a2, a3, a4, a5, a6, a7 =>
    (vp_in a4 40 ∧
      (((S 16 (Int32.toNatClampNeg a4)) ≤ a7 →
        (wp_X9_score_192 Q k6_ S G a1 a2 a3 a4 a5 a6))
       ∧ (¬ (S 16 (Int32.toNatClampNeg a4)) ≤ a7 →
        (vp_in (((8 : Int32) * a4) + a7) 320 ∧
          (vp_in a6 301 ∧
            (vp_in a6 301 ∧
              ((¬ (S 15 (Int32.toNatClampNeg (((8 : Int32) * a4) + a7))) = ((S 23 (Int32.toNatClampNeg a6)) - (S 22 (Int32.toNatClampNeg a6))) →
                (wp_X9_score_97 Q k6_ (wp_X9_score_49 Q k6_ n) S G a1 a2 a3 a4 a5 a6 a7 (0 : Int32)))
               ∧ ((S 15 (Int32.toNatClampNeg (((8 : Int32) * a4) + a7))) = ((S 23 (Int32.toNatClampNeg a6)) - (S 22 (Int32.toNatClampNeg a6))) →
                (wp_X9_score_97 Q k6_ (wp_X9_score_49 Q k6_ n) S G a1 a2 a3 a4 a5 a6 a7 (1 : Int32))))))))))
def wp_X9_score_46 (Q : Int32 → mS → mG → Prop) (k6_ : mS → mG → Int32 → Int32 → Int32 → Int32 → Int32 → Int32 → Prop) (S : mS) (G : mG) (a1 : Int32) (a2 : Int32) (a3 : Int32) (a4 : Int32) (a5 : Int32) (a6 : Int32) : Prop :=
    (∃ n9 : Nat, wp_X9_score_49 Q k6_ n9 S G a1 a2 a3 a4 a5 a6 (0 : Int32))
def wp_X9_score_6 (Q : Int32 → mS → mG → Prop) : Nat → mS → mG → Int32 → Int32 → Int32 → Int32 → Int32 → Int32 → Prop
  | 0, _, _, _, _, _, _, _, _ => False
  | n + 1, S, G, a1, a2, a3, a4, a5, a6 =>
    (((S 21 0) ≤ a6 →
      (Q a5 S G))
     ∧ (¬ (S 21 0) ≤ a6 →
      (vp_in a6 301 ∧
        (vp_in a2 301 ∧
          ((¬ (S 24 (Int32.toNatClampNeg a6)) = (S 24 (Int32.toNatClampNeg a2)) →
            (wp_X9_score_192 Q (wp_X9_score_6 Q  n) S G a1 a2 a3 a4 a5 a6))
           ∧ ((S 24 (Int32.toNatClampNeg a6)) = (S 24 (Int32.toNatClampNeg a2)) →
            ((a6 < a2 →
              (wp_X9_score_46 Q (wp_X9_score_6 Q  n) S G a1 a2 a3 a4 a5 a6))
             ∧ (¬ a6 < a2 →
              ((a3 ≤ a6 →
                (wp_X9_score_46 Q (wp_X9_score_6 Q  n) S G a1 a2 a3 a4 a5 a6))
               ∧ (¬ a3 ≤ a6 →
                (wp_X9_score_192 Q (wp_X9_score_6 Q  n) S G a1 a2 a3 a4 a5 a6)))))))))))
def wp_X9_score_0 (Q : Int32 → mS → mG → Prop) (S : mS) (G : mG) (a1 : Int32) (a2 : Int32) (a3 : Int32) (a4 : Int32) : Prop :=
    (∃ n9 : Nat, wp_X9_score_6 Q  n9 S G a1 a2 a3 a4 (0 : Int32) (0 : Int32))
set_option maxHeartbeats 4000000 in
set_option maxRecDepth 100000 in
theorem tb_X9_score_170 {p : Program} {l : Launch} {e : Env} {s : State} {m : MethodId} {below : List Frame} {meth : Method} {c : Code} {args : Array Value} {dC : Nat → ClassId} {dI : Nat → Nat → Nat} {cI cJ cZ : ClassId} {o : Nat} {ad : Nat → Nat} {A : Nat → Prop} {Q : Int32 → mS → mG → Prop} (C : mCx p s m args meth c cX9_score 10 (some .int) wsX9_score A dC dI cI cJ cZ) {k6_ : mS → mG → Int32 → Int32 → Int32 → Int32 → Int32 → Int32 → Prop} (h6_ : ∀ (S : mS) (G : mG) (a1 : Int32) (a2 : Int32) (a3 : Int32) (a4 : Int32) (a5 : Int32) (a6 : Int32), k6_ S G a1 a2 a3 a4 a5 a6 → mAt p l e rm_X9_score s m args below meth c dC dI cI cJ cZ o ad A (MQ below (va_Qi (fun r (u : mS × mG) => Q r u.1 u.2) (mB dC dI cI cJ cZ o ad A) A) args s 0 0 A) 6 10 [(0, .ref o), (1, .int a1), (2, .int a2), (3, .int a3), (4, .int a4), (5, .int a5), (6, .int a6)] [] S G) {k49_ : mS → mG → Int32 → Int32 → Int32 → Int32 → Int32 → Int32 → Int32 → Prop} (h49_ : ∀ (S : mS) (G : mG) (a1 : Int32) (a2 : Int32) (a3 : Int32) (a4 : Int32) (a5 : Int32) (a6 : Int32) (a7 : Int32), k49_ S G a1 a2 a3 a4 a5 a6 a7 → mAt p l e rm_X9_score s m args below meth c dC dI cI cJ cZ o ad A (MQ below (va_Qi (fun r (u : mS × mG) => Q r u.1 u.2) (mB dC dI cI cJ cZ o ad A) A) args s 0 0 A) 49 10 [(0, .ref o), (1, .int a1), (2, .int a2), (3, .int a3), (4, .int a4), (5, .int a5), (6, .int a6), (7, .int a7)] [] S G) {k102_ : mS → mG → Int32 → Int32 → Int32 → Int32 → Int32 → Int32 → Int32 → Int32 → Int32 → Prop} (h102_ : ∀ (S : mS) (G : mG) (a1 : Int32) (a2 : Int32) (a3 : Int32) (a4 : Int32) (a5 : Int32) (a6 : Int32) (a7 : Int32) (a8 : Int32) (a9 : Int32), k102_ S G a1 a2 a3 a4 a5 a6 a7 a8 a9 → mAt p l e rm_X9_score s m args below meth c dC dI cI cJ cZ o ad A (MQ below (va_Qi (fun r (u : mS × mG) => Q r u.1 u.2) (mB dC dI cI cJ cZ o ad A) A) args s 0 0 A) 102 10 [(0, .ref o), (1, .int a1), (2, .int a2), (3, .int a3), (4, .int a4), (5, .int a5), (6, .int a6), (7, .int a7), (8, .int a8), (9, .int a9)] [] S G) : ∀ (S : mS) (G : mG) (a1 : Int32) (a2 : Int32) (a3 : Int32) (a4 : Int32) (a5 : Int32) (a6 : Int32) (a7 : Int32) (a9 : Int32) (k0 : Int32), wp_X9_score_170 Q k6_ k49_ k102_ S G a1 a2 a3 a4 a5 a6 a7 a9 k0 → mAt p l e rm_X9_score s m args below meth c dC dI cI cJ cZ o ad A (MQ below (va_Qi (fun r (u : mS × mG) => Q r u.1 u.2) (mB dC dI cI cJ cZ o ad A) A) args s 0 0 A) 170 10 [(0, .ref o), (1, .int a1), (2, .int a2), (3, .int a3), (4, .int a4), (5, .int a5), (6, .int a6), (7, .int a7), (9, .int a9)] [.int k0] S G := by
  obtain ⟨hx, hb, hml, hown, hts, hr, hlocks, hA, hK⟩ := id C
  intro S G a1 a2 a3 a4 a5 a6 a7 a9 k0 hw H locs hP hD hS ls hl
  rw [wp_X9_score_170] at hw
  refine lv_istore (lv' := [(8, .int k0), (0, .ref o), (1, .int a1), (2, .int a2), (3, .int a3), (4, .int a4), (5, .int a5), (6, .int a6), (7, .int a7), (9, .int a9)]) hx hb dX9_score_170 hl (by decide) rfl (fun ls hl => ?_)
  obtain ⟨v9_172, ev9_172⟩ : ∃ y : Int32, y = a9 + (1 : Int32) := ⟨_, rfl⟩
  have hw := hw v9_172 ev9_172
  refine lv_iinc (v := v9_172) (lv' := [(9, .int v9_172), (8, .int k0), (0, .ref o), (1, .int a1), (2, .int a2), (3, .int a3), (4, .int a4), (5, .int a5), (6, .int a6), (7, .int a7)]) hx hb dX9_score_172 hl (k := 9) rfl (by rw [ev9_172]; rfl) (by decide) rfl (fun ls hl => ?_)
  refine lv_goto (tgt := 102) hx hb dX9_score_175 (by decide) ?_
  exact h102_ S G a1 a2 a3 a4 a5 a6 a7 k0 v9_172 hw H locs hP hD hS ls (lv_sub hl [2, 3, 4, 5, 6, 7, 8, 9, 1, 0] rfl)
set_option maxHeartbeats 4000000 in
set_option maxRecDepth 100000 in
theorem tb_X9_score_186 {p : Program} {l : Launch} {e : Env} {s : State} {m : MethodId} {below : List Frame} {meth : Method} {c : Code} {args : Array Value} {dC : Nat → ClassId} {dI : Nat → Nat → Nat} {cI cJ cZ : ClassId} {o : Nat} {ad : Nat → Nat} {A : Nat → Prop} {Q : Int32 → mS → mG → Prop} (C : mCx p s m args meth c cX9_score 10 (some .int) wsX9_score A dC dI cI cJ cZ) {k6_ : mS → mG → Int32 → Int32 → Int32 → Int32 → Int32 → Int32 → Prop} (h6_ : ∀ (S : mS) (G : mG) (a1 : Int32) (a2 : Int32) (a3 : Int32) (a4 : Int32) (a5 : Int32) (a6 : Int32), k6_ S G a1 a2 a3 a4 a5 a6 → mAt p l e rm_X9_score s m args below meth c dC dI cI cJ cZ o ad A (MQ below (va_Qi (fun r (u : mS × mG) => Q r u.1 u.2) (mB dC dI cI cJ cZ o ad A) A) args s 0 0 A) 6 10 [(0, .ref o), (1, .int a1), (2, .int a2), (3, .int a3), (4, .int a4), (5, .int a5), (6, .int a6)] [] S G) {k49_ : mS → mG → Int32 → Int32 → Int32 → Int32 → Int32 → Int32 → Int32 → Prop} (h49_ : ∀ (S : mS) (G : mG) (a1 : Int32) (a2 : Int32) (a3 : Int32) (a4 : Int32) (a5 : Int32) (a6 : Int32) (a7 : Int32), k49_ S G a1 a2 a3 a4 a5 a6 a7 → mAt p l e rm_X9_score s m args below meth c dC dI cI cJ cZ o ad A (MQ below (va_Qi (fun r (u : mS × mG) => Q r u.1 u.2) (mB dC dI cI cJ cZ o ad A) A) args s 0 0 A) 49 10 [(0, .ref o), (1, .int a1), (2, .int a2), (3, .int a3), (4, .int a4), (5, .int a5), (6, .int a6), (7, .int a7)] [] S G) : ∀ (S : mS) (G : mG) (a1 : Int32) (a2 : Int32) (a3 : Int32) (a4 : Int32) (a5 : Int32) (a6 : Int32) (a7 : Int32), wp_X9_score_186 Q k6_ k49_ S G a1 a2 a3 a4 a5 a6 a7 → mAt p l e rm_X9_score s m args below meth c dC dI cI cJ cZ o ad A (MQ below (va_Qi (fun r (u : mS × mG) => Q r u.1 u.2) (mB dC dI cI cJ cZ o ad A) A) args s 0 0 A) 186 10 [(0, .ref o), (1, .int a1), (2, .int a2), (3, .int a3), (4, .int a4), (5, .int a5), (6, .int a6), (7, .int a7)] [] S G := by
  obtain ⟨hx, hb, hml, hown, hts, hr, hlocks, hA, hK⟩ := id C
  intro S G a1 a2 a3 a4 a5 a6 a7 hw H locs hP hD hS ls hl
  rw [wp_X9_score_186] at hw
  obtain ⟨v7_186, ev7_186⟩ : ∃ y : Int32, y = a7 + (1 : Int32) := ⟨_, rfl⟩
  have hw := hw v7_186 ev7_186
  refine lv_iinc (v := v7_186) (lv' := [(7, .int v7_186), (0, .ref o), (1, .int a1), (2, .int a2), (3, .int a3), (4, .int a4), (5, .int a5), (6, .int a6)]) hx hb dX9_score_186 hl (k := 7) rfl (by rw [ev7_186]; rfl) (by decide) rfl (fun ls hl => ?_)
  refine lv_goto (tgt := 49) hx hb dX9_score_189 (by decide) ?_
  exact h49_ S G a1 a2 a3 a4 a5 a6 v7_186 hw H locs hP hD hS ls (lv_sub hl [1, 2, 3, 4, 5, 6, 7, 0] rfl)
set_option maxHeartbeats 4000000 in
set_option maxRecDepth 100000 in
theorem tb_X9_score_178 {p : Program} {l : Launch} {e : Env} {s : State} {m : MethodId} {below : List Frame} {meth : Method} {c : Code} {args : Array Value} {dC : Nat → ClassId} {dI : Nat → Nat → Nat} {cI cJ cZ : ClassId} {o : Nat} {ad : Nat → Nat} {A : Nat → Prop} {Q : Int32 → mS → mG → Prop} (C : mCx p s m args meth c cX9_score 10 (some .int) wsX9_score A dC dI cI cJ cZ) {k6_ : mS → mG → Int32 → Int32 → Int32 → Int32 → Int32 → Int32 → Prop} (h6_ : ∀ (S : mS) (G : mG) (a1 : Int32) (a2 : Int32) (a3 : Int32) (a4 : Int32) (a5 : Int32) (a6 : Int32), k6_ S G a1 a2 a3 a4 a5 a6 → mAt p l e rm_X9_score s m args below meth c dC dI cI cJ cZ o ad A (MQ below (va_Qi (fun r (u : mS × mG) => Q r u.1 u.2) (mB dC dI cI cJ cZ o ad A) A) args s 0 0 A) 6 10 [(0, .ref o), (1, .int a1), (2, .int a2), (3, .int a3), (4, .int a4), (5, .int a5), (6, .int a6)] [] S G) {k49_ : mS → mG → Int32 → Int32 → Int32 → Int32 → Int32 → Int32 → Int32 → Prop} (h49_ : ∀ (S : mS) (G : mG) (a1 : Int32) (a2 : Int32) (a3 : Int32) (a4 : Int32) (a5 : Int32) (a6 : Int32) (a7 : Int32), k49_ S G a1 a2 a3 a4 a5 a6 a7 → mAt p l e rm_X9_score s m args below meth c dC dI cI cJ cZ o ad A (MQ below (va_Qi (fun r (u : mS × mG) => Q r u.1 u.2) (mB dC dI cI cJ cZ o ad A) A) args s 0 0 A) 49 10 [(0, .ref o), (1, .int a1), (2, .int a2), (3, .int a3), (4, .int a4), (5, .int a5), (6, .int a6), (7, .int a7)] [] S G) : ∀ (S : mS) (G : mG) (a1 : Int32) (a2 : Int32) (a3 : Int32) (a4 : Int32) (a5 : Int32) (a6 : Int32) (a7 : Int32) (a8 : Int32), wp_X9_score_178 Q k6_ k49_ S G a1 a2 a3 a4 a5 a6 a7 a8 → mAt p l e rm_X9_score s m args below meth c dC dI cI cJ cZ o ad A (MQ below (va_Qi (fun r (u : mS × mG) => Q r u.1 u.2) (mB dC dI cI cJ cZ o ad A) A) args s 0 0 A) 178 10 [(0, .ref o), (1, .int a1), (2, .int a2), (3, .int a3), (4, .int a4), (5, .int a5), (6, .int a6), (7, .int a7), (8, .int a8)] [] S G := by
  obtain ⟨hx, hb, hml, hown, hts, hr, hlocks, hA, hK⟩ := id C
  intro S G a1 a2 a3 a4 a5 a6 a7 a8 hw H locs hP hD hS ls hl
  rw [wp_X9_score_178] at hw
  refine lv_iload hx hb dX9_score_178 (lv_at hl 8 rfl) ?_
  refine lv_if_eq (tgt := 186) hx hb dX9_score_180 (by decide) (fun c_180 => ?_) (fun c_180 => ?_)
  · have hw := hw.1 c_180
    exact tb_X9_score_186 C h6_ h49_ S G a1 a2 a3 a4 a5 a6 a7 hw H locs hP hD hS ls (lv_sub hl [0, 1, 2, 3, 4, 5, 6, 7] rfl)
  · have hw := hw.2 c_180
    obtain ⟨v5_183, ev5_183⟩ : ∃ y : Int32, y = a5 + (1 : Int32) := ⟨_, rfl⟩
    have hw := hw v5_183 ev5_183
    refine lv_iinc (v := v5_183) (lv' := [(5, .int v5_183), (0, .ref o), (1, .int a1), (2, .int a2), (3, .int a3), (4, .int a4), (6, .int a6), (7, .int a7), (8, .int a8)]) hx hb dX9_score_183 hl (k := 5) rfl (by rw [ev5_183]; rfl) (by decide) rfl (fun ls hl => ?_)
    exact tb_X9_score_186 C h6_ h49_ S G a1 a2 a3 a4 v5_183 a6 a7 hw H locs hP hD hS ls (lv_sub hl [1, 2, 3, 4, 5, 0, 6, 7] rfl)
set_option maxHeartbeats 4000000 in
set_option maxRecDepth 100000 in
theorem tb_X9_score_102 {p : Program} {l : Launch} {e : Env} {s : State} {m : MethodId} {below : List Frame} {meth : Method} {c : Code} {args : Array Value} {dC : Nat → ClassId} {dI : Nat → Nat → Nat} {cI cJ cZ : ClassId} {o : Nat} {ad : Nat → Nat} {A : Nat → Prop} {Q : Int32 → mS → mG → Prop} (C : mCx p s m args meth c cX9_score 10 (some .int) wsX9_score A dC dI cI cJ cZ) {k6_ : mS → mG → Int32 → Int32 → Int32 → Int32 → Int32 → Int32 → Prop} (h6_ : ∀ (S : mS) (G : mG) (a1 : Int32) (a2 : Int32) (a3 : Int32) (a4 : Int32) (a5 : Int32) (a6 : Int32), k6_ S G a1 a2 a3 a4 a5 a6 → mAt p l e rm_X9_score s m args below meth c dC dI cI cJ cZ o ad A (MQ below (va_Qi (fun r (u : mS × mG) => Q r u.1 u.2) (mB dC dI cI cJ cZ o ad A) A) args s 0 0 A) 6 10 [(0, .ref o), (1, .int a1), (2, .int a2), (3, .int a3), (4, .int a4), (5, .int a5), (6, .int a6)] [] S G) {k49_ : mS → mG → Int32 → Int32 → Int32 → Int32 → Int32 → Int32 → Int32 → Prop} (h49_ : ∀ (S : mS) (G : mG) (a1 : Int32) (a2 : Int32) (a3 : Int32) (a4 : Int32) (a5 : Int32) (a6 : Int32) (a7 : Int32), k49_ S G a1 a2 a3 a4 a5 a6 a7 → mAt p l e rm_X9_score s m args below meth c dC dI cI cJ cZ o ad A (MQ below (va_Qi (fun r (u : mS × mG) => Q r u.1 u.2) (mB dC dI cI cJ cZ o ad A) A) args s 0 0 A) 49 10 [(0, .ref o), (1, .int a1), (2, .int a2), (3, .int a3), (4, .int a4), (5, .int a5), (6, .int a6), (7, .int a7)] [] S G) : ∀ (n : Nat) (S : mS) (G : mG) (a1 : Int32) (a2 : Int32) (a3 : Int32) (a4 : Int32) (a5 : Int32) (a6 : Int32) (a7 : Int32) (a8 : Int32) (a9 : Int32), wp_X9_score_102 Q k6_ k49_ n S G a1 a2 a3 a4 a5 a6 a7 a8 a9 → mAt p l e rm_X9_score s m args below meth c dC dI cI cJ cZ o ad A (MQ below (va_Qi (fun r (u : mS × mG) => Q r u.1 u.2) (mB dC dI cI cJ cZ o ad A) A) args s 0 0 A) 102 10 [(0, .ref o), (1, .int a1), (2, .int a2), (3, .int a3), (4, .int a4), (5, .int a5), (6, .int a6), (7, .int a7), (8, .int a8), (9, .int a9)] [] S G := by
  obtain ⟨hx, hb, hml, hown, hts, hr, hlocks, hA, hK⟩ := id C
  intro n
  induction n with
  | zero => intro S G a1 a2 a3 a4 a5 a6 a7 a8 a9 hw; exact hw.elim
  | succ n ih =>
    intro S G a1 a2 a3 a4 a5 a6 a7 a8 a9 hw H locs hP hD hS ls hl
    rw [wp_X9_score_102] at hw
    refine lv_iload hx hb dX9_score_102 (lv_at hl 9 rfl) ?_
    refine lv_aload_n hx hb dX9_score_104 rfl (lv_at hl 0 rfl) ?_
    refine va_get (D := (dC, dI)) (ci := 10) (v := .ref (ad 15)) (C := RX9) (T := TX9) (N := 38) hx hb hts iw_X9_score hown hK hP 0 rfl rfl 15 (by decide) (hts _ lk_X9_score_40) (fun _ h9 => h9) rfl dX9_score_105 ?_
    refine lv_bipush (v := 8) hx hb dX9_score_108 (by decide) ?_
    refine lv_iload hx hb dX9_score_110 (lv_at hl 4 rfl) ?_
    refine lv_imul hx hb dX9_score_112 ?_
    refine lv_iload hx hb dX9_score_113 (lv_at hl 7 rfl) ?_
    refine lv_iadd hx hb dX9_score_115 ?_
    refine va_iald hx hb hK hP 11 0 rfl rfl hw.1 dX9_score_116 ?_
    have hw := hw.2
    refine lv_icmp_ge (tgt := 178) hx hb dX9_score_117 (by decide) (fun c_117 => ?_) (fun c_117 => ?_)
    · have hw := hw.1 c_117
      exact tb_X9_score_178 C h6_ h49_ S G a1 a2 a3 a4 a5 a6 a7 a8 hw H locs hP hD hS ls (lv_sub hl [0, 1, 2, 3, 4, 5, 6, 7, 8] rfl)
    · have hw := hw.2 c_117
      refine lv_iload hx hb dX9_score_120 (lv_at hl 8 rfl) ?_
      refine lv_if_eq (tgt := 178) hx hb dX9_score_122 (by decide) (fun c_122 => ?_) (fun c_122 => ?_)
      · have hw := hw.1 c_122
        exact tb_X9_score_178 C h6_ h49_ S G a1 a2 a3 a4 a5 a6 a7 a8 hw H locs hP hD hS ls (lv_sub hl [0, 1, 2, 3, 4, 5, 6, 7, 8] rfl)
      · have hw := hw.2 c_122
        refine lv_aload_n hx hb dX9_score_125 rfl (lv_at hl 0 rfl) ?_
        refine va_get (D := (dC, dI)) (ci := 10) (v := .ref (ad 14)) (C := RX9) (T := TX9) (N := 38) hx hb hts iw_X9_score hown hK hP 0 rfl rfl 14 (by decide) (hts _ lk_X9_score_37) (fun _ h9 => h9) rfl dX9_score_126 ?_
        refine lv_bipush (v := 96) hx hb dX9_score_129 (by decide) ?_
        refine lv_iload hx hb dX9_score_131 (lv_at hl 4 rfl) ?_
        refine lv_imul hx hb dX9_score_133 ?_
        refine lv_bipush (v := 12) hx hb dX9_score_134 (by decide) ?_
        refine lv_iload hx hb dX9_score_136 (lv_at hl 7 rfl) ?_
        refine lv_imul hx hb dX9_score_138 ?_
        refine lv_iadd hx hb dX9_score_139 ?_
        refine lv_iload hx hb dX9_score_140 (lv_at hl 9 rfl) ?_
        refine lv_iadd hx hb dX9_score_142 ?_
        refine va_iald hx hb hK hP 10 0 rfl rfl hw.1 dX9_score_143 ?_
        have hw := hw.2
        refine lv_aload_n hx hb dX9_score_144 rfl (lv_at hl 0 rfl) ?_
        refine lv_iload_n hx hb dX9_score_145 rfl (lv_at hl 1 rfl) ?_
        refine lv_aload_n hx hb dX9_score_146 rfl (lv_at hl 0 rfl) ?_
        refine va_get (D := (dC, dI)) (ci := 10) (v := .ref (ad 22)) (C := RX9) (T := TX9) (N := 38) hx hb hts iw_X9_score hown hK hP 0 rfl rfl 22 (by decide) (hts _ lk_X9_score_60) (fun _ h9 => h9) rfl dX9_score_147 ?_
        refine lv_iload hx hb dX9_score_150 (lv_at hl 6 rfl) ?_
        refine va_iald hx hb hK hP 17 0 rfl rfl hw.1 dX9_score_152 ?_
        have hw := hw.2
        refine lv_iload hx hb dX9_score_153 (lv_at hl 9 rfl) ?_
        refine lv_iadd hx hb dX9_score_155 ?_
        have hFc := mFree hD hS hA
        refine va_calli (va_runV (As := [.int a1, .int ((S 22 (Int32.toNatClampNeg a6)) + a9)]) (rest := [.int (S 14 (Int32.toNatClampNeg ((((96 : Int32) * a4) + ((12 : Int32) * a7)) + a9)))]) ⟨hx, hb, hml, hown, hts⟩ (c_X9_at l dC dI cI cJ cZ o ad S G H.size a1 ((S 22 (Int32.toNatClampNeg a6)) + a9) _ hw) (cwV 2 hts gX9_score_X9_at rfl rfl rfl (by decide +kernel) ⟨Nat.le_of_ble_eq_true rfl, Nat.le_of_ble_eq_true rfl⟩) (mPreV [.int a1, .int ((S 22 (Int32.toNatClampNeg a6)) + a9)] hK hP hD) rfl rfl hl.1 rfl (lv_room (Nat.le_of_ble_eq_true rfl)) dX9_score_156 ⟨Nat.zero_le _, Nat.zero_le _⟩) hS (fun q _ h => hFc q h) hFc (fun r_156 u t H1 locs ht hvm hw hB hz1 hk1 hS => ?_)
        obtain ⟨S_156, G_156⟩ := u
        obtain ⟨hP, -, hD1⟩ := hB
        rw [ht] at hP
        have hw := id hw
        have hP : va_P (dC, dI) vwCl (mW cI cJ cZ o ad S_156 G_156) H1 := hP
        have hD : va_D A (mW cI cJ cZ o ad S_156 G_156) := mGain hD1 hFc
        generalize H1 = H at hP hS ⊢
        refine vp_callSi (W.runS (As := [.int r_156]) (rest := [.int (S 14 (Int32.toNatClampNeg ((((96 : Int32) * a4) + ((12 : Int32) * a7)) + a9)))]) ⟨hx, hb, hml, hown, hts⟩ (c_X9_letterOf l r_156 _ hw) (va_cwS 1 hts gX9_score_X9_letterOf rfl rfl rfl (by decide +kernel) ⟨Nat.le_of_ble_eq_true rfl, Nat.le_of_ble_eq_true rfl⟩) preEq rfl rfl hl.1 rfl (lv_room (Nat.le_of_ble_eq_true rfl)) dX9_score_159 ⟨Nat.zero_le _, Nat.zero_le _⟩) (fun r_159 hw => ?_)
        refine lv_icmp_ne (tgt := 169) hx hb dX9_score_162 (by decide) (fun c_162 => ?_) (fun c_162 => ?_)
        · have hw := hw.1 c_162
          refine lv_iconst (v := 0) hx hb dX9_score_169 (by decide) ?_
          exact tb_X9_score_170 C h6_ h49_ ih S_156 G_156 a1 a2 a3 a4 a5 a6 a7 a9 (0 : Int32) hw H locs hP hD hS ls (lv_sub hl [0, 1, 2, 3, 4, 5, 6, 7, 9] rfl)
        · have hw := hw.2 c_162
          refine lv_iconst (v := 1) hx hb dX9_score_165 (by decide) ?_
          refine lv_goto (tgt := 170) hx hb dX9_score_166 (by decide) ?_
          exact tb_X9_score_170 C h6_ h49_ ih S_156 G_156 a1 a2 a3 a4 a5 a6 a7 a9 (1 : Int32) hw H locs hP hD hS ls (lv_sub hl [0, 1, 2, 3, 4, 5, 6, 7, 9] rfl)
set_option maxHeartbeats 4000000 in
set_option maxRecDepth 100000 in
theorem tb_X9_score_97 {p : Program} {l : Launch} {e : Env} {s : State} {m : MethodId} {below : List Frame} {meth : Method} {c : Code} {args : Array Value} {dC : Nat → ClassId} {dI : Nat → Nat → Nat} {cI cJ cZ : ClassId} {o : Nat} {ad : Nat → Nat} {A : Nat → Prop} {Q : Int32 → mS → mG → Prop} (C : mCx p s m args meth c cX9_score 10 (some .int) wsX9_score A dC dI cI cJ cZ) {k6_ : mS → mG → Int32 → Int32 → Int32 → Int32 → Int32 → Int32 → Prop} (h6_ : ∀ (S : mS) (G : mG) (a1 : Int32) (a2 : Int32) (a3 : Int32) (a4 : Int32) (a5 : Int32) (a6 : Int32), k6_ S G a1 a2 a3 a4 a5 a6 → mAt p l e rm_X9_score s m args below meth c dC dI cI cJ cZ o ad A (MQ below (va_Qi (fun r (u : mS × mG) => Q r u.1 u.2) (mB dC dI cI cJ cZ o ad A) A) args s 0 0 A) 6 10 [(0, .ref o), (1, .int a1), (2, .int a2), (3, .int a3), (4, .int a4), (5, .int a5), (6, .int a6)] [] S G) {k49_ : mS → mG → Int32 → Int32 → Int32 → Int32 → Int32 → Int32 → Int32 → Prop} (h49_ : ∀ (S : mS) (G : mG) (a1 : Int32) (a2 : Int32) (a3 : Int32) (a4 : Int32) (a5 : Int32) (a6 : Int32) (a7 : Int32), k49_ S G a1 a2 a3 a4 a5 a6 a7 → mAt p l e rm_X9_score s m args below meth c dC dI cI cJ cZ o ad A (MQ below (va_Qi (fun r (u : mS × mG) => Q r u.1 u.2) (mB dC dI cI cJ cZ o ad A) A) args s 0 0 A) 49 10 [(0, .ref o), (1, .int a1), (2, .int a2), (3, .int a3), (4, .int a4), (5, .int a5), (6, .int a6), (7, .int a7)] [] S G) : ∀ (S : mS) (G : mG) (a1 : Int32) (a2 : Int32) (a3 : Int32) (a4 : Int32) (a5 : Int32) (a6 : Int32) (a7 : Int32) (k0 : Int32), wp_X9_score_97 Q k6_ k49_ S G a1 a2 a3 a4 a5 a6 a7 k0 → mAt p l e rm_X9_score s m args below meth c dC dI cI cJ cZ o ad A (MQ below (va_Qi (fun r (u : mS × mG) => Q r u.1 u.2) (mB dC dI cI cJ cZ o ad A) A) args s 0 0 A) 97 10 [(0, .ref o), (1, .int a1), (2, .int a2), (3, .int a3), (4, .int a4), (5, .int a5), (6, .int a6), (7, .int a7)] [.int k0] S G := by
  obtain ⟨hx, hb, hml, hown, hts, hr, hlocks, hA, hK⟩ := id C
  intro S G a1 a2 a3 a4 a5 a6 a7 k0 hw H locs hP hD hS ls hl
  rw [wp_X9_score_97] at hw
  refine lv_istore (lv' := [(8, .int k0), (0, .ref o), (1, .int a1), (2, .int a2), (3, .int a3), (4, .int a4), (5, .int a5), (6, .int a6), (7, .int a7)]) hx hb dX9_score_97 hl (by decide) rfl (fun ls hl => ?_)
  refine lv_iconst (v := 0) hx hb dX9_score_99 (by decide) ?_
  refine lv_istore (lv' := [(9, .int (0 : Int32)), (8, .int k0), (0, .ref o), (1, .int a1), (2, .int a2), (3, .int a3), (4, .int a4), (5, .int a5), (6, .int a6), (7, .int a7)]) hx hb dX9_score_100 hl (by decide) rfl (fun ls hl => ?_)
  obtain ⟨n9, hw⟩ := hw
  exact tb_X9_score_102 C h6_ h49_ n9 S G a1 a2 a3 a4 a5 a6 a7 k0 (0 : Int32) hw H locs hP hD hS ls (lv_sub hl [2, 3, 4, 5, 6, 7, 8, 9, 1, 0] rfl)
set_option maxHeartbeats 4000000 in
set_option maxRecDepth 100000 in
theorem tb_X9_score_192 {p : Program} {l : Launch} {e : Env} {s : State} {m : MethodId} {below : List Frame} {meth : Method} {c : Code} {args : Array Value} {dC : Nat → ClassId} {dI : Nat → Nat → Nat} {cI cJ cZ : ClassId} {o : Nat} {ad : Nat → Nat} {A : Nat → Prop} {Q : Int32 → mS → mG → Prop} (C : mCx p s m args meth c cX9_score 10 (some .int) wsX9_score A dC dI cI cJ cZ) {k6_ : mS → mG → Int32 → Int32 → Int32 → Int32 → Int32 → Int32 → Prop} (h6_ : ∀ (S : mS) (G : mG) (a1 : Int32) (a2 : Int32) (a3 : Int32) (a4 : Int32) (a5 : Int32) (a6 : Int32), k6_ S G a1 a2 a3 a4 a5 a6 → mAt p l e rm_X9_score s m args below meth c dC dI cI cJ cZ o ad A (MQ below (va_Qi (fun r (u : mS × mG) => Q r u.1 u.2) (mB dC dI cI cJ cZ o ad A) A) args s 0 0 A) 6 10 [(0, .ref o), (1, .int a1), (2, .int a2), (3, .int a3), (4, .int a4), (5, .int a5), (6, .int a6)] [] S G) : ∀ (S : mS) (G : mG) (a1 : Int32) (a2 : Int32) (a3 : Int32) (a4 : Int32) (a5 : Int32) (a6 : Int32), wp_X9_score_192 Q k6_ S G a1 a2 a3 a4 a5 a6 → mAt p l e rm_X9_score s m args below meth c dC dI cI cJ cZ o ad A (MQ below (va_Qi (fun r (u : mS × mG) => Q r u.1 u.2) (mB dC dI cI cJ cZ o ad A) A) args s 0 0 A) 192 10 [(0, .ref o), (1, .int a1), (2, .int a2), (3, .int a3), (4, .int a4), (5, .int a5), (6, .int a6)] [] S G := by
  obtain ⟨hx, hb, hml, hown, hts, hr, hlocks, hA, hK⟩ := id C
  intro S G a1 a2 a3 a4 a5 a6 hw H locs hP hD hS ls hl
  rw [wp_X9_score_192] at hw
  obtain ⟨v6_192, ev6_192⟩ : ∃ y : Int32, y = a6 + (1 : Int32) := ⟨_, rfl⟩
  have hw := hw v6_192 ev6_192
  refine lv_iinc (v := v6_192) (lv' := [(6, .int v6_192), (0, .ref o), (1, .int a1), (2, .int a2), (3, .int a3), (4, .int a4), (5, .int a5)]) hx hb dX9_score_192 hl (k := 6) rfl (by rw [ev6_192]; rfl) (by decide) rfl (fun ls hl => ?_)
  refine lv_goto (tgt := 6) hx hb dX9_score_195 (by decide) ?_
  exact h6_ S G a1 a2 a3 a4 a5 v6_192 hw H locs hP hD hS ls (lv_sub hl [1, 2, 3, 4, 5, 6, 0] rfl)
set_option maxHeartbeats 4000000 in
set_option maxRecDepth 100000 in
theorem tb_X9_score_49 {p : Program} {l : Launch} {e : Env} {s : State} {m : MethodId} {below : List Frame} {meth : Method} {c : Code} {args : Array Value} {dC : Nat → ClassId} {dI : Nat → Nat → Nat} {cI cJ cZ : ClassId} {o : Nat} {ad : Nat → Nat} {A : Nat → Prop} {Q : Int32 → mS → mG → Prop} (C : mCx p s m args meth c cX9_score 10 (some .int) wsX9_score A dC dI cI cJ cZ) {k6_ : mS → mG → Int32 → Int32 → Int32 → Int32 → Int32 → Int32 → Prop} (h6_ : ∀ (S : mS) (G : mG) (a1 : Int32) (a2 : Int32) (a3 : Int32) (a4 : Int32) (a5 : Int32) (a6 : Int32), k6_ S G a1 a2 a3 a4 a5 a6 → mAt p l e rm_X9_score s m args below meth c dC dI cI cJ cZ o ad A (MQ below (va_Qi (fun r (u : mS × mG) => Q r u.1 u.2) (mB dC dI cI cJ cZ o ad A) A) args s 0 0 A) 6 10 [(0, .ref o), (1, .int a1), (2, .int a2), (3, .int a3), (4, .int a4), (5, .int a5), (6, .int a6)] [] S G) : ∀ (n : Nat) (S : mS) (G : mG) (a1 : Int32) (a2 : Int32) (a3 : Int32) (a4 : Int32) (a5 : Int32) (a6 : Int32) (a7 : Int32), wp_X9_score_49 Q k6_ n S G a1 a2 a3 a4 a5 a6 a7 → mAt p l e rm_X9_score s m args below meth c dC dI cI cJ cZ o ad A (MQ below (va_Qi (fun r (u : mS × mG) => Q r u.1 u.2) (mB dC dI cI cJ cZ o ad A) A) args s 0 0 A) 49 10 [(0, .ref o), (1, .int a1), (2, .int a2), (3, .int a3), (4, .int a4), (5, .int a5), (6, .int a6), (7, .int a7)] [] S G := by
  obtain ⟨hx, hb, hml, hown, hts, hr, hlocks, hA, hK⟩ := id C
  intro n
  induction n with
  | zero => intro S G a1 a2 a3 a4 a5 a6 a7 hw; exact hw.elim
  | succ n ih =>
    intro S G a1 a2 a3 a4 a5 a6 a7 hw H locs hP hD hS ls hl
    rw [wp_X9_score_49] at hw
    refine lv_iload hx hb dX9_score_49 (lv_at hl 7 rfl) ?_
    refine lv_aload_n hx hb dX9_score_51 rfl (lv_at hl 0 rfl) ?_
    refine va_get (D := (dC, dI)) (ci := 10) (v := .ref (ad 16)) (C := RX9) (T := TX9) (N := 38) hx hb hts iw_X9_score hown hK hP 0 rfl rfl 16 (by decide) (hts _ lk_X9_score_43) (fun _ h9 => h9) rfl dX9_score_52 ?_
    refine lv_iload hx hb dX9_score_55 (lv_at hl 4 rfl) ?_
    refine va_iald hx hb hK hP 12 0 rfl rfl hw.1 dX9_score_57 ?_
    have hw := hw.2
    refine lv_icmp_ge (tgt := 192) hx hb dX9_score_58 (by decide) (fun c_58 => ?_) (fun c_58 => ?_)
    · have hw := hw.1 c_58
      exact tb_X9_score_192 C h6_ S G a1 a2 a3 a4 a5 a6 hw H locs hP hD hS ls (lv_sub hl [0, 1, 2, 3, 4, 5, 6] rfl)
    · have hw := hw.2 c_58
      refine lv_aload_n hx hb dX9_score_61 rfl (lv_at hl 0 rfl) ?_
      refine va_get (D := (dC, dI)) (ci := 10) (v := .ref (ad 15)) (C := RX9) (T := TX9) (N := 38) hx hb hts iw_X9_score hown hK hP 0 rfl rfl 15 (by decide) (hts _ lk_X9_score_40) (fun _ h9 => h9) rfl dX9_score_62 ?_
      refine lv_bipush (v := 8) hx hb dX9_score_65 (by decide) ?_
      refine lv_iload hx hb dX9_score_67 (lv_at hl 4 rfl) ?_
      refine lv_imul hx hb dX9_score_69 ?_
      refine lv_iload hx hb dX9_score_70 (lv_at hl 7 rfl) ?_
      refine lv_iadd hx hb dX9_score_72 ?_
      refine va_iald hx hb hK hP 11 0 rfl rfl hw.1 dX9_score_73 ?_
      have hw := hw.2
      refine lv_aload_n hx hb dX9_score_74 rfl (lv_at hl 0 rfl) ?_
      refine va_get (D := (dC, dI)) (ci := 10) (v := .ref (ad 23)) (C := RX9) (T := TX9) (N := 38) hx hb hts iw_X9_score hown hK hP 0 rfl rfl 23 (by decide) (hts _ lk_X9_score_63) (fun _ h9 => h9) rfl dX9_score_75 ?_
      refine lv_iload hx hb dX9_score_78 (lv_at hl 6 rfl) ?_
      refine va_iald hx hb hK hP 18 0 rfl rfl hw.1 dX9_score_80 ?_
      have hw := hw.2
      refine lv_aload_n hx hb dX9_score_81 rfl (lv_at hl 0 rfl) ?_
      refine va_get (D := (dC, dI)) (ci := 10) (v := .ref (ad 22)) (C := RX9) (T := TX9) (N := 38) hx hb hts iw_X9_score hown hK hP 0 rfl rfl 22 (by decide) (hts _ lk_X9_score_60) (fun _ h9 => h9) rfl dX9_score_82 ?_
      refine lv_iload hx hb dX9_score_85 (lv_at hl 6 rfl) ?_
      refine va_iald hx hb hK hP 17 0 rfl rfl hw.1 dX9_score_87 ?_
      have hw := hw.2
      refine lv_isub hx hb dX9_score_88 ?_
      refine lv_icmp_ne (tgt := 96) hx hb dX9_score_89 (by decide) (fun c_89 => ?_) (fun c_89 => ?_)
      · have hw := hw.1 c_89
        refine lv_iconst (v := 0) hx hb dX9_score_96 (by decide) ?_
        exact tb_X9_score_97 C h6_ ih S G a1 a2 a3 a4 a5 a6 a7 (0 : Int32) hw H locs hP hD hS ls (lv_sub hl [0, 1, 2, 3, 4, 5, 6, 7] rfl)
      · have hw := hw.2 c_89
        refine lv_iconst (v := 1) hx hb dX9_score_92 (by decide) ?_
        refine lv_goto (tgt := 97) hx hb dX9_score_93 (by decide) ?_
        exact tb_X9_score_97 C h6_ ih S G a1 a2 a3 a4 a5 a6 a7 (1 : Int32) hw H locs hP hD hS ls (lv_sub hl [0, 1, 2, 3, 4, 5, 6, 7] rfl)
set_option maxHeartbeats 4000000 in
set_option maxRecDepth 100000 in
theorem tb_X9_score_46 {p : Program} {l : Launch} {e : Env} {s : State} {m : MethodId} {below : List Frame} {meth : Method} {c : Code} {args : Array Value} {dC : Nat → ClassId} {dI : Nat → Nat → Nat} {cI cJ cZ : ClassId} {o : Nat} {ad : Nat → Nat} {A : Nat → Prop} {Q : Int32 → mS → mG → Prop} (C : mCx p s m args meth c cX9_score 10 (some .int) wsX9_score A dC dI cI cJ cZ) {k6_ : mS → mG → Int32 → Int32 → Int32 → Int32 → Int32 → Int32 → Prop} (h6_ : ∀ (S : mS) (G : mG) (a1 : Int32) (a2 : Int32) (a3 : Int32) (a4 : Int32) (a5 : Int32) (a6 : Int32), k6_ S G a1 a2 a3 a4 a5 a6 → mAt p l e rm_X9_score s m args below meth c dC dI cI cJ cZ o ad A (MQ below (va_Qi (fun r (u : mS × mG) => Q r u.1 u.2) (mB dC dI cI cJ cZ o ad A) A) args s 0 0 A) 6 10 [(0, .ref o), (1, .int a1), (2, .int a2), (3, .int a3), (4, .int a4), (5, .int a5), (6, .int a6)] [] S G) : ∀ (S : mS) (G : mG) (a1 : Int32) (a2 : Int32) (a3 : Int32) (a4 : Int32) (a5 : Int32) (a6 : Int32), wp_X9_score_46 Q k6_ S G a1 a2 a3 a4 a5 a6 → mAt p l e rm_X9_score s m args below meth c dC dI cI cJ cZ o ad A (MQ below (va_Qi (fun r (u : mS × mG) => Q r u.1 u.2) (mB dC dI cI cJ cZ o ad A) A) args s 0 0 A) 46 10 [(0, .ref o), (1, .int a1), (2, .int a2), (3, .int a3), (4, .int a4), (5, .int a5), (6, .int a6)] [] S G := by
  obtain ⟨hx, hb, hml, hown, hts, hr, hlocks, hA, hK⟩ := id C
  intro S G a1 a2 a3 a4 a5 a6 hw H locs hP hD hS ls hl
  rw [wp_X9_score_46] at hw
  refine lv_iconst (v := 0) hx hb dX9_score_46 (by decide) ?_
  refine lv_istore (lv' := [(7, .int (0 : Int32)), (0, .ref o), (1, .int a1), (2, .int a2), (3, .int a3), (4, .int a4), (5, .int a5), (6, .int a6)]) hx hb dX9_score_47 hl (by decide) rfl (fun ls hl => ?_)
  obtain ⟨n9, hw⟩ := hw
  exact tb_X9_score_49 C h6_ n9 S G a1 a2 a3 a4 a5 a6 (0 : Int32) hw H locs hP hD hS ls (lv_sub hl [1, 2, 3, 4, 5, 6, 7, 0] rfl)
set_option maxHeartbeats 4000000 in
set_option maxRecDepth 100000 in
theorem tb_X9_score_6 {p : Program} {l : Launch} {e : Env} {s : State} {m : MethodId} {below : List Frame} {meth : Method} {c : Code} {args : Array Value} {dC : Nat → ClassId} {dI : Nat → Nat → Nat} {cI cJ cZ : ClassId} {o : Nat} {ad : Nat → Nat} {A : Nat → Prop} {Q : Int32 → mS → mG → Prop} (C : mCx p s m args meth c cX9_score 10 (some .int) wsX9_score A dC dI cI cJ cZ) : ∀ (n : Nat) (S : mS) (G : mG) (a1 : Int32) (a2 : Int32) (a3 : Int32) (a4 : Int32) (a5 : Int32) (a6 : Int32), wp_X9_score_6 Q  n S G a1 a2 a3 a4 a5 a6 → mAt p l e rm_X9_score s m args below meth c dC dI cI cJ cZ o ad A (MQ below (va_Qi (fun r (u : mS × mG) => Q r u.1 u.2) (mB dC dI cI cJ cZ o ad A) A) args s 0 0 A) 6 10 [(0, .ref o), (1, .int a1), (2, .int a2), (3, .int a3), (4, .int a4), (5, .int a5), (6, .int a6)] [] S G := by
  obtain ⟨hx, hb, hml, hown, hts, hr, hlocks, hA, hK⟩ := id C
  intro n
  induction n with
  | zero => intro S G a1 a2 a3 a4 a5 a6 hw; exact hw.elim
  | succ n ih =>
    intro S G a1 a2 a3 a4 a5 a6 hw H locs hP hD hS ls hl
    rw [wp_X9_score_6] at hw
    refine lv_iload hx hb dX9_score_6 (lv_at hl 6 rfl) ?_
    refine lv_aload_n hx hb dX9_score_8 rfl (lv_at hl 0 rfl) ?_
    refine va_get (D := (dC, dI)) (ci := 10) (v := .int (S 21 0)) (C := RX9) (T := TX9) (N := 38) hx hb hts iw_X9_score hown hK hP 0 rfl rfl 21 (by decide) (hts _ lk_X9_score_143) (fun _ h9 => h9) rfl dX9_score_9 ?_
    refine lv_icmp_ge (tgt := 198) hx hb dX9_score_12 (by decide) (fun c_12 => ?_) (fun c_12 => ?_)
    · have hw := hw.1 c_12
      refine lv_iload hx hb dX9_score_198 (lv_at hl 5 rfl) ?_
      exact W.iret (v := a5) hx hb hr (fun t ht hW => ⟨⟨a5, (S, G), rfl, hw, by rw [ht]; exact hP, va_K.moved hW.alike hK, hD⟩, hS.F ht⟩) hS.2.2 dX9_score_200
    · have hw := hw.2 c_12
      refine lv_aload_n hx hb dX9_score_15 rfl (lv_at hl 0 rfl) ?_
      refine va_get (D := (dC, dI)) (ci := 10) (v := .ref (ad 24)) (C := RX9) (T := TX9) (N := 38) hx hb hts iw_X9_score hown hK hP 0 rfl rfl 24 (by decide) (hts _ lk_X9_score_66) (fun _ h9 => h9) rfl dX9_score_16 ?_
      refine lv_iload hx hb dX9_score_19 (lv_at hl 6 rfl) ?_
      refine va_iald hx hb hK hP 19 0 rfl rfl hw.1 dX9_score_21 ?_
      have hw := hw.2
      refine lv_aload_n hx hb dX9_score_22 rfl (lv_at hl 0 rfl) ?_
      refine va_get (D := (dC, dI)) (ci := 10) (v := .ref (ad 24)) (C := RX9) (T := TX9) (N := 38) hx hb hts iw_X9_score hown hK hP 0 rfl rfl 24 (by decide) (hts _ lk_X9_score_66) (fun _ h9 => h9) rfl dX9_score_23 ?_
      refine lv_iload_n hx hb dX9_score_26 rfl (lv_at hl 2 rfl) ?_
      refine va_iald hx hb hK hP 19 0 rfl rfl hw.1 dX9_score_27 ?_
      have hw := hw.2
      refine lv_icmp_ne (tgt := 192) hx hb dX9_score_28 (by decide) (fun c_28 => ?_) (fun c_28 => ?_)
      · have hw := hw.1 c_28
        exact tb_X9_score_192 C ih S G a1 a2 a3 a4 a5 a6 hw H locs hP hD hS ls (lv_sub hl [0, 1, 2, 3, 4, 5, 6] rfl)
      · have hw := hw.2 c_28
        refine lv_iload hx hb dX9_score_31 (lv_at hl 6 rfl) ?_
        refine lv_iload_n hx hb dX9_score_33 rfl (lv_at hl 2 rfl) ?_
        refine lv_icmp_lt (tgt := 46) hx hb dX9_score_34 (by decide) (fun c_34 => ?_) (fun c_34 => ?_)
        · have hw := hw.1 c_34
          exact tb_X9_score_46 C ih S G a1 a2 a3 a4 a5 a6 hw H locs hP hD hS ls (lv_sub hl [0, 1, 2, 3, 4, 5, 6] rfl)
        · have hw := hw.2 c_34
          refine lv_iload hx hb dX9_score_37 (lv_at hl 6 rfl) ?_
          refine lv_iload_n hx hb dX9_score_39 rfl (lv_at hl 3 rfl) ?_
          refine lv_icmp_ge (tgt := 46) hx hb dX9_score_40 (by decide) (fun c_40 => ?_) (fun c_40 => ?_)
          · have hw := hw.1 c_40
            exact tb_X9_score_46 C ih S G a1 a2 a3 a4 a5 a6 hw H locs hP hD hS ls (lv_sub hl [0, 1, 2, 3, 4, 5, 6] rfl)
          · have hw := hw.2 c_40
            refine lv_goto (tgt := 192) hx hb dX9_score_43 (by decide) ?_
            exact tb_X9_score_192 C ih S G a1 a2 a3 a4 a5 a6 hw H locs hP hD hS ls (lv_sub hl [0, 1, 2, 3, 4, 5, 6] rfl)
set_option maxHeartbeats 4000000 in
set_option maxRecDepth 100000 in
theorem tb_X9_score_0 {p : Program} {l : Launch} {e : Env} {s : State} {m : MethodId} {below : List Frame} {meth : Method} {c : Code} {args : Array Value} {dC : Nat → ClassId} {dI : Nat → Nat → Nat} {cI cJ cZ : ClassId} {o : Nat} {ad : Nat → Nat} {A : Nat → Prop} {Q : Int32 → mS → mG → Prop} (C : mCx p s m args meth c cX9_score 10 (some .int) wsX9_score A dC dI cI cJ cZ) : ∀ (S : mS) (G : mG) (a1 : Int32) (a2 : Int32) (a3 : Int32) (a4 : Int32), wp_X9_score_0 Q  S G a1 a2 a3 a4 → mAt p l e rm_X9_score s m args below meth c dC dI cI cJ cZ o ad A (MQ below (va_Qi (fun r (u : mS × mG) => Q r u.1 u.2) (mB dC dI cI cJ cZ o ad A) A) args s 0 0 A) 0 10 [(0, .ref o), (1, .int a1), (2, .int a2), (3, .int a3), (4, .int a4)] [] S G := by
  obtain ⟨hx, hb, hml, hown, hts, hr, hlocks, hA, hK⟩ := id C
  intro S G a1 a2 a3 a4 hw H locs hP hD hS ls hl
  rw [wp_X9_score_0] at hw
  refine lv_iconst (v := 0) hx hb dX9_score_0 (by decide) ?_
  refine lv_istore (lv' := [(5, .int (0 : Int32)), (0, .ref o), (1, .int a1), (2, .int a2), (3, .int a3), (4, .int a4)]) hx hb dX9_score_1 hl (by decide) rfl (fun ls hl => ?_)
  refine lv_iconst (v := 0) hx hb dX9_score_3 (by decide) ?_
  refine lv_istore (lv' := [(6, .int (0 : Int32)), (5, .int (0 : Int32)), (0, .ref o), (1, .int a1), (2, .int a2), (3, .int a3), (4, .int a4)]) hx hb dX9_score_4 hl (by decide) rfl (fun ls hl => ?_)
  obtain ⟨n9, hw⟩ := hw
  exact tb_X9_score_6 C  n9 S G a1 a2 a3 a4 (0 : Int32) (0 : Int32) hw H locs hP hD hS ls (lv_sub hl [2, 3, 4, 5, 6, 1, 0] rfl)
set_option maxHeartbeats 4000000 in
set_option maxRecDepth 100000 in
theorem c_X9_score (l : Launch) (dC : Nat → ClassId) (dI : Nat → Nat → Nat) (cI cJ cZ : ClassId) (o : Nat) (ad : Nat → Nat) (S : mS) (G : mG) (sz : Nat) (a1 : Int32) (a2 : Int32) (a3 : Int32) (a4 : Int32) (Q : Int32 → mS → mG → Prop) (hw : wp_X9_score_0 Q S G a1 a2 a3 a4) : Met l yX9_score wsX9_score rm_X9_score (va_Pc [.ref o, .int a1, .int a2, .int a3, .int a4] (mPre dC dI cI cJ cZ o ad S G sz)) (va_Qi (fun r (u : mS × mG) => Q r u.1 u.2) (mB dC dI cI cJ cZ o ad (mA cI cJ cZ o ad S G sz)) (mA cI cJ cZ o ad S G sz)) 0 0 (mA cI cJ cZ o ad S G sz) := by
  refine Met.ofW (cc := cX9_score) (maxL := 10) (ret := (some .int)) (by decide) rfl ?_
  intro p e s m args below meth c s₁ B hml hv
  obtain ⟨rfl, hsz, hP, hK, hD0⟩ := hv
  subst hsz
  have hl := lv_entry ([.ref o, .int a1, .int a2, .int a3, .int a4]) (n := 10) (Nat.le_of_ble_eq_true rfl)
  rw [lg_entry_eq]
  generalize (lg_sl ([.ref o, .int a1, .int a2, .int a3, .int a4]) ++ List.replicate (10 - (lg_sl ([.ref o, .int a1, .int a2, .int a3, .int a4])).length) Slot.unset).toArray = ls at hl ⊢
  exact tb_X9_score_0 (Q := Q) (p := p) ⟨B.exec, B.bytes, hml, findClass_of_methodNamed B.named, atoms_spec (ws := wsX9_score) B.pre, B.returns, B.notSynchronized, fun q h => Or.inr h, hK⟩ S G a1 a2 a3 a4 hw s.heap [] hP (hD0.self (sz := s.heap.size)) va_S.rf ls hl
theorem iw_X9_chosen : ∀ w ∈ u_ws RX9 TX9 38, w ∈ wsX9_chosen := fun w h => List.mem_cons_of_mem _ (by first | exact List.mem_append_right _ h | decide +kernel +revert)
theorem lk_X9_chosen_25 : Cond.fieldLink RX9 25 "TermKeeperModel" "words" "[I" ∈ wsX9_chosen := by decide +kernel
theorem lk_X9_chosen_28 : Cond.fieldLink RX9 28 "TermKeeperModel" "thingOf" "[I" ∈ wsX9_chosen := by decide +kernel
theorem lk_X9_chosen_127 : Cond.fieldLink RX9 127 "TermKeeperModel" "terms" "I" ∈ wsX9_chosen := by decide +kernel
abbrev rm_X9_chosen : Room := { frames := 4, cells := 0, slots := 0, locals := 98 }
def wp_X9_chosen_51 (Q : Int32 → mS → mG → Prop) (k6_ : mS → mG → Int32 → Int32 → Int32 → Int64 → Int32 → Prop) (S : mS) (G : mG) (a1 : Int32) (a2 : Int32) (a3 : Int32) (a4 : Int64) (a6 : Int32) : Prop :=
    (∀ v6_51 : Int32, v6_51 = a6 + (1 : Int32) →
      (k6_ S G a1 a2 a3 a4 v6_51))
def wp_X9_chosen_162 (Q : Int32 → mS → mG → Prop) (k69_ : mS → mG → Int32 → Int32 → Int32 → Int64 → Int32 → Int32 → Int32 → Int32 → Prop) (S : mS) (G : mG) (a1 : Int32) (a2 : Int32) (a3 : Int32) (a4 : Int64) (a6 : Int32) (a7 : Int32) (a8 : Int32) (a9 : Int32) : Prop :=
    (∀ v9_162 : Int32, v9_162 = a9 + (1 : Int32) →
      (k69_ S G a1 a2 a3 a4 a6 a7 a8 v9_162))
def wp_X9_chosen_142 (Q : Int32 → mS → mG → Prop) (k69_ : mS → mG → Int32 → Int32 → Int32 → Int64 → Int32 → Int32 → Int32 → Int32 → Prop) (S : mS) (G : mG) (a1 : Int32) (a2 : Int32) (a3 : Int32) (a4 : Int64) (a6 : Int32) (a7 : Int32) (a9 : Int32) (a10 : Int32) (k0 : Int32) : Prop :=
    ((a7 < a10 →
      (wp_X9_chosen_162 Q k69_ S G a1 a2 a3 a4 a9 a10 k0 a9))
     ∧ (¬ a7 < a10 →
      (wp_X9_chosen_162 Q k69_ S G a1 a2 a3 a4 a6 a7 k0 a9)))
def wp_X9_chosen_137 (Q : Int32 → mS → mG → Prop) (k69_ : mS → mG → Int32 → Int32 → Int32 → Int64 → Int32 → Int32 → Int32 → Int32 → Prop) (S : mS) (G : mG) (a1 : Int32) (a2 : Int32) (a3 : Int32) (a4 : Int64) (a6 : Int32) (a7 : Int32) (a9 : Int32) (a10 : Int32) : Prop :=
    (wp_X9_chosen_142 Q k69_ S G a1 a2 a3 a4 a6 a7 a9 a10 (1 : Int32))
def wp_X9_chosen_141 (Q : Int32 → mS → mG → Prop) (k69_ : mS → mG → Int32 → Int32 → Int32 → Int64 → Int32 → Int32 → Int32 → Int32 → Prop) (S : mS) (G : mG) (a1 : Int32) (a2 : Int32) (a3 : Int32) (a4 : Int64) (a6 : Int32) (a7 : Int32) (a9 : Int32) (a10 : Int32) : Prop :=
    (wp_X9_chosen_142 Q k69_ S G a1 a2 a3 a4 a6 a7 a9 a10 (0 : Int32))
def wp_X9_chosen_116 (Q : Int32 → mS → mG → Prop) (k69_ : mS → mG → Int32 → Int32 → Int32 → Int64 → Int32 → Int32 → Int32 → Int32 → Prop) (S : mS) (G : mG) (a1 : Int32) (a2 : Int32) (a3 : Int32) (a4 : Int64) (a6 : Int32) (a7 : Int32) (a8 : Int32) (a9 : Int32) (k0 : Int32) : Prop :=
    ((k0 = a7 →
      (wp_X9_chosen_137 Q k69_ S G a1 a2 a3 a4 a6 a7 a9 k0))
     ∧ (¬ k0 = a7 →
      ((a8 = 0 →
        (wp_X9_chosen_141 Q k69_ S G a1 a2 a3 a4 a6 a7 a9 k0))
       ∧ (¬ a8 = 0 →
        ((a7 ≤ k0 →
          (wp_X9_chosen_141 Q k69_ S G a1 a2 a3 a4 a6 a7 a9 k0))
         ∧ (¬ a7 ≤ k0 →
          (wp_X9_chosen_137 Q k69_ S G a1 a2 a3 a4 a6 a7 a9 k0)))))))
def wp_X9_chosen_212 (Q : Int32 → mS → mG → Prop) (k178_ : mS → mG → Int32 → Int32 → Int32 → Int32 → Int32 → Prop) (S : mS) (G : mG) (a1 : Int32) (a2 : Int32) (a3 : Int32) (a6 : Int32) (a9 : Int32) : Prop :=
    (∀ v9_212 : Int32, v9_212 = a9 + (1 : Int32) →
      (k178_ S G a1 a2 a3 a6 v9_212))
def wp_X9_chosen_178 (Q : Int32 → mS → mG → Prop) : Nat → mS → mG → Int32 → Int32 → Int32 → Int32 → Int32 → Prop
  | 0, _, _, _, _, _, _, _ => False
  | n + 1, S, G, a1, a2, a3, a6, a9 =>
    (vp_in a9 60 ∧
      ((¬ (S 10 (Int32.toNatClampNeg a9)) = a3 →
        (wp_X9_chosen_212 Q (wp_X9_chosen_178 Q  n) S G a1 a2 a3 a6 a9))
       ∧ ((S 10 (Int32.toNatClampNeg a9)) = a3 →
        (vp_in a9 60 ∧
          ((¬ (S 11 (Int32.toNatClampNeg a9)) = a6 →
            (wp_X9_chosen_212 Q (wp_X9_chosen_178 Q  n) S G a1 a2 a3 a6 a9))
           ∧ ((S 11 (Int32.toNatClampNeg a9)) = a6 →
            (wp_X9_way_0 (fun r_206 S_206 G_206 =>
              ((0 ≤ r_206 →
                (Q a9 S_206 G_206))
               ∧ (¬ 0 ≤ r_206 →
                (wp_X9_chosen_212 Q (wp_X9_chosen_178 Q  n) S_206 G_206 a1 a2 a3 a6 a9)))) S G a1 a2 a9)))))))
def wp_X9_chosen_168 (Q : Int32 → mS → mG → Prop) (S : mS) (G : mG) (a1 : Int32) (a2 : Int32) (a3 : Int32) (a6 : Int32) (a8 : Int32) : Prop :=
    ((a8 = 0 →
      (∃ n9 : Nat, wp_X9_chosen_178 Q  n9 S G a1 a2 a3 a6 (0 : Int32)))
     ∧ (¬ a8 = 0 →
      (Q (-1 : Int32) S G)))
def wp_X9_chosen_69 (Q : Int32 → mS → mG → Prop) : Nat → mS → mG → Int32 → Int32 → Int32 → Int64 → Int32 → Int32 → Int32 → Int32 → Prop
  | 0, _, _, _, _, _, _, _, _, _, _ => False
  | n + 1, S, G, a1, a2, a3, a4, a6, a7, a8, a9 =>
    (((40 : Int32) ≤ a9 →
      (wp_X9_chosen_168 Q  S G a1 a2 a3 a6 a8))
     ∧ (¬ (40 : Int32) ≤ a9 →
      ((¬ (lg_cmp ((a4 >>> (Int32.toInt64 a9 &&& 63)) &&& (1 : Int64)) (0 : Int64)) = 0 →
        ((¬ (lg_cmp a4 ((1 : Int64) <<< (Int32.toInt64 a9 &&& 63))) = 0 →
          (wp_X9_score_0 (fun r_113 S_113 G_113 =>
            (wp_X9_chosen_116 Q (wp_X9_chosen_69 Q  n) S_113 G_113 a1 a2 a3 a4 a6 a7 a8 a9 r_113)) S G a1 a2 (a2 + a3) a9))
         ∧ ((lg_cmp a4 ((1 : Int64) <<< (Int32.toInt64 a9 &&& 63))) = 0 →
          (wp_X9_chosen_116 Q (wp_X9_chosen_69 Q  n) S G a1 a2 a3 a4 a6 a7 a8 a9 (0 : Int32)))))
       ∧ ((lg_cmp ((a4 >>> (Int32.toInt64 a9 &&& 63)) &&& (1 : Int64)) (0 : Int64)) = 0 →
        (wp_X9_chosen_162 Q (wp_X9_chosen_69 Q  n) S G a1 a2 a3 a4 a6 a7 a8 a9)))))
def wp_X9_chosen_57 (Q : Int32 → mS → mG → Prop) (S : mS) (G : mG) (a1 : Int32) (a2 : Int32) (a3 : Int32) (a4 : Int64) : Prop :=
    (∃ n9 : Nat, wp_X9_chosen_69 Q  n9 S G a1 a2 a3 a4 (-1 : Int32) (-1 : Int32) (0 : Int32) (0 : Int32))
def wp_X9_chosen_6 (Q : Int32 → mS → mG → Prop) : Nat → mS → mG → Int32 → Int32 → Int32 → Int64 → Int32 → Prop
  | 0, _, _, _, _, _, _, _ => False
  | n + 1, S, G, a1, a2, a3, a4, a6 =>
    (((S 4 0) ≤ a6 →
      (wp_X9_chosen_57 Q  S G a1 a2 a3 a4))
     ∧ (¬ (S 4 0) ≤ a6 →
      (vp_in a6 60 ∧
        ((¬ (S 10 (Int32.toNatClampNeg a6)) = a3 →
          (wp_X9_chosen_51 Q (wp_X9_chosen_6 Q  n) S G a1 a2 a3 a4 a6))
         ∧ ((S 10 (Int32.toNatClampNeg a6)) = a3 →
          (wp_X9_way_0 (fun r_31 S_31 G_31 =>
            ((r_31 < 0 →
              (wp_X9_chosen_51 Q (wp_X9_chosen_6 Q  n) S_31 G_31 a1 a2 a3 a4 a6))
             ∧ (¬ r_31 < 0 →
              (vp_in a6 60 ∧
                (∀ v4_49 : Int64, v4_49 = (a4 ||| ((1 : Int64) <<< (Int32.toInt64 (S_31 11 (Int32.toNatClampNeg a6)) &&& 63))) →
                  (wp_X9_chosen_51 Q (wp_X9_chosen_6 Q  n) S_31 G_31 a1 a2 a3 v4_49 a6)))))) S G a1 a2 a6))))))
def wp_X9_chosen_0 (Q : Int32 → mS → mG → Prop) (S : mS) (G : mG) (a1 : Int32) (a2 : Int32) (a3 : Int32) : Prop :=
    (∃ n9 : Nat, wp_X9_chosen_6 Q  n9 S G a1 a2 a3 (0 : Int64) (0 : Int32))
set_option maxHeartbeats 4000000 in
set_option maxRecDepth 100000 in
theorem tb_X9_chosen_51 {p : Program} {l : Launch} {e : Env} {s : State} {m : MethodId} {below : List Frame} {meth : Method} {c : Code} {args : Array Value} {dC : Nat → ClassId} {dI : Nat → Nat → Nat} {cI cJ cZ : ClassId} {o : Nat} {ad : Nat → Nat} {A : Nat → Prop} {Q : Int32 → mS → mG → Prop} (C : mCx p s m args meth c cX9_chosen 11 (some .int) wsX9_chosen A dC dI cI cJ cZ) {k6_ : mS → mG → Int32 → Int32 → Int32 → Int64 → Int32 → Prop} (h6_ : ∀ (S : mS) (G : mG) (a1 : Int32) (a2 : Int32) (a3 : Int32) (a4 : Int64) (a6 : Int32), k6_ S G a1 a2 a3 a4 a6 → mAt p l e rm_X9_chosen s m args below meth c dC dI cI cJ cZ o ad A (MQ below (va_Qi (fun r (u : mS × mG) => Q r u.1 u.2) (mB dC dI cI cJ cZ o ad A) A) args s 0 0 A) 6 11 [(0, .ref o), (1, .int a1), (2, .int a2), (3, .int a3), (4, .long a4), (6, .int a6)] [] S G) : ∀ (S : mS) (G : mG) (a1 : Int32) (a2 : Int32) (a3 : Int32) (a4 : Int64) (a6 : Int32), wp_X9_chosen_51 Q k6_ S G a1 a2 a3 a4 a6 → mAt p l e rm_X9_chosen s m args below meth c dC dI cI cJ cZ o ad A (MQ below (va_Qi (fun r (u : mS × mG) => Q r u.1 u.2) (mB dC dI cI cJ cZ o ad A) A) args s 0 0 A) 51 11 [(0, .ref o), (1, .int a1), (2, .int a2), (3, .int a3), (4, .long a4), (6, .int a6)] [] S G := by
  obtain ⟨hx, hb, hml, hown, hts, hr, hlocks, hA, hK⟩ := id C
  intro S G a1 a2 a3 a4 a6 hw H locs hP hD hS ls hl
  rw [wp_X9_chosen_51] at hw
  obtain ⟨v6_51, ev6_51⟩ : ∃ y : Int32, y = a6 + (1 : Int32) := ⟨_, rfl⟩
  have hw := hw v6_51 ev6_51
  refine lv_iinc (v := v6_51) (lv' := [(6, .int v6_51), (0, .ref o), (1, .int a1), (2, .int a2), (3, .int a3), (4, .long a4)]) hx hb dX9_chosen_51 hl (k := 5) rfl (by rw [ev6_51]; rfl) (by decide) rfl (fun ls hl => ?_)
  refine lv_goto (tgt := 6) hx hb dX9_chosen_54 (by decide) ?_
  exact h6_ S G a1 a2 a3 a4 v6_51 hw H locs hP hD hS ls (lv_sub hl [1, 2, 3, 4, 5, 0] rfl)
set_option maxHeartbeats 4000000 in
set_option maxRecDepth 100000 in
theorem tb_X9_chosen_162 {p : Program} {l : Launch} {e : Env} {s : State} {m : MethodId} {below : List Frame} {meth : Method} {c : Code} {args : Array Value} {dC : Nat → ClassId} {dI : Nat → Nat → Nat} {cI cJ cZ : ClassId} {o : Nat} {ad : Nat → Nat} {A : Nat → Prop} {Q : Int32 → mS → mG → Prop} (C : mCx p s m args meth c cX9_chosen 11 (some .int) wsX9_chosen A dC dI cI cJ cZ) {k69_ : mS → mG → Int32 → Int32 → Int32 → Int64 → Int32 → Int32 → Int32 → Int32 → Prop} (h69_ : ∀ (S : mS) (G : mG) (a1 : Int32) (a2 : Int32) (a3 : Int32) (a4 : Int64) (a6 : Int32) (a7 : Int32) (a8 : Int32) (a9 : Int32), k69_ S G a1 a2 a3 a4 a6 a7 a8 a9 → mAt p l e rm_X9_chosen s m args below meth c dC dI cI cJ cZ o ad A (MQ below (va_Qi (fun r (u : mS × mG) => Q r u.1 u.2) (mB dC dI cI cJ cZ o ad A) A) args s 0 0 A) 69 11 [(0, .ref o), (1, .int a1), (2, .int a2), (3, .int a3), (4, .long a4), (6, .int a6), (7, .int a7), (8, .int a8), (9, .int a9)] [] S G) : ∀ (S : mS) (G : mG) (a1 : Int32) (a2 : Int32) (a3 : Int32) (a4 : Int64) (a6 : Int32) (a7 : Int32) (a8 : Int32) (a9 : Int32), wp_X9_chosen_162 Q k69_ S G a1 a2 a3 a4 a6 a7 a8 a9 → mAt p l e rm_X9_chosen s m args below meth c dC dI cI cJ cZ o ad A (MQ below (va_Qi (fun r (u : mS × mG) => Q r u.1 u.2) (mB dC dI cI cJ cZ o ad A) A) args s 0 0 A) 162 11 [(0, .ref o), (1, .int a1), (2, .int a2), (3, .int a3), (4, .long a4), (6, .int a6), (7, .int a7), (8, .int a8), (9, .int a9)] [] S G := by
  obtain ⟨hx, hb, hml, hown, hts, hr, hlocks, hA, hK⟩ := id C
  intro S G a1 a2 a3 a4 a6 a7 a8 a9 hw H locs hP hD hS ls hl
  rw [wp_X9_chosen_162] at hw
  obtain ⟨v9_162, ev9_162⟩ : ∃ y : Int32, y = a9 + (1 : Int32) := ⟨_, rfl⟩
  have hw := hw v9_162 ev9_162
  refine lv_iinc (v := v9_162) (lv' := [(9, .int v9_162), (0, .ref o), (1, .int a1), (2, .int a2), (3, .int a3), (4, .long a4), (6, .int a6), (7, .int a7), (8, .int a8)]) hx hb dX9_chosen_162 hl (k := 8) rfl (by rw [ev9_162]; rfl) (by decide) rfl (fun ls hl => ?_)
  refine lv_goto (tgt := 69) hx hb dX9_chosen_165 (by decide) ?_
  exact h69_ S G a1 a2 a3 a4 a6 a7 a8 v9_162 hw H locs hP hD hS ls (lv_sub hl [1, 2, 3, 4, 5, 6, 7, 8, 0] rfl)
set_option maxHeartbeats 4000000 in
set_option maxRecDepth 100000 in
theorem tb_X9_chosen_142 {p : Program} {l : Launch} {e : Env} {s : State} {m : MethodId} {below : List Frame} {meth : Method} {c : Code} {args : Array Value} {dC : Nat → ClassId} {dI : Nat → Nat → Nat} {cI cJ cZ : ClassId} {o : Nat} {ad : Nat → Nat} {A : Nat → Prop} {Q : Int32 → mS → mG → Prop} (C : mCx p s m args meth c cX9_chosen 11 (some .int) wsX9_chosen A dC dI cI cJ cZ) {k69_ : mS → mG → Int32 → Int32 → Int32 → Int64 → Int32 → Int32 → Int32 → Int32 → Prop} (h69_ : ∀ (S : mS) (G : mG) (a1 : Int32) (a2 : Int32) (a3 : Int32) (a4 : Int64) (a6 : Int32) (a7 : Int32) (a8 : Int32) (a9 : Int32), k69_ S G a1 a2 a3 a4 a6 a7 a8 a9 → mAt p l e rm_X9_chosen s m args below meth c dC dI cI cJ cZ o ad A (MQ below (va_Qi (fun r (u : mS × mG) => Q r u.1 u.2) (mB dC dI cI cJ cZ o ad A) A) args s 0 0 A) 69 11 [(0, .ref o), (1, .int a1), (2, .int a2), (3, .int a3), (4, .long a4), (6, .int a6), (7, .int a7), (8, .int a8), (9, .int a9)] [] S G) : ∀ (S : mS) (G : mG) (a1 : Int32) (a2 : Int32) (a3 : Int32) (a4 : Int64) (a6 : Int32) (a7 : Int32) (a9 : Int32) (a10 : Int32) (k0 : Int32), wp_X9_chosen_142 Q k69_ S G a1 a2 a3 a4 a6 a7 a9 a10 k0 → mAt p l e rm_X9_chosen s m args below meth c dC dI cI cJ cZ o ad A (MQ below (va_Qi (fun r (u : mS × mG) => Q r u.1 u.2) (mB dC dI cI cJ cZ o ad A) A) args s 0 0 A) 142 11 [(0, .ref o), (1, .int a1), (2, .int a2), (3, .int a3), (4, .long a4), (6, .int a6), (7, .int a7), (9, .int a9), (10, .int a10)] [.int k0] S G := by
  obtain ⟨hx, hb, hml, hown, hts, hr, hlocks, hA, hK⟩ := id C
  intro S G a1 a2 a3 a4 a6 a7 a9 a10 k0 hw H locs hP hD hS ls hl
  rw [wp_X9_chosen_142] at hw
  refine lv_istore (lv' := [(8, .int k0), (0, .ref o), (1, .int a1), (2, .int a2), (3, .int a3), (4, .long a4), (6, .int a6), (7, .int a7), (9, .int a9), (10, .int a10)]) hx hb dX9_chosen_142 hl (by decide) rfl (fun ls hl => ?_)
  refine lv_iload hx hb dX9_chosen_144 (lv_at hl 9 rfl) ?_
  refine lv_iload hx hb dX9_chosen_146 (lv_at hl 7 rfl) ?_
  refine lv_icmp_gt (tgt := 154) hx hb dX9_chosen_148 (by decide) (fun c_148 => ?_) (fun c_148 => ?_)
  · have hw := hw.1 c_148
    refine lv_iload hx hb dX9_chosen_154 (lv_at hl 8 rfl) ?_
    refine lv_istore (lv' := [(6, .int a9), (8, .int k0), (0, .ref o), (1, .int a1), (2, .int a2), (3, .int a3), (4, .long a4), (7, .int a7), (9, .int a9), (10, .int a10)]) hx hb dX9_chosen_156 hl (by decide) rfl (fun ls hl => ?_)
    refine lv_iload hx hb dX9_chosen_158 (lv_at hl 9 rfl) ?_
    refine lv_istore (lv' := [(7, .int a10), (6, .int a9), (8, .int k0), (0, .ref o), (1, .int a1), (2, .int a2), (3, .int a3), (4, .long a4), (9, .int a9), (10, .int a10)]) hx hb dX9_chosen_160 hl (by decide) rfl (fun ls hl => ?_)
    exact tb_X9_chosen_162 C h69_ S G a1 a2 a3 a4 a9 a10 k0 a9 hw H locs hP hD hS ls (lv_sub hl [3, 4, 5, 6, 7, 1, 0, 2, 8] rfl)
  · have hw := hw.2 c_148
    refine lv_goto (tgt := 162) hx hb dX9_chosen_151 (by decide) ?_
    exact tb_X9_chosen_162 C h69_ S G a1 a2 a3 a4 a6 a7 k0 a9 hw H locs hP hD hS ls (lv_sub hl [1, 2, 3, 4, 5, 6, 7, 0, 8] rfl)
set_option maxHeartbeats 4000000 in
set_option maxRecDepth 100000 in
theorem tb_X9_chosen_137 {p : Program} {l : Launch} {e : Env} {s : State} {m : MethodId} {below : List Frame} {meth : Method} {c : Code} {args : Array Value} {dC : Nat → ClassId} {dI : Nat → Nat → Nat} {cI cJ cZ : ClassId} {o : Nat} {ad : Nat → Nat} {A : Nat → Prop} {Q : Int32 → mS → mG → Prop} (C : mCx p s m args meth c cX9_chosen 11 (some .int) wsX9_chosen A dC dI cI cJ cZ) {k69_ : mS → mG → Int32 → Int32 → Int32 → Int64 → Int32 → Int32 → Int32 → Int32 → Prop} (h69_ : ∀ (S : mS) (G : mG) (a1 : Int32) (a2 : Int32) (a3 : Int32) (a4 : Int64) (a6 : Int32) (a7 : Int32) (a8 : Int32) (a9 : Int32), k69_ S G a1 a2 a3 a4 a6 a7 a8 a9 → mAt p l e rm_X9_chosen s m args below meth c dC dI cI cJ cZ o ad A (MQ below (va_Qi (fun r (u : mS × mG) => Q r u.1 u.2) (mB dC dI cI cJ cZ o ad A) A) args s 0 0 A) 69 11 [(0, .ref o), (1, .int a1), (2, .int a2), (3, .int a3), (4, .long a4), (6, .int a6), (7, .int a7), (8, .int a8), (9, .int a9)] [] S G) : ∀ (S : mS) (G : mG) (a1 : Int32) (a2 : Int32) (a3 : Int32) (a4 : Int64) (a6 : Int32) (a7 : Int32) (a9 : Int32) (a10 : Int32), wp_X9_chosen_137 Q k69_ S G a1 a2 a3 a4 a6 a7 a9 a10 → mAt p l e rm_X9_chosen s m args below meth c dC dI cI cJ cZ o ad A (MQ below (va_Qi (fun r (u : mS × mG) => Q r u.1 u.2) (mB dC dI cI cJ cZ o ad A) A) args s 0 0 A) 137 11 [(0, .ref o), (1, .int a1), (2, .int a2), (3, .int a3), (4, .long a4), (6, .int a6), (7, .int a7), (9, .int a9), (10, .int a10)] [] S G := by
  obtain ⟨hx, hb, hml, hown, hts, hr, hlocks, hA, hK⟩ := id C
  intro S G a1 a2 a3 a4 a6 a7 a9 a10 hw H locs hP hD hS ls hl
  rw [wp_X9_chosen_137] at hw
  refine lv_iconst (v := 1) hx hb dX9_chosen_137 (by decide) ?_
  refine lv_goto (tgt := 142) hx hb dX9_chosen_138 (by decide) ?_
  exact tb_X9_chosen_142 C h69_ S G a1 a2 a3 a4 a6 a7 a9 a10 (1 : Int32) hw H locs hP hD hS ls (lv_sub hl [0, 1, 2, 3, 4, 5, 6, 7, 8] rfl)
set_option maxHeartbeats 4000000 in
set_option maxRecDepth 100000 in
theorem tb_X9_chosen_141 {p : Program} {l : Launch} {e : Env} {s : State} {m : MethodId} {below : List Frame} {meth : Method} {c : Code} {args : Array Value} {dC : Nat → ClassId} {dI : Nat → Nat → Nat} {cI cJ cZ : ClassId} {o : Nat} {ad : Nat → Nat} {A : Nat → Prop} {Q : Int32 → mS → mG → Prop} (C : mCx p s m args meth c cX9_chosen 11 (some .int) wsX9_chosen A dC dI cI cJ cZ) {k69_ : mS → mG → Int32 → Int32 → Int32 → Int64 → Int32 → Int32 → Int32 → Int32 → Prop} (h69_ : ∀ (S : mS) (G : mG) (a1 : Int32) (a2 : Int32) (a3 : Int32) (a4 : Int64) (a6 : Int32) (a7 : Int32) (a8 : Int32) (a9 : Int32), k69_ S G a1 a2 a3 a4 a6 a7 a8 a9 → mAt p l e rm_X9_chosen s m args below meth c dC dI cI cJ cZ o ad A (MQ below (va_Qi (fun r (u : mS × mG) => Q r u.1 u.2) (mB dC dI cI cJ cZ o ad A) A) args s 0 0 A) 69 11 [(0, .ref o), (1, .int a1), (2, .int a2), (3, .int a3), (4, .long a4), (6, .int a6), (7, .int a7), (8, .int a8), (9, .int a9)] [] S G) : ∀ (S : mS) (G : mG) (a1 : Int32) (a2 : Int32) (a3 : Int32) (a4 : Int64) (a6 : Int32) (a7 : Int32) (a9 : Int32) (a10 : Int32), wp_X9_chosen_141 Q k69_ S G a1 a2 a3 a4 a6 a7 a9 a10 → mAt p l e rm_X9_chosen s m args below meth c dC dI cI cJ cZ o ad A (MQ below (va_Qi (fun r (u : mS × mG) => Q r u.1 u.2) (mB dC dI cI cJ cZ o ad A) A) args s 0 0 A) 141 11 [(0, .ref o), (1, .int a1), (2, .int a2), (3, .int a3), (4, .long a4), (6, .int a6), (7, .int a7), (9, .int a9), (10, .int a10)] [] S G := by
  obtain ⟨hx, hb, hml, hown, hts, hr, hlocks, hA, hK⟩ := id C
  intro S G a1 a2 a3 a4 a6 a7 a9 a10 hw H locs hP hD hS ls hl
  rw [wp_X9_chosen_141] at hw
  refine lv_iconst (v := 0) hx hb dX9_chosen_141 (by decide) ?_
  exact tb_X9_chosen_142 C h69_ S G a1 a2 a3 a4 a6 a7 a9 a10 (0 : Int32) hw H locs hP hD hS ls (lv_sub hl [0, 1, 2, 3, 4, 5, 6, 7, 8] rfl)
set_option maxHeartbeats 4000000 in
set_option maxRecDepth 100000 in
theorem tb_X9_chosen_116 {p : Program} {l : Launch} {e : Env} {s : State} {m : MethodId} {below : List Frame} {meth : Method} {c : Code} {args : Array Value} {dC : Nat → ClassId} {dI : Nat → Nat → Nat} {cI cJ cZ : ClassId} {o : Nat} {ad : Nat → Nat} {A : Nat → Prop} {Q : Int32 → mS → mG → Prop} (C : mCx p s m args meth c cX9_chosen 11 (some .int) wsX9_chosen A dC dI cI cJ cZ) {k69_ : mS → mG → Int32 → Int32 → Int32 → Int64 → Int32 → Int32 → Int32 → Int32 → Prop} (h69_ : ∀ (S : mS) (G : mG) (a1 : Int32) (a2 : Int32) (a3 : Int32) (a4 : Int64) (a6 : Int32) (a7 : Int32) (a8 : Int32) (a9 : Int32), k69_ S G a1 a2 a3 a4 a6 a7 a8 a9 → mAt p l e rm_X9_chosen s m args below meth c dC dI cI cJ cZ o ad A (MQ below (va_Qi (fun r (u : mS × mG) => Q r u.1 u.2) (mB dC dI cI cJ cZ o ad A) A) args s 0 0 A) 69 11 [(0, .ref o), (1, .int a1), (2, .int a2), (3, .int a3), (4, .long a4), (6, .int a6), (7, .int a7), (8, .int a8), (9, .int a9)] [] S G) : ∀ (S : mS) (G : mG) (a1 : Int32) (a2 : Int32) (a3 : Int32) (a4 : Int64) (a6 : Int32) (a7 : Int32) (a8 : Int32) (a9 : Int32) (k0 : Int32), wp_X9_chosen_116 Q k69_ S G a1 a2 a3 a4 a6 a7 a8 a9 k0 → mAt p l e rm_X9_chosen s m args below meth c dC dI cI cJ cZ o ad A (MQ below (va_Qi (fun r (u : mS × mG) => Q r u.1 u.2) (mB dC dI cI cJ cZ o ad A) A) args s 0 0 A) 116 11 [(0, .ref o), (1, .int a1), (2, .int a2), (3, .int a3), (4, .long a4), (6, .int a6), (7, .int a7), (8, .int a8), (9, .int a9)] [.int k0] S G := by
  obtain ⟨hx, hb, hml, hown, hts, hr, hlocks, hA, hK⟩ := id C
  intro S G a1 a2 a3 a4 a6 a7 a8 a9 k0 hw H locs hP hD hS ls hl
  rw [wp_X9_chosen_116] at hw
  refine lv_istore (lv' := [(10, .int k0), (0, .ref o), (1, .int a1), (2, .int a2), (3, .int a3), (4, .long a4), (6, .int a6), (7, .int a7), (8, .int a8), (9, .int a9)]) hx hb dX9_chosen_116 hl (by decide) rfl (fun ls hl => ?_)
  refine lv_iload hx hb dX9_chosen_118 (lv_at hl 0 rfl) ?_
  refine lv_iload hx hb dX9_chosen_120 (lv_at hl 7 rfl) ?_
  refine lv_icmp_eq (tgt := 137) hx hb dX9_chosen_122 (by decide) (fun c_122 => ?_) (fun c_122 => ?_)
  · have hw := hw.1 c_122
    exact tb_X9_chosen_137 C h69_ S G a1 a2 a3 a4 a6 a7 a9 k0 hw H locs hP hD hS ls (lv_sub hl [1, 2, 3, 4, 5, 6, 7, 9, 0] rfl)
  · have hw := hw.2 c_122
    refine lv_iload hx hb dX9_chosen_125 (lv_at hl 8 rfl) ?_
    refine lv_if_eq (tgt := 141) hx hb dX9_chosen_127 (by decide) (fun c_127 => ?_) (fun c_127 => ?_)
    · have hw := hw.1 c_127
      exact tb_X9_chosen_141 C h69_ S G a1 a2 a3 a4 a6 a7 a9 k0 hw H locs hP hD hS ls (lv_sub hl [1, 2, 3, 4, 5, 6, 7, 9, 0] rfl)
    · have hw := hw.2 c_127
      refine lv_iload hx hb dX9_chosen_130 (lv_at hl 0 rfl) ?_
      refine lv_iload hx hb dX9_chosen_132 (lv_at hl 7 rfl) ?_
      refine lv_icmp_ge (tgt := 141) hx hb dX9_chosen_134 (by decide) (fun c_134 => ?_) (fun c_134 => ?_)
      · have hw := hw.1 c_134
        exact tb_X9_chosen_141 C h69_ S G a1 a2 a3 a4 a6 a7 a9 k0 hw H locs hP hD hS ls (lv_sub hl [1, 2, 3, 4, 5, 6, 7, 9, 0] rfl)
      · have hw := hw.2 c_134
        exact tb_X9_chosen_137 C h69_ S G a1 a2 a3 a4 a6 a7 a9 k0 hw H locs hP hD hS ls (lv_sub hl [1, 2, 3, 4, 5, 6, 7, 9, 0] rfl)
set_option maxHeartbeats 4000000 in
set_option maxRecDepth 100000 in
theorem tb_X9_chosen_212 {p : Program} {l : Launch} {e : Env} {s : State} {m : MethodId} {below : List Frame} {meth : Method} {c : Code} {args : Array Value} {dC : Nat → ClassId} {dI : Nat → Nat → Nat} {cI cJ cZ : ClassId} {o : Nat} {ad : Nat → Nat} {A : Nat → Prop} {Q : Int32 → mS → mG → Prop} (C : mCx p s m args meth c cX9_chosen 11 (some .int) wsX9_chosen A dC dI cI cJ cZ) {k178_ : mS → mG → Int32 → Int32 → Int32 → Int32 → Int32 → Prop} (h178_ : ∀ (S : mS) (G : mG) (a1 : Int32) (a2 : Int32) (a3 : Int32) (a6 : Int32) (a9 : Int32), k178_ S G a1 a2 a3 a6 a9 → mAt p l e rm_X9_chosen s m args below meth c dC dI cI cJ cZ o ad A (MQ below (va_Qi (fun r (u : mS × mG) => Q r u.1 u.2) (mB dC dI cI cJ cZ o ad A) A) args s 0 0 A) 178 11 [(0, .ref o), (1, .int a1), (2, .int a2), (3, .int a3), (6, .int a6), (9, .int a9)] [] S G) : ∀ (S : mS) (G : mG) (a1 : Int32) (a2 : Int32) (a3 : Int32) (a6 : Int32) (a9 : Int32), wp_X9_chosen_212 Q k178_ S G a1 a2 a3 a6 a9 → mAt p l e rm_X9_chosen s m args below meth c dC dI cI cJ cZ o ad A (MQ below (va_Qi (fun r (u : mS × mG) => Q r u.1 u.2) (mB dC dI cI cJ cZ o ad A) A) args s 0 0 A) 212 11 [(0, .ref o), (1, .int a1), (2, .int a2), (3, .int a3), (6, .int a6), (9, .int a9)] [] S G := by
  obtain ⟨hx, hb, hml, hown, hts, hr, hlocks, hA, hK⟩ := id C
  intro S G a1 a2 a3 a6 a9 hw H locs hP hD hS ls hl
  rw [wp_X9_chosen_212] at hw
  obtain ⟨v9_212, ev9_212⟩ : ∃ y : Int32, y = a9 + (1 : Int32) := ⟨_, rfl⟩
  have hw := hw v9_212 ev9_212
  refine lv_iinc (v := v9_212) (lv' := [(9, .int v9_212), (0, .ref o), (1, .int a1), (2, .int a2), (3, .int a3), (6, .int a6)]) hx hb dX9_chosen_212 hl (k := 5) rfl (by rw [ev9_212]; rfl) (by decide) rfl (fun ls hl => ?_)
  refine lv_goto (tgt := 178) hx hb dX9_chosen_215 (by decide) ?_
  exact h178_ S G a1 a2 a3 a6 v9_212 hw H locs hP hD hS ls (lv_sub hl [1, 2, 3, 4, 5, 0] rfl)
set_option maxHeartbeats 4000000 in
set_option maxRecDepth 100000 in
theorem tb_X9_chosen_178 {p : Program} {l : Launch} {e : Env} {s : State} {m : MethodId} {below : List Frame} {meth : Method} {c : Code} {args : Array Value} {dC : Nat → ClassId} {dI : Nat → Nat → Nat} {cI cJ cZ : ClassId} {o : Nat} {ad : Nat → Nat} {A : Nat → Prop} {Q : Int32 → mS → mG → Prop} (C : mCx p s m args meth c cX9_chosen 11 (some .int) wsX9_chosen A dC dI cI cJ cZ) : ∀ (n : Nat) (S : mS) (G : mG) (a1 : Int32) (a2 : Int32) (a3 : Int32) (a6 : Int32) (a9 : Int32), wp_X9_chosen_178 Q  n S G a1 a2 a3 a6 a9 → mAt p l e rm_X9_chosen s m args below meth c dC dI cI cJ cZ o ad A (MQ below (va_Qi (fun r (u : mS × mG) => Q r u.1 u.2) (mB dC dI cI cJ cZ o ad A) A) args s 0 0 A) 178 11 [(0, .ref o), (1, .int a1), (2, .int a2), (3, .int a3), (6, .int a6), (9, .int a9)] [] S G := by
  obtain ⟨hx, hb, hml, hown, hts, hr, hlocks, hA, hK⟩ := id C
  intro n
  induction n with
  | zero => intro S G a1 a2 a3 a6 a9 hw; exact hw.elim
  | succ n ih =>
    intro S G a1 a2 a3 a6 a9 hw H locs hP hD hS ls hl
    rw [wp_X9_chosen_178] at hw
    refine lv_aload_n hx hb dX9_chosen_178 rfl (lv_at hl 0 rfl) ?_
    refine va_get (D := (dC, dI)) (ci := 10) (v := .ref (ad 10)) (C := RX9) (T := TX9) (N := 38) hx hb hts iw_X9_chosen hown hK hP 0 rfl rfl 10 (by decide) (hts _ lk_X9_chosen_25) (fun _ h9 => h9) rfl dX9_chosen_179 ?_
    refine lv_iload hx hb dX9_chosen_182 (lv_at hl 5 rfl) ?_
    refine va_iald hx hb hK hP 6 0 rfl rfl hw.1 dX9_chosen_184 ?_
    have hw := hw.2
    refine lv_iload_n hx hb dX9_chosen_185 rfl (lv_at hl 3 rfl) ?_
    refine lv_icmp_ne (tgt := 212) hx hb dX9_chosen_186 (by decide) (fun c_186 => ?_) (fun c_186 => ?_)
    · have hw := hw.1 c_186
      exact tb_X9_chosen_212 C ih S G a1 a2 a3 a6 a9 hw H locs hP hD hS ls (lv_sub hl [0, 1, 2, 3, 4, 5] rfl)
    · have hw := hw.2 c_186
      refine lv_aload_n hx hb dX9_chosen_189 rfl (lv_at hl 0 rfl) ?_
      refine va_get (D := (dC, dI)) (ci := 10) (v := .ref (ad 11)) (C := RX9) (T := TX9) (N := 38) hx hb hts iw_X9_chosen hown hK hP 0 rfl rfl 11 (by decide) (hts _ lk_X9_chosen_28) (fun _ h9 => h9) rfl dX9_chosen_190 ?_
      refine lv_iload hx hb dX9_chosen_193 (lv_at hl 5 rfl) ?_
      refine va_iald hx hb hK hP 7 0 rfl rfl hw.1 dX9_chosen_195 ?_
      have hw := hw.2
      refine lv_iload hx hb dX9_chosen_196 (lv_at hl 4 rfl) ?_
      refine lv_icmp_ne (tgt := 212) hx hb dX9_chosen_198 (by decide) (fun c_198 => ?_) (fun c_198 => ?_)
      · have hw := hw.1 c_198
        exact tb_X9_chosen_212 C ih S G a1 a2 a3 a6 a9 hw H locs hP hD hS ls (lv_sub hl [0, 1, 2, 3, 4, 5] rfl)
      · have hw := hw.2 c_198
        refine lv_aload_n hx hb dX9_chosen_201 rfl (lv_at hl 0 rfl) ?_
        refine lv_iload_n hx hb dX9_chosen_202 rfl (lv_at hl 1 rfl) ?_
        refine lv_iload_n hx hb dX9_chosen_203 rfl (lv_at hl 2 rfl) ?_
        refine lv_iload hx hb dX9_chosen_204 (lv_at hl 5 rfl) ?_
        have hFc := mFree hD hS hA
        refine va_calli (va_runV (As := [.int a1, .int a2, .int a9]) (rest := []) ⟨hx, hb, hml, hown, hts⟩ (c_X9_way l dC dI cI cJ cZ o ad S G H.size a1 a2 a9 _ hw) (cwV 3 hts gX9_chosen_X9_way rfl rfl rfl (by decide +kernel) ⟨Nat.le_of_ble_eq_true rfl, Nat.le_of_ble_eq_true rfl⟩) (mPreV [.int a1, .int a2, .int a9] hK hP hD) rfl rfl hl.1 rfl (lv_room (Nat.le_of_ble_eq_true rfl)) dX9_chosen_206 ⟨Nat.zero_le _, Nat.zero_le _⟩) hS (fun q _ h => hFc q h) hFc (fun r_206 u t H1 locs ht hvm hw hB hz1 hk1 hS => ?_)
        obtain ⟨S_206, G_206⟩ := u
        obtain ⟨hP, -, hD1⟩ := hB
        rw [ht] at hP
        have hw := id hw
        have hP : va_P (dC, dI) vwCl (mW cI cJ cZ o ad S_206 G_206) H1 := hP
        have hD : va_D A (mW cI cJ cZ o ad S_206 G_206) := mGain hD1 hFc
        generalize H1 = H at hP hS ⊢
        refine lv_if_ge (tgt := 218) hx hb dX9_chosen_209 (by decide) (fun c_209 => ?_) (fun c_209 => ?_)
        · have hw := hw.1 c_209
          refine lv_iload hx hb dX9_chosen_218 (lv_at hl 5 rfl) ?_
          exact W.iret (v := a9) hx hb hr (fun t ht hW => ⟨⟨a9, (S_206, G_206), rfl, hw, by rw [ht]; exact hP, va_K.moved hW.alike hK, hD⟩, hS.F ht⟩) hS.2.2 dX9_chosen_220
        · have hw := hw.2 c_209
          exact tb_X9_chosen_212 C ih S_206 G_206 a1 a2 a3 a6 a9 hw H locs hP hD hS ls (lv_sub hl [0, 1, 2, 3, 4, 5] rfl)
set_option maxHeartbeats 4000000 in
set_option maxRecDepth 100000 in
theorem tb_X9_chosen_168 {p : Program} {l : Launch} {e : Env} {s : State} {m : MethodId} {below : List Frame} {meth : Method} {c : Code} {args : Array Value} {dC : Nat → ClassId} {dI : Nat → Nat → Nat} {cI cJ cZ : ClassId} {o : Nat} {ad : Nat → Nat} {A : Nat → Prop} {Q : Int32 → mS → mG → Prop} (C : mCx p s m args meth c cX9_chosen 11 (some .int) wsX9_chosen A dC dI cI cJ cZ) : ∀ (S : mS) (G : mG) (a1 : Int32) (a2 : Int32) (a3 : Int32) (a6 : Int32) (a8 : Int32), wp_X9_chosen_168 Q  S G a1 a2 a3 a6 a8 → mAt p l e rm_X9_chosen s m args below meth c dC dI cI cJ cZ o ad A (MQ below (va_Qi (fun r (u : mS × mG) => Q r u.1 u.2) (mB dC dI cI cJ cZ o ad A) A) args s 0 0 A) 168 11 [(0, .ref o), (1, .int a1), (2, .int a2), (3, .int a3), (6, .int a6), (8, .int a8)] [] S G := by
  obtain ⟨hx, hb, hml, hown, hts, hr, hlocks, hA, hK⟩ := id C
  intro S G a1 a2 a3 a6 a8 hw H locs hP hD hS ls hl
  rw [wp_X9_chosen_168] at hw
  refine lv_iload hx hb dX9_chosen_168 (lv_at hl 5 rfl) ?_
  refine lv_if_eq (tgt := 175) hx hb dX9_chosen_170 (by decide) (fun c_170 => ?_) (fun c_170 => ?_)
  · have hw := hw.1 c_170
    refine lv_iconst (v := 0) hx hb dX9_chosen_175 (by decide) ?_
    refine lv_istore (lv' := [(9, .int (0 : Int32)), (0, .ref o), (1, .int a1), (2, .int a2), (3, .int a3), (6, .int a6), (8, .int a8)]) hx hb dX9_chosen_176 hl (by decide) rfl (fun ls hl => ?_)
    obtain ⟨n9, hw⟩ := hw
    exact tb_X9_chosen_178 C  n9 S G a1 a2 a3 a6 (0 : Int32) hw H locs hP hD hS ls (lv_sub hl [1, 2, 3, 4, 5, 0] rfl)
  · have hw := hw.2 c_170
    refine lv_iconst (v := -1) hx hb dX9_chosen_173 (by decide) ?_
    exact W.iret (v := (-1 : Int32)) hx hb hr (fun t ht hW => ⟨⟨(-1 : Int32), (S, G), rfl, hw, by rw [ht]; exact hP, va_K.moved hW.alike hK, hD⟩, hS.F ht⟩) hS.2.2 dX9_chosen_174
set_option maxHeartbeats 4000000 in
set_option maxRecDepth 100000 in
theorem tb_X9_chosen_69 {p : Program} {l : Launch} {e : Env} {s : State} {m : MethodId} {below : List Frame} {meth : Method} {c : Code} {args : Array Value} {dC : Nat → ClassId} {dI : Nat → Nat → Nat} {cI cJ cZ : ClassId} {o : Nat} {ad : Nat → Nat} {A : Nat → Prop} {Q : Int32 → mS → mG → Prop} (C : mCx p s m args meth c cX9_chosen 11 (some .int) wsX9_chosen A dC dI cI cJ cZ) : ∀ (n : Nat) (S : mS) (G : mG) (a1 : Int32) (a2 : Int32) (a3 : Int32) (a4 : Int64) (a6 : Int32) (a7 : Int32) (a8 : Int32) (a9 : Int32), wp_X9_chosen_69 Q  n S G a1 a2 a3 a4 a6 a7 a8 a9 → mAt p l e rm_X9_chosen s m args below meth c dC dI cI cJ cZ o ad A (MQ below (va_Qi (fun r (u : mS × mG) => Q r u.1 u.2) (mB dC dI cI cJ cZ o ad A) A) args s 0 0 A) 69 11 [(0, .ref o), (1, .int a1), (2, .int a2), (3, .int a3), (4, .long a4), (6, .int a6), (7, .int a7), (8, .int a8), (9, .int a9)] [] S G := by
  obtain ⟨hx, hb, hml, hown, hts, hr, hlocks, hA, hK⟩ := id C
  intro n
  induction n with
  | zero => intro S G a1 a2 a3 a4 a6 a7 a8 a9 hw; exact hw.elim
  | succ n ih =>
    intro S G a1 a2 a3 a4 a6 a7 a8 a9 hw H locs hP hD hS ls hl
    rw [wp_X9_chosen_69] at hw
    refine lv_iload hx hb dX9_chosen_69 (lv_at hl 8 rfl) ?_
    refine lv_bipush (v := 40) hx hb dX9_chosen_71 (by decide) ?_
    refine lv_icmp_ge (tgt := 168) hx hb dX9_chosen_73 (by decide) (fun c_73 => ?_) (fun c_73 => ?_)
    · have hw := hw.1 c_73
      exact tb_X9_chosen_168 C  S G a1 a2 a3 a6 a8 hw H locs hP hD hS ls (lv_sub hl [0, 1, 2, 3, 5, 7] rfl)
    · have hw := hw.2 c_73
      refine lv_lload hx hb dX9_chosen_76 (lv_at hl 4 rfl) ?_
      refine lv_iload hx hb dX9_chosen_78 (lv_at hl 8 rfl) ?_
      refine lv_lshr hx hb dX9_chosen_80 rfl ?_
      refine lv_lconst (v := 1) hx hb dX9_chosen_81 (by decide) ?_
      refine lv_land hx hb dX9_chosen_82 ?_
      refine lv_lconst (v := 0) hx hb dX9_chosen_83 (by decide) ?_
      refine W.lcmp hx hb dX9_chosen_84 ?_
      refine lv_if_ne (tgt := 91) hx hb dX9_chosen_85 (by decide) (fun c_85 => ?_) (fun c_85 => ?_)
      · have hw := hw.1 c_85
        refine lv_lload hx hb dX9_chosen_91 (lv_at hl 4 rfl) ?_
        refine lv_lconst (v := 1) hx hb dX9_chosen_93 (by decide) ?_
        refine lv_iload hx hb dX9_chosen_94 (lv_at hl 8 rfl) ?_
        refine lv_lshl hx hb dX9_chosen_96 rfl ?_
        refine W.lcmp hx hb dX9_chosen_97 ?_
        refine lv_if_ne (tgt := 105) hx hb dX9_chosen_98 (by decide) (fun c_98 => ?_) (fun c_98 => ?_)
        · have hw := hw.1 c_98
          refine lv_aload_n hx hb dX9_chosen_105 rfl (lv_at hl 0 rfl) ?_
          refine lv_iload_n hx hb dX9_chosen_106 rfl (lv_at hl 1 rfl) ?_
          refine lv_iload_n hx hb dX9_chosen_107 rfl (lv_at hl 2 rfl) ?_
          refine lv_iload_n hx hb dX9_chosen_108 rfl (lv_at hl 2 rfl) ?_
          refine lv_iload_n hx hb dX9_chosen_109 rfl (lv_at hl 3 rfl) ?_
          refine lv_iadd hx hb dX9_chosen_110 ?_
          refine lv_iload hx hb dX9_chosen_111 (lv_at hl 8 rfl) ?_
          have hFc := mFree hD hS hA
          refine va_calli (va_runV (As := [.int a1, .int a2, .int (a2 + a3), .int a9]) (rest := []) ⟨hx, hb, hml, hown, hts⟩ (c_X9_score l dC dI cI cJ cZ o ad S G H.size a1 a2 (a2 + a3) a9 _ hw) (cwV 4 hts gX9_chosen_X9_score rfl rfl rfl (by decide +kernel) ⟨Nat.le_of_ble_eq_true rfl, Nat.le_of_ble_eq_true rfl⟩) (mPreV [.int a1, .int a2, .int (a2 + a3), .int a9] hK hP hD) rfl rfl hl.1 rfl (lv_room (Nat.le_of_ble_eq_true rfl)) dX9_chosen_113 ⟨Nat.zero_le _, Nat.zero_le _⟩) hS (fun q _ h => hFc q h) hFc (fun r_113 u t H1 locs ht hvm hw hB hz1 hk1 hS => ?_)
          obtain ⟨S_113, G_113⟩ := u
          obtain ⟨hP, -, hD1⟩ := hB
          rw [ht] at hP
          have hw := id hw
          have hP : va_P (dC, dI) vwCl (mW cI cJ cZ o ad S_113 G_113) H1 := hP
          have hD : va_D A (mW cI cJ cZ o ad S_113 G_113) := mGain hD1 hFc
          generalize H1 = H at hP hS ⊢
          exact tb_X9_chosen_116 C ih S_113 G_113 a1 a2 a3 a4 a6 a7 a8 a9 r_113 hw H locs hP hD hS ls (lv_sub hl [0, 1, 2, 3, 4, 5, 6, 7, 8] rfl)
        · have hw := hw.2 c_98
          refine lv_iconst (v := 0) hx hb dX9_chosen_101 (by decide) ?_
          refine lv_goto (tgt := 116) hx hb dX9_chosen_102 (by decide) ?_
          exact tb_X9_chosen_116 C ih S G a1 a2 a3 a4 a6 a7 a8 a9 (0 : Int32) hw H locs hP hD hS ls (lv_sub hl [0, 1, 2, 3, 4, 5, 6, 7, 8] rfl)
      · have hw := hw.2 c_85
        refine lv_goto (tgt := 162) hx hb dX9_chosen_88 (by decide) ?_
        exact tb_X9_chosen_162 C ih S G a1 a2 a3 a4 a6 a7 a8 a9 hw H locs hP hD hS ls (lv_sub hl [0, 1, 2, 3, 4, 5, 6, 7, 8] rfl)
set_option maxHeartbeats 4000000 in
set_option maxRecDepth 100000 in
theorem tb_X9_chosen_57 {p : Program} {l : Launch} {e : Env} {s : State} {m : MethodId} {below : List Frame} {meth : Method} {c : Code} {args : Array Value} {dC : Nat → ClassId} {dI : Nat → Nat → Nat} {cI cJ cZ : ClassId} {o : Nat} {ad : Nat → Nat} {A : Nat → Prop} {Q : Int32 → mS → mG → Prop} (C : mCx p s m args meth c cX9_chosen 11 (some .int) wsX9_chosen A dC dI cI cJ cZ) : ∀ (S : mS) (G : mG) (a1 : Int32) (a2 : Int32) (a3 : Int32) (a4 : Int64), wp_X9_chosen_57 Q  S G a1 a2 a3 a4 → mAt p l e rm_X9_chosen s m args below meth c dC dI cI cJ cZ o ad A (MQ below (va_Qi (fun r (u : mS × mG) => Q r u.1 u.2) (mB dC dI cI cJ cZ o ad A) A) args s 0 0 A) 57 11 [(0, .ref o), (1, .int a1), (2, .int a2), (3, .int a3), (4, .long a4)] [] S G := by
  obtain ⟨hx, hb, hml, hown, hts, hr, hlocks, hA, hK⟩ := id C
  intro S G a1 a2 a3 a4 hw H locs hP hD hS ls hl
  rw [wp_X9_chosen_57] at hw
  refine lv_iconst (v := -1) hx hb dX9_chosen_57 (by decide) ?_
  refine lv_istore (lv' := [(6, .int (-1 : Int32)), (0, .ref o), (1, .int a1), (2, .int a2), (3, .int a3), (4, .long a4)]) hx hb dX9_chosen_58 hl (by decide) rfl (fun ls hl => ?_)
  refine lv_iconst (v := -1) hx hb dX9_chosen_60 (by decide) ?_
  refine lv_istore (lv' := [(7, .int (-1 : Int32)), (6, .int (-1 : Int32)), (0, .ref o), (1, .int a1), (2, .int a2), (3, .int a3), (4, .long a4)]) hx hb dX9_chosen_61 hl (by decide) rfl (fun ls hl => ?_)
  refine lv_iconst (v := 0) hx hb dX9_chosen_63 (by decide) ?_
  refine lv_istore (lv' := [(8, .int (0 : Int32)), (7, .int (-1 : Int32)), (6, .int (-1 : Int32)), (0, .ref o), (1, .int a1), (2, .int a2), (3, .int a3), (4, .long a4)]) hx hb dX9_chosen_64 hl (by decide) rfl (fun ls hl => ?_)
  refine lv_iconst (v := 0) hx hb dX9_chosen_66 (by decide) ?_
  refine lv_istore (lv' := [(9, .int (0 : Int32)), (8, .int (0 : Int32)), (7, .int (-1 : Int32)), (6, .int (-1 : Int32)), (0, .ref o), (1, .int a1), (2, .int a2), (3, .int a3), (4, .long a4)]) hx hb dX9_chosen_67 hl (by decide) rfl (fun ls hl => ?_)
  obtain ⟨n9, hw⟩ := hw
  exact tb_X9_chosen_69 C  n9 S G a1 a2 a3 a4 (-1 : Int32) (-1 : Int32) (0 : Int32) (0 : Int32) hw H locs hP hD hS ls (lv_sub hl [4, 5, 6, 7, 8, 3, 2, 1, 0] rfl)
set_option maxHeartbeats 4000000 in
set_option maxRecDepth 100000 in
theorem tb_X9_chosen_6 {p : Program} {l : Launch} {e : Env} {s : State} {m : MethodId} {below : List Frame} {meth : Method} {c : Code} {args : Array Value} {dC : Nat → ClassId} {dI : Nat → Nat → Nat} {cI cJ cZ : ClassId} {o : Nat} {ad : Nat → Nat} {A : Nat → Prop} {Q : Int32 → mS → mG → Prop} (C : mCx p s m args meth c cX9_chosen 11 (some .int) wsX9_chosen A dC dI cI cJ cZ) : ∀ (n : Nat) (S : mS) (G : mG) (a1 : Int32) (a2 : Int32) (a3 : Int32) (a4 : Int64) (a6 : Int32), wp_X9_chosen_6 Q  n S G a1 a2 a3 a4 a6 → mAt p l e rm_X9_chosen s m args below meth c dC dI cI cJ cZ o ad A (MQ below (va_Qi (fun r (u : mS × mG) => Q r u.1 u.2) (mB dC dI cI cJ cZ o ad A) A) args s 0 0 A) 6 11 [(0, .ref o), (1, .int a1), (2, .int a2), (3, .int a3), (4, .long a4), (6, .int a6)] [] S G := by
  obtain ⟨hx, hb, hml, hown, hts, hr, hlocks, hA, hK⟩ := id C
  intro n
  induction n with
  | zero => intro S G a1 a2 a3 a4 a6 hw; exact hw.elim
  | succ n ih =>
    intro S G a1 a2 a3 a4 a6 hw H locs hP hD hS ls hl
    rw [wp_X9_chosen_6] at hw
    refine lv_iload hx hb dX9_chosen_6 (lv_at hl 5 rfl) ?_
    refine lv_aload_n hx hb dX9_chosen_8 rfl (lv_at hl 0 rfl) ?_
    refine va_get (D := (dC, dI)) (ci := 10) (v := .int (S 4 0)) (C := RX9) (T := TX9) (N := 38) hx hb hts iw_X9_chosen hown hK hP 0 rfl rfl 4 (by decide) (hts _ lk_X9_chosen_127) (fun _ h9 => h9) rfl dX9_chosen_9 ?_
    refine lv_icmp_ge (tgt := 57) hx hb dX9_chosen_12 (by decide) (fun c_12 => ?_) (fun c_12 => ?_)
    · have hw := hw.1 c_12
      exact tb_X9_chosen_57 C  S G a1 a2 a3 a4 hw H locs hP hD hS ls (lv_sub hl [0, 1, 2, 3, 4] rfl)
    · have hw := hw.2 c_12
      refine lv_aload_n hx hb dX9_chosen_15 rfl (lv_at hl 0 rfl) ?_
      refine va_get (D := (dC, dI)) (ci := 10) (v := .ref (ad 10)) (C := RX9) (T := TX9) (N := 38) hx hb hts iw_X9_chosen hown hK hP 0 rfl rfl 10 (by decide) (hts _ lk_X9_chosen_25) (fun _ h9 => h9) rfl dX9_chosen_16 ?_
      refine lv_iload hx hb dX9_chosen_19 (lv_at hl 5 rfl) ?_
      refine va_iald hx hb hK hP 6 0 rfl rfl hw.1 dX9_chosen_21 ?_
      have hw := hw.2
      refine lv_iload_n hx hb dX9_chosen_22 rfl (lv_at hl 3 rfl) ?_
      refine lv_icmp_ne (tgt := 51) hx hb dX9_chosen_23 (by decide) (fun c_23 => ?_) (fun c_23 => ?_)
      · have hw := hw.1 c_23
        exact tb_X9_chosen_51 C ih S G a1 a2 a3 a4 a6 hw H locs hP hD hS ls (lv_sub hl [0, 1, 2, 3, 4, 5] rfl)
      · have hw := hw.2 c_23
        refine lv_aload_n hx hb dX9_chosen_26 rfl (lv_at hl 0 rfl) ?_
        refine lv_iload_n hx hb dX9_chosen_27 rfl (lv_at hl 1 rfl) ?_
        refine lv_iload_n hx hb dX9_chosen_28 rfl (lv_at hl 2 rfl) ?_
        refine lv_iload hx hb dX9_chosen_29 (lv_at hl 5 rfl) ?_
        have hFc := mFree hD hS hA
        refine va_calli (va_runV (As := [.int a1, .int a2, .int a6]) (rest := []) ⟨hx, hb, hml, hown, hts⟩ (c_X9_way l dC dI cI cJ cZ o ad S G H.size a1 a2 a6 _ hw) (cwV 3 hts gX9_chosen_X9_way rfl rfl rfl (by decide +kernel) ⟨Nat.le_of_ble_eq_true rfl, Nat.le_of_ble_eq_true rfl⟩) (mPreV [.int a1, .int a2, .int a6] hK hP hD) rfl rfl hl.1 rfl (lv_room (Nat.le_of_ble_eq_true rfl)) dX9_chosen_31 ⟨Nat.zero_le _, Nat.zero_le _⟩) hS (fun q _ h => hFc q h) hFc (fun r_31 u t H1 locs ht hvm hw hB hz1 hk1 hS => ?_)
        obtain ⟨S_31, G_31⟩ := u
        obtain ⟨hP, -, hD1⟩ := hB
        rw [ht] at hP
        have hw := id hw
        have hP : va_P (dC, dI) vwCl (mW cI cJ cZ o ad S_31 G_31) H1 := hP
        have hD : va_D A (mW cI cJ cZ o ad S_31 G_31) := mGain hD1 hFc
        generalize H1 = H at hP hS ⊢
        refine lv_if_lt (tgt := 51) hx hb dX9_chosen_34 (by decide) (fun c_34 => ?_) (fun c_34 => ?_)
        · have hw := hw.1 c_34
          exact tb_X9_chosen_51 C ih S_31 G_31 a1 a2 a3 a4 a6 hw H locs hP hD hS ls (lv_sub hl [0, 1, 2, 3, 4, 5] rfl)
        · have hw := hw.2 c_34
          refine lv_lload hx hb dX9_chosen_37 (lv_at hl 4 rfl) ?_
          refine lv_lconst (v := 1) hx hb dX9_chosen_39 (by decide) ?_
          refine lv_aload_n hx hb dX9_chosen_40 rfl (lv_at hl 0 rfl) ?_
          refine va_get (D := (dC, dI)) (ci := 10) (v := .ref (ad 11)) (C := RX9) (T := TX9) (N := 38) hx hb hts iw_X9_chosen hown hK hP 0 rfl rfl 11 (by decide) (hts _ lk_X9_chosen_28) (fun _ h9 => h9) rfl dX9_chosen_41 ?_
          refine lv_iload hx hb dX9_chosen_44 (lv_at hl 5 rfl) ?_
          refine va_iald hx hb hK hP 7 0 rfl rfl hw.1 dX9_chosen_46 ?_
          have hw := hw.2
          refine lv_lshl hx hb dX9_chosen_47 rfl ?_
          refine lv_lor hx hb dX9_chosen_48 ?_
          refine lv_topl (fun v4_49 ev4_49 => ?_)
          have hw := hw v4_49 ev4_49
          refine lv_lstore (lv' := [(4, .long v4_49), (0, .ref o), (1, .int a1), (2, .int a2), (3, .int a3), (6, .int a6)]) hx hb dX9_chosen_49 hl (by decide) rfl (fun ls hl => ?_)
          exact tb_X9_chosen_51 C ih S_31 G_31 a1 a2 a3 v4_49 a6 hw H locs hP hD hS ls (lv_sub hl [1, 2, 3, 4, 0, 5] rfl)
set_option maxHeartbeats 4000000 in
set_option maxRecDepth 100000 in
theorem tb_X9_chosen_0 {p : Program} {l : Launch} {e : Env} {s : State} {m : MethodId} {below : List Frame} {meth : Method} {c : Code} {args : Array Value} {dC : Nat → ClassId} {dI : Nat → Nat → Nat} {cI cJ cZ : ClassId} {o : Nat} {ad : Nat → Nat} {A : Nat → Prop} {Q : Int32 → mS → mG → Prop} (C : mCx p s m args meth c cX9_chosen 11 (some .int) wsX9_chosen A dC dI cI cJ cZ) : ∀ (S : mS) (G : mG) (a1 : Int32) (a2 : Int32) (a3 : Int32), wp_X9_chosen_0 Q  S G a1 a2 a3 → mAt p l e rm_X9_chosen s m args below meth c dC dI cI cJ cZ o ad A (MQ below (va_Qi (fun r (u : mS × mG) => Q r u.1 u.2) (mB dC dI cI cJ cZ o ad A) A) args s 0 0 A) 0 11 [(0, .ref o), (1, .int a1), (2, .int a2), (3, .int a3)] [] S G := by
  obtain ⟨hx, hb, hml, hown, hts, hr, hlocks, hA, hK⟩ := id C
  intro S G a1 a2 a3 hw H locs hP hD hS ls hl
  rw [wp_X9_chosen_0] at hw
  refine lv_lconst (v := 0) hx hb dX9_chosen_0 (by decide) ?_
  refine lv_lstore (lv' := [(4, .long (0 : Int64)), (0, .ref o), (1, .int a1), (2, .int a2), (3, .int a3)]) hx hb dX9_chosen_1 hl (by decide) rfl (fun ls hl => ?_)
  refine lv_iconst (v := 0) hx hb dX9_chosen_3 (by decide) ?_
  refine lv_istore (lv' := [(6, .int (0 : Int32)), (4, .long (0 : Int64)), (0, .ref o), (1, .int a1), (2, .int a2), (3, .int a3)]) hx hb dX9_chosen_4 hl (by decide) rfl (fun ls hl => ?_)
  obtain ⟨n9, hw⟩ := hw
  exact tb_X9_chosen_6 C  n9 S G a1 a2 a3 (0 : Int64) (0 : Int32) hw H locs hP hD hS ls (lv_sub hl [2, 3, 4, 5, 1, 0] rfl)
set_option maxHeartbeats 4000000 in
set_option maxRecDepth 100000 in
theorem c_X9_chosen (l : Launch) (dC : Nat → ClassId) (dI : Nat → Nat → Nat) (cI cJ cZ : ClassId) (o : Nat) (ad : Nat → Nat) (S : mS) (G : mG) (sz : Nat) (a1 : Int32) (a2 : Int32) (a3 : Int32) (Q : Int32 → mS → mG → Prop) (hw : wp_X9_chosen_0 Q S G a1 a2 a3) : Met l yX9_chosen wsX9_chosen rm_X9_chosen (va_Pc [.ref o, .int a1, .int a2, .int a3] (mPre dC dI cI cJ cZ o ad S G sz)) (va_Qi (fun r (u : mS × mG) => Q r u.1 u.2) (mB dC dI cI cJ cZ o ad (mA cI cJ cZ o ad S G sz)) (mA cI cJ cZ o ad S G sz)) 0 0 (mA cI cJ cZ o ad S G sz) := by
  refine Met.ofW (cc := cX9_chosen) (maxL := 11) (ret := (some .int)) (by decide) rfl ?_
  intro p e s m args below meth c s₁ B hml hv
  obtain ⟨rfl, hsz, hP, hK, hD0⟩ := hv
  subst hsz
  have hl := lv_entry ([.ref o, .int a1, .int a2, .int a3]) (n := 11) (Nat.le_of_ble_eq_true rfl)
  rw [lg_entry_eq]
  generalize (lg_sl ([.ref o, .int a1, .int a2, .int a3]) ++ List.replicate (11 - (lg_sl ([.ref o, .int a1, .int a2, .int a3])).length) Slot.unset).toArray = ls at hl ⊢
  exact tb_X9_chosen_0 (Q := Q) (p := p) ⟨B.exec, B.bytes, hml, findClass_of_methodNamed B.named, atoms_spec (ws := wsX9_chosen) B.pre, B.returns, B.notSynchronized, fun q h => Or.inr h, hK⟩ S G a1 a2 a3 hw s.heap [] hP (hD0.self (sz := s.heap.size)) va_S.rf ls hl
