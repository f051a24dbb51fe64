theorem iw_X9_isAhead : ∀ w ∈ u_ws RX9 TX9 38, w ∈ wsX9_isAhead := fun w h => List.mem_cons_of_mem _ (by first | exact List.mem_append_right _ h | decide +kernel +revert)
theorem lk_X9_isAhead_28 : Cond.fieldLink RX9 28 "TermKeeperModel" "thingOf" "[I" ∈ wsX9_isAhead := by decide +kernel
theorem lk_X9_isAhead_31 : Cond.fieldLink RX9 31 "TermKeeperModel" "kindOf" "[I" ∈ wsX9_isAhead := by decide +kernel
theorem lk_X9_isAhead_75 : Cond.fieldLink RX9 75 "TermKeeperModel" "useTerm" "[I" ∈ wsX9_isAhead := by decide +kernel
abbrev rm_X9_isAhead : Room := { frames := 0, cells := 0, slots := 0, locals := 0 }
def wp_X9_isAhead_68 (Q : Int32 → mS → mG → Prop) (k6_ : mS → mG → Int32 → Int32 → Int32 → Int32 → Int32 → Prop) (S : mS) (G : mG) (a1 : Int32) (a2 : Int32) (a3 : Int32) (a5 : Int32) (k0 : Int32) : Prop :=
    (∀ v5_70 : Int32, v5_70 = a5 + (1 : Int32) →
      (k6_ S G a1 a2 a3 k0 v5_70))
def wp_X9_isAhead_63 (Q : Int32 → mS → mG → Prop) (k6_ : mS → mG → Int32 → Int32 → Int32 → Int32 → Int32 → Prop) (S : mS) (G : mG) (a1 : Int32) (a2 : Int32) (a3 : Int32) (a5 : Int32) : Prop :=
    (wp_X9_isAhead_68 Q k6_ S G a1 a2 a3 a5 (1 : Int32))
def wp_X9_isAhead_67 (Q : Int32 → mS → mG → Prop) (k6_ : mS → mG → Int32 → Int32 → Int32 → Int32 → Int32 → Prop) (S : mS) (G : mG) (a1 : Int32) (a2 : Int32) (a3 : Int32) (a5 : Int32) : Prop :=
    (wp_X9_isAhead_68 Q k6_ S G a1 a2 a3 a5 (0 : Int32))
def wp_X9_isAhead_6 (Q : Int32 → mS → mG → Prop) : Nat → mS → mG → Int32 → Int32 → Int32 → Int32 → Int32 → Prop
  | 0, _, _, _, _, _, _, _ => False
  | n + 1, S, G, a1, a2, a3, a4, a5 =>
    ((a1 ≤ a5 →
      (narrow .boolean (.int a4) = .int a4 ∧ (Q a4 S G)))
     ∧ (¬ a1 ≤ a5 →
      ((¬ a4 = 0 →
        (wp_X9_isAhead_63 Q (wp_X9_isAhead_6 Q  n) S G a1 a2 a3 a5))
       ∧ (a4 = 0 →
        (vp_in a5 301 ∧
          (((S 28 (Int32.toNatClampNeg a5)) = (-1 : Int32) →
            (wp_X9_isAhead_67 Q (wp_X9_isAhead_6 Q  n) S G a1 a2 a3 a5))
           ∧ (¬ (S 28 (Int32.toNatClampNeg a5)) = (-1 : Int32) →
            (vp_in a5 301 ∧
              (vp_in (S 28 (Int32.toNatClampNeg a5)) 60 ∧
                ((¬ (S 11 (Int32.toNatClampNeg (S 28 (Int32.toNatClampNeg a5)))) = a2 →
                  (wp_X9_isAhead_67 Q (wp_X9_isAhead_6 Q  n) S G a1 a2 a3 a5))
                 ∧ ((S 11 (Int32.toNatClampNeg (S 28 (Int32.toNatClampNeg a5)))) = a2 →
                  ((a3 = 0 →
                    (wp_X9_isAhead_63 Q (wp_X9_isAhead_6 Q  n) S G a1 a2 a3 a5))
                   ∧ (¬ a3 = 0 →
                    (vp_in a5 301 ∧
                      (vp_in (S 28 (Int32.toNatClampNeg a5)) 60 ∧
                        ((¬ (S 12 (Int32.toNatClampNeg (S 28 (Int32.toNatClampNeg a5)))) = 0 →
                          (wp_X9_isAhead_67 Q (wp_X9_isAhead_6 Q  n) S G a1 a2 a3 a5))
                         ∧ ((S 12 (Int32.toNatClampNeg (S 28 (Int32.toNatClampNeg a5)))) = 0 →
                          (wp_X9_isAhead_63 Q (wp_X9_isAhead_6 Q  n) S G a1 a2 a3 a5))))))))))))))))))
def wp_X9_isAhead_0 (Q : Int32 → mS → mG → Prop) (S : mS) (G : mG) (a1 : Int32) (a2 : Int32) (a3 : Int32) : Prop :=
    (∃ n9 : Nat, wp_X9_isAhead_6 Q  n9 S G a1 a2 a3 (0 : Int32) (0 : Int32))
set_option maxHeartbeats 4000000 in
set_option maxRecDepth 100000 in
theorem tb_X9_isAhead_68 {p : Program} {l : Launch} {e : Env} {s : State} {m : MethodId} {below : List Frame} {meth : Method} {c : Code} {args : Array Value} {dC : Nat → ClassId} {dI : Nat → Nat → Nat} {cI cJ cZ : ClassId} {o : Nat} {ad : Nat → Nat} {A : Nat → Prop} {Q : Int32 → mS → mG → Prop} (C : mCx p s m args meth c cX9_isAhead 6 (some .boolean) wsX9_isAhead A dC dI cI cJ cZ) {k6_ : mS → mG → Int32 → Int32 → Int32 → Int32 → Int32 → Prop} (h6_ : ∀ (S : mS) (G : mG) (a1 : Int32) (a2 : Int32) (a3 : Int32) (a4 : Int32) (a5 : Int32), k6_ S G a1 a2 a3 a4 a5 → mAt p l e rm_X9_isAhead s m args below meth c dC dI cI cJ cZ o ad A (MQ below (va_Qi (fun r (u : mS × mG) => Q r u.1 u.2) (mB dC dI cI cJ cZ o ad A) A) args s 0 0 A) 6 6 [(0, .ref o), (1, .int a1), (2, .int a2), (3, .int a3), (4, .int a4), (5, .int a5)] [] S G) : ∀ (S : mS) (G : mG) (a1 : Int32) (a2 : Int32) (a3 : Int32) (a5 : Int32) (k0 : Int32), wp_X9_isAhead_68 Q k6_ S G a1 a2 a3 a5 k0 → mAt p l e rm_X9_isAhead s m args below meth c dC dI cI cJ cZ o ad A (MQ below (va_Qi (fun r (u : mS × mG) => Q r u.1 u.2) (mB dC dI cI cJ cZ o ad A) A) args s 0 0 A) 68 6 [(0, .ref o), (1, .int a1), (2, .int a2), (3, .int a3), (5, .int a5)] [.int k0] S G := by
  obtain ⟨hx, hb, hml, hown, hts, hr, hlocks, hA, hK⟩ := id C
  intro S G a1 a2 a3 a5 k0 hw H locs hP hD hS ls hl
  rw [wp_X9_isAhead_68] at hw
  refine lv_istore (lv' := [(4, .int k0), (0, .ref o), (1, .int a1), (2, .int a2), (3, .int a3), (5, .int a5)]) hx hb dX9_isAhead_68 hl (by decide) rfl (fun ls hl => ?_)
  obtain ⟨v5_70, ev5_70⟩ : ∃ y : Int32, y = a5 + (1 : Int32) := ⟨_, rfl⟩
  have hw := hw v5_70 ev5_70
  refine lv_iinc (v := v5_70) (lv' := [(5, .int v5_70), (4, .int k0), (0, .ref o), (1, .int a1), (2, .int a2), (3, .int a3)]) hx hb dX9_isAhead_70 hl (k := 5) rfl (by rw [ev5_70]; rfl) (by decide) rfl (fun ls hl => ?_)
  refine lv_goto (tgt := 6) hx hb dX9_isAhead_73 (by decide) ?_
  exact h6_ S G a1 a2 a3 k0 v5_70 hw H locs hP hD hS ls (lv_sub hl [2, 3, 4, 5, 1, 0] rfl)
set_option maxHeartbeats 4000000 in
set_option maxRecDepth 100000 in
theorem tb_X9_isAhead_63 {p : Program} {l : Launch} {e : Env} {s : State} {m : MethodId} {below : List Frame} {meth : Method} {c : Code} {args : Array Value} {dC : Nat → ClassId} {dI : Nat → Nat → Nat} {cI cJ cZ : ClassId} {o : Nat} {ad : Nat → Nat} {A : Nat → Prop} {Q : Int32 → mS → mG → Prop} (C : mCx p s m args meth c cX9_isAhead 6 (some .boolean) wsX9_isAhead A dC dI cI cJ cZ) {k6_ : mS → mG → Int32 → Int32 → Int32 → Int32 → Int32 → Prop} (h6_ : ∀ (S : mS) (G : mG) (a1 : Int32) (a2 : Int32) (a3 : Int32) (a4 : Int32) (a5 : Int32), k6_ S G a1 a2 a3 a4 a5 → mAt p l e rm_X9_isAhead s m args below meth c dC dI cI cJ cZ o ad A (MQ below (va_Qi (fun r (u : mS × mG) => Q r u.1 u.2) (mB dC dI cI cJ cZ o ad A) A) args s 0 0 A) 6 6 [(0, .ref o), (1, .int a1), (2, .int a2), (3, .int a3), (4, .int a4), (5, .int a5)] [] S G) : ∀ (S : mS) (G : mG) (a1 : Int32) (a2 : Int32) (a3 : Int32) (a5 : Int32), wp_X9_isAhead_63 Q k6_ S G a1 a2 a3 a5 → mAt p l e rm_X9_isAhead s m args below meth c dC dI cI cJ cZ o ad A (MQ below (va_Qi (fun r (u : mS × mG) => Q r u.1 u.2) (mB dC dI cI cJ cZ o ad A) A) args s 0 0 A) 63 6 [(0, .ref o), (1, .int a1), (2, .int a2), (3, .int a3), (5, .int a5)] [] S G := by
  obtain ⟨hx, hb, hml, hown, hts, hr, hlocks, hA, hK⟩ := id C
  intro S G a1 a2 a3 a5 hw H locs hP hD hS ls hl
  rw [wp_X9_isAhead_63] at hw
  refine lv_iconst (v := 1) hx hb dX9_isAhead_63 (by decide) ?_
  refine lv_goto (tgt := 68) hx hb dX9_isAhead_64 (by decide) ?_
  exact tb_X9_isAhead_68 C h6_ S G a1 a2 a3 a5 (1 : Int32) hw H locs hP hD hS ls (lv_sub hl [0, 1, 2, 3, 4] rfl)
set_option maxHeartbeats 4000000 in
set_option maxRecDepth 100000 in
theorem tb_X9_isAhead_67 {p : Program} {l : Launch} {e : Env} {s : State} {m : MethodId} {below : List Frame} {meth : Method} {c : Code} {args : Array Value} {dC : Nat → ClassId} {dI : Nat → Nat → Nat} {cI cJ cZ : ClassId} {o : Nat} {ad : Nat → Nat} {A : Nat → Prop} {Q : Int32 → mS → mG → Prop} (C : mCx p s m args meth c cX9_isAhead 6 (some .boolean) wsX9_isAhead A dC dI cI cJ cZ) {k6_ : mS → mG → Int32 → Int32 → Int32 → Int32 → Int32 → Prop} (h6_ : ∀ (S : mS) (G : mG) (a1 : Int32) (a2 : Int32) (a3 : Int32) (a4 : Int32) (a5 : Int32), k6_ S G a1 a2 a3 a4 a5 → mAt p l e rm_X9_isAhead s m args below meth c dC dI cI cJ cZ o ad A (MQ below (va_Qi (fun r (u : mS × mG) => Q r u.1 u.2) (mB dC dI cI cJ cZ o ad A) A) args s 0 0 A) 6 6 [(0, .ref o), (1, .int a1), (2, .int a2), (3, .int a3), (4, .int a4), (5, .int a5)] [] S G) : ∀ (S : mS) (G : mG) (a1 : Int32) (a2 : Int32) (a3 : Int32) (a5 : Int32), wp_X9_isAhead_67 Q k6_ S G a1 a2 a3 a5 → mAt p l e rm_X9_isAhead s m args below meth c dC dI cI cJ cZ o ad A (MQ below (va_Qi (fun r (u : mS × mG) => Q r u.1 u.2) (mB dC dI cI cJ cZ o ad A) A) args s 0 0 A) 67 6 [(0, .ref o), (1, .int a1), (2, .int a2), (3, .int a3), (5, .int a5)] [] S G := by
  obtain ⟨hx, hb, hml, hown, hts, hr, hlocks, hA, hK⟩ := id C
  intro S G a1 a2 a3 a5 hw H locs hP hD hS ls hl
  rw [wp_X9_isAhead_67] at hw
  refine lv_iconst (v := 0) hx hb dX9_isAhead_67 (by decide) ?_
  exact tb_X9_isAhead_68 C h6_ S G a1 a2 a3 a5 (0 : Int32) hw H locs hP hD hS ls (lv_sub hl [0, 1, 2, 3, 4] rfl)
set_option maxHeartbeats 4000000 in
set_option maxRecDepth 100000 in
theorem tb_X9_isAhead_6 {p : Program} {l : Launch} {e : Env} {s : State} {m : MethodId} {below : List Frame} {meth : Method} {c : Code} {args : Array Value} {dC : Nat → ClassId} {dI : Nat → Nat → Nat} {cI cJ cZ : ClassId} {o : Nat} {ad : Nat → Nat} {A : Nat → Prop} {Q : Int32 → mS → mG → Prop} (C : mCx p s m args meth c cX9_isAhead 6 (some .boolean) wsX9_isAhead A dC dI cI cJ cZ) : ∀ (n : Nat) (S : mS) (G : mG) (a1 : Int32) (a2 : Int32) (a3 : Int32) (a4 : Int32) (a5 : Int32), wp_X9_isAhead_6 Q  n S G a1 a2 a3 a4 a5 → mAt p l e rm_X9_isAhead s m args below meth c dC dI cI cJ cZ o ad A (MQ below (va_Qi (fun r (u : mS × mG) => Q r u.1 u.2) (mB dC dI cI cJ cZ o ad A) A) args s 0 0 A) 6 6 [(0, .ref o), (1, .int a1), (2, .int a2), (3, .int a3), (4, .int a4), (5, .int a5)] [] S G := by
  obtain ⟨hx, hb, hml, hown, hts, hr, hlocks, hA, hK⟩ := id C
  intro n
  induction n with
  | zero => intro S G a1 a2 a3 a4 a5 hw; exact hw.elim
  | succ n ih =>
    intro S G a1 a2 a3 a4 a5 hw H locs hP hD hS ls hl
    rw [wp_X9_isAhead_6] at hw
    refine lv_iload hx hb dX9_isAhead_6 (lv_at hl 5 rfl) ?_
    refine lv_iload_n hx hb dX9_isAhead_8 rfl (lv_at hl 1 rfl) ?_
    refine lv_icmp_ge (tgt := 76) hx hb dX9_isAhead_9 (by decide) (fun c_9 => ?_) (fun c_9 => ?_)
    · have hw := hw.1 c_9
      refine lv_iload hx hb dX9_isAhead_76 (lv_at hl 4 rfl) ?_
      exact W.zret (v := a4) hx hb hr hw.1 (fun t ht hW => ⟨⟨a4, (S, G), rfl, hw.2, by rw [ht]; exact hP, va_K.moved hW.alike hK, hD⟩, hS.F ht⟩) hS.2.2 dX9_isAhead_78
    · have hw := hw.2 c_9
      refine lv_iload hx hb dX9_isAhead_12 (lv_at hl 4 rfl) ?_
      refine lv_if_ne (tgt := 63) hx hb dX9_isAhead_14 (by decide) (fun c_14 => ?_) (fun c_14 => ?_)
      · have hw := hw.1 c_14
        exact tb_X9_isAhead_63 C ih S G a1 a2 a3 a5 hw H locs hP hD hS ls (lv_sub hl [0, 1, 2, 3, 5] rfl)
      · have hw := hw.2 c_14
        refine lv_aload_n hx hb dX9_isAhead_17 rfl (lv_at hl 0 rfl) ?_
        refine va_get (D := (dC, dI)) (ci := 10) (v := .ref (ad 28)) (C := RX9) (T := TX9) (N := 38) hx hb hts iw_X9_isAhead hown hK hP 0 rfl rfl 28 (by decide) (hts _ lk_X9_isAhead_75) (fun _ h9 => h9) rfl dX9_isAhead_18 ?_
        refine lv_iload hx hb dX9_isAhead_21 (lv_at hl 5 rfl) ?_
        refine va_iald hx hb hK hP 22 0 rfl rfl hw.1 dX9_isAhead_23 ?_
        have hw := hw.2
        refine lv_iconst (v := -1) hx hb dX9_isAhead_24 (by decide) ?_
        refine lv_icmp_eq (tgt := 67) hx hb dX9_isAhead_25 (by decide) (fun c_25 => ?_) (fun c_25 => ?_)
        · have hw := hw.1 c_25
          exact tb_X9_isAhead_67 C ih S G a1 a2 a3 a5 hw H locs hP hD hS ls (lv_sub hl [0, 1, 2, 3, 5] rfl)
        · have hw := hw.2 c_25
          refine lv_aload_n hx hb dX9_isAhead_28 rfl (lv_at hl 0 rfl) ?_
          refine va_get (D := (dC, dI)) (ci := 10) (v := .ref (ad 11)) (C := RX9) (T := TX9) (N := 38) hx hb hts iw_X9_isAhead hown hK hP 0 rfl rfl 11 (by decide) (hts _ lk_X9_isAhead_28) (fun _ h9 => h9) rfl dX9_isAhead_29 ?_
          refine lv_aload_n hx hb dX9_isAhead_32 rfl (lv_at hl 0 rfl) ?_
          refine va_get (D := (dC, dI)) (ci := 10) (v := .ref (ad 28)) (C := RX9) (T := TX9) (N := 38) hx hb hts iw_X9_isAhead hown hK hP 0 rfl rfl 28 (by decide) (hts _ lk_X9_isAhead_75) (fun _ h9 => h9) rfl dX9_isAhead_33 ?_
          refine lv_iload hx hb dX9_isAhead_36 (lv_at hl 5 rfl) ?_
          refine va_iald hx hb hK hP 22 0 rfl rfl hw.1 dX9_isAhead_38 ?_
          have hw := hw.2
          refine va_iald hx hb hK hP 7 0 rfl rfl hw.1 dX9_isAhead_39 ?_
          have hw := hw.2
          refine lv_iload_n hx hb dX9_isAhead_40 rfl (lv_at hl 2 rfl) ?_
          refine lv_icmp_ne (tgt := 67) hx hb dX9_isAhead_41 (by decide) (fun c_41 => ?_) (fun c_41 => ?_)
          · have hw := hw.1 c_41
            exact tb_X9_isAhead_67 C ih S G a1 a2 a3 a5 hw H locs hP hD hS ls (lv_sub hl [0, 1, 2, 3, 5] rfl)
          · have hw := hw.2 c_41
            refine lv_iload_n hx hb dX9_isAhead_44 rfl (lv_at hl 3 rfl) ?_
            refine lv_if_eq (tgt := 63) hx hb dX9_isAhead_45 (by decide) (fun c_45 => ?_) (fun c_45 => ?_)
            · have hw := hw.1 c_45
              exact tb_X9_isAhead_63 C ih S G a1 a2 a3 a5 hw H locs hP hD hS ls (lv_sub hl [0, 1, 2, 3, 5] rfl)
            · have hw := hw.2 c_45
              refine lv_aload_n hx hb dX9_isAhead_48 rfl (lv_at hl 0 rfl) ?_
              refine va_get (D := (dC, dI)) (ci := 10) (v := .ref (ad 12)) (C := RX9) (T := TX9) (N := 38) hx hb hts iw_X9_isAhead hown hK hP 0 rfl rfl 12 (by decide) (hts _ lk_X9_isAhead_31) (fun _ h9 => h9) rfl dX9_isAhead_49 ?_
              refine lv_aload_n hx hb dX9_isAhead_52 rfl (lv_at hl 0 rfl) ?_
              refine va_get (D := (dC, dI)) (ci := 10) (v := .ref (ad 28)) (C := RX9) (T := TX9) (N := 38) hx hb hts iw_X9_isAhead hown hK hP 0 rfl rfl 28 (by decide) (hts _ lk_X9_isAhead_75) (fun _ h9 => h9) rfl dX9_isAhead_53 ?_
              refine lv_iload hx hb dX9_isAhead_56 (lv_at hl 5 rfl) ?_
              refine va_iald hx hb hK hP 22 0 rfl rfl hw.1 dX9_isAhead_58 ?_
              have hw := hw.2
              refine va_iald hx hb hK hP 8 0 rfl rfl hw.1 dX9_isAhead_59 ?_
              have hw := hw.2
              refine lv_if_ne (tgt := 67) hx hb dX9_isAhead_60 (by decide) (fun c_60 => ?_) (fun c_60 => ?_)
              · have hw := hw.1 c_60
                exact tb_X9_isAhead_67 C ih S G a1 a2 a3 a5 hw H locs hP hD hS ls (lv_sub hl [0, 1, 2, 3, 5] rfl)
              · have hw := hw.2 c_60
                exact tb_X9_isAhead_63 C ih S G a1 a2 a3 a5 hw H locs hP hD hS ls (lv_sub hl [0, 1, 2, 3, 5] rfl)
set_option maxHeartbeats 4000000 in
set_option maxRecDepth 100000 in
theorem tb_X9_isAhead_0 {p : Program} {l : Launch} {e : Env} {s : State} {m : MethodId} {below : List Frame} {meth : Method} {c : Code} {args : Array Value} {dC : Nat → ClassId} {dI : Nat → Nat → Nat} {cI cJ cZ : ClassId} {o : Nat} {ad : Nat → Nat} {A : Nat → Prop} {Q : Int32 → mS → mG → Prop} (C : mCx p s m args meth c cX9_isAhead 6 (some .boolean) wsX9_isAhead A dC dI cI cJ cZ) : ∀ (S : mS) (G : mG) (a1 : Int32) (a2 : Int32) (a3 : Int32), wp_X9_isAhead_0 Q  S G a1 a2 a3 → mAt p l e rm_X9_isAhead s m args below meth c dC dI cI cJ cZ o ad A (MQ below (va_Qi (fun r (u : mS × mG) => Q r u.1 u.2) (mB dC dI cI cJ cZ o ad A) A) args s 0 0 A) 0 6 [(0, .ref o), (1, .int a1), (2, .int a2), (3, .int a3)] [] S G := by
  obtain ⟨hx, hb, hml, hown, hts, hr, hlocks, hA, hK⟩ := id C
  intro S G a1 a2 a3 hw H locs hP hD hS ls hl
  rw [wp_X9_isAhead_0] at hw
  refine lv_iconst (v := 0) hx hb dX9_isAhead_0 (by decide) ?_
  refine lv_istore (lv' := [(4, .int (0 : Int32)), (0, .ref o), (1, .int a1), (2, .int a2), (3, .int a3)]) hx hb dX9_isAhead_1 hl (by decide) rfl (fun ls hl => ?_)
  refine lv_iconst (v := 0) hx hb dX9_isAhead_3 (by decide) ?_
  refine lv_istore (lv' := [(5, .int (0 : Int32)), (4, .int (0 : Int32)), (0, .ref o), (1, .int a1), (2, .int a2), (3, .int a3)]) hx hb dX9_isAhead_4 hl (by decide) rfl (fun ls hl => ?_)
  obtain ⟨n9, hw⟩ := hw
  exact tb_X9_isAhead_6 C  n9 S G a1 a2 a3 (0 : Int32) (0 : Int32) hw H locs hP hD hS ls (lv_sub hl [2, 3, 4, 5, 1, 0] rfl)
set_option maxHeartbeats 4000000 in
set_option maxRecDepth 100000 in
theorem c_X9_isAhead (l : Launch) (dC : Nat → ClassId) (dI : Nat → Nat → Nat) (cI cJ cZ : ClassId) (o : Nat) (ad : Nat → Nat) (S : mS) (G : mG) (sz : Nat) (a1 : Int32) (a2 : Int32) (a3 : Int32) (Q : Int32 → mS → mG → Prop) (hw : wp_X9_isAhead_0 Q S G a1 a2 a3) : Met l yX9_isAhead wsX9_isAhead rm_X9_isAhead (va_Pc [.ref o, .int a1, .int a2, .int a3] (mPre dC dI cI cJ cZ o ad S G sz)) (va_Qi (fun r (u : mS × mG) => Q r u.1 u.2) (mB dC dI cI cJ cZ o ad (mA cI cJ cZ o ad S G sz)) (mA cI cJ cZ o ad S G sz)) 0 0 (mA cI cJ cZ o ad S G sz) := by
  refine Met.ofW (cc := cX9_isAhead) (maxL := 6) (ret := (some .boolean)) (by decide) rfl ?_
  intro p e s m args below meth c s₁ B hml hv
  obtain ⟨rfl, hsz, hP, hK, hD0⟩ := hv
  subst hsz
  have hl := lv_entry ([.ref o, .int a1, .int a2, .int a3]) (n := 6) (Nat.le_of_ble_eq_true rfl)
  rw [lg_entry_eq]
  generalize (lg_sl ([.ref o, .int a1, .int a2, .int a3]) ++ List.replicate (6 - (lg_sl ([.ref o, .int a1, .int a2, .int a3])).length) Slot.unset).toArray = ls at hl ⊢
  exact tb_X9_isAhead_0 (Q := Q) (p := p) ⟨B.exec, B.bytes, hml, findClass_of_methodNamed B.named, atoms_spec (ws := wsX9_isAhead) B.pre, B.returns, B.notSynchronized, fun q h => Or.inr h, hK⟩ S G a1 a2 a3 hw s.heap [] hP (hD0.self (sz := s.heap.size)) va_S.rf ls hl
theorem iw_X9_finding : ∀ w ∈ u_ws RX9 TX9 38, w ∈ wsX9_finding := fun w h => List.mem_cons_of_mem _ (by first | exact List.mem_append_right _ h | decide +kernel +revert)
theorem lk_X9_finding_28 : Cond.fieldLink RX9 28 "TermKeeperModel" "thingOf" "[I" ∈ wsX9_finding := by decide +kernel
theorem lk_X9_finding_31 : Cond.fieldLink RX9 31 "TermKeeperModel" "kindOf" "[I" ∈ wsX9_finding := by decide +kernel
theorem lk_X9_finding_46 : Cond.fieldLink RX9 46 "TermKeeperModel" "definitions" "[J" ∈ wsX9_finding := by decide +kernel
theorem lk_X9_finding_50 : Cond.fieldLink RX9 50 "TermKeeperModel" "isKnown" "[Z" ∈ wsX9_finding := by decide +kernel
theorem lk_X9_finding_75 : Cond.fieldLink RX9 75 "TermKeeperModel" "useTerm" "[I" ∈ wsX9_finding := by decide +kernel
abbrev rm_X9_finding : Room := { frames := 1, cells := 0, slots := 0, locals := 25 }
def wp_X9_finding_102 (Q : Int32 → mS → mG → Prop) (k55_ : mS → mG → Int32 → Int32 → Int32 → Prop) (S : mS) (G : mG) (a1 : Int32) (a2 : Int32) (a3 : Int32) : Prop :=
    (∀ v3_102 : Int32, v3_102 = a3 + (1 : Int32) →
      (k55_ S G a1 a2 v3_102))
def wp_X9_finding_55 (Q : Int32 → mS → mG → Prop) : Nat → mS → mG → Int32 → Int32 → Int32 → Prop
  | 0, _, _, _, _, _ => False
  | n + 1, S, G, a1, a2, a3 =>
    (((40 : Int32) ≤ a3 →
      (Q (0 : Int32) S G))
     ∧ (¬ (40 : Int32) ≤ a3 →
      (vp_in a2 60 ∧
        (vp_in (S 11 (Int32.toNatClampNeg a2)) 40 ∧
          ((¬ (lg_cmp (((G 17 (Int32.toNatClampNeg (S 11 (Int32.toNatClampNeg a2)))) >>> (Int32.toInt64 a3 &&& 63)) &&& (1 : Int64)) (1 : Int64)) = 0 →
            (wp_X9_finding_102 Q (wp_X9_finding_55 Q  n) S G a1 a2 a3))
           ∧ ((lg_cmp (((G 17 (Int32.toNatClampNeg (S 11 (Int32.toNatClampNeg a2)))) >>> (Int32.toInt64 a3 &&& 63)) &&& (1 : Int64)) (1 : Int64)) = 0 →
            (vp_in a3 40 ∧
              ((¬ (S 18 (Int32.toNatClampNeg a3)) = 0 →
                (wp_X9_finding_102 Q (wp_X9_finding_55 Q  n) S G a1 a2 a3))
               ∧ ((S 18 (Int32.toNatClampNeg a3)) = 0 →
                (wp_X9_isAhead_0 (fun r_94 S_94 G_94 =>
                  ((¬ r_94 = 0 →
                    (wp_X9_finding_102 Q (wp_X9_finding_55 Q  n) S_94 G_94 a1 a2 a3))
                   ∧ (r_94 = 0 →
                    (Q (4 : Int32) S_94 G_94)))) S G a1 a3 (0 : Int32)))))))))))
def wp_X9_finding_53 (Q : Int32 → mS → mG → Prop) (S : mS) (G : mG) (a1 : Int32) (a2 : Int32) : Prop :=
    (∃ n9 : Nat, wp_X9_finding_55 Q  n9 S G a1 a2 (0 : Int32))
def wp_X9_finding_0 (Q : Int32 → mS → mG → Prop) (S : mS) (G : mG) (a1 : Int32) : Prop :=
    (vp_in a1 301 ∧
      (∀ v2_6 : Int32, v2_6 = (S 28 (Int32.toNatClampNeg a1)) →
        ((¬ v2_6 = (-1 : Int32) →
          (vp_in v2_6 60 ∧
            ((¬ (S 12 (Int32.toNatClampNeg v2_6)) = (1 : Int32) →
              (vp_in v2_6 60 ∧
                ((¬ (S 12 (Int32.toNatClampNeg v2_6)) = (2 : Int32) →
                  (wp_X9_finding_53 Q  S G a1 v2_6))
                 ∧ ((S 12 (Int32.toNatClampNeg v2_6)) = (2 : Int32) →
                  (vp_in v2_6 60 ∧
                    (wp_X9_isAhead_0 (fun r_45 S_45 G_45 =>
                      ((¬ r_45 = 0 →
                        (wp_X9_finding_53 Q  S_45 G_45 a1 v2_6))
                       ∧ (r_45 = 0 →
                        (Q (3 : Int32) S_45 G_45)))) S G a1 (S 11 (Int32.toNatClampNeg v2_6)) (1 : Int32)))))))
             ∧ ((S 12 (Int32.toNatClampNeg v2_6)) = (1 : Int32) →
              (Q (2 : Int32) S G)))))
         ∧ (v2_6 = (-1 : Int32) →
          (Q (1 : Int32) S G)))))
set_option maxHeartbeats 4000000 in
set_option maxRecDepth 100000 in
theorem tb_X9_finding_102 {p : Program} {l : Launch} {e : Env} {s : State} {m : MethodId} {below : List Frame} {meth : Method} {c : Code} {args : Array Value} {dC : Nat → ClassId} {dI : Nat → Nat → Nat} {cI cJ cZ : ClassId} {o : Nat} {ad : Nat → Nat} {A : Nat → Prop} {Q : Int32 → mS → mG → Prop} (C : mCx p s m args meth c cX9_finding 4 (some .int) wsX9_finding A dC dI cI cJ cZ) {k55_ : mS → mG → Int32 → Int32 → Int32 → Prop} (h55_ : ∀ (S : mS) (G : mG) (a1 : Int32) (a2 : Int32) (a3 : Int32), k55_ S G a1 a2 a3 → mAt p l e rm_X9_finding s m args below meth c dC dI cI cJ cZ o ad A (MQ below (va_Qi (fun r (u : mS × mG) => Q r u.1 u.2) (mB dC dI cI cJ cZ o ad A) A) args s 0 0 A) 55 4 [(0, .ref o), (1, .int a1), (2, .int a2), (3, .int a3)] [] S G) : ∀ (S : mS) (G : mG) (a1 : Int32) (a2 : Int32) (a3 : Int32), wp_X9_finding_102 Q k55_ S G a1 a2 a3 → mAt p l e rm_X9_finding s m args below meth c dC dI cI cJ cZ o ad A (MQ below (va_Qi (fun r (u : mS × mG) => Q r u.1 u.2) (mB dC dI cI cJ cZ o ad A) A) args s 0 0 A) 102 4 [(0, .ref o), (1, .int a1), (2, .int a2), (3, .int a3)] [] S G := by
  obtain ⟨hx, hb, hml, hown, hts, hr, hlocks, hA, hK⟩ := id C
  intro S G a1 a2 a3 hw H locs hP hD hS ls hl
  rw [wp_X9_finding_102] at hw
  obtain ⟨v3_102, ev3_102⟩ : ∃ y : Int32, y = a3 + (1 : Int32) := ⟨_, rfl⟩
  have hw := hw v3_102 ev3_102
  refine lv_iinc (v := v3_102) (lv' := [(3, .int v3_102), (0, .ref o), (1, .int a1), (2, .int a2)]) hx hb dX9_finding_102 hl (k := 3) rfl (by rw [ev3_102]; rfl) (by decide) rfl (fun ls hl => ?_)
  refine lv_goto (tgt := 55) hx hb dX9_finding_105 (by decide) ?_
  exact h55_ S G a1 a2 v3_102 hw H locs hP hD hS ls (lv_sub hl [1, 2, 3, 0] rfl)
set_option maxHeartbeats 4000000 in
set_option maxRecDepth 100000 in
theorem tb_X9_finding_55 {p : Program} {l : Launch} {e : Env} {s : State} {m : MethodId} {below : List Frame} {meth : Method} {c : Code} {args : Array Value} {dC : Nat → ClassId} {dI : Nat → Nat → Nat} {cI cJ cZ : ClassId} {o : Nat} {ad : Nat → Nat} {A : Nat → Prop} {Q : Int32 → mS → mG → Prop} (C : mCx p s m args meth c cX9_finding 4 (some .int) wsX9_finding A dC dI cI cJ cZ) : ∀ (n : Nat) (S : mS) (G : mG) (a1 : Int32) (a2 : Int32) (a3 : Int32), wp_X9_finding_55 Q  n S G a1 a2 a3 → mAt p l e rm_X9_finding s m args below meth c dC dI cI cJ cZ o ad A (MQ below (va_Qi (fun r (u : mS × mG) => Q r u.1 u.2) (mB dC dI cI cJ cZ o ad A) A) args s 0 0 A) 55 4 [(0, .ref o), (1, .int a1), (2, .int a2), (3, .int a3)] [] S G := by
  obtain ⟨hx, hb, hml, hown, hts, hr, hlocks, hA, hK⟩ := id C
  intro n
  induction n with
  | zero => intro S G a1 a2 a3 hw; exact hw.elim
  | succ n ih =>
    intro S G a1 a2 a3 hw H locs hP hD hS ls hl
    rw [wp_X9_finding_55] at hw
    refine lv_iload_n hx hb dX9_finding_55 rfl (lv_at hl 3 rfl) ?_
    refine lv_bipush (v := 40) hx hb dX9_finding_56 (by decide) ?_
    refine lv_icmp_ge (tgt := 108) hx hb dX9_finding_58 (by decide) (fun c_58 => ?_) (fun c_58 => ?_)
    · have hw := hw.1 c_58
      refine lv_iconst (v := 0) hx hb dX9_finding_108 (by decide) ?_
      exact W.iret (v := (0 : Int32)) hx hb hr (fun t ht hW => ⟨⟨(0 : Int32), (S, G), rfl, hw, by rw [ht]; exact hP, va_K.moved hW.alike hK, hD⟩, hS.F ht⟩) hS.2.2 dX9_finding_109
    · have hw := hw.2 c_58
      refine lv_aload_n hx hb dX9_finding_61 rfl (lv_at hl 0 rfl) ?_
      refine va_get (D := (dC, dI)) (ci := 10) (v := .ref (ad 17)) (C := RX9) (T := TX9) (N := 38) hx hb hts iw_X9_finding hown hK hP 0 rfl rfl 17 (by decide) (hts _ lk_X9_finding_46) (fun _ h9 => h9) rfl dX9_finding_62 ?_
      refine lv_aload_n hx hb dX9_finding_65 rfl (lv_at hl 0 rfl) ?_
      refine va_get (D := (dC, dI)) (ci := 10) (v := .ref (ad 11)) (C := RX9) (T := TX9) (N := 38) hx hb hts iw_X9_finding hown hK hP 0 rfl rfl 11 (by decide) (hts _ lk_X9_finding_28) (fun _ h9 => h9) rfl dX9_finding_66 ?_
      refine lv_iload_n hx hb dX9_finding_69 rfl (lv_at hl 2 rfl) ?_
      refine va_iald hx hb hK hP 7 0 rfl rfl hw.1 dX9_finding_70 ?_
      have hw := hw.2
      refine va_lald hx hb hK hP 13 1 rfl rfl hw.1 dX9_finding_71 ?_
      have hw := hw.2
      refine lv_iload_n hx hb dX9_finding_72 rfl (lv_at hl 3 rfl) ?_
      refine lv_lshr hx hb dX9_finding_73 rfl ?_
      refine lv_lconst (v := 1) hx hb dX9_finding_74 (by decide) ?_
      refine lv_land hx hb dX9_finding_75 ?_
      refine lv_lconst (v := 1) hx hb dX9_finding_76 (by decide) ?_
      refine W.lcmp hx hb dX9_finding_77 ?_
      refine lv_if_ne (tgt := 102) hx hb dX9_finding_78 (by decide) (fun c_78 => ?_) (fun c_78 => ?_)
      · have hw := hw.1 c_78
        exact tb_X9_finding_102 C ih S G a1 a2 a3 hw H locs hP hD hS ls (lv_sub hl [0, 1, 2, 3] rfl)
      · have hw := hw.2 c_78
        refine lv_aload_n hx hb dX9_finding_81 rfl (lv_at hl 0 rfl) ?_
        refine va_get (D := (dC, dI)) (ci := 10) (v := .ref (ad 18)) (C := RX9) (T := TX9) (N := 38) hx hb hts iw_X9_finding hown hK hP 0 rfl rfl 18 (by decide) (hts _ lk_X9_finding_50) (fun _ h9 => h9) rfl dX9_finding_82 ?_
        refine lv_iload_n hx hb dX9_finding_85 rfl (lv_at hl 3 rfl) ?_
        refine va_zald hx hb hK hP 14 2 rfl rfl hw.1 dX9_finding_86 ?_
        have hw := hw.2
        refine lv_if_ne (tgt := 102) hx hb dX9_finding_87 (by decide) (fun c_87 => ?_) (fun c_87 => ?_)
        · have hw := hw.1 c_87
          exact tb_X9_finding_102 C ih S G a1 a2 a3 hw H locs hP hD hS ls (lv_sub hl [0, 1, 2, 3] rfl)
        · have hw := hw.2 c_87
          refine lv_aload_n hx hb dX9_finding_90 rfl (lv_at hl 0 rfl) ?_
          refine lv_iload_n hx hb dX9_finding_91 rfl (lv_at hl 1 rfl) ?_
          refine lv_iload_n hx hb dX9_finding_92 rfl (lv_at hl 3 rfl) ?_
          refine lv_iconst (v := 0) hx hb dX9_finding_93 (by decide) ?_
          have hFc := mFree hD hS hA
          refine va_calli (va_runV (As := [.int a1, .int a3, .int (0 : Int32)]) (rest := []) ⟨hx, hb, hml, hown, hts⟩ (c_X9_isAhead l dC dI cI cJ cZ o ad S G H.size a1 a3 (0 : Int32) _ hw) (cwV 3 hts gX9_finding_X9_isAhead rfl rfl rfl (by decide +kernel) ⟨Nat.le_of_ble_eq_true rfl, Nat.le_of_ble_eq_true rfl⟩) (mPreV [.int a1, .int a3, .int (0 : Int32)] hK hP hD) rfl rfl hl.1 rfl (lv_room (Nat.le_of_ble_eq_true rfl)) dX9_finding_94 ⟨Nat.zero_le _, Nat.zero_le _⟩) hS (fun q _ h => hFc q h) hFc (fun r_94 u t H1 locs ht hvm hw hB hz1 hk1 hS => ?_)
          obtain ⟨S_94, G_94⟩ := u
          obtain ⟨hP, -, hD1⟩ := hB
          rw [ht] at hP
          have hw := id hw
          have hP : va_P (dC, dI) vwCl (mW cI cJ cZ o ad S_94 G_94) H1 := hP
          have hD : va_D A (mW cI cJ cZ o ad S_94 G_94) := mGain hD1 hFc
          generalize H1 = H at hP hS ⊢
          refine lv_if_ne (tgt := 102) hx hb dX9_finding_97 (by decide) (fun c_97 => ?_) (fun c_97 => ?_)
          · have hw := hw.1 c_97
            exact tb_X9_finding_102 C ih S_94 G_94 a1 a2 a3 hw H locs hP hD hS ls (lv_sub hl [0, 1, 2, 3] rfl)
          · have hw := hw.2 c_97
            refine lv_iconst (v := 4) hx hb dX9_finding_100 (by decide) ?_
            exact W.iret (v := (4 : Int32)) hx hb hr (fun t ht hW => ⟨⟨(4 : Int32), (S_94, G_94), rfl, hw, by rw [ht]; exact hP, va_K.moved hW.alike hK, hD⟩, hS.F ht⟩) hS.2.2 dX9_finding_101
set_option maxHeartbeats 4000000 in
set_option maxRecDepth 100000 in
theorem tb_X9_finding_53 {p : Program} {l : Launch} {e : Env} {s : State} {m : MethodId} {below : List Frame} {meth : Method} {c : Code} {args : Array Value} {dC : Nat → ClassId} {dI : Nat → Nat → Nat} {cI cJ cZ : ClassId} {o : Nat} {ad : Nat → Nat} {A : Nat → Prop} {Q : Int32 → mS → mG → Prop} (C : mCx p s m args meth c cX9_finding 4 (some .int) wsX9_finding A dC dI cI cJ cZ) : ∀ (S : mS) (G : mG) (a1 : Int32) (a2 : Int32), wp_X9_finding_53 Q  S G a1 a2 → mAt p l e rm_X9_finding s m args below meth c dC dI cI cJ cZ o ad A (MQ below (va_Qi (fun r (u : mS × mG) => Q r u.1 u.2) (mB dC dI cI cJ cZ o ad A) A) args s 0 0 A) 53 4 [(0, .ref o), (1, .int a1), (2, .int a2)] [] S G := by
  obtain ⟨hx, hb, hml, hown, hts, hr, hlocks, hA, hK⟩ := id C
  intro S G a1 a2 hw H locs hP hD hS ls hl
  rw [wp_X9_finding_53] at hw
  refine lv_iconst (v := 0) hx hb dX9_finding_53 (by decide) ?_
  refine lv_istore_n (lv' := [(3, .int (0 : Int32)), (0, .ref o), (1, .int a1), (2, .int a2)]) hx hb dX9_finding_54 rfl hl (by decide) rfl (fun ls hl => ?_)
  obtain ⟨n9, hw⟩ := hw
  exact tb_X9_finding_55 C  n9 S G a1 a2 (0 : Int32) hw H locs hP hD hS ls (lv_sub hl [1, 2, 3, 0] rfl)
set_option maxHeartbeats 4000000 in
set_option maxRecDepth 100000 in
theorem tb_X9_finding_0 {p : Program} {l : Launch} {e : Env} {s : State} {m : MethodId} {below : List Frame} {meth : Method} {c : Code} {args : Array Value} {dC : Nat → ClassId} {dI : Nat → Nat → Nat} {cI cJ cZ : ClassId} {o : Nat} {ad : Nat → Nat} {A : Nat → Prop} {Q : Int32 → mS → mG → Prop} (C : mCx p s m args meth c cX9_finding 4 (some .int) wsX9_finding A dC dI cI cJ cZ) : ∀ (S : mS) (G : mG) (a1 : Int32), wp_X9_finding_0 Q  S G a1 → mAt p l e rm_X9_finding s m args below meth c dC dI cI cJ cZ o ad A (MQ below (va_Qi (fun r (u : mS × mG) => Q r u.1 u.2) (mB dC dI cI cJ cZ o ad A) A) args s 0 0 A) 0 4 [(0, .ref o), (1, .int a1)] [] S G := by
  obtain ⟨hx, hb, hml, hown, hts, hr, hlocks, hA, hK⟩ := id C
  intro S G a1 hw H locs hP hD hS ls hl
  rw [wp_X9_finding_0] at hw
  refine lv_aload_n hx hb dX9_finding_0 rfl (lv_at hl 0 rfl) ?_
  refine va_get (D := (dC, dI)) (ci := 10) (v := .ref (ad 28)) (C := RX9) (T := TX9) (N := 38) hx hb hts iw_X9_finding hown hK hP 0 rfl rfl 28 (by decide) (hts _ lk_X9_finding_75) (fun _ h9 => h9) rfl dX9_finding_1 ?_
  refine lv_iload_n hx hb dX9_finding_4 rfl (lv_at hl 1 rfl) ?_
  refine va_iald hx hb hK hP 22 0 rfl rfl hw.1 dX9_finding_5 ?_
  have hw := hw.2
  refine lv_topi (fun v2_6 ev2_6 => ?_)
  have hw := hw v2_6 ev2_6
  refine lv_istore_n (lv' := [(2, .int v2_6), (0, .ref o), (1, .int a1)]) hx hb dX9_finding_6 rfl hl (by decide) rfl (fun ls hl => ?_)
  refine lv_iload_n hx hb dX9_finding_7 rfl (lv_at hl 0 rfl) ?_
  refine lv_iconst (v := -1) hx hb dX9_finding_8 (by decide) ?_
  refine lv_icmp_ne (tgt := 14) hx hb dX9_finding_9 (by decide) (fun c_9 => ?_) (fun c_9 => ?_)
  · have hw := hw.1 c_9
    refine lv_aload_n hx hb dX9_finding_14 rfl (lv_at hl 1 rfl) ?_
    refine va_get (D := (dC, dI)) (ci := 10) (v := .ref (ad 12)) (C := RX9) (T := TX9) (N := 38) hx hb hts iw_X9_finding hown hK hP 0 rfl rfl 12 (by decide) (hts _ lk_X9_finding_31) (fun _ h9 => h9) rfl dX9_finding_15 ?_
    refine lv_iload_n hx hb dX9_finding_18 rfl (lv_at hl 0 rfl) ?_
    refine va_iald hx hb hK hP 8 0 rfl rfl hw.1 dX9_finding_19 ?_
    have hw := hw.2
    refine lv_iconst (v := 1) hx hb dX9_finding_20 (by decide) ?_
    refine lv_icmp_ne (tgt := 26) hx hb dX9_finding_21 (by decide) (fun c_21 => ?_) (fun c_21 => ?_)
    · have hw := hw.1 c_21
      refine lv_aload_n hx hb dX9_finding_26 rfl (lv_at hl 1 rfl) ?_
      refine va_get (D := (dC, dI)) (ci := 10) (v := .ref (ad 12)) (C := RX9) (T := TX9) (N := 38) hx hb hts iw_X9_finding hown hK hP 0 rfl rfl 12 (by decide) (hts _ lk_X9_finding_31) (fun _ h9 => h9) rfl dX9_finding_27 ?_
      refine lv_iload_n hx hb dX9_finding_30 rfl (lv_at hl 0 rfl) ?_
      refine va_iald hx hb hK hP 8 0 rfl rfl hw.1 dX9_finding_31 ?_
      have hw := hw.2
      refine lv_iconst (v := 2) hx hb dX9_finding_32 (by decide) ?_
      refine lv_icmp_ne (tgt := 53) hx hb dX9_finding_33 (by decide) (fun c_33 => ?_) (fun c_33 => ?_)
      · have hw := hw.1 c_33
        exact tb_X9_finding_53 C  S G a1 v2_6 hw H locs hP hD hS ls (lv_sub hl [1, 2, 0] rfl)
      · have hw := hw.2 c_33
        refine lv_aload_n hx hb dX9_finding_36 rfl (lv_at hl 1 rfl) ?_
        refine lv_iload_n hx hb dX9_finding_37 rfl (lv_at hl 2 rfl) ?_
        refine lv_aload_n hx hb dX9_finding_38 rfl (lv_at hl 1 rfl) ?_
        refine va_get (D := (dC, dI)) (ci := 10) (v := .ref (ad 11)) (C := RX9) (T := TX9) (N := 38) hx hb hts iw_X9_finding hown hK hP 0 rfl rfl 11 (by decide) (hts _ lk_X9_finding_28) (fun _ h9 => h9) rfl dX9_finding_39 ?_
        refine lv_iload_n hx hb dX9_finding_42 rfl (lv_at hl 0 rfl) ?_
        refine va_iald hx hb hK hP 7 0 rfl rfl hw.1 dX9_finding_43 ?_
        have hw := hw.2
        refine lv_iconst (v := 1) hx hb dX9_finding_44 (by decide) ?_
        have hFc := mFree hD hS hA
        refine va_calli (va_runV (As := [.int a1, .int (S 11 (Int32.toNatClampNeg v2_6)), .int (1 : Int32)]) (rest := []) ⟨hx, hb, hml, hown, hts⟩ (c_X9_isAhead l dC dI cI cJ cZ o ad S G H.size a1 (S 11 (Int32.toNatClampNeg v2_6)) (1 : Int32) _ hw) (cwV 3 hts gX9_finding_X9_isAhead rfl rfl rfl (by decide +kernel) ⟨Nat.le_of_ble_eq_true rfl, Nat.le_of_ble_eq_true rfl⟩) (mPreV [.int a1, .int (S 11 (Int32.toNatClampNeg v2_6)), .int (1 : Int32)] hK hP hD) rfl rfl hl.1 rfl (lv_room (Nat.le_of_ble_eq_true rfl)) dX9_finding_45 ⟨Nat.zero_le _, Nat.zero_le _⟩) hS (fun q _ h => hFc q h) hFc (fun r_45 u t H1 locs ht hvm hw hB hz1 hk1 hS => ?_)
        obtain ⟨S_45, G_45⟩ := u
        obtain ⟨hP, -, hD1⟩ := hB
        rw [ht] at hP
        have hw := id hw
        have hP : va_P (dC, dI) vwCl (mW cI cJ cZ o ad S_45 G_45) H1 := hP
        have hD : va_D A (mW cI cJ cZ o ad S_45 G_45) := mGain hD1 hFc
        generalize H1 = H at hP hS ⊢
        refine lv_if_ne (tgt := 53) hx hb dX9_finding_48 (by decide) (fun c_48 => ?_) (fun c_48 => ?_)
        · have hw := hw.1 c_48
          exact tb_X9_finding_53 C  S_45 G_45 a1 v2_6 hw H locs hP hD hS ls (lv_sub hl [1, 2, 0] rfl)
        · have hw := hw.2 c_48
          refine lv_iconst (v := 3) hx hb dX9_finding_51 (by decide) ?_
          exact W.iret (v := (3 : Int32)) hx hb hr (fun t ht hW => ⟨⟨(3 : Int32), (S_45, G_45), rfl, hw, by rw [ht]; exact hP, va_K.moved hW.alike hK, hD⟩, hS.F ht⟩) hS.2.2 dX9_finding_52
    · have hw := hw.2 c_21
      refine lv_iconst (v := 2) hx hb dX9_finding_24 (by decide) ?_
      exact W.iret (v := (2 : Int32)) hx hb hr (fun t ht hW => ⟨⟨(2 : Int32), (S, G), rfl, hw, by rw [ht]; exact hP, va_K.moved hW.alike hK, hD⟩, hS.F ht⟩) hS.2.2 dX9_finding_25
  · have hw := hw.2 c_9
    refine lv_iconst (v := 1) hx hb dX9_finding_12 (by decide) ?_
    exact W.iret (v := (1 : Int32)) hx hb hr (fun t ht hW => ⟨⟨(1 : Int32), (S, G), rfl, hw, by rw [ht]; exact hP, va_K.moved hW.alike hK, hD⟩, hS.F ht⟩) hS.2.2 dX9_finding_13
set_option maxHeartbeats 4000000 in
set_option maxRecDepth 100000 in
theorem c_X9_finding (l : Launch) (dC : Nat → ClassId) (dI : Nat → Nat → Nat) (cI cJ cZ : ClassId) (o : Nat) (ad : Nat → Nat) (S : mS) (G : mG) (sz : Nat) (a1 : Int32) (Q : Int32 → mS → mG → Prop) (hw : wp_X9_finding_0 Q S G a1) : Met l yX9_finding wsX9_finding rm_X9_finding (va_Pc [.ref o, .int a1] (mPre dC dI cI cJ cZ o ad S G sz)) (va_Qi (fun r (u : mS × mG) => Q r u.1 u.2) (mB dC dI cI cJ cZ o ad (mA cI cJ cZ o ad S G sz)) (mA cI cJ cZ o ad S G sz)) 0 0 (mA cI cJ cZ o ad S G sz) := by
  refine Met.ofW (cc := cX9_finding) (maxL := 4) (ret := (some .int)) (by decide) rfl ?_
  intro p e s m args below meth c s₁ B hml hv
  obtain ⟨rfl, hsz, hP, hK, hD0⟩ := hv
  subst hsz
  have hl := lv_entry ([.ref o, .int a1]) (n := 4) (Nat.le_of_ble_eq_true rfl)
  rw [lg_entry_eq]
  generalize (lg_sl ([.ref o, .int a1]) ++ List.replicate (4 - (lg_sl ([.ref o, .int a1])).length) Slot.unset).toArray = ls at hl ⊢
  exact tb_X9_finding_0 (Q := Q) (p := p) ⟨B.exec, B.bytes, hml, findClass_of_methodNamed B.named, atoms_spec (ws := wsX9_finding) B.pre, B.returns, B.notSynchronized, fun q h => Or.inr h, hK⟩ S G a1 hw s.heap [] hP (hD0.self (sz := s.heap.size)) va_S.rf ls hl
theorem iw_X9_reads : ∀ w ∈ u_ws RX9 TX9 38, w ∈ wsX9_reads := fun w h => List.mem_cons_of_mem _ (by first | exact List.mem_append_right _ h | decide +kernel +revert)
theorem lk_X9_reads_25 : Cond.fieldLink RX9 25 "TermKeeperModel" "words" "[I" ∈ wsX9_reads := by decide +kernel
theorem lk_X9_reads_69 : Cond.fieldLink RX9 69 "TermKeeperModel" "useFrom" "[I" ∈ wsX9_reads := by decide +kernel
theorem lk_X9_reads_72 : Cond.fieldLink RX9 72 "TermKeeperModel" "useTo" "[I" ∈ wsX9_reads := by decide +kernel
theorem lk_X9_reads_75 : Cond.fieldLink RX9 75 "TermKeeperModel" "useTerm" "[I" ∈ wsX9_reads := by decide +kernel
theorem lk_X9_reads_78 : Cond.fieldLink RX9 78 "TermKeeperModel" "useEnding" "[I" ∈ wsX9_reads := by decide +kernel
theorem lk_X9_reads_81 : Cond.fieldLink RX9 81 "TermKeeperModel" "useFinding" "[I" ∈ wsX9_reads := by decide +kernel
theorem lk_X9_reads_127 : Cond.fieldLink RX9 127 "TermKeeperModel" "terms" "I" ∈ wsX9_reads := by decide +kernel
theorem lk_X9_reads_143 : Cond.fieldLink RX9 143 "TermKeeperModel" "found" "I" ∈ wsX9_reads := by decide +kernel
theorem lk_X9_reads_168 : Cond.fieldLink RX9 168 "TermKeeperModel" "uses" "I" ∈ wsX9_reads := by decide +kernel
abbrev rm_X9_reads : Room := { frames := 5, cells := 0, slots := 0, locals := 128 }
def wp_X9_reads_64 (Q : mS → mG → Prop) (k12_ : mS → mG → Int32 → Int32 → Prop) (k25_ : mS → mG → Int32 → Int32 → Int32 → Int32 → Prop) (S : mS) (G : mG) (a1 : Int32) (a2 : Int32) (a3 : Int32) (a4 : Int32) : Prop :=
    (∀ v4_64 : Int32, v4_64 = a4 + (1 : Int32) →
      (k25_ S G a1 a2 a3 v4_64))
def wp_X9_reads_150 (Q : mS → mG → Prop) (k12_ : mS → mG → Int32 → Int32 → Prop) (S : mS) (G : mG) (a1 : Int32) (a2 : Int32) (a3 : Int32) (k0 : Int32) (k1 : Int32) : Prop :=
    (vp_in k1 301 ∧ ∀ S_150 : mS, S_150 = mst S 29 (Int32.toNatClampNeg k1) k0 →
      (∀ S_158 : mS, S_158 = mst S_150 25 0 ((S_150 25 0) + (1 : Int32)) →
        (∀ v2_164 : Int32, v2_164 = (a2 + a3) →
          (k12_ S_158 G a1 v2_164))))
def wp_X9_reads_70 (Q : mS → mG → Prop) (k12_ : mS → mG → Int32 → Int32 → Prop) (S : mS) (G : mG) (a1 : Int32) (a2 : Int32) (a3 : Int32) : Prop :=
    ((¬ a3 = 0 →
      (vp_in (S 25 0) 301 ∧ ∀ S_89 : mS, S_89 = mst S 26 (Int32.toNatClampNeg (S 25 0)) a2 →
        (vp_in (S_89 25 0) 301 ∧ ∀ S_101 : mS, S_101 = mst S_89 27 (Int32.toNatClampNeg (S_89 25 0)) (a2 + a3) →
          (wp_X9_chosen_0 (fun r_106 S_106 G_106 =>
            (vp_in (S_106 25 0) 301 ∧ ∀ S_121 : mS, S_121 = mst S_106 28 (Int32.toNatClampNeg (S_106 25 0)) r_106 →
              ((¬ r_106 = (-1 : Int32) →
                (wp_X9_way_0 (fun r_145 S_145 G_145 =>
                  (wp_X9_reads_150 Q k12_ S_145 G_145 a1 a2 a3 (r_145 - (1 : Int32)) (S_121 25 0))) S_121 G_106 a1 a2 r_106))
               ∧ (r_106 = (-1 : Int32) →
                (wp_X9_reads_150 Q k12_ S_121 G_106 a1 a2 a3 (-1 : Int32) (S_121 25 0)))))) S_101 G a1 a2 a3))))
     ∧ (a3 = 0 →
      (∀ v2_74 : Int32, v2_74 = a2 + (1 : Int32) →
        (k12_ S G a1 v2_74))))
def wp_X9_reads_25 (Q : mS → mG → Prop) (k12_ : mS → mG → Int32 → Int32 → Prop) : Nat → mS → mG → Int32 → Int32 → Int32 → Int32 → Prop
  | 0, _, _, _, _, _, _ => False
  | n + 1, S, G, a1, a2, a3, a4 =>
    (((S 4 0) ≤ a4 →
      (wp_X9_reads_70 Q k12_ S G a1 a2 a3))
     ∧ (¬ (S 4 0) ≤ a4 →
      (vp_in a4 60 ∧
        (((S 10 (Int32.toNatClampNeg a4)) ≤ a3 →
          (wp_X9_reads_64 Q k12_ (wp_X9_reads_25 Q k12_ n) S G a1 a2 a3 a4))
         ∧ (¬ (S 10 (Int32.toNatClampNeg a4)) ≤ a3 →
          (wp_X9_way_0 (fun r_50 S_50 G_50 =>
            ((r_50 < 0 →
              (wp_X9_reads_64 Q k12_ (wp_X9_reads_25 Q k12_ n) S_50 G_50 a1 a2 a3 a4))
             ∧ (¬ r_50 < 0 →
              (vp_in a4 60 ∧
                (∀ v3_63 : Int32, v3_63 = (S_50 10 (Int32.toNatClampNeg a4)) →
                  (wp_X9_reads_64 Q k12_ (wp_X9_reads_25 Q k12_ n) S_50 G_50 a1 a2 v3_63 a4)))))) S G a1 a2 a4))))))
def wp_X9_reads_170 (Q : mS → mG → Prop) : Nat → mS → mG → Int32 → Prop
  | 0, _, _, _ => False
  | n + 1, S, G, a3 =>
    (((S 25 0) ≤ a3 →
      (Q S G))
     ∧ (¬ (S 25 0) ≤ a3 →
      (wp_X9_finding_0 (fun r_185 S_185 G_185 =>
        (vp_in a3 301 ∧ ∀ S_188 : mS, S_188 = mst S_185 30 (Int32.toNatClampNeg a3) r_185 →
          (∀ v3_189 : Int32, v3_189 = a3 + (1 : Int32) →
            ((wp_X9_reads_170 Q  n) S_188 G_185 v3_189)))) S G a3)))
def wp_X9_reads_168 (Q : mS → mG → Prop) (S : mS) (G : mG) : Prop :=
    (∃ n9 : Nat, wp_X9_reads_170 Q  n9 S G (0 : Int32))
def wp_X9_reads_12 (Q : mS → mG → Prop) : Nat → mS → mG → Int32 → Int32 → Prop
  | 0, _, _, _, _ => False
  | n + 1, S, G, a1, a2 =>
    (((S 21 0) ≤ a2 →
      (wp_X9_reads_168 Q  S G ))
     ∧ (¬ (S 21 0) ≤ a2 →
      (∃ n9 : Nat, wp_X9_reads_25 Q (wp_X9_reads_12 Q  n) n9 S G a1 a2 (0 : Int32) (0 : Int32))))
def wp_X9_reads_0 (Q : mS → mG → Prop) (S : mS) (G : mG) (a1 : Int32) : Prop :=
    (wp_X9_finds_0 (fun S_2 G_2 =>
      (∀ S_7 : mS, S_7 = mst S_2 25 0 (0 : Int32) →
        (∃ n9 : Nat, wp_X9_reads_12 Q  n9 S_7 G_2 a1 (0 : Int32)))) S G a1)
set_option maxHeartbeats 4000000 in
set_option maxRecDepth 100000 in
theorem tb_X9_reads_64 {p : Program} {l : Launch} {e : Env} {s : State} {m : MethodId} {below : List Frame} {meth : Method} {c : Code} {args : Array Value} {dC : Nat → ClassId} {dI : Nat → Nat → Nat} {cI cJ cZ : ClassId} {o : Nat} {ad : Nat → Nat} {A : Nat → Prop} {Q : mS → mG → Prop} (C : mCx p s m args meth c cX9_reads 5 none wsX9_reads A dC dI cI cJ cZ) {k12_ : mS → mG → Int32 → Int32 → Prop} (h12_ : ∀ (S : mS) (G : mG) (a1 : Int32) (a2 : Int32), k12_ S G a1 a2 → mAt p l e rm_X9_reads s m args below meth c dC dI cI cJ cZ o ad A (MQ below (va_Qv (fun (u : mS × mG) => Q u.1 u.2) (mB dC dI cI cJ cZ o ad A) A) args s 0 0 A) 12 5 [(0, .ref o), (1, .int a1), (2, .int a2)] [] S G) {k25_ : mS → mG → Int32 → Int32 → Int32 → Int32 → Prop} (h25_ : ∀ (S : mS) (G : mG) (a1 : Int32) (a2 : Int32) (a3 : Int32) (a4 : Int32), k25_ S G a1 a2 a3 a4 → mAt p l e rm_X9_reads s m args below meth c dC dI cI cJ cZ o ad A (MQ below (va_Qv (fun (u : mS × mG) => Q u.1 u.2) (mB dC dI cI cJ cZ o ad A) A) args s 0 0 A) 25 5 [(0, .ref o), (1, .int a1), (2, .int a2), (3, .int a3), (4, .int a4)] [] S G) : ∀ (S : mS) (G : mG) (a1 : Int32) (a2 : Int32) (a3 : Int32) (a4 : Int32), wp_X9_reads_64 Q k12_ k25_ S G a1 a2 a3 a4 → mAt p l e rm_X9_reads s m args below meth c dC dI cI cJ cZ o ad A (MQ below (va_Qv (fun (u : mS × mG) => Q u.1 u.2) (mB dC dI cI cJ cZ o ad A) A) args s 0 0 A) 64 5 [(0, .ref o), (1, .int a1), (2, .int a2), (3, .int a3), (4, .int a4)] [] S G := by
  obtain ⟨hx, hb, hml, hown, hts, hr, hlocks, hA, hK⟩ := id C
  intro S G a1 a2 a3 a4 hw H locs hP hD hS ls hl
  rw [wp_X9_reads_64] at hw
  obtain ⟨v4_64, ev4_64⟩ : ∃ y : Int32, y = a4 + (1 : Int32) := ⟨_, rfl⟩
  have hw := hw v4_64 ev4_64
  refine lv_iinc (v := v4_64) (lv' := [(4, .int v4_64), (0, .ref o), (1, .int a1), (2, .int a2), (3, .int a3)]) hx hb dX9_reads_64 hl (k := 4) rfl (by rw [ev4_64]; rfl) (by decide) rfl (fun ls hl => ?_)
  refine lv_goto (tgt := 25) hx hb dX9_reads_67 (by decide) ?_
  exact h25_ S G a1 a2 a3 v4_64 hw H locs hP hD hS ls (lv_sub hl [1, 2, 3, 4, 0] rfl)
set_option maxHeartbeats 4000000 in
set_option maxRecDepth 100000 in
theorem tb_X9_reads_150 {p : Program} {l : Launch} {e : Env} {s : State} {m : MethodId} {below : List Frame} {meth : Method} {c : Code} {args : Array Value} {dC : Nat → ClassId} {dI : Nat → Nat → Nat} {cI cJ cZ : ClassId} {o : Nat} {ad : Nat → Nat} {A : Nat → Prop} {Q : mS → mG → Prop} (C : mCx p s m args meth c cX9_reads 5 none wsX9_reads A dC dI cI cJ cZ) {k12_ : mS → mG → Int32 → Int32 → Prop} (h12_ : ∀ (S : mS) (G : mG) (a1 : Int32) (a2 : Int32), k12_ S G a1 a2 → mAt p l e rm_X9_reads s m args below meth c dC dI cI cJ cZ o ad A (MQ below (va_Qv (fun (u : mS × mG) => Q u.1 u.2) (mB dC dI cI cJ cZ o ad A) A) args s 0 0 A) 12 5 [(0, .ref o), (1, .int a1), (2, .int a2)] [] S G) : ∀ (S : mS) (G : mG) (a1 : Int32) (a2 : Int32) (a3 : Int32) (k0 : Int32) (k1 : Int32), wp_X9_reads_150 Q k12_ S G a1 a2 a3 k0 k1 → mAt p l e rm_X9_reads s m args below meth c dC dI cI cJ cZ o ad A (MQ below (va_Qv (fun (u : mS × mG) => Q u.1 u.2) (mB dC dI cI cJ cZ o ad A) A) args s 0 0 A) 150 5 [(0, .ref o), (1, .int a1), (2, .int a2), (3, .int a3)] [.int k0, .int k1, .ref (ad 29)] S G := by
  obtain ⟨hx, hb, hml, hown, hts, hr, hlocks, hA, hK⟩ := id C
  intro S G a1 a2 a3 k0 k1 hw H locs hP hD hS ls hl
  rw [wp_X9_reads_150] at hw
  refine va_iast hx hb hK hP hD hS 23 0 rfl rfl hw.1 dX9_reads_150 (fun H locs hP hD hS => ?_)
  obtain ⟨S_150, eS_150⟩ : ∃ y : mS, y = mst S 29 (Int32.toNatClampNeg k1) k0 := ⟨_, rfl⟩
  have hw := hw.2 S_150 eS_150
  have hP : va_P (dC, dI) vwCl (mW cI cJ cZ o ad S_150 G) H := by rw [eS_150]; exact hP
  have hD : va_D A (mW cI cJ cZ o ad S_150 G) := by rw [eS_150]; exact hD
  refine lv_aload_n hx hb dX9_reads_151 rfl (lv_at hl 0 rfl) ?_
  refine lv_dup hx hb dX9_reads_152 rfl ?_
  refine va_get (D := (dC, dI)) (ci := 10) (v := .int (S_150 25 0)) (C := RX9) (T := TX9) (N := 38) hx hb hts iw_X9_reads hown hK hP 0 rfl rfl 25 (by decide) (hts _ lk_X9_reads_168) (fun _ h9 => h9) rfl dX9_reads_153 ?_
  refine lv_iconst (v := 1) hx hb dX9_reads_156 (by decide) ?_
  refine lv_iadd hx hb dX9_reads_157 ?_
  refine va_put (D := (dC, dI)) (ci := 10) (v := .int ((S_150 25 0) + (1 : Int32))) (C := RX9) (T := TX9) (N := 38) hx hb hts iw_X9_reads tyX9 tyX9_ok nmX9 hown hK hP hD hS 0 rfl rfl 25 (by decide) (hts _ lk_X9_reads_168) (fun _ h9 => h9) rfl (tyX9_ok 25 (by decide)) rfl rfl (Nat.le_of_ble_eq_true rfl) dX9_reads_158 (fun H locs hP hD hS => ?_)
  obtain ⟨S_158, eS_158⟩ : ∃ y : mS, y = mst S_150 25 0 ((S_150 25 0) + (1 : Int32)) := ⟨_, rfl⟩
  have hw := hw S_158 eS_158
  have hP : va_P (dC, dI) vwCl (mW cI cJ cZ o ad S_158 G) H := by rw [eS_158]; exact hP
  have hD : va_D A (mW cI cJ cZ o ad S_158 G) := by rw [eS_158]; exact hD
  refine lv_iload_n hx hb dX9_reads_161 rfl (lv_at hl 2 rfl) ?_
  refine lv_iload_n hx hb dX9_reads_162 rfl (lv_at hl 3 rfl) ?_
  refine lv_iadd hx hb dX9_reads_163 ?_
  refine lv_topi (fun v2_164 ev2_164 => ?_)
  have hw := hw v2_164 ev2_164
  refine lv_istore_n (lv' := [(2, .int v2_164), (0, .ref o), (1, .int a1), (3, .int a3)]) hx hb dX9_reads_164 rfl hl (by decide) rfl (fun ls hl => ?_)
  refine lv_goto (tgt := 12) hx hb dX9_reads_165 (by decide) ?_
  exact h12_ S_158 G a1 v2_164 hw H locs hP hD hS ls (lv_sub hl [1, 2, 0] rfl)
set_option maxHeartbeats 4000000 in
set_option maxRecDepth 100000 in
theorem tb_X9_reads_70 {p : Program} {l : Launch} {e : Env} {s : State} {m : MethodId} {below : List Frame} {meth : Method} {c : Code} {args : Array Value} {dC : Nat → ClassId} {dI : Nat → Nat → Nat} {cI cJ cZ : ClassId} {o : Nat} {ad : Nat → Nat} {A : Nat → Prop} {Q : mS → mG → Prop} (C : mCx p s m args meth c cX9_reads 5 none wsX9_reads A dC dI cI cJ cZ) {k12_ : mS → mG → Int32 → Int32 → Prop} (h12_ : ∀ (S : mS) (G : mG) (a1 : Int32) (a2 : Int32), k12_ S G a1 a2 → mAt p l e rm_X9_reads s m args below meth c dC dI cI cJ cZ o ad A (MQ below (va_Qv (fun (u : mS × mG) => Q u.1 u.2) (mB dC dI cI cJ cZ o ad A) A) args s 0 0 A) 12 5 [(0, .ref o), (1, .int a1), (2, .int a2)] [] S G) : ∀ (S : mS) (G : mG) (a1 : Int32) (a2 : Int32) (a3 : Int32), wp_X9_reads_70 Q k12_ S G a1 a2 a3 → mAt p l e rm_X9_reads s m args below meth c dC dI cI cJ cZ o ad A (MQ below (va_Qv (fun (u : mS × mG) => Q u.1 u.2) (mB dC dI cI cJ cZ o ad A) A) args s 0 0 A) 70 5 [(0, .ref o), (1, .int a1), (2, .int a2), (3, .int a3)] [] S G := by
  obtain ⟨hx, hb, hml, hown, hts, hr, hlocks, hA, hK⟩ := id C
  intro S G a1 a2 a3 hw H locs hP hD hS ls hl
  rw [wp_X9_reads_70] at hw
  refine lv_iload_n hx hb dX9_reads_70 rfl (lv_at hl 3 rfl) ?_
  refine lv_if_ne (tgt := 80) hx hb dX9_reads_71 (by decide) (fun c_71 => ?_) (fun c_71 => ?_)
  · have hw := hw.1 c_71
    refine lv_aload_n hx hb dX9_reads_80 rfl (lv_at hl 0 rfl) ?_
    refine va_get (D := (dC, dI)) (ci := 10) (v := .ref (ad 26)) (C := RX9) (T := TX9) (N := 38) hx hb hts iw_X9_reads hown hK hP 0 rfl rfl 26 (by decide) (hts _ lk_X9_reads_69) (fun _ h9 => h9) rfl dX9_reads_81 ?_
    refine lv_aload_n hx hb dX9_reads_84 rfl (lv_at hl 0 rfl) ?_
    refine va_get (D := (dC, dI)) (ci := 10) (v := .int (S 25 0)) (C := RX9) (T := TX9) (N := 38) hx hb hts iw_X9_reads hown hK hP 0 rfl rfl 25 (by decide) (hts _ lk_X9_reads_168) (fun _ h9 => h9) rfl dX9_reads_85 ?_
    refine lv_iload_n hx hb dX9_reads_88 rfl (lv_at hl 2 rfl) ?_
    refine va_iast hx hb hK hP hD hS 20 0 rfl rfl hw.1 dX9_reads_89 (fun H locs hP hD hS => ?_)
    obtain ⟨S_89, eS_89⟩ : ∃ y : mS, y = mst S 26 (Int32.toNatClampNeg (S 25 0)) a2 := ⟨_, rfl⟩
    have hw := hw.2 S_89 eS_89
    have hP : va_P (dC, dI) vwCl (mW cI cJ cZ o ad S_89 G) H := by rw [eS_89]; exact hP
    have hD : va_D A (mW cI cJ cZ o ad S_89 G) := by rw [eS_89]; exact hD
    refine lv_aload_n hx hb dX9_reads_90 rfl (lv_at hl 0 rfl) ?_
    refine va_get (D := (dC, dI)) (ci := 10) (v := .ref (ad 27)) (C := RX9) (T := TX9) (N := 38) hx hb hts iw_X9_reads hown hK hP 0 rfl rfl 27 (by decide) (hts _ lk_X9_reads_72) (fun _ h9 => h9) rfl dX9_reads_91 ?_
    refine lv_aload_n hx hb dX9_reads_94 rfl (lv_at hl 0 rfl) ?_
    refine va_get (D := (dC, dI)) (ci := 10) (v := .int (S_89 25 0)) (C := RX9) (T := TX9) (N := 38) hx hb hts iw_X9_reads hown hK hP 0 rfl rfl 25 (by decide) (hts _ lk_X9_reads_168) (fun _ h9 => h9) rfl dX9_reads_95 ?_
    refine lv_iload_n hx hb dX9_reads_98 rfl (lv_at hl 2 rfl) ?_
    refine lv_iload_n hx hb dX9_reads_99 rfl (lv_at hl 3 rfl) ?_
    refine lv_iadd hx hb dX9_reads_100 ?_
    refine va_iast hx hb hK hP hD hS 21 0 rfl rfl hw.1 dX9_reads_101 (fun H locs hP hD hS => ?_)
    obtain ⟨S_101, eS_101⟩ : ∃ y : mS, y = mst S_89 27 (Int32.toNatClampNeg (S_89 25 0)) (a2 + a3) := ⟨_, rfl⟩
    have hw := hw.2 S_101 eS_101
    have hP : va_P (dC, dI) vwCl (mW cI cJ cZ o ad S_101 G) H := by rw [eS_101]; exact hP
    have hD : va_D A (mW cI cJ cZ o ad S_101 G) := by rw [eS_101]; exact hD
    refine lv_aload_n hx hb dX9_reads_102 rfl (lv_at hl 0 rfl) ?_
    refine lv_iload_n hx hb dX9_reads_103 rfl (lv_at hl 1 rfl) ?_
    refine lv_iload_n hx hb dX9_reads_104 rfl (lv_at hl 2 rfl) ?_
    refine lv_iload_n hx hb dX9_reads_105 rfl (lv_at hl 3 rfl) ?_
    have hFc := mFree hD hS hA
    refine va_calli (va_runV (As := [.int a1, .int a2, .int a3]) (rest := []) ⟨hx, hb, hml, hown, hts⟩ (c_X9_chosen l dC dI cI cJ cZ o ad S_101 G H.size a1 a2 a3 _ hw) (cwV 3 hts gX9_reads_X9_chosen rfl rfl rfl (by decide +kernel) ⟨Nat.le_of_ble_eq_true rfl, Nat.le_of_ble_eq_true rfl⟩) (mPreV [.int a1, .int a2, .int a3] hK hP hD) rfl rfl hl.1 rfl (lv_room (Nat.le_of_ble_eq_true rfl)) dX9_reads_106 ⟨Nat.zero_le _, Nat.zero_le _⟩) hS (fun q _ h => hFc q h) hFc (fun r_106 u t H1 locs ht hvm hw hB hz1 hk1 hS => ?_)
    obtain ⟨S_106, G_106⟩ := u
    obtain ⟨hP, -, hD1⟩ := hB
    rw [ht] at hP
    have hw := id hw
    have hP : va_P (dC, dI) vwCl (mW cI cJ cZ o ad S_106 G_106) H1 := hP
    have hD : va_D A (mW cI cJ cZ o ad S_106 G_106) := mGain hD1 hFc
    generalize H1 = H at hP hS ⊢
    refine lv_istore (lv' := [(4, .int r_106), (0, .ref o), (1, .int a1), (2, .int a2), (3, .int a3)]) hx hb dX9_reads_109 hl (by decide) rfl (fun ls hl => ?_)
    refine lv_aload_n hx hb dX9_reads_111 rfl (lv_at hl 1 rfl) ?_
    refine va_get (D := (dC, dI)) (ci := 10) (v := .ref (ad 28)) (C := RX9) (T := TX9) (N := 38) hx hb hts iw_X9_reads hown hK hP 0 rfl rfl 28 (by decide) (hts _ lk_X9_reads_75) (fun _ h9 => h9) rfl dX9_reads_112 ?_
    refine lv_aload_n hx hb dX9_reads_115 rfl (lv_at hl 1 rfl) ?_
    refine va_get (D := (dC, dI)) (ci := 10) (v := .int (S_106 25 0)) (C := RX9) (T := TX9) (N := 38) hx hb hts iw_X9_reads hown hK hP 0 rfl rfl 25 (by decide) (hts _ lk_X9_reads_168) (fun _ h9 => h9) rfl dX9_reads_116 ?_
    refine lv_iload hx hb dX9_reads_119 (lv_at hl 0 rfl) ?_
    refine va_iast hx hb hK hP hD hS 22 0 rfl rfl hw.1 dX9_reads_121 (fun H locs hP hD hS => ?_)
    obtain ⟨S_121, eS_121⟩ : ∃ y : mS, y = mst S_106 28 (Int32.toNatClampNeg (S_106 25 0)) r_106 := ⟨_, rfl⟩
    have hw := hw.2 S_121 eS_121
    have hP : va_P (dC, dI) vwCl (mW cI cJ cZ o ad S_121 G_106) H := by rw [eS_121]; exact hP
    have hD : va_D A (mW cI cJ cZ o ad S_121 G_106) := by rw [eS_121]; exact hD
    refine lv_aload_n hx hb dX9_reads_122 rfl (lv_at hl 1 rfl) ?_
    refine va_get (D := (dC, dI)) (ci := 10) (v := .ref (ad 29)) (C := RX9) (T := TX9) (N := 38) hx hb hts iw_X9_reads hown hK hP 0 rfl rfl 29 (by decide) (hts _ lk_X9_reads_78) (fun _ h9 => h9) rfl dX9_reads_123 ?_
    refine lv_aload_n hx hb dX9_reads_126 rfl (lv_at hl 1 rfl) ?_
    refine va_get (D := (dC, dI)) (ci := 10) (v := .int (S_121 25 0)) (C := RX9) (T := TX9) (N := 38) hx hb hts iw_X9_reads hown hK hP 0 rfl rfl 25 (by decide) (hts _ lk_X9_reads_168) (fun _ h9 => h9) rfl dX9_reads_127 ?_
    refine lv_iload hx hb dX9_reads_130 (lv_at hl 0 rfl) ?_
    refine lv_iconst (v := -1) hx hb dX9_reads_132 (by decide) ?_
    refine lv_icmp_ne (tgt := 140) hx hb dX9_reads_133 (by decide) (fun c_133 => ?_) (fun c_133 => ?_)
    · have hw := hw.1 c_133
      refine lv_aload_n hx hb dX9_reads_140 rfl (lv_at hl 1 rfl) ?_
      refine lv_iload_n hx hb dX9_reads_141 rfl (lv_at hl 2 rfl) ?_
      refine lv_iload_n hx hb dX9_reads_142 rfl (lv_at hl 3 rfl) ?_
      refine lv_iload hx hb dX9_reads_143 (lv_at hl 0 rfl) ?_
      have hFc := mFree hD hS hA
      refine va_calli (va_runV (As := [.int a1, .int a2, .int r_106]) (rest := [.int (S_121 25 0), .ref (ad 29)]) ⟨hx, hb, hml, hown, hts⟩ (c_X9_way l dC dI cI cJ cZ o ad S_121 G_106 H.size a1 a2 r_106 _ hw) (cwV 3 hts gX9_reads_X9_way rfl rfl rfl (by decide +kernel) ⟨Nat.le_of_ble_eq_true rfl, Nat.le_of_ble_eq_true rfl⟩) (mPreV [.int a1, .int a2, .int r_106] hK hP hD) rfl rfl hl.1 rfl (lv_room (Nat.le_of_ble_eq_true rfl)) dX9_reads_145 ⟨Nat.zero_le _, Nat.zero_le _⟩) hS (fun q _ h => hFc q h) hFc (fun r_145 u t H1 locs ht hvm hw hB hz1 hk1 hS => ?_)
      obtain ⟨S_145, G_145⟩ := u
      obtain ⟨hP, -, hD1⟩ := hB
      rw [ht] at hP
      have hw := id hw
      have hP : va_P (dC, dI) vwCl (mW cI cJ cZ o ad S_145 G_145) H1 := hP
      have hD : va_D A (mW cI cJ cZ o ad S_145 G_145) := mGain hD1 hFc
      generalize H1 = H at hP hS ⊢
      refine lv_iconst (v := 1) hx hb dX9_reads_148 (by decide) ?_
      refine lv_isub hx hb dX9_reads_149 ?_
      exact tb_X9_reads_150 C h12_ S_145 G_145 a1 a2 a3 (r_145 - (1 : Int32)) (S_121 25 0) hw H locs hP hD hS ls (lv_sub hl [1, 2, 3, 4] rfl)
    · have hw := hw.2 c_133
      refine lv_iconst (v := -1) hx hb dX9_reads_136 (by decide) ?_
      refine lv_goto (tgt := 150) hx hb dX9_reads_137 (by decide) ?_
      exact tb_X9_reads_150 C h12_ S_121 G_106 a1 a2 a3 (-1 : Int32) (S_121 25 0) hw H locs hP hD hS ls (lv_sub hl [1, 2, 3, 4] rfl)
  · have hw := hw.2 c_71
    obtain ⟨v2_74, ev2_74⟩ : ∃ y : Int32, y = a2 + (1 : Int32) := ⟨_, rfl⟩
    have hw := hw v2_74 ev2_74
    refine lv_iinc (v := v2_74) (lv' := [(2, .int v2_74), (0, .ref o), (1, .int a1), (3, .int a3)]) hx hb dX9_reads_74 hl (k := 2) rfl (by rw [ev2_74]; rfl) (by decide) rfl (fun ls hl => ?_)
    refine lv_goto (tgt := 12) hx hb dX9_reads_77 (by decide) ?_
    exact h12_ S G a1 v2_74 hw H locs hP hD hS ls (lv_sub hl [1, 2, 0] rfl)
set_option maxHeartbeats 4000000 in
set_option maxRecDepth 100000 in
theorem tb_X9_reads_25 {p : Program} {l : Launch} {e : Env} {s : State} {m : MethodId} {below : List Frame} {meth : Method} {c : Code} {args : Array Value} {dC : Nat → ClassId} {dI : Nat → Nat → Nat} {cI cJ cZ : ClassId} {o : Nat} {ad : Nat → Nat} {A : Nat → Prop} {Q : mS → mG → Prop} (C : mCx p s m args meth c cX9_reads 5 none wsX9_reads A dC dI cI cJ cZ) {k12_ : mS → mG → Int32 → Int32 → Prop} (h12_ : ∀ (S : mS) (G : mG) (a1 : Int32) (a2 : Int32), k12_ S G a1 a2 → mAt p l e rm_X9_reads s m args below meth c dC dI cI cJ cZ o ad A (MQ below (va_Qv (fun (u : mS × mG) => Q u.1 u.2) (mB dC dI cI cJ cZ o ad A) A) args s 0 0 A) 12 5 [(0, .ref o), (1, .int a1), (2, .int a2)] [] S G) : ∀ (n : Nat) (S : mS) (G : mG) (a1 : Int32) (a2 : Int32) (a3 : Int32) (a4 : Int32), wp_X9_reads_25 Q k12_ n S G a1 a2 a3 a4 → mAt p l e rm_X9_reads s m args below meth c dC dI cI cJ cZ o ad A (MQ below (va_Qv (fun (u : mS × mG) => Q u.1 u.2) (mB dC dI cI cJ cZ o ad A) A) args s 0 0 A) 25 5 [(0, .ref o), (1, .int a1), (2, .int a2), (3, .int a3), (4, .int a4)] [] S G := by
  obtain ⟨hx, hb, hml, hown, hts, hr, hlocks, hA, hK⟩ := id C
  intro n
  induction n with
  | zero => intro S G a1 a2 a3 a4 hw; exact hw.elim
  | succ n ih =>
    intro S G a1 a2 a3 a4 hw H locs hP hD hS ls hl
    rw [wp_X9_reads_25] at hw
    refine lv_iload hx hb dX9_reads_25 (lv_at hl 4 rfl) ?_
    refine lv_aload_n hx hb dX9_reads_27 rfl (lv_at hl 0 rfl) ?_
    refine va_get (D := (dC, dI)) (ci := 10) (v := .int (S 4 0)) (C := RX9) (T := TX9) (N := 38) hx hb hts iw_X9_reads hown hK hP 0 rfl rfl 4 (by decide) (hts _ lk_X9_reads_127) (fun _ h9 => h9) rfl dX9_reads_28 ?_
    refine lv_icmp_ge (tgt := 70) hx hb dX9_reads_31 (by decide) (fun c_31 => ?_) (fun c_31 => ?_)
    · have hw := hw.1 c_31
      exact tb_X9_reads_70 C h12_ S G a1 a2 a3 hw H locs hP hD hS ls (lv_sub hl [0, 1, 2, 3] rfl)
    · have hw := hw.2 c_31
      refine lv_aload_n hx hb dX9_reads_34 rfl (lv_at hl 0 rfl) ?_
      refine va_get (D := (dC, dI)) (ci := 10) (v := .ref (ad 10)) (C := RX9) (T := TX9) (N := 38) hx hb hts iw_X9_reads hown hK hP 0 rfl rfl 10 (by decide) (hts _ lk_X9_reads_25) (fun _ h9 => h9) rfl dX9_reads_35 ?_
      refine lv_iload hx hb dX9_reads_38 (lv_at hl 4 rfl) ?_
      refine va_iald hx hb hK hP 6 0 rfl rfl hw.1 dX9_reads_40 ?_
      have hw := hw.2
      refine lv_iload_n hx hb dX9_reads_41 rfl (lv_at hl 3 rfl) ?_
      refine lv_icmp_le (tgt := 64) hx hb dX9_reads_42 (by decide) (fun c_42 => ?_) (fun c_42 => ?_)
      · have hw := hw.1 c_42
        exact tb_X9_reads_64 C h12_ ih S G a1 a2 a3 a4 hw H locs hP hD hS ls (lv_sub hl [0, 1, 2, 3, 4] rfl)
      · have hw := hw.2 c_42
        refine lv_aload_n hx hb dX9_reads_45 rfl (lv_at hl 0 rfl) ?_
        refine lv_iload_n hx hb dX9_reads_46 rfl (lv_at hl 1 rfl) ?_
        refine lv_iload_n hx hb dX9_reads_47 rfl (lv_at hl 2 rfl) ?_
        refine lv_iload hx hb dX9_reads_48 (lv_at hl 4 rfl) ?_
        have hFc := mFree hD hS hA
        refine va_calli (va_runV (As := [.int a1, .int a2, .int a4]) (rest := []) ⟨hx, hb, hml, hown, hts⟩ (c_X9_way l dC dI cI cJ cZ o ad S G H.size a1 a2 a4 _ hw) (cwV 3 hts gX9_reads_X9_way rfl rfl rfl (by decide +kernel) ⟨Nat.le_of_ble_eq_true rfl, Nat.le_of_ble_eq_true rfl⟩) (mPreV [.int a1, .int a2, .int a4] hK hP hD) rfl rfl hl.1 rfl (lv_room (Nat.le_of_ble_eq_true rfl)) dX9_reads_50 ⟨Nat.zero_le _, Nat.zero_le _⟩) hS (fun q _ h => hFc q h) hFc (fun r_50 u t H1 locs ht hvm hw hB hz1 hk1 hS => ?_)
        obtain ⟨S_50, G_50⟩ := u
        obtain ⟨hP, -, hD1⟩ := hB
        rw [ht] at hP
        have hw := id hw
        have hP : va_P (dC, dI) vwCl (mW cI cJ cZ o ad S_50 G_50) H1 := hP
        have hD : va_D A (mW cI cJ cZ o ad S_50 G_50) := mGain hD1 hFc
        generalize H1 = H at hP hS ⊢
        refine lv_if_lt (tgt := 64) hx hb dX9_reads_53 (by decide) (fun c_53 => ?_) (fun c_53 => ?_)
        · have hw := hw.1 c_53
          exact tb_X9_reads_64 C h12_ ih S_50 G_50 a1 a2 a3 a4 hw H locs hP hD hS ls (lv_sub hl [0, 1, 2, 3, 4] rfl)
        · have hw := hw.2 c_53
          refine lv_aload_n hx hb dX9_reads_56 rfl (lv_at hl 0 rfl) ?_
          refine va_get (D := (dC, dI)) (ci := 10) (v := .ref (ad 10)) (C := RX9) (T := TX9) (N := 38) hx hb hts iw_X9_reads hown hK hP 0 rfl rfl 10 (by decide) (hts _ lk_X9_reads_25) (fun _ h9 => h9) rfl dX9_reads_57 ?_
          refine lv_iload hx hb dX9_reads_60 (lv_at hl 4 rfl) ?_
          refine va_iald hx hb hK hP 6 0 rfl rfl hw.1 dX9_reads_62 ?_
          have hw := hw.2
          refine lv_topi (fun v3_63 ev3_63 => ?_)
          have hw := hw v3_63 ev3_63
          refine lv_istore_n (lv' := [(3, .int v3_63), (0, .ref o), (1, .int a1), (2, .int a2), (4, .int a4)]) hx hb dX9_reads_63 rfl hl (by decide) rfl (fun ls hl => ?_)
          exact tb_X9_reads_64 C h12_ ih S_50 G_50 a1 a2 v3_63 a4 hw H locs hP hD hS ls (lv_sub hl [1, 2, 3, 0, 4] rfl)
set_option maxHeartbeats 4000000 in
set_option maxRecDepth 100000 in
theorem tb_X9_reads_170 {p : Program} {l : Launch} {e : Env} {s : State} {m : MethodId} {below : List Frame} {meth : Method} {c : Code} {args : Array Value} {dC : Nat → ClassId} {dI : Nat → Nat → Nat} {cI cJ cZ : ClassId} {o : Nat} {ad : Nat → Nat} {A : Nat → Prop} {Q : mS → mG → Prop} (C : mCx p s m args meth c cX9_reads 5 none wsX9_reads A dC dI cI cJ cZ) : ∀ (n : Nat) (S : mS) (G : mG) (a3 : Int32), wp_X9_reads_170 Q  n S G a3 → mAt p l e rm_X9_reads s m args below meth c dC dI cI cJ cZ o ad A (MQ below (va_Qv (fun (u : mS × mG) => Q u.1 u.2) (mB dC dI cI cJ cZ o ad A) A) args s 0 0 A) 170 5 [(0, .ref o), (3, .int a3)] [] S G := by
  obtain ⟨hx, hb, hml, hown, hts, hr, hlocks, hA, hK⟩ := id C
  intro n
  induction n with
  | zero => intro S G a3 hw; exact hw.elim
  | succ n ih =>
    intro S G a3 hw H locs hP hD hS ls hl
    rw [wp_X9_reads_170] at hw
    refine lv_iload_n hx hb dX9_reads_170 rfl (lv_at hl 1 rfl) ?_
    refine lv_aload_n hx hb dX9_reads_171 rfl (lv_at hl 0 rfl) ?_
    refine va_get (D := (dC, dI)) (ci := 10) (v := .int (S 25 0)) (C := RX9) (T := TX9) (N := 38) hx hb hts iw_X9_reads hown hK hP 0 rfl rfl 25 (by decide) (hts _ lk_X9_reads_168) (fun _ h9 => h9) rfl dX9_reads_172 ?_
    refine lv_icmp_ge (tgt := 195) hx hb dX9_reads_175 (by decide) (fun c_175 => ?_) (fun c_175 => ?_)
    · have hw := hw.1 c_175
      exact W.vret hx hb hr (fun t ht hW => ⟨⟨(S, G), rfl, hw, by rw [ht]; exact hP, va_K.moved hW.alike hK, hD⟩, hS.F ht⟩) hS.2.2 dX9_reads_195
    · have hw := hw.2 c_175
      refine lv_aload_n hx hb dX9_reads_178 rfl (lv_at hl 0 rfl) ?_
      refine va_get (D := (dC, dI)) (ci := 10) (v := .ref (ad 30)) (C := RX9) (T := TX9) (N := 38) hx hb hts iw_X9_reads hown hK hP 0 rfl rfl 30 (by decide) (hts _ lk_X9_reads_81) (fun _ h9 => h9) rfl dX9_reads_179 ?_
      refine lv_iload_n hx hb dX9_reads_182 rfl (lv_at hl 1 rfl) ?_
      refine lv_aload_n hx hb dX9_reads_183 rfl (lv_at hl 0 rfl) ?_
      refine lv_iload_n hx hb dX9_reads_184 rfl (lv_at hl 1 rfl) ?_
      have hFc := mFree hD hS hA
      refine va_calli (va_runV (As := [.int a3]) (rest := [.int a3, .ref (ad 30)]) ⟨hx, hb, hml, hown, hts⟩ (c_X9_finding l dC dI cI cJ cZ o ad S G H.size a3 _ hw) (cwV 1 hts gX9_reads_X9_finding rfl rfl rfl (by decide +kernel) ⟨Nat.le_of_ble_eq_true rfl, Nat.le_of_ble_eq_true rfl⟩) (mPreV [.int a3] hK hP hD) rfl rfl hl.1 rfl (lv_room (Nat.le_of_ble_eq_true rfl)) dX9_reads_185 ⟨Nat.zero_le _, Nat.zero_le _⟩) hS (fun q _ h => hFc q h) hFc (fun r_185 u t H1 locs ht hvm hw hB hz1 hk1 hS => ?_)
      obtain ⟨S_185, G_185⟩ := u
      obtain ⟨hP, -, hD1⟩ := hB
      rw [ht] at hP
      have hw := id hw
      have hP : va_P (dC, dI) vwCl (mW cI cJ cZ o ad S_185 G_185) H1 := hP
      have hD : va_D A (mW cI cJ cZ o ad S_185 G_185) := mGain hD1 hFc
      generalize H1 = H at hP hS ⊢
      refine va_iast hx hb hK hP hD hS 24 0 rfl rfl hw.1 dX9_reads_188 (fun H locs hP hD hS => ?_)
      obtain ⟨S_188, eS_188⟩ : ∃ y : mS, y = mst S_185 30 (Int32.toNatClampNeg a3) r_185 := ⟨_, rfl⟩
      have hw := hw.2 S_188 eS_188
      have hP : va_P (dC, dI) vwCl (mW cI cJ cZ o ad S_188 G_185) H := by rw [eS_188]; exact hP
      have hD : va_D A (mW cI cJ cZ o ad S_188 G_185) := by rw [eS_188]; exact hD
      obtain ⟨v3_189, ev3_189⟩ : ∃ y : Int32, y = a3 + (1 : Int32) := ⟨_, rfl⟩
      have hw := hw v3_189 ev3_189
      refine lv_iinc (v := v3_189) (lv' := [(3, .int v3_189), (0, .ref o)]) hx hb dX9_reads_189 hl (k := 1) rfl (by rw [ev3_189]; rfl) (by decide) rfl (fun ls hl => ?_)
      refine lv_goto (tgt := 170) hx hb dX9_reads_192 (by decide) ?_
      exact ih S_188 G_185 v3_189 hw H locs hP hD hS ls (lv_sub hl [1, 0] rfl)
set_option maxHeartbeats 4000000 in
set_option maxRecDepth 100000 in
theorem tb_X9_reads_168 {p : Program} {l : Launch} {e : Env} {s : State} {m : MethodId} {below : List Frame} {meth : Method} {c : Code} {args : Array Value} {dC : Nat → ClassId} {dI : Nat → Nat → Nat} {cI cJ cZ : ClassId} {o : Nat} {ad : Nat → Nat} {A : Nat → Prop} {Q : mS → mG → Prop} (C : mCx p s m args meth c cX9_reads 5 none wsX9_reads A dC dI cI cJ cZ) : ∀ (S : mS) (G : mG) , wp_X9_reads_168 Q  S G  → mAt p l e rm_X9_reads s m args below meth c dC dI cI cJ cZ o ad A (MQ below (va_Qv (fun (u : mS × mG) => Q u.1 u.2) (mB dC dI cI cJ cZ o ad A) A) args s 0 0 A) 168 5 [(0, .ref o)] [] S G := by
  obtain ⟨hx, hb, hml, hown, hts, hr, hlocks, hA, hK⟩ := id C
  intro S G  hw H locs hP hD hS ls hl
  rw [wp_X9_reads_168] at hw
  refine lv_iconst (v := 0) hx hb dX9_reads_168 (by decide) ?_
  refine lv_istore_n (lv' := [(3, .int (0 : Int32)), (0, .ref o)]) hx hb dX9_reads_169 rfl hl (by decide) rfl (fun ls hl => ?_)
  obtain ⟨n9, hw⟩ := hw
  exact tb_X9_reads_170 C  n9 S G (0 : Int32) hw H locs hP hD hS ls (lv_sub hl [1, 0] rfl)
set_option maxHeartbeats 4000000 in
set_option maxRecDepth 100000 in
theorem tb_X9_reads_12 {p : Program} {l : Launch} {e : Env} {s : State} {m : MethodId} {below : List Frame} {meth : Method} {c : Code} {args : Array Value} {dC : Nat → ClassId} {dI : Nat → Nat → Nat} {cI cJ cZ : ClassId} {o : Nat} {ad : Nat → Nat} {A : Nat → Prop} {Q : mS → mG → Prop} (C : mCx p s m args meth c cX9_reads 5 none wsX9_reads A dC dI cI cJ cZ) : ∀ (n : Nat) (S : mS) (G : mG) (a1 : Int32) (a2 : Int32), wp_X9_reads_12 Q  n S G a1 a2 → mAt p l e rm_X9_reads s m args below meth c dC dI cI cJ cZ o ad A (MQ below (va_Qv (fun (u : mS × mG) => Q u.1 u.2) (mB dC dI cI cJ cZ o ad A) A) args s 0 0 A) 12 5 [(0, .ref o), (1, .int a1), (2, .int a2)] [] S G := by
  obtain ⟨hx, hb, hml, hown, hts, hr, hlocks, hA, hK⟩ := id C
  intro n
  induction n with
  | zero => intro S G a1 a2 hw; exact hw.elim
  | succ n ih =>
    intro S G a1 a2 hw H locs hP hD hS ls hl
    rw [wp_X9_reads_12] at hw
    refine lv_iload_n hx hb dX9_reads_12 rfl (lv_at hl 2 rfl) ?_
    refine lv_aload_n hx hb dX9_reads_13 rfl (lv_at hl 0 rfl) ?_
    refine va_get (D := (dC, dI)) (ci := 10) (v := .int (S 21 0)) (C := RX9) (T := TX9) (N := 38) hx hb hts iw_X9_reads hown hK hP 0 rfl rfl 21 (by decide) (hts _ lk_X9_reads_143) (fun _ h9 => h9) rfl dX9_reads_14 ?_
    refine lv_icmp_ge (tgt := 168) hx hb dX9_reads_17 (by decide) (fun c_17 => ?_) (fun c_17 => ?_)
    · have hw := hw.1 c_17
      exact tb_X9_reads_168 C  S G  hw H locs hP hD hS ls (lv_sub hl [0] rfl)
    · have hw := hw.2 c_17
      refine lv_iconst (v := 0) hx hb dX9_reads_20 (by decide) ?_
      refine lv_istore_n (lv' := [(3, .int (0 : Int32)), (0, .ref o), (1, .int a1), (2, .int a2)]) hx hb dX9_reads_21 rfl hl (by decide) rfl (fun ls hl => ?_)
      refine lv_iconst (v := 0) hx hb dX9_reads_22 (by decide) ?_
      refine lv_istore (lv' := [(4, .int (0 : Int32)), (3, .int (0 : Int32)), (0, .ref o), (1, .int a1), (2, .int a2)]) hx hb dX9_reads_23 hl (by decide) rfl (fun ls hl => ?_)
      obtain ⟨n9, hw⟩ := hw
      exact tb_X9_reads_25 C ih n9 S G a1 a2 (0 : Int32) (0 : Int32) hw H locs hP hD hS ls (lv_sub hl [2, 3, 4, 1, 0] rfl)
set_option maxHeartbeats 4000000 in
set_option maxRecDepth 100000 in
theorem tb_X9_reads_0 {p : Program} {l : Launch} {e : Env} {s : State} {m : MethodId} {below : List Frame} {meth : Method} {c : Code} {args : Array Value} {dC : Nat → ClassId} {dI : Nat → Nat → Nat} {cI cJ cZ : ClassId} {o : Nat} {ad : Nat → Nat} {A : Nat → Prop} {Q : mS → mG → Prop} (C : mCx p s m args meth c cX9_reads 5 none wsX9_reads A dC dI cI cJ cZ) : ∀ (S : mS) (G : mG) (a1 : Int32), wp_X9_reads_0 Q  S G a1 → mAt p l e rm_X9_reads s m args below meth c dC dI cI cJ cZ o ad A (MQ below (va_Qv (fun (u : mS × mG) => Q u.1 u.2) (mB dC dI cI cJ cZ o ad A) A) args s 0 0 A) 0 5 [(0, .ref o), (1, .int a1)] [] S G := by
  obtain ⟨hx, hb, hml, hown, hts, hr, hlocks, hA, hK⟩ := id C
  intro S G a1 hw H locs hP hD hS ls hl
  rw [wp_X9_reads_0] at hw
  refine lv_aload_n hx hb dX9_reads_0 rfl (lv_at hl 0 rfl) ?_
  refine lv_iload_n hx hb dX9_reads_1 rfl (lv_at hl 1 rfl) ?_
  have hFc := mFree hD hS hA
  refine va_callv (va_runV (As := [.int a1]) (rest := []) ⟨hx, hb, hml, hown, hts⟩ (c_X9_finds l dC dI cI cJ cZ o ad S G H.size a1 _ hw) (cwV 1 hts gX9_reads_X9_finds rfl rfl rfl (by decide +kernel) ⟨Nat.le_of_ble_eq_true rfl, Nat.le_of_ble_eq_true rfl⟩) (mPreV [.int a1] hK hP hD) rfl rfl hl.1 rfl (lv_room (Nat.le_of_ble_eq_true rfl)) dX9_reads_2 ⟨Nat.zero_le _, Nat.zero_le _⟩) hS (fun q _ h => hFc q h) hFc (fun u t H1 locs ht hvm hw hB hz1 hk1 hS => ?_)
  obtain ⟨S_2, G_2⟩ := u
  obtain ⟨hP, -, hD1⟩ := hB
  rw [ht] at hP
  have hw := id hw
  have hP : va_P (dC, dI) vwCl (mW cI cJ cZ o ad S_2 G_2) H1 := hP
  have hD : va_D A (mW cI cJ cZ o ad S_2 G_2) := mGain hD1 hFc
  generalize H1 = H at hP hS ⊢
  refine lv_aload_n hx hb dX9_reads_5 rfl (lv_at hl 0 rfl) ?_
  refine lv_iconst (v := 0) hx hb dX9_reads_6 (by decide) ?_
  refine va_put (D := (dC, dI)) (ci := 10) (v := .int (0 : Int32)) (C := RX9) (T := TX9) (N := 38) hx hb hts iw_X9_reads tyX9 tyX9_ok nmX9 hown hK hP hD hS 0 rfl rfl 25 (by decide) (hts _ lk_X9_reads_168) (fun _ h9 => h9) rfl (tyX9_ok 25 (by decide)) rfl rfl (Nat.le_of_ble_eq_true rfl) dX9_reads_7 (fun H locs hP hD hS => ?_)
  obtain ⟨S_7, eS_7⟩ : ∃ y : mS, y = mst S_2 25 0 (0 : Int32) := ⟨_, rfl⟩
  have hw := hw S_7 eS_7
  have hP : va_P (dC, dI) vwCl (mW cI cJ cZ o ad S_7 G_2) H := by rw [eS_7]; exact hP
  have hD : va_D A (mW cI cJ cZ o ad S_7 G_2) := by rw [eS_7]; exact hD
  refine lv_iconst (v := 0) hx hb dX9_reads_10 (by decide) ?_
  refine lv_istore_n (lv' := [(2, .int (0 : Int32)), (0, .ref o), (1, .int a1)]) hx hb dX9_reads_11 rfl hl (by decide) rfl (fun ls hl => ?_)
  obtain ⟨n9, hw⟩ := hw
  exact tb_X9_reads_12 C  n9 S_7 G_2 a1 (0 : Int32) hw H locs hP hD hS ls (lv_sub hl [1, 2, 0] rfl)
set_option maxHeartbeats 4000000 in
set_option maxRecDepth 100000 in
theorem c_X9_reads (l : Launch) (dC : Nat → ClassId) (dI : Nat → Nat → Nat) (cI cJ cZ : ClassId) (o : Nat) (ad : Nat → Nat) (S : mS) (G : mG) (sz : Nat) (a1 : Int32) (Q : mS → mG → Prop) (hw : wp_X9_reads_0 Q S G a1) : Met l yX9_reads wsX9_reads rm_X9_reads (va_Pc [.ref o, .int a1] (mPre dC dI cI cJ cZ o ad S G sz)) (va_Qv (fun (u : mS × mG) => Q u.1 u.2) (mB dC dI cI cJ cZ o ad (mA cI cJ cZ o ad S G sz)) (mA cI cJ cZ o ad S G sz)) 0 0 (mA cI cJ cZ o ad S G sz) := by
  refine Met.ofW (cc := cX9_reads) (maxL := 5) (ret := none) (by decide) rfl ?_
  intro p e s m args below meth c s₁ B hml hv
  obtain ⟨rfl, hsz, hP, hK, hD0⟩ := hv
  subst hsz
  have hl := lv_entry ([.ref o, .int a1]) (n := 5) (Nat.le_of_ble_eq_true rfl)
  rw [lg_entry_eq]
  generalize (lg_sl ([.ref o, .int a1]) ++ List.replicate (5 - (lg_sl ([.ref o, .int a1])).length) Slot.unset).toArray = ls at hl ⊢
  exact tb_X9_reads_0 (Q := Q) (p := p) ⟨B.exec, B.bytes, hml, findClass_of_methodNamed B.named, atoms_spec (ws := wsX9_reads) B.pre, B.returns, B.notSynchronized, fun q h => Or.inr h, hK⟩ S G a1 hw s.heap [] hP (hD0.self (sz := s.heap.size)) va_S.rf ls hl
theorem iw_X9_uses : ∀ w ∈ u_ws RX9 TX9 38, w ∈ wsX9_uses := fun w h => List.mem_cons_of_mem _ (by first | exact List.mem_append_right _ h | decide +kernel +revert)
theorem lk_X9_uses_168 : Cond.fieldLink RX9 168 "TermKeeperModel" "uses" "I" ∈ wsX9_uses := by decide +kernel
abbrev rm_X9_uses : Room := { frames := 6, cells := 0, slots := 0, locals := 152 }
def wp_X9_uses_0 (Q : Int32 → mS → mG → Prop) (S : mS) (G : mG) (a1 : Int32) : Prop :=
    (wp_X9_isText_0 (fun r_2 S_2 G_2 =>
      ((¬ r_2 = 0 →
        (wp_X9_reads_0 (fun S_12 G_12 =>
          (Q (S_12 25 0) S_12 G_12)) S_2 G_2 a1))
       ∧ (r_2 = 0 →
        (Q (0 : Int32) S_2 G_2)))) S G a1)
set_option maxHeartbeats 4000000 in
set_option maxRecDepth 100000 in
theorem tb_X9_uses_0 {p : Program} {l : Launch} {e : Env} {s : State} {m : MethodId} {below : List Frame} {meth : Method} {c : Code} {args : Array Value} {dC : Nat → ClassId} {dI : Nat → Nat → Nat} {cI cJ cZ : ClassId} {o : Nat} {ad : Nat → Nat} {A : Nat → Prop} {Q : Int32 → mS → mG → Prop} (C : mCx p s m args meth c cX9_uses 2 (some .int) wsX9_uses A dC dI cI cJ cZ) : ∀ (S : mS) (G : mG) (a1 : Int32), wp_X9_uses_0 Q  S G a1 → mAt p l e rm_X9_uses s m args below meth c dC dI cI cJ cZ o ad A (MQ below (va_Qi (fun r (u : mS × mG) => Q r u.1 u.2) (mB dC dI cI cJ cZ o ad A) A) args s 0 0 A) 0 2 [(0, .ref o), (1, .int a1)] [] S G := by
  obtain ⟨hx, hb, hml, hown, hts, hr, hlocks, hA, hK⟩ := id C
  intro S G a1 hw H locs hP hD hS ls hl
  rw [wp_X9_uses_0] at hw
  refine lv_aload_n hx hb dX9_uses_0 rfl (lv_at hl 0 rfl) ?_
  refine lv_iload_n hx hb dX9_uses_1 rfl (lv_at hl 1 rfl) ?_
  have hFc := mFree hD hS hA
  refine va_calli (va_runV (As := [.int a1]) (rest := []) ⟨hx, hb, hml, hown, hts⟩ (c_X9_isText l dC dI cI cJ cZ o ad S G H.size a1 _ hw) (cwV 1 hts gX9_uses_X9_isText rfl rfl rfl (by decide +kernel) ⟨Nat.le_of_ble_eq_true rfl, Nat.le_of_ble_eq_true rfl⟩) (mPreV [.int a1] hK hP hD) rfl rfl hl.1 rfl (lv_room (Nat.le_of_ble_eq_true rfl)) dX9_uses_2 ⟨Nat.zero_le _, Nat.zero_le _⟩) hS (fun q _ h => hFc q h) hFc (fun r_2 u t H1 locs ht hvm hw hB hz1 hk1 hS => ?_)
  obtain ⟨S_2, G_2⟩ := u
  obtain ⟨hP, -, hD1⟩ := hB
  rw [ht] at hP
  have hw := id hw
  have hP : va_P (dC, dI) vwCl (mW cI cJ cZ o ad S_2 G_2) H1 := hP
  have hD : va_D A (mW cI cJ cZ o ad S_2 G_2) := mGain hD1 hFc
  generalize H1 = H at hP hS ⊢
  refine lv_if_ne (tgt := 10) hx hb dX9_uses_5 (by decide) (fun c_5 => ?_) (fun c_5 => ?_)
  · have hw := hw.1 c_5
    refine lv_aload_n hx hb dX9_uses_10 rfl (lv_at hl 0 rfl) ?_
    refine lv_iload_n hx hb dX9_uses_11 rfl (lv_at hl 1 rfl) ?_
    have hFc := mFree hD hS hA
    refine va_callv (va_runV (As := [.int a1]) (rest := []) ⟨hx, hb, hml, hown, hts⟩ (c_X9_reads l dC dI cI cJ cZ o ad S_2 G_2 H.size a1 _ hw) (cwV 1 hts gX9_uses_X9_reads rfl rfl rfl (by decide +kernel) ⟨Nat.le_of_ble_eq_true rfl, Nat.le_of_ble_eq_true rfl⟩) (mPreV [.int a1] hK hP hD) rfl rfl hl.1 rfl (lv_room (Nat.le_of_ble_eq_true rfl)) dX9_uses_12 ⟨Nat.zero_le _, Nat.zero_le _⟩) hS (fun q _ h => hFc q h) hFc (fun u t H1 locs ht hvm hw hB hz1 hk1 hS => ?_)
    obtain ⟨S_12, G_12⟩ := u
    obtain ⟨hP, -, hD1⟩ := hB
    rw [ht] at hP
    have hw := id hw
    have hP : va_P (dC, dI) vwCl (mW cI cJ cZ o ad S_12 G_12) H1 := hP
    have hD : va_D A (mW cI cJ cZ o ad S_12 G_12) := mGain hD1 hFc
    generalize H1 = H at hP hS ⊢
    refine lv_aload_n hx hb dX9_uses_15 rfl (lv_at hl 0 rfl) ?_
    refine va_get (D := (dC, dI)) (ci := 10) (v := .int (S_12 25 0)) (C := RX9) (T := TX9) (N := 38) hx hb hts iw_X9_uses hown hK hP 0 rfl rfl 25 (by decide) (hts _ lk_X9_uses_168) (fun _ h9 => h9) rfl dX9_uses_16 ?_
    exact W.iret (v := (S_12 25 0)) hx hb hr (fun t ht hW => ⟨⟨(S_12 25 0), (S_12, G_12), rfl, hw, by rw [ht]; exact hP, va_K.moved hW.alike hK, hD⟩, hS.F ht⟩) hS.2.2 dX9_uses_19
  · have hw := hw.2 c_5
    refine lv_iconst (v := 0) hx hb dX9_uses_8 (by decide) ?_
    exact W.iret (v := (0 : Int32)) hx hb hr (fun t ht hW => ⟨⟨(0 : Int32), (S_2, G_2), rfl, hw, by rw [ht]; exact hP, va_K.moved hW.alike hK, hD⟩, hS.F ht⟩) hS.2.2 dX9_uses_9
set_option maxHeartbeats 4000000 in
set_option maxRecDepth 100000 in
theorem c_X9_uses (l : Launch) (dC : Nat → ClassId) (dI : Nat → Nat → Nat) (cI cJ cZ : ClassId) (o : Nat) (ad : Nat → Nat) (S : mS) (G : mG) (sz : Nat) (a1 : Int32) (Q : Int32 → mS → mG → Prop) (hw : wp_X9_uses_0 Q S G a1) : Met l yX9_uses wsX9_uses rm_X9_uses (va_Pc [.ref o, .int a1] (mPre dC dI cI cJ cZ o ad S G sz)) (va_Qi (fun r (u : mS × mG) => Q r u.1 u.2) (mB dC dI cI cJ cZ o ad (mA cI cJ cZ o ad S G sz)) (mA cI cJ cZ o ad S G sz)) 0 0 (mA cI cJ cZ o ad S G sz) := by
  refine Met.ofW (cc := cX9_uses) (maxL := 2) (ret := (some .int)) (by decide) rfl ?_
  intro p e s m args below meth c s₁ B hml hv
  obtain ⟨rfl, hsz, hP, hK, hD0⟩ := hv
  subst hsz
  have hl := lv_entry ([.ref o, .int a1]) (n := 2) (Nat.le_of_ble_eq_true rfl)
  rw [lg_entry_eq]
  generalize (lg_sl ([.ref o, .int a1]) ++ List.replicate (2 - (lg_sl ([.ref o, .int a1])).length) Slot.unset).toArray = ls at hl ⊢
  exact tb_X9_uses_0 (Q := Q) (p := p) ⟨B.exec, B.bytes, hml, findClass_of_methodNamed B.named, atoms_spec (ws := wsX9_uses) B.pre, B.returns, B.notSynchronized, fun q h => Or.inr h, hK⟩ S G a1 hw s.heap [] hP (hD0.self (sz := s.heap.size)) va_S.rf ls hl
theorem iw_X9_use : ∀ w ∈ u_ws RX9 TX9 38, w ∈ wsX9_use := fun w h => List.mem_cons_of_mem _ (by first | exact List.mem_append_right _ h | decide +kernel +revert)
theorem lk_X9_use_60 : Cond.fieldLink RX9 60 "TermKeeperModel" "begin" "[I" ∈ wsX9_use := by decide +kernel
theorem lk_X9_use_63 : Cond.fieldLink RX9 63 "TermKeeperModel" "end" "[I" ∈ wsX9_use := by decide +kernel
theorem lk_X9_use_69 : Cond.fieldLink RX9 69 "TermKeeperModel" "useFrom" "[I" ∈ wsX9_use := by decide +kernel
theorem lk_X9_use_72 : Cond.fieldLink RX9 72 "TermKeeperModel" "useTo" "[I" ∈ wsX9_use := by decide +kernel
theorem lk_X9_use_75 : Cond.fieldLink RX9 75 "TermKeeperModel" "useTerm" "[I" ∈ wsX9_use := by decide +kernel
theorem lk_X9_use_78 : Cond.fieldLink RX9 78 "TermKeeperModel" "useEnding" "[I" ∈ wsX9_use := by decide +kernel
theorem lk_X9_use_81 : Cond.fieldLink RX9 81 "TermKeeperModel" "useFinding" "[I" ∈ wsX9_use := by decide +kernel
theorem lk_X9_use_168 : Cond.fieldLink RX9 168 "TermKeeperModel" "uses" "I" ∈ wsX9_use := by decide +kernel
abbrev rm_X9_use : Room := { frames := 6, cells := 0, slots := 0, locals := 152 }
def wp_X9_use_42 (Q : Int32 → mS → mG → Prop) (S : mS) (G : mG) (a2 : Int32) (a3 : Int32) (k0 : Int32) : Prop :=
    (wp_X9_right_0 (fun r_43 S_43 G_43 =>
      ((¬ r_43 = 0 →
        (
         (a3 = 0 →
          (vp_in a2 301 ∧
            (vp_in (S_43 26 (Int32.toNatClampNeg a2)) 301 ∧
              (Q (S_43 22 (Int32.toNatClampNeg (S_43 26 (Int32.toNatClampNeg a2)))) S_43 G_43)))) ∧
         (a3 = 1 →
          (vp_in a2 301 ∧
            (vp_in ((S_43 27 (Int32.toNatClampNeg a2)) - (1 : Int32)) 301 ∧
              (Q (S_43 23 (Int32.toNatClampNeg ((S_43 27 (Int32.toNatClampNeg a2)) - (1 : Int32)))) S_43 G_43)))) ∧
         (a3 = 2 →
          (vp_in a2 301 ∧
            (Q (S_43 28 (Int32.toNatClampNeg a2)) S_43 G_43))) ∧
         (a3 = 3 →
          (vp_in a2 301 ∧
            (Q (S_43 29 (Int32.toNatClampNeg a2)) S_43 G_43))) ∧
         (¬ a3 = 0 → ¬ a3 = 1 → ¬ a3 = 2 → ¬ a3 = 3 →
          (vp_in a2 301 ∧
            (Q (S_43 30 (Int32.toNatClampNeg a2)) S_43 G_43)))))
       ∧ (r_43 = 0 →
        (Q (0 : Int32) S_43 G_43)))) S G k0 (2 : Int32))
def wp_X9_use_41 (Q : Int32 → mS → mG → Prop) (S : mS) (G : mG) (a2 : Int32) (a3 : Int32) : Prop :=
    (wp_X9_use_42 Q  S G a2 a3 (0 : Int32))
def wp_X9_use_0 (Q : Int32 → mS → mG → Prop) (S : mS) (G : mG) (a1 : Int32) (a2 : Int32) (a3 : Int32) : Prop :=
    (wp_X9_isText_0 (fun r_2 S_2 G_2 =>
      ((¬ r_2 = 0 →
        (wp_X9_reads_0 (fun S_12 G_12 =>
          ((a2 < 0 →
            (wp_X9_use_41 Q  S_12 G_12 a2 a3))
           ∧ (¬ a2 < 0 →
            (((S_12 25 0) ≤ a2 →
              (wp_X9_use_41 Q  S_12 G_12 a2 a3))
             ∧ (¬ (S_12 25 0) ≤ a2 →
              ((a3 < 0 →
                (wp_X9_use_41 Q  S_12 G_12 a2 a3))
               ∧ (¬ a3 < 0 →
                (((4 : Int32) < a3 →
                  (wp_X9_use_41 Q  S_12 G_12 a2 a3))
                 ∧ (¬ (4 : Int32) < a3 →
                  (wp_X9_use_42 Q  S_12 G_12 a2 a3 (1 : Int32))))))))))) S_2 G_2 a1))
       ∧ (r_2 = 0 →
        (Q (0 : Int32) S_2 G_2)))) S G a1)
set_option maxHeartbeats 4000000 in
set_option maxRecDepth 100000 in
theorem tb_X9_use_42 {p : Program} {l : Launch} {e : Env} {s : State} {m : MethodId} {below : List Frame} {meth : Method} {c : Code} {args : Array Value} {dC : Nat → ClassId} {dI : Nat → Nat → Nat} {cI cJ cZ : ClassId} {o : Nat} {ad : Nat → Nat} {A : Nat → Prop} {Q : Int32 → mS → mG → Prop} (C : mCx p s m args meth c cX9_use 4 (some .int) wsX9_use A dC dI cI cJ cZ) : ∀ (S : mS) (G : mG) (a2 : Int32) (a3 : Int32) (k0 : Int32), wp_X9_use_42 Q  S G a2 a3 k0 → mAt p l e rm_X9_use s m args below meth c dC dI cI cJ cZ o ad A (MQ below (va_Qi (fun r (u : mS × mG) => Q r u.1 u.2) (mB dC dI cI cJ cZ o ad A) A) args s 0 0 A) 42 4 [(0, .ref o), (2, .int a2), (3, .int a3)] [.int k0, .ref o] S G := by
  obtain ⟨hx, hb, hml, hown, hts, hr, hlocks, hA, hK⟩ := id C
  intro S G a2 a3 k0 hw H locs hP hD hS ls hl
  rw [wp_X9_use_42] at hw
  refine lv_iconst (v := 2) hx hb dX9_use_42 (by decide) ?_
  have hFc := mFree hD hS hA
  refine va_calli (va_runV (As := [.int k0, .int (2 : Int32)]) (rest := []) ⟨hx, hb, hml, hown, hts⟩ (c_X9_right l dC dI cI cJ cZ o ad S G H.size k0 (2 : Int32) _ hw) (cwV 2 hts gX9_use_X9_right rfl rfl rfl (by decide +kernel) ⟨Nat.le_of_ble_eq_true rfl, Nat.le_of_ble_eq_true rfl⟩) (mPreV [.int k0, .int (2 : Int32)] hK hP hD) rfl rfl hl.1 rfl (lv_room (Nat.le_of_ble_eq_true rfl)) dX9_use_43 ⟨Nat.zero_le _, Nat.zero_le _⟩) hS (fun q _ h => hFc q h) hFc (fun r_43 u t H1 locs ht hvm hw hB hz1 hk1 hS => ?_)
  obtain ⟨S_43, G_43⟩ := u
  obtain ⟨hP, -, hD1⟩ := hB
  rw [ht] at hP
  have hw := id hw
  have hP : va_P (dC, dI) vwCl (mW cI cJ cZ o ad S_43 G_43) H1 := hP
  have hD : va_D A (mW cI cJ cZ o ad S_43 G_43) := mGain hD1 hFc
  generalize H1 = H at hP hS ⊢
  refine lv_if_ne (tgt := 51) hx hb dX9_use_46 (by decide) (fun c_46 => ?_) (fun c_46 => ?_)
  · have hw := hw.1 c_46
    refine lv_iload_n hx hb dX9_use_51 rfl (lv_at hl 2 rfl) ?_
    by_cases c_52_0 : a3 = 0
    · have hw := hw.1 c_52_0
      refine lv_tableIn (off := 32) (tgt := 84) hx hb dX9_use_52 (by rw [c_52_0]; decide) (by rw [c_52_0]; decide) (by rw [c_52_0]; decide) (by decide) ?_
      refine lv_aload_n hx hb dX9_use_84 rfl (lv_at hl 0 rfl) ?_
      refine va_get (D := (dC, dI)) (ci := 10) (v := .ref (ad 22)) (C := RX9) (T := TX9) (N := 38) hx hb hts iw_X9_use hown hK hP 0 rfl rfl 22 (by decide) (hts _ lk_X9_use_60) (fun _ h9 => h9) rfl dX9_use_85 ?_
      refine lv_aload_n hx hb dX9_use_88 rfl (lv_at hl 0 rfl) ?_
      refine va_get (D := (dC, dI)) (ci := 10) (v := .ref (ad 26)) (C := RX9) (T := TX9) (N := 38) hx hb hts iw_X9_use hown hK hP 0 rfl rfl 26 (by decide) (hts _ lk_X9_use_69) (fun _ h9 => h9) rfl dX9_use_89 ?_
      refine lv_iload_n hx hb dX9_use_92 rfl (lv_at hl 1 rfl) ?_
      refine va_iald hx hb hK hP 20 0 rfl rfl hw.1 dX9_use_93 ?_
      have hw := hw.2
      refine va_iald hx hb hK hP 17 0 rfl rfl hw.1 dX9_use_94 ?_
      have hw := hw.2
      exact W.iret (v := (S_43 22 (Int32.toNatClampNeg (S_43 26 (Int32.toNatClampNeg a2))))) hx hb hr (fun t ht hW => ⟨⟨(S_43 22 (Int32.toNatClampNeg (S_43 26 (Int32.toNatClampNeg a2)))), (S_43, G_43), rfl, hw, by rw [ht]; exact hP, va_K.moved hW.alike hK, hD⟩, hS.F ht⟩) hS.2.2 dX9_use_95
    by_cases c_52_1 : a3 = 1
    · have hw := hw.2.1 c_52_1
      refine lv_tableIn (off := 44) (tgt := 96) hx hb dX9_use_52 (by rw [c_52_1]; decide) (by rw [c_52_1]; decide) (by rw [c_52_1]; decide) (by decide) ?_
      refine lv_aload_n hx hb dX9_use_96 rfl (lv_at hl 0 rfl) ?_
      refine va_get (D := (dC, dI)) (ci := 10) (v := .ref (ad 23)) (C := RX9) (T := TX9) (N := 38) hx hb hts iw_X9_use hown hK hP 0 rfl rfl 23 (by decide) (hts _ lk_X9_use_63) (fun _ h9 => h9) rfl dX9_use_97 ?_
      refine lv_aload_n hx hb dX9_use_100 rfl (lv_at hl 0 rfl) ?_
      refine va_get (D := (dC, dI)) (ci := 10) (v := .ref (ad 27)) (C := RX9) (T := TX9) (N := 38) hx hb hts iw_X9_use hown hK hP 0 rfl rfl 27 (by decide) (hts _ lk_X9_use_72) (fun _ h9 => h9) rfl dX9_use_101 ?_
      refine lv_iload_n hx hb dX9_use_104 rfl (lv_at hl 1 rfl) ?_
      refine va_iald hx hb hK hP 21 0 rfl rfl hw.1 dX9_use_105 ?_
      have hw := hw.2
      refine lv_iconst (v := 1) hx hb dX9_use_106 (by decide) ?_
      refine lv_isub hx hb dX9_use_107 ?_
      refine va_iald hx hb hK hP 18 0 rfl rfl hw.1 dX9_use_108 ?_
      have hw := hw.2
      exact W.iret (v := (S_43 23 (Int32.toNatClampNeg ((S_43 27 (Int32.toNatClampNeg a2)) - (1 : Int32))))) hx hb hr (fun t ht hW => ⟨⟨(S_43 23 (Int32.toNatClampNeg ((S_43 27 (Int32.toNatClampNeg a2)) - (1 : Int32)))), (S_43, G_43), rfl, hw, by rw [ht]; exact hP, va_K.moved hW.alike hK, hD⟩, hS.F ht⟩) hS.2.2 dX9_use_109
    by_cases c_52_2 : a3 = 2
    · have hw := hw.2.2.1 c_52_2
      refine lv_tableIn (off := 58) (tgt := 110) hx hb dX9_use_52 (by rw [c_52_2]; decide) (by rw [c_52_2]; decide) (by rw [c_52_2]; decide) (by decide) ?_
      refine lv_aload_n hx hb dX9_use_110 rfl (lv_at hl 0 rfl) ?_
      refine va_get (D := (dC, dI)) (ci := 10) (v := .ref (ad 28)) (C := RX9) (T := TX9) (N := 38) hx hb hts iw_X9_use hown hK hP 0 rfl rfl 28 (by decide) (hts _ lk_X9_use_75) (fun _ h9 => h9) rfl dX9_use_111 ?_
      refine lv_iload_n hx hb dX9_use_114 rfl (lv_at hl 1 rfl) ?_
      refine va_iald hx hb hK hP 22 0 rfl rfl hw.1 dX9_use_115 ?_
      have hw := hw.2
      exact W.iret (v := (S_43 28 (Int32.toNatClampNeg a2))) hx hb hr (fun t ht hW => ⟨⟨(S_43 28 (Int32.toNatClampNeg a2)), (S_43, G_43), rfl, hw, by rw [ht]; exact hP, va_K.moved hW.alike hK, hD⟩, hS.F ht⟩) hS.2.2 dX9_use_116
    by_cases c_52_3 : a3 = 3
    · have hw := hw.2.2.2.1 c_52_3
      refine lv_tableIn (off := 65) (tgt := 117) hx hb dX9_use_52 (by rw [c_52_3]; decide) (by rw [c_52_3]; decide) (by rw [c_52_3]; decide) (by decide) ?_
      refine lv_aload_n hx hb dX9_use_117 rfl (lv_at hl 0 rfl) ?_
      refine va_get (D := (dC, dI)) (ci := 10) (v := .ref (ad 29)) (C := RX9) (T := TX9) (N := 38) hx hb hts iw_X9_use hown hK hP 0 rfl rfl 29 (by decide) (hts _ lk_X9_use_78) (fun _ h9 => h9) rfl dX9_use_118 ?_
      refine lv_iload_n hx hb dX9_use_121 rfl (lv_at hl 1 rfl) ?_
      refine va_iald hx hb hK hP 23 0 rfl rfl hw.1 dX9_use_122 ?_
      have hw := hw.2
      exact W.iret (v := (S_43 29 (Int32.toNatClampNeg a2))) hx hb hr (fun t ht hW => ⟨⟨(S_43 29 (Int32.toNatClampNeg a2)), (S_43, G_43), rfl, hw, by rw [ht]; exact hP, va_K.moved hW.alike hK, hD⟩, hS.F ht⟩) hS.2.2 dX9_use_123
    have hw := hw.2.2.2.2 c_52_0 c_52_1 c_52_2 c_52_3
    refine lv_tableOut (tgt := 124) hx hb dX9_use_52 (sw_out4 c_52_0 c_52_1 c_52_2 c_52_3) (by decide) ?_
    refine lv_aload_n hx hb dX9_use_124 rfl (lv_at hl 0 rfl) ?_
    refine va_get (D := (dC, dI)) (ci := 10) (v := .ref (ad 30)) (C := RX9) (T := TX9) (N := 38) hx hb hts iw_X9_use hown hK hP 0 rfl rfl 30 (by decide) (hts _ lk_X9_use_81) (fun _ h9 => h9) rfl dX9_use_125 ?_
    refine lv_iload_n hx hb dX9_use_128 rfl (lv_at hl 1 rfl) ?_
    refine va_iald hx hb hK hP 24 0 rfl rfl hw.1 dX9_use_129 ?_
    have hw := hw.2
    exact W.iret (v := (S_43 30 (Int32.toNatClampNeg a2))) hx hb hr (fun t ht hW => ⟨⟨(S_43 30 (Int32.toNatClampNeg a2)), (S_43, G_43), rfl, hw, by rw [ht]; exact hP, va_K.moved hW.alike hK, hD⟩, hS.F ht⟩) hS.2.2 dX9_use_130
  · have hw := hw.2 c_46
    refine lv_iconst (v := 0) hx hb dX9_use_49 (by decide) ?_
    exact W.iret (v := (0 : Int32)) hx hb hr (fun t ht hW => ⟨⟨(0 : Int32), (S_43, G_43), rfl, hw, by rw [ht]; exact hP, va_K.moved hW.alike hK, hD⟩, hS.F ht⟩) hS.2.2 dX9_use_50
set_option maxHeartbeats 4000000 in
set_option maxRecDepth 100000 in
theorem tb_X9_use_41 {p : Program} {l : Launch} {e : Env} {s : State} {m : MethodId} {below : List Frame} {meth : Method} {c : Code} {args : Array Value} {dC : Nat → ClassId} {dI : Nat → Nat → Nat} {cI cJ cZ : ClassId} {o : Nat} {ad : Nat → Nat} {A : Nat → Prop} {Q : Int32 → mS → mG → Prop} (C : mCx p s m args meth c cX9_use 4 (some .int) wsX9_use A dC dI cI cJ cZ) : ∀ (S : mS) (G : mG) (a2 : Int32) (a3 : Int32), wp_X9_use_41 Q  S G a2 a3 → mAt p l e rm_X9_use s m args below meth c dC dI cI cJ cZ o ad A (MQ below (va_Qi (fun r (u : mS × mG) => Q r u.1 u.2) (mB dC dI cI cJ cZ o ad A) A) args s 0 0 A) 41 4 [(0, .ref o), (2, .int a2), (3, .int a3)] [.ref o] S G := by
  obtain ⟨hx, hb, hml, hown, hts, hr, hlocks, hA, hK⟩ := id C
  intro S G a2 a3 hw H locs hP hD hS ls hl
  rw [wp_X9_use_41] at hw
  refine lv_iconst (v := 0) hx hb dX9_use_41 (by decide) ?_
  exact tb_X9_use_42 C  S G a2 a3 (0 : Int32) hw H locs hP hD hS ls (lv_sub hl [0, 1, 2] rfl)
set_option maxHeartbeats 4000000 in
set_option maxRecDepth 100000 in
theorem tb_X9_use_0 {p : Program} {l : Launch} {e : Env} {s : State} {m : MethodId} {below : List Frame} {meth : Method} {c : Code} {args : Array Value} {dC : Nat → ClassId} {dI : Nat → Nat → Nat} {cI cJ cZ : ClassId} {o : Nat} {ad : Nat → Nat} {A : Nat → Prop} {Q : Int32 → mS → mG → Prop} (C : mCx p s m args meth c cX9_use 4 (some .int) wsX9_use A dC dI cI cJ cZ) : ∀ (S : mS) (G : mG) (a1 : Int32) (a2 : Int32) (a3 : Int32), wp_X9_use_0 Q  S G a1 a2 a3 → mAt p l e rm_X9_use s m args below meth c dC dI cI cJ cZ o ad A (MQ below (va_Qi (fun r (u : mS × mG) => Q r u.1 u.2) (mB dC dI cI cJ cZ o ad A) A) args s 0 0 A) 0 4 [(0, .ref o), (1, .int a1), (2, .int a2), (3, .int a3)] [] S G := by
  obtain ⟨hx, hb, hml, hown, hts, hr, hlocks, hA, hK⟩ := id C
  intro S G a1 a2 a3 hw H locs hP hD hS ls hl
  rw [wp_X9_use_0] at hw
  refine lv_aload_n hx hb dX9_use_0 rfl (lv_at hl 0 rfl) ?_
  refine lv_iload_n hx hb dX9_use_1 rfl (lv_at hl 1 rfl) ?_
  have hFc := mFree hD hS hA
  refine va_calli (va_runV (As := [.int a1]) (rest := []) ⟨hx, hb, hml, hown, hts⟩ (c_X9_isText l dC dI cI cJ cZ o ad S G H.size a1 _ hw) (cwV 1 hts gX9_use_X9_isText rfl rfl rfl (by decide +kernel) ⟨Nat.le_of_ble_eq_true rfl, Nat.le_of_ble_eq_true rfl⟩) (mPreV [.int a1] hK hP hD) rfl rfl hl.1 rfl (lv_room (Nat.le_of_ble_eq_true rfl)) dX9_use_2 ⟨Nat.zero_le _, Nat.zero_le _⟩) hS (fun q _ h => hFc q h) hFc (fun r_2 u t H1 locs ht hvm hw hB hz1 hk1 hS => ?_)
  obtain ⟨S_2, G_2⟩ := u
  obtain ⟨hP, -, hD1⟩ := hB
  rw [ht] at hP
  have hw := id hw
  have hP : va_P (dC, dI) vwCl (mW cI cJ cZ o ad S_2 G_2) H1 := hP
  have hD : va_D A (mW cI cJ cZ o ad S_2 G_2) := mGain hD1 hFc
  generalize H1 = H at hP hS ⊢
  refine lv_if_ne (tgt := 10) hx hb dX9_use_5 (by decide) (fun c_5 => ?_) (fun c_5 => ?_)
  · have hw := hw.1 c_5
    refine lv_aload_n hx hb dX9_use_10 rfl (lv_at hl 0 rfl) ?_
    refine lv_iload_n hx hb dX9_use_11 rfl (lv_at hl 1 rfl) ?_
    have hFc := mFree hD hS hA
    refine va_callv (va_runV (As := [.int a1]) (rest := []) ⟨hx, hb, hml, hown, hts⟩ (c_X9_reads l dC dI cI cJ cZ o ad S_2 G_2 H.size a1 _ hw) (cwV 1 hts gX9_use_X9_reads rfl rfl rfl (by decide +kernel) ⟨Nat.le_of_ble_eq_true rfl, Nat.le_of_ble_eq_true rfl⟩) (mPreV [.int a1] hK hP hD) rfl rfl hl.1 rfl (lv_room (Nat.le_of_ble_eq_true rfl)) dX9_use_12 ⟨Nat.zero_le _, Nat.zero_le _⟩) hS (fun q _ h => hFc q h) hFc (fun u t H1 locs ht hvm hw hB hz1 hk1 hS => ?_)
    obtain ⟨S_12, G_12⟩ := u
    obtain ⟨hP, -, hD1⟩ := hB
    rw [ht] at hP
    have hw := id hw
    have hP : va_P (dC, dI) vwCl (mW cI cJ cZ o ad S_12 G_12) H1 := hP
    have hD : va_D A (mW cI cJ cZ o ad S_12 G_12) := mGain hD1 hFc
    generalize H1 = H at hP hS ⊢
    refine lv_aload_n hx hb dX9_use_15 rfl (lv_at hl 0 rfl) ?_
    refine lv_iload_n hx hb dX9_use_16 rfl (lv_at hl 2 rfl) ?_
    refine lv_if_lt (tgt := 41) hx hb dX9_use_17 (by decide) (fun c_17 => ?_) (fun c_17 => ?_)
    · have hw := hw.1 c_17
      exact tb_X9_use_41 C  S_12 G_12 a2 a3 hw H locs hP hD hS ls (lv_sub hl [0, 2, 3] rfl)
    · have hw := hw.2 c_17
      refine lv_iload_n hx hb dX9_use_20 rfl (lv_at hl 2 rfl) ?_
      refine lv_aload_n hx hb dX9_use_21 rfl (lv_at hl 0 rfl) ?_
      refine va_get (D := (dC, dI)) (ci := 10) (v := .int (S_12 25 0)) (C := RX9) (T := TX9) (N := 38) hx hb hts iw_X9_use hown hK hP 0 rfl rfl 25 (by decide) (hts _ lk_X9_use_168) (fun _ h9 => h9) rfl dX9_use_22 ?_
      refine lv_icmp_ge (tgt := 41) hx hb dX9_use_25 (by decide) (fun c_25 => ?_) (fun c_25 => ?_)
      · have hw := hw.1 c_25
        exact tb_X9_use_41 C  S_12 G_12 a2 a3 hw H locs hP hD hS ls (lv_sub hl [0, 2, 3] rfl)
      · have hw := hw.2 c_25
        refine lv_iload_n hx hb dX9_use_28 rfl (lv_at hl 3 rfl) ?_
        refine lv_if_lt (tgt := 41) hx hb dX9_use_29 (by decide) (fun c_29 => ?_) (fun c_29 => ?_)
        · have hw := hw.1 c_29
          exact tb_X9_use_41 C  S_12 G_12 a2 a3 hw H locs hP hD hS ls (lv_sub hl [0, 2, 3] rfl)
        · have hw := hw.2 c_29
          refine lv_iload_n hx hb dX9_use_32 rfl (lv_at hl 3 rfl) ?_
          refine lv_iconst (v := 4) hx hb dX9_use_33 (by decide) ?_
          refine lv_icmp_gt (tgt := 41) hx hb dX9_use_34 (by decide) (fun c_34 => ?_) (fun c_34 => ?_)
          · have hw := hw.1 c_34
            exact tb_X9_use_41 C  S_12 G_12 a2 a3 hw H locs hP hD hS ls (lv_sub hl [0, 2, 3] rfl)
          · have hw := hw.2 c_34
            refine lv_iconst (v := 1) hx hb dX9_use_37 (by decide) ?_
            refine lv_goto (tgt := 42) hx hb dX9_use_38 (by decide) ?_
            exact tb_X9_use_42 C  S_12 G_12 a2 a3 (1 : Int32) hw H locs hP hD hS ls (lv_sub hl [0, 2, 3] rfl)
  · have hw := hw.2 c_5
    refine lv_iconst (v := 0) hx hb dX9_use_8 (by decide) ?_
    exact W.iret (v := (0 : Int32)) hx hb hr (fun t ht hW => ⟨⟨(0 : Int32), (S_2, G_2), rfl, hw, by rw [ht]; exact hP, va_K.moved hW.alike hK, hD⟩, hS.F ht⟩) hS.2.2 dX9_use_9
set_option maxHeartbeats 4000000 in
set_option maxRecDepth 100000 in
theorem c_X9_use (l : Launch) (dC : Nat → ClassId) (dI : Nat → Nat → Nat) (cI cJ cZ : ClassId) (o : Nat) (ad : Nat → Nat) (S : mS) (G : mG) (sz : Nat) (a1 : Int32) (a2 : Int32) (a3 : Int32) (Q : Int32 → mS → mG → Prop) (hw : wp_X9_use_0 Q S G a1 a2 a3) : Met l yX9_use wsX9_use rm_X9_use (va_Pc [.ref o, .int a1, .int a2, .int a3] (mPre dC dI cI cJ cZ o ad S G sz)) (va_Qi (fun r (u : mS × mG) => Q r u.1 u.2) (mB dC dI cI cJ cZ o ad (mA cI cJ cZ o ad S G sz)) (mA cI cJ cZ o ad S G sz)) 0 0 (mA cI cJ cZ o ad S G sz) := by
  refine Met.ofW (cc := cX9_use) (maxL := 4) (ret := (some .int)) (by decide) rfl ?_
  intro p e s m args below meth c s₁ B hml hv
  obtain ⟨rfl, hsz, hP, hK, hD0⟩ := hv
  subst hsz
  have hl := lv_entry ([.ref o, .int a1, .int a2, .int a3]) (n := 4) (Nat.le_of_ble_eq_true rfl)
  rw [lg_entry_eq]
  generalize (lg_sl ([.ref o, .int a1, .int a2, .int a3]) ++ List.replicate (4 - (lg_sl ([.ref o, .int a1, .int a2, .int a3])).length) Slot.unset).toArray = ls at hl ⊢
  exact tb_X9_use_0 (Q := Q) (p := p) ⟨B.exec, B.bytes, hml, findClass_of_methodNamed B.named, atoms_spec (ws := wsX9_use) B.pre, B.returns, B.notSynchronized, fun q h => Or.inr h, hK⟩ S G a1 a2 a3 hw s.heap [] hP (hD0.self (sz := s.heap.size)) va_S.rf ls hl
theorem iw_X9_goodFor : ∀ w ∈ u_ws RX9 TX9 38, w ∈ wsX9_goodFor := fun w h => List.mem_cons_of_mem _ (by first | exact List.mem_append_right _ h | decide +kernel +revert)
theorem lk_X9_goodFor_28 : Cond.fieldLink RX9 28 "TermKeeperModel" "thingOf" "[I" ∈ wsX9_goodFor := by decide +kernel
theorem lk_X9_goodFor_31 : Cond.fieldLink RX9 31 "TermKeeperModel" "kindOf" "[I" ∈ wsX9_goodFor := by decide +kernel
theorem lk_X9_goodFor_75 : Cond.fieldLink RX9 75 "TermKeeperModel" "useTerm" "[I" ∈ wsX9_goodFor := by decide +kernel
theorem lk_X9_goodFor_78 : Cond.fieldLink RX9 78 "TermKeeperModel" "useEnding" "[I" ∈ wsX9_goodFor := by decide +kernel
theorem lk_X9_goodFor_127 : Cond.fieldLink RX9 127 "TermKeeperModel" "terms" "I" ∈ wsX9_goodFor := by decide +kernel
abbrev rm_X9_goodFor : Room := { frames := 1, cells := 0, slots := 0, locals := 22 }
def wp_X9_goodFor_68 (Q : Int32 → mS → mG → Prop) (k36_ : mS → mG → Int32 → Int32 → Int32 → Prop) (S : mS) (G : mG) (a1 : Int32) (a2 : Int32) (a3 : Int32) : Prop :=
    (∀ v3_68 : Int32, v3_68 = a3 + (1 : Int32) →
      (k36_ S G a1 a2 v3_68))
def wp_X9_goodFor_74 (Q : Int32 → mS → mG → Prop) (S : mS) (G : mG) (a1 : Int32) (a3 : Int32) : Prop :=
    (((S 4 0) ≤ a3 →
      (Q (-1 : Int32) S G))
     ∧ (¬ (S 4 0) ≤ a3 →
      (vp_in a1 301 ∧
        (wp_X9_isForm_0 (fun r_90 S_90 G_90 =>
          ((r_90 = 0 →
            (Q (-1 : Int32) S_90 G_90))
           ∧ (¬ r_90 = 0 →
            (Q a3 S_90 G_90)))) S G a3 (S 29 (Int32.toNatClampNeg a1))))))
def wp_X9_goodFor_36 (Q : Int32 → mS → mG → Prop) : Nat → mS → mG → Int32 → Int32 → Int32 → Prop
  | 0, _, _, _, _, _ => False
  | n + 1, S, G, a1, a2, a3 =>
    (((S 4 0) ≤ a3 →
      (wp_X9_goodFor_74 Q  S G a1 a3))
     ∧ (¬ (S 4 0) ≤ a3 →
      (vp_in a3 60 ∧
        ((¬ (S 12 (Int32.toNatClampNeg a3)) = 0 →
          (wp_X9_goodFor_68 Q (wp_X9_goodFor_36 Q  n) S G a1 a2 a3))
         ∧ ((S 12 (Int32.toNatClampNeg a3)) = 0 →
          (vp_in a3 60 ∧
            (vp_in a2 60 ∧
              (((S 11 (Int32.toNatClampNeg a3)) = (S 11 (Int32.toNatClampNeg a2)) →
                (wp_X9_goodFor_74 Q  S G a1 a3))
               ∧ (¬ (S 11 (Int32.toNatClampNeg a3)) = (S 11 (Int32.toNatClampNeg a2)) →
                (wp_X9_goodFor_68 Q (wp_X9_goodFor_36 Q  n) S G a1 a2 a3))))))))))
def wp_X9_goodFor_34 (Q : Int32 → mS → mG → Prop) (S : mS) (G : mG) (a1 : Int32) (a2 : Int32) : Prop :=
    (∃ n9 : Nat, wp_X9_goodFor_36 Q  n9 S G a1 a2 (0 : Int32))
def wp_X9_goodFor_0 (Q : Int32 → mS → mG → Prop) (S : mS) (G : mG) (a1 : Int32) : Prop :=
    (vp_in a1 301 ∧
      (∀ v2_6 : Int32, v2_6 = (S 28 (Int32.toNatClampNeg a1)) →
        ((v2_6 = (-1 : Int32) →
          (Q (-1 : Int32) S G))
         ∧ (¬ v2_6 = (-1 : Int32) →
          (vp_in v2_6 60 ∧
            (((S 12 (Int32.toNatClampNeg v2_6)) = (1 : Int32) →
              (wp_X9_goodFor_34 Q  S G a1 v2_6))
             ∧ (¬ (S 12 (Int32.toNatClampNeg v2_6)) = (1 : Int32) →
              (vp_in v2_6 60 ∧
                (((S 12 (Int32.toNatClampNeg v2_6)) = (3 : Int32) →
                  (wp_X9_goodFor_34 Q  S G a1 v2_6))
                 ∧ (¬ (S 12 (Int32.toNatClampNeg v2_6)) = (3 : Int32) →
                  (Q (-1 : Int32) S G)))))))))))
set_option maxHeartbeats 4000000 in
set_option maxRecDepth 100000 in
theorem tb_X9_goodFor_68 {p : Program} {l : Launch} {e : Env} {s : State} {m : MethodId} {below : List Frame} {meth : Method} {c : Code} {args : Array Value} {dC : Nat → ClassId} {dI : Nat → Nat → Nat} {cI cJ cZ : ClassId} {o : Nat} {ad : Nat → Nat} {A : Nat → Prop} {Q : Int32 → mS → mG → Prop} (C : mCx p s m args meth c cX9_goodFor 4 (some .int) wsX9_goodFor A dC dI cI cJ cZ) {k36_ : mS → mG → Int32 → Int32 → Int32 → Prop} (h36_ : ∀ (S : mS) (G : mG) (a1 : Int32) (a2 : Int32) (a3 : Int32), k36_ S G a1 a2 a3 → mAt p l e rm_X9_goodFor s m args below meth c dC dI cI cJ cZ o ad A (MQ below (va_Qi (fun r (u : mS × mG) => Q r u.1 u.2) (mB dC dI cI cJ cZ o ad A) A) args s 0 0 A) 36 4 [(0, .ref o), (1, .int a1), (2, .int a2), (3, .int a3)] [] S G) : ∀ (S : mS) (G : mG) (a1 : Int32) (a2 : Int32) (a3 : Int32), wp_X9_goodFor_68 Q k36_ S G a1 a2 a3 → mAt p l e rm_X9_goodFor s m args below meth c dC dI cI cJ cZ o ad A (MQ below (va_Qi (fun r (u : mS × mG) => Q r u.1 u.2) (mB dC dI cI cJ cZ o ad A) A) args s 0 0 A) 68 4 [(0, .ref o), (1, .int a1), (2, .int a2), (3, .int a3)] [] S G := by
  obtain ⟨hx, hb, hml, hown, hts, hr, hlocks, hA, hK⟩ := id C
  intro S G a1 a2 a3 hw H locs hP hD hS ls hl
  rw [wp_X9_goodFor_68] at hw
  obtain ⟨v3_68, ev3_68⟩ : ∃ y : Int32, y = a3 + (1 : Int32) := ⟨_, rfl⟩
  have hw := hw v3_68 ev3_68
  refine lv_iinc (v := v3_68) (lv' := [(3, .int v3_68), (0, .ref o), (1, .int a1), (2, .int a2)]) hx hb dX9_goodFor_68 hl (k := 3) rfl (by rw [ev3_68]; rfl) (by decide) rfl (fun ls hl => ?_)
  refine lv_goto (tgt := 36) hx hb dX9_goodFor_71 (by decide) ?_
  exact h36_ S G a1 a2 v3_68 hw H locs hP hD hS ls (lv_sub hl [1, 2, 3, 0] rfl)
set_option maxHeartbeats 4000000 in
set_option maxRecDepth 100000 in
theorem tb_X9_goodFor_74 {p : Program} {l : Launch} {e : Env} {s : State} {m : MethodId} {below : List Frame} {meth : Method} {c : Code} {args : Array Value} {dC : Nat → ClassId} {dI : Nat → Nat → Nat} {cI cJ cZ : ClassId} {o : Nat} {ad : Nat → Nat} {A : Nat → Prop} {Q : Int32 → mS → mG → Prop} (C : mCx p s m args meth c cX9_goodFor 4 (some .int) wsX9_goodFor A dC dI cI cJ cZ) : ∀ (S : mS) (G : mG) (a1 : Int32) (a3 : Int32), wp_X9_goodFor_74 Q  S G a1 a3 → mAt p l e rm_X9_goodFor s m args below meth c dC dI cI cJ cZ o ad A (MQ below (va_Qi (fun r (u : mS × mG) => Q r u.1 u.2) (mB dC dI cI cJ cZ o ad A) A) args s 0 0 A) 74 4 [(0, .ref o), (1, .int a1), (3, .int a3)] [] S G := by
  obtain ⟨hx, hb, hml, hown, hts, hr, hlocks, hA, hK⟩ := id C
  intro S G a1 a3 hw H locs hP hD hS ls hl
  rw [wp_X9_goodFor_74] at hw
  refine lv_iload_n hx hb dX9_goodFor_74 rfl (lv_at hl 2 rfl) ?_
  refine lv_aload_n hx hb dX9_goodFor_75 rfl (lv_at hl 0 rfl) ?_
  refine va_get (D := (dC, dI)) (ci := 10) (v := .int (S 4 0)) (C := RX9) (T := TX9) (N := 38) hx hb hts iw_X9_goodFor hown hK hP 0 rfl rfl 4 (by decide) (hts _ lk_X9_goodFor_127) (fun _ h9 => h9) rfl dX9_goodFor_76 ?_
  refine lv_icmp_ge (tgt := 100) hx hb dX9_goodFor_79 (by decide) (fun c_79 => ?_) (fun c_79 => ?_)
  · have hw := hw.1 c_79
    refine lv_iconst (v := -1) hx hb dX9_goodFor_100 (by decide) ?_
    exact W.iret (v := (-1 : Int32)) hx hb hr (fun t ht hW => ⟨⟨(-1 : Int32), (S, G), rfl, hw, by rw [ht]; exact hP, va_K.moved hW.alike hK, hD⟩, hS.F ht⟩) hS.2.2 dX9_goodFor_101
  · have hw := hw.2 c_79
    refine lv_aload_n hx hb dX9_goodFor_82 rfl (lv_at hl 0 rfl) ?_
    refine lv_iload_n hx hb dX9_goodFor_83 rfl (lv_at hl 2 rfl) ?_
    refine lv_aload_n hx hb dX9_goodFor_84 rfl (lv_at hl 0 rfl) ?_
    refine va_get (D := (dC, dI)) (ci := 10) (v := .ref (ad 29)) (C := RX9) (T := TX9) (N := 38) hx hb hts iw_X9_goodFor hown hK hP 0 rfl rfl 29 (by decide) (hts _ lk_X9_goodFor_78) (fun _ h9 => h9) rfl dX9_goodFor_85 ?_
    refine lv_iload_n hx hb dX9_goodFor_88 rfl (lv_at hl 1 rfl) ?_
    refine va_iald hx hb hK hP 23 0 rfl rfl hw.1 dX9_goodFor_89 ?_
    have hw := hw.2
    have hFc := mFree hD hS hA
    refine va_calli (va_runV (As := [.int a3, .int (S 29 (Int32.toNatClampNeg a1))]) (rest := []) ⟨hx, hb, hml, hown, hts⟩ (c_X9_isForm l dC dI cI cJ cZ o ad S G H.size a3 (S 29 (Int32.toNatClampNeg a1)) _ hw) (cwV 2 hts gX9_goodFor_X9_isForm rfl rfl rfl (by decide +kernel) ⟨Nat.le_of_ble_eq_true rfl, Nat.le_of_ble_eq_true rfl⟩) (mPreV [.int a3, .int (S 29 (Int32.toNatClampNeg a1))] hK hP hD) rfl rfl hl.1 rfl (lv_room (Nat.le_of_ble_eq_true rfl)) dX9_goodFor_90 ⟨Nat.zero_le _, Nat.zero_le _⟩) hS (fun q _ h => hFc q h) hFc (fun r_90 u t H1 locs ht hvm hw hB hz1 hk1 hS => ?_)
    obtain ⟨S_90, G_90⟩ := u
    obtain ⟨hP, -, hD1⟩ := hB
    rw [ht] at hP
    have hw := id hw
    have hP : va_P (dC, dI) vwCl (mW cI cJ cZ o ad S_90 G_90) H1 := hP
    have hD : va_D A (mW cI cJ cZ o ad S_90 G_90) := mGain hD1 hFc
    generalize H1 = H at hP hS ⊢
    refine lv_if_eq (tgt := 100) hx hb dX9_goodFor_93 (by decide) (fun c_93 => ?_) (fun c_93 => ?_)
    · have hw := hw.1 c_93
      refine lv_iconst (v := -1) hx hb dX9_goodFor_100 (by decide) ?_
      exact W.iret (v := (-1 : Int32)) hx hb hr (fun t ht hW => ⟨⟨(-1 : Int32), (S_90, G_90), rfl, hw, by rw [ht]; exact hP, va_K.moved hW.alike hK, hD⟩, hS.F ht⟩) hS.2.2 dX9_goodFor_101
    · have hw := hw.2 c_93
      refine lv_iload_n hx hb dX9_goodFor_96 rfl (lv_at hl 2 rfl) ?_
      refine lv_goto (tgt := 101) hx hb dX9_goodFor_97 (by decide) ?_
      exact W.iret (v := a3) hx hb hr (fun t ht hW => ⟨⟨a3, (S_90, G_90), rfl, hw, by rw [ht]; exact hP, va_K.moved hW.alike hK, hD⟩, hS.F ht⟩) hS.2.2 dX9_goodFor_101
set_option maxHeartbeats 4000000 in
set_option maxRecDepth 100000 in
theorem tb_X9_goodFor_36 {p : Program} {l : Launch} {e : Env} {s : State} {m : MethodId} {below : List Frame} {meth : Method} {c : Code} {args : Array Value} {dC : Nat → ClassId} {dI : Nat → Nat → Nat} {cI cJ cZ : ClassId} {o : Nat} {ad : Nat → Nat} {A : Nat → Prop} {Q : Int32 → mS → mG → Prop} (C : mCx p s m args meth c cX9_goodFor 4 (some .int) wsX9_goodFor A dC dI cI cJ cZ) : ∀ (n : Nat) (S : mS) (G : mG) (a1 : Int32) (a2 : Int32) (a3 : Int32), wp_X9_goodFor_36 Q  n S G a1 a2 a3 → mAt p l e rm_X9_goodFor s m args below meth c dC dI cI cJ cZ o ad A (MQ below (va_Qi (fun r (u : mS × mG) => Q r u.1 u.2) (mB dC dI cI cJ cZ o ad A) A) args s 0 0 A) 36 4 [(0, .ref o), (1, .int a1), (2, .int a2), (3, .int a3)] [] S G := by
  obtain ⟨hx, hb, hml, hown, hts, hr, hlocks, hA, hK⟩ := id C
  intro n
  induction n with
  | zero => intro S G a1 a2 a3 hw; exact hw.elim
  | succ n ih =>
    intro S G a1 a2 a3 hw H locs hP hD hS ls hl
    rw [wp_X9_goodFor_36] at hw
    refine lv_iload_n hx hb dX9_goodFor_36 rfl (lv_at hl 3 rfl) ?_
    refine lv_aload_n hx hb dX9_goodFor_37 rfl (lv_at hl 0 rfl) ?_
    refine va_get (D := (dC, dI)) (ci := 10) (v := .int (S 4 0)) (C := RX9) (T := TX9) (N := 38) hx hb hts iw_X9_goodFor hown hK hP 0 rfl rfl 4 (by decide) (hts _ lk_X9_goodFor_127) (fun _ h9 => h9) rfl dX9_goodFor_38 ?_
    refine lv_icmp_ge (tgt := 74) hx hb dX9_goodFor_41 (by decide) (fun c_41 => ?_) (fun c_41 => ?_)
    · have hw := hw.1 c_41
      exact tb_X9_goodFor_74 C  S G a1 a3 hw H locs hP hD hS ls (lv_sub hl [0, 1, 3] rfl)
    · have hw := hw.2 c_41
      refine lv_aload_n hx hb dX9_goodFor_44 rfl (lv_at hl 0 rfl) ?_
      refine va_get (D := (dC, dI)) (ci := 10) (v := .ref (ad 12)) (C := RX9) (T := TX9) (N := 38) hx hb hts iw_X9_goodFor hown hK hP 0 rfl rfl 12 (by decide) (hts _ lk_X9_goodFor_31) (fun _ h9 => h9) rfl dX9_goodFor_45 ?_
      refine lv_iload_n hx hb dX9_goodFor_48 rfl (lv_at hl 3 rfl) ?_
      refine va_iald hx hb hK hP 8 0 rfl rfl hw.1 dX9_goodFor_49 ?_
      have hw := hw.2
      refine lv_if_ne (tgt := 68) hx hb dX9_goodFor_50 (by decide) (fun c_50 => ?_) (fun c_50 => ?_)
      · have hw := hw.1 c_50
        exact tb_X9_goodFor_68 C ih S G a1 a2 a3 hw H locs hP hD hS ls (lv_sub hl [0, 1, 2, 3] rfl)
      · have hw := hw.2 c_50
        refine lv_aload_n hx hb dX9_goodFor_53 rfl (lv_at hl 0 rfl) ?_
        refine va_get (D := (dC, dI)) (ci := 10) (v := .ref (ad 11)) (C := RX9) (T := TX9) (N := 38) hx hb hts iw_X9_goodFor hown hK hP 0 rfl rfl 11 (by decide) (hts _ lk_X9_goodFor_28) (fun _ h9 => h9) rfl dX9_goodFor_54 ?_
        refine lv_iload_n hx hb dX9_goodFor_57 rfl (lv_at hl 3 rfl) ?_
        refine va_iald hx hb hK hP 7 0 rfl rfl hw.1 dX9_goodFor_58 ?_
        have hw := hw.2
        refine lv_aload_n hx hb dX9_goodFor_59 rfl (lv_at hl 0 rfl) ?_
        refine va_get (D := (dC, dI)) (ci := 10) (v := .ref (ad 11)) (C := RX9) (T := TX9) (N := 38) hx hb hts iw_X9_goodFor hown hK hP 0 rfl rfl 11 (by decide) (hts _ lk_X9_goodFor_28) (fun _ h9 => h9) rfl dX9_goodFor_60 ?_
        refine lv_iload_n hx hb dX9_goodFor_63 rfl (lv_at hl 2 rfl) ?_
        refine va_iald hx hb hK hP 7 0 rfl rfl hw.1 dX9_goodFor_64 ?_
        have hw := hw.2
        refine lv_icmp_eq (tgt := 74) hx hb dX9_goodFor_65 (by decide) (fun c_65 => ?_) (fun c_65 => ?_)
        · have hw := hw.1 c_65
          exact tb_X9_goodFor_74 C  S G a1 a3 hw H locs hP hD hS ls (lv_sub hl [0, 1, 3] rfl)
        · have hw := hw.2 c_65
          exact tb_X9_goodFor_68 C ih S G a1 a2 a3 hw H locs hP hD hS ls (lv_sub hl [0, 1, 2, 3] rfl)
set_option maxHeartbeats 4000000 in
set_option maxRecDepth 100000 in
theorem tb_X9_goodFor_34 {p : Program} {l : Launch} {e : Env} {s : State} {m : MethodId} {below : List Frame} {meth : Method} {c : Code} {args : Array Value} {dC : Nat → ClassId} {dI : Nat → Nat → Nat} {cI cJ cZ : ClassId} {o : Nat} {ad : Nat → Nat} {A : Nat → Prop} {Q : Int32 → mS → mG → Prop} (C : mCx p s m args meth c cX9_goodFor 4 (some .int) wsX9_goodFor A dC dI cI cJ cZ) : ∀ (S : mS) (G : mG) (a1 : Int32) (a2 : Int32), wp_X9_goodFor_34 Q  S G a1 a2 → mAt p l e rm_X9_goodFor s m args below meth c dC dI cI cJ cZ o ad A (MQ below (va_Qi (fun r (u : mS × mG) => Q r u.1 u.2) (mB dC dI cI cJ cZ o ad A) A) args s 0 0 A) 34 4 [(0, .ref o), (1, .int a1), (2, .int a2)] [] S G := by
  obtain ⟨hx, hb, hml, hown, hts, hr, hlocks, hA, hK⟩ := id C
  intro S G a1 a2 hw H locs hP hD hS ls hl
  rw [wp_X9_goodFor_34] at hw
  refine lv_iconst (v := 0) hx hb dX9_goodFor_34 (by decide) ?_
  refine lv_istore_n (lv' := [(3, .int (0 : Int32)), (0, .ref o), (1, .int a1), (2, .int a2)]) hx hb dX9_goodFor_35 rfl hl (by decide) rfl (fun ls hl => ?_)
  obtain ⟨n9, hw⟩ := hw
  exact tb_X9_goodFor_36 C  n9 S G a1 a2 (0 : Int32) hw H locs hP hD hS ls (lv_sub hl [1, 2, 3, 0] rfl)
set_option maxHeartbeats 4000000 in
set_option maxRecDepth 100000 in
theorem tb_X9_goodFor_0 {p : Program} {l : Launch} {e : Env} {s : State} {m : MethodId} {below : List Frame} {meth : Method} {c : Code} {args : Array Value} {dC : Nat → ClassId} {dI : Nat → Nat → Nat} {cI cJ cZ : ClassId} {o : Nat} {ad : Nat → Nat} {A : Nat → Prop} {Q : Int32 → mS → mG → Prop} (C : mCx p s m args meth c cX9_goodFor 4 (some .int) wsX9_goodFor A dC dI cI cJ cZ) : ∀ (S : mS) (G : mG) (a1 : Int32), wp_X9_goodFor_0 Q  S G a1 → mAt p l e rm_X9_goodFor s m args below meth c dC dI cI cJ cZ o ad A (MQ below (va_Qi (fun r (u : mS × mG) => Q r u.1 u.2) (mB dC dI cI cJ cZ o ad A) A) args s 0 0 A) 0 4 [(0, .ref o), (1, .int a1)] [] S G := by
  obtain ⟨hx, hb, hml, hown, hts, hr, hlocks, hA, hK⟩ := id C
  intro S G a1 hw H locs hP hD hS ls hl
  rw [wp_X9_goodFor_0] at hw
  refine lv_aload_n hx hb dX9_goodFor_0 rfl (lv_at hl 0 rfl) ?_
  refine va_get (D := (dC, dI)) (ci := 10) (v := .ref (ad 28)) (C := RX9) (T := TX9) (N := 38) hx hb hts iw_X9_goodFor hown hK hP 0 rfl rfl 28 (by decide) (hts _ lk_X9_goodFor_75) (fun _ h9 => h9) rfl dX9_goodFor_1 ?_
  refine lv_iload_n hx hb dX9_goodFor_4 rfl (lv_at hl 1 rfl) ?_
  refine va_iald hx hb hK hP 22 0 rfl rfl hw.1 dX9_goodFor_5 ?_
  have hw := hw.2
  refine lv_topi (fun v2_6 ev2_6 => ?_)
  have hw := hw v2_6 ev2_6
  refine lv_istore_n (lv' := [(2, .int v2_6), (0, .ref o), (1, .int a1)]) hx hb dX9_goodFor_6 rfl hl (by decide) rfl (fun ls hl => ?_)
  refine lv_iload_n hx hb dX9_goodFor_7 rfl (lv_at hl 0 rfl) ?_
  refine lv_iconst (v := -1) hx hb dX9_goodFor_8 (by decide) ?_
  refine lv_icmp_eq (tgt := 32) hx hb dX9_goodFor_9 (by decide) (fun c_9 => ?_) (fun c_9 => ?_)
  · have hw := hw.1 c_9
    refine lv_iconst (v := -1) hx hb dX9_goodFor_32 (by decide) ?_
    exact W.iret (v := (-1 : Int32)) hx hb hr (fun t ht hW => ⟨⟨(-1 : Int32), (S, G), rfl, hw, by rw [ht]; exact hP, va_K.moved hW.alike hK, hD⟩, hS.F ht⟩) hS.2.2 dX9_goodFor_33
  · have hw := hw.2 c_9
    refine lv_aload_n hx hb dX9_goodFor_12 rfl (lv_at hl 1 rfl) ?_
    refine va_get (D := (dC, dI)) (ci := 10) (v := .ref (ad 12)) (C := RX9) (T := TX9) (N := 38) hx hb hts iw_X9_goodFor hown hK hP 0 rfl rfl 12 (by decide) (hts _ lk_X9_goodFor_31) (fun _ h9 => h9) rfl dX9_goodFor_13 ?_
    refine lv_iload_n hx hb dX9_goodFor_16 rfl (lv_at hl 0 rfl) ?_
    refine va_iald hx hb hK hP 8 0 rfl rfl hw.1 dX9_goodFor_17 ?_
    have hw := hw.2
    refine lv_iconst (v := 1) hx hb dX9_goodFor_18 (by decide) ?_
    refine lv_icmp_eq (tgt := 34) hx hb dX9_goodFor_19 (by decide) (fun c_19 => ?_) (fun c_19 => ?_)
    · have hw := hw.1 c_19
      exact tb_X9_goodFor_34 C  S G a1 v2_6 hw H locs hP hD hS ls (lv_sub hl [1, 2, 0] rfl)
    · have hw := hw.2 c_19
      refine lv_aload_n hx hb dX9_goodFor_22 rfl (lv_at hl 1 rfl) ?_
      refine va_get (D := (dC, dI)) (ci := 10) (v := .ref (ad 12)) (C := RX9) (T := TX9) (N := 38) hx hb hts iw_X9_goodFor hown hK hP 0 rfl rfl 12 (by decide) (hts _ lk_X9_goodFor_31) (fun _ h9 => h9) rfl dX9_goodFor_23 ?_
      refine lv_iload_n hx hb dX9_goodFor_26 rfl (lv_at hl 0 rfl) ?_
      refine va_iald hx hb hK hP 8 0 rfl rfl hw.1 dX9_goodFor_27 ?_
      have hw := hw.2
      refine lv_iconst (v := 3) hx hb dX9_goodFor_28 (by decide) ?_
      refine lv_icmp_eq (tgt := 34) hx hb dX9_goodFor_29 (by decide) (fun c_29 => ?_) (fun c_29 => ?_)
      · have hw := hw.1 c_29
        exact tb_X9_goodFor_34 C  S G a1 v2_6 hw H locs hP hD hS ls (lv_sub hl [1, 2, 0] rfl)
      · have hw := hw.2 c_29
        refine lv_iconst (v := -1) hx hb dX9_goodFor_32 (by decide) ?_
        exact W.iret (v := (-1 : Int32)) hx hb hr (fun t ht hW => ⟨⟨(-1 : Int32), (S, G), rfl, hw, by rw [ht]; exact hP, va_K.moved hW.alike hK, hD⟩, hS.F ht⟩) hS.2.2 dX9_goodFor_33
set_option maxHeartbeats 4000000 in
set_option maxRecDepth 100000 in
theorem c_X9_goodFor (l : Launch) (dC : Nat → ClassId) (dI : Nat → Nat → Nat) (cI cJ cZ : ClassId) (o : Nat) (ad : Nat → Nat) (S : mS) (G : mG) (sz : Nat) (a1 : Int32) (Q : Int32 → mS → mG → Prop) (hw : wp_X9_goodFor_0 Q S G a1) : Met l yX9_goodFor wsX9_goodFor rm_X9_goodFor (va_Pc [.ref o, .int a1] (mPre dC dI cI cJ cZ o ad S G sz)) (va_Qi (fun r (u : mS × mG) => Q r u.1 u.2) (mB dC dI cI cJ cZ o ad (mA cI cJ cZ o ad S G sz)) (mA cI cJ cZ o ad S G sz)) 0 0 (mA cI cJ cZ o ad S G sz) := by
  refine Met.ofW (cc := cX9_goodFor) (maxL := 4) (ret := (some .int)) (by decide) rfl ?_
  intro p e s m args below meth c s₁ B hml hv
  obtain ⟨rfl, hsz, hP, hK, hD0⟩ := hv
  subst hsz
  have hl := lv_entry ([.ref o, .int a1]) (n := 4) (Nat.le_of_ble_eq_true rfl)
  rw [lg_entry_eq]
  generalize (lg_sl ([.ref o, .int a1]) ++ List.replicate (4 - (lg_sl ([.ref o, .int a1])).length) Slot.unset).toArray = ls at hl ⊢
  exact tb_X9_goodFor_0 (Q := Q) (p := p) ⟨B.exec, B.bytes, hml, findClass_of_methodNamed B.named, atoms_spec (ws := wsX9_goodFor) B.pre, B.returns, B.notSynchronized, fun q h => Or.inr h, hK⟩ S G a1 hw s.heap [] hP (hD0.self (sz := s.heap.size)) va_S.rf ls hl
theorem iw_X9_mends : ∀ w ∈ u_ws RX9 TX9 38, w ∈ wsX9_mends := fun w h => List.mem_cons_of_mem _ (by first | exact List.mem_append_right _ h | decide +kernel +revert)
theorem lk_X9_mends_13 : Cond.fieldLink RX9 13 "TermKeeperModel" "ending" "[I" ∈ wsX9_mends := by decide +kernel
theorem lk_X9_mends_16 : Cond.fieldLink RX9 16 "TermKeeperModel" "endingSize" "[I" ∈ wsX9_mends := by decide +kernel
theorem lk_X9_mends_19 : Cond.fieldLink RX9 19 "TermKeeperModel" "letters" "[I" ∈ wsX9_mends := by decide +kernel
theorem lk_X9_mends_22 : Cond.fieldLink RX9 22 "TermKeeperModel" "sizes" "[I" ∈ wsX9_mends := by decide +kernel
theorem lk_X9_mends_25 : Cond.fieldLink RX9 25 "TermKeeperModel" "words" "[I" ∈ wsX9_mends := by decide +kernel
theorem lk_X9_mends_54 : Cond.fieldLink RX9 54 "TermKeeperModel" "text" "[I" ∈ wsX9_mends := by decide +kernel
theorem lk_X9_mends_57 : Cond.fieldLink RX9 57 "TermKeeperModel" "size" "[I" ∈ wsX9_mends := by decide +kernel
theorem lk_X9_mends_60 : Cond.fieldLink RX9 60 "TermKeeperModel" "begin" "[I" ∈ wsX9_mends := by decide +kernel
theorem lk_X9_mends_63 : Cond.fieldLink RX9 63 "TermKeeperModel" "end" "[I" ∈ wsX9_mends := by decide +kernel
theorem lk_X9_mends_69 : Cond.fieldLink RX9 69 "TermKeeperModel" "useFrom" "[I" ∈ wsX9_mends := by decide +kernel
theorem lk_X9_mends_72 : Cond.fieldLink RX9 72 "TermKeeperModel" "useTo" "[I" ∈ wsX9_mends := by decide +kernel
theorem lk_X9_mends_78 : Cond.fieldLink RX9 78 "TermKeeperModel" "useEnding" "[I" ∈ wsX9_mends := by decide +kernel
theorem lk_X9_mends_84 : Cond.fieldLink RX9 84 "TermKeeperModel" "laid" "[I" ∈ wsX9_mends := by decide +kernel
theorem lk_X9_mends_87 : Cond.fieldLink RX9 87 "TermKeeperModel" "tail" "[I" ∈ wsX9_mends := by decide +kernel
theorem lk_X9_mends_195 : Cond.fieldLink RX9 195 "TermKeeperModel" "mends" "I" ∈ wsX9_mends := by decide +kernel
abbrev rm_X9_mends : Room := { frames := 2, cells := 0, slots := 0, locals := 45 }
def wp_X9_mends_90 (Q : Int32 → mS → mG → Prop) (k51_ : mS → mG → Int32 → Int32 → Int32 → Int32 → Int32 → Int32 → Int32 → Int32 → Prop) (S : mS) (G : mG) (a1 : Int32) (a2 : Int32) (a3 : Int32) (a4 : Int32) (a5 : Int32) (a6 : Int32) (a7 : Int32) (a8 : Int32) : Prop :=
    (∀ v8_90 : Int32, v8_90 = a8 + (1 : Int32) →
      (k51_ S G a1 a2 a3 a4 a5 a6 a7 v8_90))
def wp_X9_mends_74 (Q : Int32 → mS → mG → Prop) (k51_ : mS → mG → Int32 → Int32 → Int32 → Int32 → Int32 → Int32 → Int32 → Int32 → Prop) (S : mS) (G : mG) (a1 : Int32) (a2 : Int32) (a3 : Int32) (a4 : Int32) (a5 : Int32) (a6 : Int32) (a7 : Int32) (a8 : Int32) : Prop :=
    (wp_X9_at_0 (fun r_78 S_78 G_78 =>
      (wp_X9_isGreat_0 (fun r_81 =>
        ((r_81 = 0 →
          (wp_X9_mends_90 Q k51_ S_78 G_78 a1 a2 a3 a4 a5 a6 a7 a8))
         ∧ (¬ r_81 = 0 →
          (∀ v7_87 : Int32, v7_87 = a7 + (1 : Int32) →
            (wp_X9_mends_90 Q k51_ S_78 G_78 a1 a2 a3 a4 a5 a6 v7_87 a8))))) r_78)) S G a1 a8)
def wp_X9_mends_288 (Q : Int32 → mS → mG → Prop) (k122_ : mS → mG → Int32 → Int32 → Int32 → Int32 → Int32 → Int32 → Int32 → Int32 → Prop) (k189_ : mS → mG → Int32 → Int32 → Int32 → Int32 → Int32 → Int32 → Int32 → Int32 → Int32 → Int32 → Int32 → Prop) (S : mS) (G : mG) (a1 : Int32) (a2 : Int32) (a3 : Int32) (a4 : Int32) (a5 : Int32) (a8 : Int32) (a9 : Int32) (a10 : Int32) (a11 : Int32) (a12 : Int32) (a13 : Int32) (k0 : Int32) (k1 : Int32) (k2 : Int32) : Prop :=
    (vp_in k2 64 ∧ ∀ S_289 : mS, S_289 = mst S 31 (Int32.toNatClampNeg k2) (k1 + k0) →
      (∀ v9_290 : Int32, v9_290 = a9 + (1 : Int32) →
        (∀ v13_293 : Int32, v13_293 = a13 + (1 : Int32) →
          (k189_ S_289 G a1 a2 a3 a4 a5 a8 v9_290 a10 a11 a12 v13_293))))
def wp_X9_mends_281 (Q : Int32 → mS → mG → Prop) (k122_ : mS → mG → Int32 → Int32 → Int32 → Int32 → Int32 → Int32 → Int32 → Int32 → Prop) (k189_ : mS → mG → Int32 → Int32 → Int32 → Int32 → Int32 → Int32 → Int32 → Int32 → Int32 → Int32 → Int32 → Prop) (S : mS) (G : mG) (a1 : Int32) (a2 : Int32) (a3 : Int32) (a4 : Int32) (a5 : Int32) (a8 : Int32) (a9 : Int32) (a10 : Int32) (a11 : Int32) (a12 : Int32) (a13 : Int32) (k0 : Int32) (k1 : Int32) : Prop :=
    (wp_X9_mends_288 Q k122_ k189_ S G a1 a2 a3 a4 a5 a8 a9 a10 a11 a12 a13 (65 : Int32) k0 k1)
def wp_X9_mends_286 (Q : Int32 → mS → mG → Prop) (k122_ : mS → mG → Int32 → Int32 → Int32 → Int32 → Int32 → Int32 → Int32 → Int32 → Prop) (k189_ : mS → mG → Int32 → Int32 → Int32 → Int32 → Int32 → Int32 → Int32 → Int32 → Int32 → Int32 → Int32 → Prop) (S : mS) (G : mG) (a1 : Int32) (a2 : Int32) (a3 : Int32) (a4 : Int32) (a5 : Int32) (a8 : Int32) (a9 : Int32) (a10 : Int32) (a11 : Int32) (a12 : Int32) (a13 : Int32) (k0 : Int32) (k1 : Int32) : Prop :=
    (wp_X9_mends_288 Q k122_ k189_ S G a1 a2 a3 a4 a5 a8 a9 a10 a11 a12 a13 (97 : Int32) k0 k1)
def wp_X9_mends_246 (Q : Int32 → mS → mG → Prop) (k122_ : mS → mG → Int32 → Int32 → Int32 → Int32 → Int32 → Int32 → Int32 → Int32 → Prop) (k189_ : mS → mG → Int32 → Int32 → Int32 → Int32 → Int32 → Int32 → Int32 → Int32 → Int32 → Int32 → Int32 → Prop) (S : mS) (G : mG) (a1 : Int32) (a2 : Int32) (a3 : Int32) (a4 : Int32) (a5 : Int32) (a8 : Int32) (a9 : Int32) (a10 : Int32) (a11 : Int32) (a12 : Int32) (a13 : Int32) (k0 : Int32) : Prop :=
    ((¬ a8 = 0 →
      (wp_X9_mends_281 Q k122_ k189_ S G a1 a2 a3 a4 a5 a8 a9 a10 a11 a12 a13 (k0 - (1 : Int32)) a9))
     ∧ (a8 = 0 →
      ((¬ a9 = 0 →
        (wp_X9_mends_286 Q k122_ k189_ S G a1 a2 a3 a4 a5 a8 a9 a10 a11 a12 a13 (k0 - (1 : Int32)) a9))
       ∧ (a9 = 0 →
        (wp_X9_at_0 (fun r_272 S_272 G_272 =>
          (wp_X9_isGreat_0 (fun r_275 =>
            ((r_275 = 0 →
              (wp_X9_mends_286 Q k122_ k189_ S_272 G_272 a1 a2 a3 a4 a5 a8 a9 a10 a11 a12 a13 (k0 - (1 : Int32)) a9))
             ∧ (¬ r_275 = 0 →
              (wp_X9_mends_281 Q k122_ k189_ S_272 G_272 a1 a2 a3 a4 a5 a8 a9 a10 a11 a12 a13 (k0 - (1 : Int32)) a9)))) r_272)) S G a1 a4)))))
def wp_X9_mends_324 (Q : Int32 → mS → mG → Prop) (k122_ : mS → mG → Int32 → Int32 → Int32 → Int32 → Int32 → Int32 → Int32 → Int32 → Prop) (S : mS) (G : mG) (a1 : Int32) (a2 : Int32) (a3 : Int32) (a4 : Int32) (a5 : Int32) (a8 : Int32) (a9 : Int32) (a10 : Int32) : Prop :=
    (∀ v10_324 : Int32, v10_324 = a10 + (1 : Int32) →
      (k122_ S G a1 a2 a3 a4 a5 a8 a9 v10_324))
def wp_X9_mends_299 (Q : Int32 → mS → mG → Prop) (k122_ : mS → mG → Int32 → Int32 → Int32 → Int32 → Int32 → Int32 → Int32 → Int32 → Prop) (S : mS) (G : mG) (a1 : Int32) (a2 : Int32) (a3 : Int32) (a4 : Int32) (a5 : Int32) (a8 : Int32) (a9 : Int32) (a10 : Int32) : Prop :=
    (vp_in a3 60 ∧
      (((S 10 (Int32.toNatClampNeg a3)) ≤ (a10 + (1 : Int32)) →
        (wp_X9_mends_324 Q k122_ S G a1 a2 a3 a4 a5 a8 a9 a10))
       ∧ (¬ (S 10 (Int32.toNatClampNeg a3)) ≤ (a10 + (1 : Int32)) →
        (vp_in a9 64 ∧ ∀ S_320 : mS, S_320 = mst S 31 (Int32.toNatClampNeg a9) (32 : Int32) →
          (∀ v9_321 : Int32, v9_321 = a9 + (1 : Int32) →
            (wp_X9_mends_324 Q k122_ S_320 G a1 a2 a3 a4 a5 a8 v9_321 a10))))))
def wp_X9_mends_189 (Q : Int32 → mS → mG → Prop) (k122_ : mS → mG → Int32 → Int32 → Int32 → Int32 → Int32 → Int32 → Int32 → Int32 → Prop) : Nat → mS → mG → Int32 → Int32 → Int32 → Int32 → Int32 → Int32 → Int32 → Int32 → Int32 → Int32 → Int32 → Prop
  | 0, _, _, _, _, _, _, _, _, _, _, _, _, _ => False
  | n + 1, S, G, a1, a2, a3, a4, a5, a8, a9, a10, a11, a12, a13 =>
    (((a11 + a12) ≤ a13 →
      (wp_X9_mends_299 Q k122_ S G a1 a2 a3 a4 a5 a8 a9 a10))
     ∧ (¬ (a11 + a12) ≤ a13 →
      ((a11 ≤ a13 →
        (vp_in a2 301 ∧
          (vp_in ((((4 : Int32) * (S 29 (Int32.toNatClampNeg a2))) + a13) - a11) 24 ∧
            (wp_X9_mends_246 Q k122_ (wp_X9_mends_189 Q k122_ n) S G a1 a2 a3 a4 a5 a8 a9 a10 a11 a12 a13 (S 6 (Int32.toNatClampNeg ((((4 : Int32) * (S 29 (Int32.toNatClampNeg a2))) + a13) - a11)))))))
       ∧ (¬ a11 ≤ a13 →
        (vp_in ((((36 : Int32) * a3) + ((12 : Int32) * a10)) + a13) 2160 ∧
          (wp_X9_mends_246 Q k122_ (wp_X9_mends_189 Q k122_ n) S G a1 a2 a3 a4 a5 a8 a9 a10 a11 a12 a13 (S 8 (Int32.toNatClampNeg ((((36 : Int32) * a3) + ((12 : Int32) * a10)) + a13)))))))))
def wp_X9_mends_184 (Q : Int32 → mS → mG → Prop) (k122_ : mS → mG → Int32 → Int32 → Int32 → Int32 → Int32 → Int32 → Int32 → Int32 → Prop) (S : mS) (G : mG) (a1 : Int32) (a2 : Int32) (a3 : Int32) (a4 : Int32) (a5 : Int32) (a8 : Int32) (a9 : Int32) (a10 : Int32) (a11 : Int32) (k0 : Int32) : Prop :=
    (∃ n9 : Nat, wp_X9_mends_189 Q k122_ n9 S G a1 a2 a3 a4 a5 a8 a9 a10 a11 k0 (0 : Int32))
def wp_X9_mends_183 (Q : Int32 → mS → mG → Prop) (k122_ : mS → mG → Int32 → Int32 → Int32 → Int32 → Int32 → Int32 → Int32 → Int32 → Prop) (S : mS) (G : mG) (a1 : Int32) (a2 : Int32) (a3 : Int32) (a4 : Int32) (a5 : Int32) (a8 : Int32) (a9 : Int32) (a10 : Int32) (a11 : Int32) : Prop :=
    (wp_X9_mends_184 Q k122_ S G a1 a2 a3 a4 a5 a8 a9 a10 a11 (0 : Int32))
def wp_X9_mends_471 (Q : Int32 → mS → mG → Prop) (S : mS) (G : mG) (a1 : Int32) (a4 : Int32) (a9 : Int32) (a10 : Int32) : Prop :=
    (vp_in a1 8 ∧ ∀ S_484 : mS, S_484 = mst S 20 (Int32.toNatClampNeg a1) ((a4 + a9) + a10) →
      (∀ S_492 : mS, S_492 = mst S_484 5 0 ((S_484 5 0) + (1 : Int32)) →
        (Q (1 : Int32) S_492 G)))
def wp_X9_mends_432 (Q : Int32 → mS → mG → Prop) : Nat → mS → mG → Int32 → Int32 → Int32 → Int32 → Int32 → Prop
  | 0, _, _, _, _, _, _, _ => False
  | n + 1, S, G, a1, a4, a9, a10, a11 =>
    ((a10 ≤ a11 →
      (wp_X9_mends_471 Q  S G a1 a4 a9 a10))
     ∧ (¬ a10 ≤ a11 →
      (vp_in a11 600 ∧
        (vp_in (((((600 : Int32) * a1) + a4) + a9) + a11) 4800 ∧ ∀ S_464 : mS, S_464 = mst S 19 (Int32.toNatClampNeg (((((600 : Int32) * a1) + a4) + a9) + a11)) (S 32 (Int32.toNatClampNeg a11)) →
          (∀ v11_465 : Int32, v11_465 = a11 + (1 : Int32) →
            ((wp_X9_mends_432 Q  n) S_464 G a1 a4 a9 a10 v11_465))))))
def wp_X9_mends_429 (Q : Int32 → mS → mG → Prop) (S : mS) (G : mG) (a1 : Int32) (a4 : Int32) (a9 : Int32) (a10 : Int32) : Prop :=
    (∃ n9 : Nat, wp_X9_mends_432 Q  n9 S G a1 a4 a9 a10 (0 : Int32))
def wp_X9_mends_393 (Q : Int32 → mS → mG → Prop) : Nat → mS → mG → Int32 → Int32 → Int32 → Int32 → Int32 → Prop
  | 0, _, _, _, _, _, _, _ => False
  | n + 1, S, G, a1, a4, a9, a10, a11 =>
    ((a9 ≤ a11 →
      (wp_X9_mends_429 Q  S G a1 a4 a9 a10))
     ∧ (¬ a9 ≤ a11 →
      (vp_in a11 64 ∧
        (vp_in ((((600 : Int32) * a1) + a4) + a11) 4800 ∧ ∀ S_422 : mS, S_422 = mst S 19 (Int32.toNatClampNeg ((((600 : Int32) * a1) + a4) + a11)) (S 31 (Int32.toNatClampNeg a11)) →
          (∀ v11_423 : Int32, v11_423 = a11 + (1 : Int32) →
            ((wp_X9_mends_393 Q  n) S_422 G a1 a4 a9 a10 v11_423))))))
def wp_X9_mends_390 (Q : Int32 → mS → mG → Prop) (S : mS) (G : mG) (a1 : Int32) (a4 : Int32) (a9 : Int32) (a10 : Int32) : Prop :=
    (∃ n9 : Nat, wp_X9_mends_393 Q  n9 S G a1 a4 a9 a10 (0 : Int32))
def wp_X9_mends_360 (Q : Int32 → mS → mG → Prop) : Nat → mS → mG → Int32 → Int32 → Int32 → Int32 → Int32 → Int32 → Prop
  | 0, _, _, _, _, _, _, _, _ => False
  | n + 1, S, G, a1, a4, a5, a9, a10, a11 =>
    ((a10 ≤ a11 →
      (wp_X9_mends_390 Q  S G a1 a4 a9 a10))
     ∧ (¬ a10 ≤ a11 →
      (wp_X9_at_0 (fun r_380 S_380 G_380 =>
        (vp_in a11 600 ∧ ∀ S_383 : mS, S_383 = mst S_380 32 (Int32.toNatClampNeg a11) r_380 →
          (∀ v11_384 : Int32, v11_384 = a11 + (1 : Int32) →
            ((wp_X9_mends_360 Q  n) S_383 G_380 a1 a4 a5 a9 a10 v11_384)))) S G a1 (a5 + a11))))
def wp_X9_mends_330 (Q : Int32 → mS → mG → Prop) (S : mS) (G : mG) (a1 : Int32) (a4 : Int32) (a5 : Int32) (a9 : Int32) : Prop :=
    (vp_in a1 8 ∧
      (∀ v10_339 : Int32, v10_339 = ((S 20 (Int32.toNatClampNeg a1)) - a5) →
        ((((a4 + a9) + v10_339) ≤ (600 : Int32) →
          (∃ n9 : Nat, wp_X9_mends_360 Q  n9 S G a1 a4 a5 a9 v10_339 (0 : Int32)))
         ∧ (¬ ((a4 + a9) + v10_339) ≤ (600 : Int32) →
          (Q (0 : Int32) S G)))))
def wp_X9_mends_122 (Q : Int32 → mS → mG → Prop) : Nat → mS → mG → Int32 → Int32 → Int32 → Int32 → Int32 → Int32 → Int32 → Int32 → Prop
  | 0, _, _, _, _, _, _, _, _, _, _ => False
  | n + 1, S, G, a1, a2, a3, a4, a5, a8, a9, a10 =>
    (vp_in a3 60 ∧
      (((S 10 (Int32.toNatClampNeg a3)) ≤ a10 →
        (wp_X9_mends_330 Q  S G a1 a4 a5 a9))
       ∧ (¬ (S 10 (Int32.toNatClampNeg a3)) ≤ a10 →
        (vp_in (((3 : Int32) * a3) + a10) 180 ∧
          (∀ v11_144 : Int32, v11_144 = (S 9 (Int32.toNatClampNeg (((3 : Int32) * a3) + a10))) →
            (vp_in a3 60 ∧
              ((¬ a10 = ((S 10 (Int32.toNatClampNeg a3)) - (1 : Int32)) →
                (wp_X9_mends_183 Q (wp_X9_mends_122 Q  n) S G a1 a2 a3 a4 a5 a8 a9 a10 v11_144))
               ∧ (a10 = ((S 10 (Int32.toNatClampNeg a3)) - (1 : Int32)) →
                (vp_in a2 301 ∧
                  (((S 29 (Int32.toNatClampNeg a2)) = (-1 : Int32) →
                    (wp_X9_mends_183 Q (wp_X9_mends_122 Q  n) S G a1 a2 a3 a4 a5 a8 a9 a10 v11_144))
                   ∧ (¬ (S 29 (Int32.toNatClampNeg a2)) = (-1 : Int32) →
                    (vp_in a2 301 ∧
                      (vp_in (S 29 (Int32.toNatClampNeg a2)) 6 ∧
                        (wp_X9_mends_184 Q (wp_X9_mends_122 Q  n) S G a1 a2 a3 a4 a5 a8 a9 a10 v11_144 (S 7 (Int32.toNatClampNeg (S 29 (Int32.toNatClampNeg a2))))))))))))))))))
def wp_X9_mends_114 (Q : Int32 → mS → mG → Prop) (S : mS) (G : mG) (a1 : Int32) (a2 : Int32) (a3 : Int32) (a4 : Int32) (a5 : Int32) (k0 : Int32) : Prop :=
    (∃ n9 : Nat, wp_X9_mends_122 Q  n9 S G a1 a2 a3 a4 a5 k0 (0 : Int32) (0 : Int32))
def wp_X9_mends_113 (Q : Int32 → mS → mG → Prop) (S : mS) (G : mG) (a1 : Int32) (a2 : Int32) (a3 : Int32) (a4 : Int32) (a5 : Int32) : Prop :=
    (wp_X9_mends_114 Q  S G a1 a2 a3 a4 a5 (0 : Int32))
def wp_X9_mends_96 (Q : Int32 → mS → mG → Prop) (S : mS) (G : mG) (a1 : Int32) (a2 : Int32) (a3 : Int32) (a4 : Int32) (a5 : Int32) (a6 : Int32) (a7 : Int32) : Prop :=
    ((¬ a7 = a6 →
      (wp_X9_mends_113 Q  S G a1 a2 a3 a4 a5))
     ∧ (a7 = a6 →
      ((a6 ≤ (1 : Int32) →
        (wp_X9_mends_113 Q  S G a1 a2 a3 a4 a5))
       ∧ (¬ a6 ≤ (1 : Int32) →
        (wp_X9_mends_114 Q  S G a1 a2 a3 a4 a5 (1 : Int32))))))
def wp_X9_mends_51 (Q : Int32 → mS → mG → Prop) : Nat → mS → mG → Int32 → Int32 → Int32 → Int32 → Int32 → Int32 → Int32 → Int32 → Prop
  | 0, _, _, _, _, _, _, _, _, _, _ => False
  | n + 1, S, G, a1, a2, a3, a4, a5, a6, a7, a8 =>
    ((a5 ≤ a8 →
      (wp_X9_mends_96 Q  S G a1 a2 a3 a4 a5 a6 a7))
     ∧ (¬ a5 ≤ a8 →
      (wp_X9_at_0 (fun r_62 S_62 G_62 =>
        (wp_X9_letterOf_0 (fun r_65 =>
          ((r_65 ≤ 0 →
            (wp_X9_mends_74 Q (wp_X9_mends_51 Q  n) S_62 G_62 a1 a2 a3 a4 a5 a6 a7 a8))
           ∧ (¬ r_65 ≤ 0 →
            (∀ v6_71 : Int32, v6_71 = a6 + (1 : Int32) →
              (wp_X9_mends_74 Q (wp_X9_mends_51 Q  n) S_62 G_62 a1 a2 a3 a4 a5 v6_71 a7 a8))))) r_62)) S G a1 a8)))
def wp_X9_mends_0 (Q : Int32 → mS → mG → Prop) (S : mS) (G : mG) (a1 : Int32) (a2 : Int32) : Prop :=
    (wp_X9_goodFor_0 (fun r_2 S_2 G_2 =>
      ((¬ r_2 = (-1 : Int32) →
        (vp_in a2 301 ∧
          (vp_in (S_2 26 (Int32.toNatClampNeg a2)) 301 ∧
            (∀ v4_24 : Int32, v4_24 = (S_2 22 (Int32.toNatClampNeg (S_2 26 (Int32.toNatClampNeg a2)))) →
              (vp_in a2 301 ∧
                (vp_in ((S_2 27 (Int32.toNatClampNeg a2)) - (1 : Int32)) 301 ∧
                  (∀ v5_39 : Int32, v5_39 = (S_2 23 (Int32.toNatClampNeg ((S_2 27 (Int32.toNatClampNeg a2)) - (1 : Int32)))) →
                    (∃ n9 : Nat, wp_X9_mends_51 Q  n9 S_2 G_2 a1 a2 r_2 v4_24 v5_39 (0 : Int32) (0 : Int32) v4_24))))))))
       ∧ (r_2 = (-1 : Int32) →
        (Q (0 : Int32) S_2 G_2)))) S G a2)
set_option maxHeartbeats 4000000 in
set_option maxRecDepth 100000 in
theorem tb_X9_mends_90 {p : Program} {l : Launch} {e : Env} {s : State} {m : MethodId} {below : List Frame} {meth : Method} {c : Code} {args : Array Value} {dC : Nat → ClassId} {dI : Nat → Nat → Nat} {cI cJ cZ : ClassId} {o : Nat} {ad : Nat → Nat} {A : Nat → Prop} {Q : Int32 → mS → mG → Prop} (C : mCx p s m args meth c cX9_mends 15 (some .boolean) wsX9_mends A dC dI cI cJ cZ) {k51_ : mS → mG → Int32 → Int32 → Int32 → Int32 → Int32 → Int32 → Int32 → Int32 → Prop} (h51_ : ∀ (S : mS) (G : mG) (a1 : Int32) (a2 : Int32) (a3 : Int32) (a4 : Int32) (a5 : Int32) (a6 : Int32) (a7 : Int32) (a8 : Int32), k51_ S G a1 a2 a3 a4 a5 a6 a7 a8 → mAt p l e rm_X9_mends s m args below meth c dC dI cI cJ cZ o ad A (MQ below (va_Qi (fun r (u : mS × mG) => Q r u.1 u.2) (mB dC dI cI cJ cZ o ad A) A) args s 0 0 A) 51 15 [(0, .ref o), (1, .int a1), (2, .int a2), (3, .int a3), (4, .int a4), (5, .int a5), (6, .int a6), (7, .int a7), (8, .int a8)] [] S G) : ∀ (S : mS) (G : mG) (a1 : Int32) (a2 : Int32) (a3 : Int32) (a4 : Int32) (a5 : Int32) (a6 : Int32) (a7 : Int32) (a8 : Int32), wp_X9_mends_90 Q k51_ S G a1 a2 a3 a4 a5 a6 a7 a8 → mAt p l e rm_X9_mends s m args below meth c dC dI cI cJ cZ o ad A (MQ below (va_Qi (fun r (u : mS × mG) => Q r u.1 u.2) (mB dC dI cI cJ cZ o ad A) A) args s 0 0 A) 90 15 [(0, .ref o), (1, .int a1), (2, .int a2), (3, .int a3), (4, .int a4), (5, .int a5), (6, .int a6), (7, .int a7), (8, .int a8)] [] S G := by
  obtain ⟨hx, hb, hml, hown, hts, hr, hlocks, hA, hK⟩ := id C
  intro S G a1 a2 a3 a4 a5 a6 a7 a8 hw H locs hP hD hS ls hl
  rw [wp_X9_mends_90] at hw
  obtain ⟨v8_90, ev8_90⟩ : ∃ y : Int32, y = a8 + (1 : Int32) := ⟨_, rfl⟩
  have hw := hw v8_90 ev8_90
  refine lv_iinc (v := v8_90) (lv' := [(8, .int v8_90), (0, .ref o), (1, .int a1), (2, .int a2), (3, .int a3), (4, .int a4), (5, .int a5), (6, .int a6), (7, .int a7)]) hx hb dX9_mends_90 hl (k := 8) rfl (by rw [ev8_90]; rfl) (by decide) rfl (fun ls hl => ?_)
  refine lv_goto (tgt := 51) hx hb dX9_mends_93 (by decide) ?_
  exact h51_ S G a1 a2 a3 a4 a5 a6 a7 v8_90 hw H locs hP hD hS ls (lv_sub hl [1, 2, 3, 4, 5, 6, 7, 8, 0] rfl)
set_option maxHeartbeats 4000000 in
set_option maxRecDepth 100000 in
theorem tb_X9_mends_74 {p : Program} {l : Launch} {e : Env} {s : State} {m : MethodId} {below : List Frame} {meth : Method} {c : Code} {args : Array Value} {dC : Nat → ClassId} {dI : Nat → Nat → Nat} {cI cJ cZ : ClassId} {o : Nat} {ad : Nat → Nat} {A : Nat → Prop} {Q : Int32 → mS → mG → Prop} (C : mCx p s m args meth c cX9_mends 15 (some .boolean) wsX9_mends A dC dI cI cJ cZ) {k51_ : mS → mG → Int32 → Int32 → Int32 → Int32 → Int32 → Int32 → Int32 → Int32 → Prop} (h51_ : ∀ (S : mS) (G : mG) (a1 : Int32) (a2 : Int32) (a3 : Int32) (a4 : Int32) (a5 : Int32) (a6 : Int32) (a7 : Int32) (a8 : Int32), k51_ S G a1 a2 a3 a4 a5 a6 a7 a8 → mAt p l e rm_X9_mends s m args below meth c dC dI cI cJ cZ o ad A (MQ below (va_Qi (fun r (u : mS × mG) => Q r u.1 u.2) (mB dC dI cI cJ cZ o ad A) A) args s 0 0 A) 51 15 [(0, .ref o), (1, .int a1), (2, .int a2), (3, .int a3), (4, .int a4), (5, .int a5), (6, .int a6), (7, .int a7), (8, .int a8)] [] S G) : ∀ (S : mS) (G : mG) (a1 : Int32) (a2 : Int32) (a3 : Int32) (a4 : Int32) (a5 : Int32) (a6 : Int32) (a7 : Int32) (a8 : Int32), wp_X9_mends_74 Q k51_ S G a1 a2 a3 a4 a5 a6 a7 a8 → mAt p l e rm_X9_mends s m args below meth c dC dI cI cJ cZ o ad A (MQ below (va_Qi (fun r (u : mS × mG) => Q r u.1 u.2) (mB dC dI cI cJ cZ o ad A) A) args s 0 0 A) 74 15 [(0, .ref o), (1, .int a1), (2, .int a2), (3, .int a3), (4, .int a4), (5, .int a5), (6, .int a6), (7, .int a7), (8, .int a8)] [] S G := by
  obtain ⟨hx, hb, hml, hown, hts, hr, hlocks, hA, hK⟩ := id C
  intro S G a1 a2 a3 a4 a5 a6 a7 a8 hw H locs hP hD hS ls hl
  rw [wp_X9_mends_74] at hw
  refine lv_aload_n hx hb dX9_mends_74 rfl (lv_at hl 0 rfl) ?_
  refine lv_iload_n hx hb dX9_mends_75 rfl (lv_at hl 1 rfl) ?_
  refine lv_iload hx hb dX9_mends_76 (lv_at hl 8 rfl) ?_
  have hFc := mFree hD hS hA
  refine va_calli (va_runV (As := [.int a1, .int a8]) (rest := []) ⟨hx, hb, hml, hown, hts⟩ (c_X9_at l dC dI cI cJ cZ o ad S G H.size a1 a8 _ hw) (cwV 2 hts gX9_mends_X9_at rfl rfl rfl (by decide +kernel) ⟨Nat.le_of_ble_eq_true rfl, Nat.le_of_ble_eq_true rfl⟩) (mPreV [.int a1, .int a8] hK hP hD) rfl rfl hl.1 rfl (lv_room (Nat.le_of_ble_eq_true rfl)) dX9_mends_78 ⟨Nat.zero_le _, Nat.zero_le _⟩) hS (fun q _ h => hFc q h) hFc (fun r_78 u t H1 locs ht hvm hw hB hz1 hk1 hS => ?_)
  obtain ⟨S_78, G_78⟩ := u
  obtain ⟨hP, -, hD1⟩ := hB
  rw [ht] at hP
  have hw := id hw
  have hP : va_P (dC, dI) vwCl (mW cI cJ cZ o ad S_78 G_78) H1 := hP
  have hD : va_D A (mW cI cJ cZ o ad S_78 G_78) := mGain hD1 hFc
  generalize H1 = H at hP hS ⊢
  refine vp_callSi (W.runS (As := [.int r_78]) (rest := []) ⟨hx, hb, hml, hown, hts⟩ (c_X9_isGreat l r_78 _ hw) (va_cwS 1 hts gX9_mends_X9_isGreat rfl rfl rfl (by decide +kernel) ⟨Nat.le_of_ble_eq_true rfl, Nat.le_of_ble_eq_true rfl⟩) preEq rfl rfl hl.1 rfl (lv_room (Nat.le_of_ble_eq_true rfl)) dX9_mends_81 ⟨Nat.zero_le _, Nat.zero_le _⟩) (fun r_81 hw => ?_)
  refine lv_if_eq (tgt := 90) hx hb dX9_mends_84 (by decide) (fun c_84 => ?_) (fun c_84 => ?_)
  · have hw := hw.1 c_84
    exact tb_X9_mends_90 C h51_ S_78 G_78 a1 a2 a3 a4 a5 a6 a7 a8 hw H locs hP hD hS ls (lv_sub hl [0, 1, 2, 3, 4, 5, 6, 7, 8] rfl)
  · have hw := hw.2 c_84
    obtain ⟨v7_87, ev7_87⟩ : ∃ y : Int32, y = a7 + (1 : Int32) := ⟨_, rfl⟩
    have hw := hw v7_87 ev7_87
    refine lv_iinc (v := v7_87) (lv' := [(7, .int v7_87), (0, .ref o), (1, .int a1), (2, .int a2), (3, .int a3), (4, .int a4), (5, .int a5), (6, .int a6), (8, .int a8)]) hx hb dX9_mends_87 hl (k := 7) rfl (by rw [ev7_87]; rfl) (by decide) rfl (fun ls hl => ?_)
    exact tb_X9_mends_90 C h51_ S_78 G_78 a1 a2 a3 a4 a5 a6 v7_87 a8 hw H locs hP hD hS ls (lv_sub hl [1, 2, 3, 4, 5, 6, 7, 0, 8] rfl)
set_option maxHeartbeats 4000000 in
set_option maxRecDepth 100000 in
theorem tb_X9_mends_288 {p : Program} {l : Launch} {e : Env} {s : State} {m : MethodId} {below : List Frame} {meth : Method} {c : Code} {args : Array Value} {dC : Nat → ClassId} {dI : Nat → Nat → Nat} {cI cJ cZ : ClassId} {o : Nat} {ad : Nat → Nat} {A : Nat → Prop} {Q : Int32 → mS → mG → Prop} (C : mCx p s m args meth c cX9_mends 15 (some .boolean) wsX9_mends A dC dI cI cJ cZ) {k122_ : mS → mG → Int32 → Int32 → Int32 → Int32 → Int32 → Int32 → Int32 → Int32 → Prop} (h122_ : ∀ (S : mS) (G : mG) (a1 : Int32) (a2 : Int32) (a3 : Int32) (a4 : Int32) (a5 : Int32) (a8 : Int32) (a9 : Int32) (a10 : Int32), k122_ S G a1 a2 a3 a4 a5 a8 a9 a10 → mAt p l e rm_X9_mends s m args below meth c dC dI cI cJ cZ o ad A (MQ below (va_Qi (fun r (u : mS × mG) => Q r u.1 u.2) (mB dC dI cI cJ cZ o ad A) A) args s 0 0 A) 122 15 [(0, .ref o), (1, .int a1), (2, .int a2), (3, .int a3), (4, .int a4), (5, .int a5), (8, .int a8), (9, .int a9), (10, .int a10)] [] S G) {k189_ : mS → mG → Int32 → Int32 → Int32 → Int32 → Int32 → Int32 → Int32 → Int32 → Int32 → Int32 → Int32 → Prop} (h189_ : ∀ (S : mS) (G : mG) (a1 : Int32) (a2 : Int32) (a3 : Int32) (a4 : Int32) (a5 : Int32) (a8 : Int32) (a9 : Int32) (a10 : Int32) (a11 : Int32) (a12 : Int32) (a13 : Int32), k189_ S G a1 a2 a3 a4 a5 a8 a9 a10 a11 a12 a13 → mAt p l e rm_X9_mends s m args below meth c dC dI cI cJ cZ o ad A (MQ below (va_Qi (fun r (u : mS × mG) => Q r u.1 u.2) (mB dC dI cI cJ cZ o ad A) A) args s 0 0 A) 189 15 [(0, .ref o), (1, .int a1), (2, .int a2), (3, .int a3), (4, .int a4), (5, .int a5), (8, .int a8), (9, .int a9), (10, .int a10), (11, .int a11), (12, .int a12), (13, .int a13)] [] S G) : ∀ (S : mS) (G : mG) (a1 : Int32) (a2 : Int32) (a3 : Int32) (a4 : Int32) (a5 : Int32) (a8 : Int32) (a9 : Int32) (a10 : Int32) (a11 : Int32) (a12 : Int32) (a13 : Int32) (k0 : Int32) (k1 : Int32) (k2 : Int32), wp_X9_mends_288 Q k122_ k189_ S G a1 a2 a3 a4 a5 a8 a9 a10 a11 a12 a13 k0 k1 k2 → mAt p l e rm_X9_mends s m args below meth c dC dI cI cJ cZ o ad A (MQ below (va_Qi (fun r (u : mS × mG) => Q r u.1 u.2) (mB dC dI cI cJ cZ o ad A) A) args s 0 0 A) 288 15 [(0, .ref o), (1, .int a1), (2, .int a2), (3, .int a3), (4, .int a4), (5, .int a5), (8, .int a8), (9, .int a9), (10, .int a10), (11, .int a11), (12, .int a12), (13, .int a13)] [.int k0, .int k1, .int k2, .ref (ad 31)] S G := by
  obtain ⟨hx, hb, hml, hown, hts, hr, hlocks, hA, hK⟩ := id C
  intro S G a1 a2 a3 a4 a5 a8 a9 a10 a11 a12 a13 k0 k1 k2 hw H locs hP hD hS ls hl
  rw [wp_X9_mends_288] at hw
  refine lv_iadd hx hb dX9_mends_288 ?_
  refine va_iast hx hb hK hP hD hS 25 0 rfl rfl hw.1 dX9_mends_289 (fun H locs hP hD hS => ?_)
  obtain ⟨S_289, eS_289⟩ : ∃ y : mS, y = mst S 31 (Int32.toNatClampNeg k2) (k1 + k0) := ⟨_, rfl⟩
  have hw := hw.2 S_289 eS_289
  have hP : va_P (dC, dI) vwCl (mW cI cJ cZ o ad S_289 G) H := by rw [eS_289]; exact hP
  have hD : va_D A (mW cI cJ cZ o ad S_289 G) := by rw [eS_289]; exact hD
  obtain ⟨v9_290, ev9_290⟩ : ∃ y : Int32, y = a9 + (1 : Int32) := ⟨_, rfl⟩
  have hw := hw v9_290 ev9_290
  refine lv_iinc (v := v9_290) (lv' := [(9, .int v9_290), (0, .ref o), (1, .int a1), (2, .int a2), (3, .int a3), (4, .int a4), (5, .int a5), (8, .int a8), (10, .int a10), (11, .int a11), (12, .int a12), (13, .int a13)]) hx hb dX9_mends_290 hl (k := 7) rfl (by rw [ev9_290]; rfl) (by decide) rfl (fun ls hl => ?_)
  obtain ⟨v13_293, ev13_293⟩ : ∃ y : Int32, y = a13 + (1 : Int32) := ⟨_, rfl⟩
  have hw := hw v13_293 ev13_293
  refine lv_iinc (v := v13_293) (lv' := [(13, .int v13_293), (9, .int v9_290), (0, .ref o), (1, .int a1), (2, .int a2), (3, .int a3), (4, .int a4), (5, .int a5), (8, .int a8), (10, .int a10), (11, .int a11), (12, .int a12)]) hx hb dX9_mends_293 hl (k := 11) rfl (by rw [ev13_293]; rfl) (by decide) rfl (fun ls hl => ?_)
  refine lv_goto (tgt := 189) hx hb dX9_mends_296 (by decide) ?_
  exact h189_ S_289 G a1 a2 a3 a4 a5 a8 v9_290 a10 a11 a12 v13_293 hw H locs hP hD hS ls (lv_sub hl [2, 3, 4, 5, 6, 7, 8, 1, 9, 10, 11, 0] rfl)
set_option maxHeartbeats 4000000 in
set_option maxRecDepth 100000 in
theorem tb_X9_mends_281 {p : Program} {l : Launch} {e : Env} {s : State} {m : MethodId} {below : List Frame} {meth : Method} {c : Code} {args : Array Value} {dC : Nat → ClassId} {dI : Nat → Nat → Nat} {cI cJ cZ : ClassId} {o : Nat} {ad : Nat → Nat} {A : Nat → Prop} {Q : Int32 → mS → mG → Prop} (C : mCx p s m args meth c cX9_mends 15 (some .boolean) wsX9_mends A dC dI cI cJ cZ) {k122_ : mS → mG → Int32 → Int32 → Int32 → Int32 → Int32 → Int32 → Int32 → Int32 → Prop} (h122_ : ∀ (S : mS) (G : mG) (a1 : Int32) (a2 : Int32) (a3 : Int32) (a4 : Int32) (a5 : Int32) (a8 : Int32) (a9 : Int32) (a10 : Int32), k122_ S G a1 a2 a3 a4 a5 a8 a9 a10 → mAt p l e rm_X9_mends s m args below meth c dC dI cI cJ cZ o ad A (MQ below (va_Qi (fun r (u : mS × mG) => Q r u.1 u.2) (mB dC dI cI cJ cZ o ad A) A) args s 0 0 A) 122 15 [(0, .ref o), (1, .int a1), (2, .int a2), (3, .int a3), (4, .int a4), (5, .int a5), (8, .int a8), (9, .int a9), (10, .int a10)] [] S G) {k189_ : mS → mG → Int32 → Int32 → Int32 → Int32 → Int32 → Int32 → Int32 → Int32 → Int32 → Int32 → Int32 → Prop} (h189_ : ∀ (S : mS) (G : mG) (a1 : Int32) (a2 : Int32) (a3 : Int32) (a4 : Int32) (a5 : Int32) (a8 : Int32) (a9 : Int32) (a10 : Int32) (a11 : Int32) (a12 : Int32) (a13 : Int32), k189_ S G a1 a2 a3 a4 a5 a8 a9 a10 a11 a12 a13 → mAt p l e rm_X9_mends s m args below meth c dC dI cI cJ cZ o ad A (MQ below (va_Qi (fun r (u : mS × mG) => Q r u.1 u.2) (mB dC dI cI cJ cZ o ad A) A) args s 0 0 A) 189 15 [(0, .ref o), (1, .int a1), (2, .int a2), (3, .int a3), (4, .int a4), (5, .int a5), (8, .int a8), (9, .int a9), (10, .int a10), (11, .int a11), (12, .int a12), (13, .int a13)] [] S G) : ∀ (S : mS) (G : mG) (a1 : Int32) (a2 : Int32) (a3 : Int32) (a4 : Int32) (a5 : Int32) (a8 : Int32) (a9 : Int32) (a10 : Int32) (a11 : Int32) (a12 : Int32) (a13 : Int32) (k0 : Int32) (k1 : Int32), wp_X9_mends_281 Q k122_ k189_ S G a1 a2 a3 a4 a5 a8 a9 a10 a11 a12 a13 k0 k1 → mAt p l e rm_X9_mends s m args below meth c dC dI cI cJ cZ o ad A (MQ below (va_Qi (fun r (u : mS × mG) => Q r u.1 u.2) (mB dC dI cI cJ cZ o ad A) A) args s 0 0 A) 281 15 [(0, .ref o), (1, .int a1), (2, .int a2), (3, .int a3), (4, .int a4), (5, .int a5), (8, .int a8), (9, .int a9), (10, .int a10), (11, .int a11), (12, .int a12), (13, .int a13)] [.int k0, .int k1, .ref (ad 31)] S G := by
  obtain ⟨hx, hb, hml, hown, hts, hr, hlocks, hA, hK⟩ := id C
  intro S G a1 a2 a3 a4 a5 a8 a9 a10 a11 a12 a13 k0 k1 hw H locs hP hD hS ls hl
  rw [wp_X9_mends_281] at hw
  refine lv_bipush (v := 65) hx hb dX9_mends_281 (by decide) ?_
  refine lv_goto (tgt := 288) hx hb dX9_mends_283 (by decide) ?_
  exact tb_X9_mends_288 C h122_ h189_ S G a1 a2 a3 a4 a5 a8 a9 a10 a11 a12 a13 (65 : Int32) k0 k1 hw H locs hP hD hS ls (lv_sub hl [0, 1, 2, 3, 4, 5, 6, 7, 8, 9, 10, 11] rfl)
set_option maxHeartbeats 4000000 in
set_option maxRecDepth 100000 in
theorem tb_X9_mends_286 {p : Program} {l : Launch} {e : Env} {s : State} {m : MethodId} {below : List Frame} {meth : Method} {c : Code} {args : Array Value} {dC : Nat → ClassId} {dI : Nat → Nat → Nat} {cI cJ cZ : ClassId} {o : Nat} {ad : Nat → Nat} {A : Nat → Prop} {Q : Int32 → mS → mG → Prop} (C : mCx p s m args meth c cX9_mends 15 (some .boolean) wsX9_mends A dC dI cI cJ cZ) {k122_ : mS → mG → Int32 → Int32 → Int32 → Int32 → Int32 → Int32 → Int32 → Int32 → Prop} (h122_ : ∀ (S : mS) (G : mG) (a1 : Int32) (a2 : Int32) (a3 : Int32) (a4 : Int32) (a5 : Int32) (a8 : Int32) (a9 : Int32) (a10 : Int32), k122_ S G a1 a2 a3 a4 a5 a8 a9 a10 → mAt p l e rm_X9_mends s m args below meth c dC dI cI cJ cZ o ad A (MQ below (va_Qi (fun r (u : mS × mG) => Q r u.1 u.2) (mB dC dI cI cJ cZ o ad A) A) args s 0 0 A) 122 15 [(0, .ref o), (1, .int a1), (2, .int a2), (3, .int a3), (4, .int a4), (5, .int a5), (8, .int a8), (9, .int a9), (10, .int a10)] [] S G) {k189_ : mS → mG → Int32 → Int32 → Int32 → Int32 → Int32 → Int32 → Int32 → Int32 → Int32 → Int32 → Int32 → Prop} (h189_ : ∀ (S : mS) (G : mG) (a1 : Int32) (a2 : Int32) (a3 : Int32) (a4 : Int32) (a5 : Int32) (a8 : Int32) (a9 : Int32) (a10 : Int32) (a11 : Int32) (a12 : Int32) (a13 : Int32), k189_ S G a1 a2 a3 a4 a5 a8 a9 a10 a11 a12 a13 → mAt p l e rm_X9_mends s m args below meth c dC dI cI cJ cZ o ad A (MQ below (va_Qi (fun r (u : mS × mG) => Q r u.1 u.2) (mB dC dI cI cJ cZ o ad A) A) args s 0 0 A) 189 15 [(0, .ref o), (1, .int a1), (2, .int a2), (3, .int a3), (4, .int a4), (5, .int a5), (8, .int a8), (9, .int a9), (10, .int a10), (11, .int a11), (12, .int a12), (13, .int a13)] [] S G) : ∀ (S : mS) (G : mG) (a1 : Int32) (a2 : Int32) (a3 : Int32) (a4 : Int32) (a5 : Int32) (a8 : Int32) (a9 : Int32) (a10 : Int32) (a11 : Int32) (a12 : Int32) (a13 : Int32) (k0 : Int32) (k1 : Int32), wp_X9_mends_286 Q k122_ k189_ S G a1 a2 a3 a4 a5 a8 a9 a10 a11 a12 a13 k0 k1 → mAt p l e rm_X9_mends s m args below meth c dC dI cI cJ cZ o ad A (MQ below (va_Qi (fun r (u : mS × mG) => Q r u.1 u.2) (mB dC dI cI cJ cZ o ad A) A) args s 0 0 A) 286 15 [(0, .ref o), (1, .int a1), (2, .int a2), (3, .int a3), (4, .int a4), (5, .int a5), (8, .int a8), (9, .int a9), (10, .int a10), (11, .int a11), (12, .int a12), (13, .int a13)] [.int k0, .int k1, .ref (ad 31)] S G := by
  obtain ⟨hx, hb, hml, hown, hts, hr, hlocks, hA, hK⟩ := id C
  intro S G a1 a2 a3 a4 a5 a8 a9 a10 a11 a12 a13 k0 k1 hw H locs hP hD hS ls hl
  rw [wp_X9_mends_286] at hw
  refine lv_bipush (v := 97) hx hb dX9_mends_286 (by decide) ?_
  exact tb_X9_mends_288 C h122_ h189_ S G a1 a2 a3 a4 a5 a8 a9 a10 a11 a12 a13 (97 : Int32) k0 k1 hw H locs hP hD hS ls (lv_sub hl [0, 1, 2, 3, 4, 5, 6, 7, 8, 9, 10, 11] rfl)
set_option maxHeartbeats 4000000 in
set_option maxRecDepth 100000 in
theorem tb_X9_mends_246 {p : Program} {l : Launch} {e : Env} {s : State} {m : MethodId} {below : List Frame} {meth : Method} {c : Code} {args : Array Value} {dC : Nat → ClassId} {dI : Nat → Nat → Nat} {cI cJ cZ : ClassId} {o : Nat} {ad : Nat → Nat} {A : Nat → Prop} {Q : Int32 → mS → mG → Prop} (C : mCx p s m args meth c cX9_mends 15 (some .boolean) wsX9_mends A dC dI cI cJ cZ) {k122_ : mS → mG → Int32 → Int32 → Int32 → Int32 → Int32 → Int32 → Int32 → Int32 → Prop} (h122_ : ∀ (S : mS) (G : mG) (a1 : Int32) (a2 : Int32) (a3 : Int32) (a4 : Int32) (a5 : Int32) (a8 : Int32) (a9 : Int32) (a10 : Int32), k122_ S G a1 a2 a3 a4 a5 a8 a9 a10 → mAt p l e rm_X9_mends s m args below meth c dC dI cI cJ cZ o ad A (MQ below (va_Qi (fun r (u : mS × mG) => Q r u.1 u.2) (mB dC dI cI cJ cZ o ad A) A) args s 0 0 A) 122 15 [(0, .ref o), (1, .int a1), (2, .int a2), (3, .int a3), (4, .int a4), (5, .int a5), (8, .int a8), (9, .int a9), (10, .int a10)] [] S G) {k189_ : mS → mG → Int32 → Int32 → Int32 → Int32 → Int32 → Int32 → Int32 → Int32 → Int32 → Int32 → Int32 → Prop} (h189_ : ∀ (S : mS) (G : mG) (a1 : Int32) (a2 : Int32) (a3 : Int32) (a4 : Int32) (a5 : Int32) (a8 : Int32) (a9 : Int32) (a10 : Int32) (a11 : Int32) (a12 : Int32) (a13 : Int32), k189_ S G a1 a2 a3 a4 a5 a8 a9 a10 a11 a12 a13 → mAt p l e rm_X9_mends s m args below meth c dC dI cI cJ cZ o ad A (MQ below (va_Qi (fun r (u : mS × mG) => Q r u.1 u.2) (mB dC dI cI cJ cZ o ad A) A) args s 0 0 A) 189 15 [(0, .ref o), (1, .int a1), (2, .int a2), (3, .int a3), (4, .int a4), (5, .int a5), (8, .int a8), (9, .int a9), (10, .int a10), (11, .int a11), (12, .int a12), (13, .int a13)] [] S G) : ∀ (S : mS) (G : mG) (a1 : Int32) (a2 : Int32) (a3 : Int32) (a4 : Int32) (a5 : Int32) (a8 : Int32) (a9 : Int32) (a10 : Int32) (a11 : Int32) (a12 : Int32) (a13 : Int32) (k0 : Int32), wp_X9_mends_246 Q k122_ k189_ S G a1 a2 a3 a4 a5 a8 a9 a10 a11 a12 a13 k0 → mAt p l e rm_X9_mends s m args below meth c dC dI cI cJ cZ o ad A (MQ below (va_Qi (fun r (u : mS × mG) => Q r u.1 u.2) (mB dC dI cI cJ cZ o ad A) A) args s 0 0 A) 246 15 [(0, .ref o), (1, .int a1), (2, .int a2), (3, .int a3), (4, .int a4), (5, .int a5), (8, .int a8), (9, .int a9), (10, .int a10), (11, .int a11), (12, .int a12), (13, .int a13)] [.int k0] S G := by
  obtain ⟨hx, hb, hml, hown, hts, hr, hlocks, hA, hK⟩ := id C
  intro S G a1 a2 a3 a4 a5 a8 a9 a10 a11 a12 a13 k0 hw H locs hP hD hS ls hl
  rw [wp_X9_mends_246] at hw
  refine lv_istore (lv' := [(14, .int k0), (0, .ref o), (1, .int a1), (2, .int a2), (3, .int a3), (4, .int a4), (5, .int a5), (8, .int a8), (9, .int a9), (10, .int a10), (11, .int a11), (12, .int a12), (13, .int a13)]) hx hb dX9_mends_246 hl (by decide) rfl (fun ls hl => ?_)
  refine lv_aload_n hx hb dX9_mends_248 rfl (lv_at hl 1 rfl) ?_
  refine va_get (D := (dC, dI)) (ci := 10) (v := .ref (ad 31)) (C := RX9) (T := TX9) (N := 38) hx hb hts iw_X9_mends hown hK hP 0 rfl rfl 31 (by decide) (hts _ lk_X9_mends_84) (fun _ h9 => h9) rfl dX9_mends_249 ?_
  refine lv_iload hx hb dX9_mends_252 (lv_at hl 8 rfl) ?_
  refine lv_iload hx hb dX9_mends_254 (lv_at hl 0 rfl) ?_
  refine lv_iconst (v := 1) hx hb dX9_mends_256 (by decide) ?_
  refine lv_isub hx hb dX9_mends_257 ?_
  refine lv_iload hx hb dX9_mends_258 (lv_at hl 7 rfl) ?_
  refine lv_if_ne (tgt := 281) hx hb dX9_mends_260 (by decide) (fun c_260 => ?_) (fun c_260 => ?_)
  · have hw := hw.1 c_260
    exact tb_X9_mends_281 C h122_ h189_ S G a1 a2 a3 a4 a5 a8 a9 a10 a11 a12 a13 (k0 - (1 : Int32)) a9 hw H locs hP hD hS ls (lv_sub hl [1, 2, 3, 4, 5, 6, 7, 8, 9, 10, 11, 12] rfl)
  · have hw := hw.2 c_260
    refine lv_iload hx hb dX9_mends_263 (lv_at hl 8 rfl) ?_
    refine lv_if_ne (tgt := 286) hx hb dX9_mends_265 (by decide) (fun c_265 => ?_) (fun c_265 => ?_)
    · have hw := hw.1 c_265
      exact tb_X9_mends_286 C h122_ h189_ S G a1 a2 a3 a4 a5 a8 a9 a10 a11 a12 a13 (k0 - (1 : Int32)) a9 hw H locs hP hD hS ls (lv_sub hl [1, 2, 3, 4, 5, 6, 7, 8, 9, 10, 11, 12] rfl)
    · have hw := hw.2 c_265
      refine lv_aload_n hx hb dX9_mends_268 rfl (lv_at hl 1 rfl) ?_
      refine lv_iload_n hx hb dX9_mends_269 rfl (lv_at hl 2 rfl) ?_
      refine lv_iload hx hb dX9_mends_270 (lv_at hl 5 rfl) ?_
      have hFc := mFree hD hS hA
      refine va_calli (va_runV (As := [.int a1, .int a4]) (rest := [.int (k0 - (1 : Int32)), .int a9, .ref (ad 31)]) ⟨hx, hb, hml, hown, hts⟩ (c_X9_at l dC dI cI cJ cZ o ad S G H.size a1 a4 _ hw) (cwV 2 hts gX9_mends_X9_at rfl rfl rfl (by decide +kernel) ⟨Nat.le_of_ble_eq_true rfl, Nat.le_of_ble_eq_true rfl⟩) (mPreV [.int a1, .int a4] hK hP hD) rfl rfl hl.1 rfl (lv_room (Nat.le_of_ble_eq_true rfl)) dX9_mends_272 ⟨Nat.zero_le _, Nat.zero_le _⟩) hS (fun q _ h => hFc q h) hFc (fun r_272 u t H1 locs ht hvm hw hB hz1 hk1 hS => ?_)
      obtain ⟨S_272, G_272⟩ := u
      obtain ⟨hP, -, hD1⟩ := hB
      rw [ht] at hP
      have hw := id hw
      have hP : va_P (dC, dI) vwCl (mW cI cJ cZ o ad S_272 G_272) H1 := hP
      have hD : va_D A (mW cI cJ cZ o ad S_272 G_272) := mGain hD1 hFc
      generalize H1 = H at hP hS ⊢
      refine vp_callSi (W.runS (As := [.int r_272]) (rest := [.int (k0 - (1 : Int32)), .int a9, .ref (ad 31)]) ⟨hx, hb, hml, hown, hts⟩ (c_X9_isGreat l r_272 _ hw) (va_cwS 1 hts gX9_mends_X9_isGreat rfl rfl rfl (by decide +kernel) ⟨Nat.le_of_ble_eq_true rfl, Nat.le_of_ble_eq_true rfl⟩) preEq rfl rfl hl.1 rfl (lv_room (Nat.le_of_ble_eq_true rfl)) dX9_mends_275 ⟨Nat.zero_le _, Nat.zero_le _⟩) (fun r_275 hw => ?_)
      refine lv_if_eq (tgt := 286) hx hb dX9_mends_278 (by decide) (fun c_278 => ?_) (fun c_278 => ?_)
      · have hw := hw.1 c_278
        exact tb_X9_mends_286 C h122_ h189_ S_272 G_272 a1 a2 a3 a4 a5 a8 a9 a10 a11 a12 a13 (k0 - (1 : Int32)) a9 hw H locs hP hD hS ls (lv_sub hl [1, 2, 3, 4, 5, 6, 7, 8, 9, 10, 11, 12] rfl)
      · have hw := hw.2 c_278
        exact tb_X9_mends_281 C h122_ h189_ S_272 G_272 a1 a2 a3 a4 a5 a8 a9 a10 a11 a12 a13 (k0 - (1 : Int32)) a9 hw H locs hP hD hS ls (lv_sub hl [1, 2, 3, 4, 5, 6, 7, 8, 9, 10, 11, 12] rfl)
set_option maxHeartbeats 4000000 in
set_option maxRecDepth 100000 in
theorem tb_X9_mends_324 {p : Program} {l : Launch} {e : Env} {s : State} {m : MethodId} {below : List Frame} {meth : Method} {c : Code} {args : Array Value} {dC : Nat → ClassId} {dI : Nat → Nat → Nat} {cI cJ cZ : ClassId} {o : Nat} {ad : Nat → Nat} {A : Nat → Prop} {Q : Int32 → mS → mG → Prop} (C : mCx p s m args meth c cX9_mends 15 (some .boolean) wsX9_mends A dC dI cI cJ cZ) {k122_ : mS → mG → Int32 → Int32 → Int32 → Int32 → Int32 → Int32 → Int32 → Int32 → Prop} (h122_ : ∀ (S : mS) (G : mG) (a1 : Int32) (a2 : Int32) (a3 : Int32) (a4 : Int32) (a5 : Int32) (a8 : Int32) (a9 : Int32) (a10 : Int32), k122_ S G a1 a2 a3 a4 a5 a8 a9 a10 → mAt p l e rm_X9_mends s m args below meth c dC dI cI cJ cZ o ad A (MQ below (va_Qi (fun r (u : mS × mG) => Q r u.1 u.2) (mB dC dI cI cJ cZ o ad A) A) args s 0 0 A) 122 15 [(0, .ref o), (1, .int a1), (2, .int a2), (3, .int a3), (4, .int a4), (5, .int a5), (8, .int a8), (9, .int a9), (10, .int a10)] [] S G) : ∀ (S : mS) (G : mG) (a1 : Int32) (a2 : Int32) (a3 : Int32) (a4 : Int32) (a5 : Int32) (a8 : Int32) (a9 : Int32) (a10 : Int32), wp_X9_mends_324 Q k122_ S G a1 a2 a3 a4 a5 a8 a9 a10 → mAt p l e rm_X9_mends s m args below meth c dC dI cI cJ cZ o ad A (MQ below (va_Qi (fun r (u : mS × mG) => Q r u.1 u.2) (mB dC dI cI cJ cZ o ad A) A) args s 0 0 A) 324 15 [(0, .ref o), (1, .int a1), (2, .int a2), (3, .int a3), (4, .int a4), (5, .int a5), (8, .int a8), (9, .int a9), (10, .int a10)] [] S G := by
  obtain ⟨hx, hb, hml, hown, hts, hr, hlocks, hA, hK⟩ := id C
  intro S G a1 a2 a3 a4 a5 a8 a9 a10 hw H locs hP hD hS ls hl
  rw [wp_X9_mends_324] at hw
  obtain ⟨v10_324, ev10_324⟩ : ∃ y : Int32, y = a10 + (1 : Int32) := ⟨_, rfl⟩
  have hw := hw v10_324 ev10_324
  refine lv_iinc (v := v10_324) (lv' := [(10, .int v10_324), (0, .ref o), (1, .int a1), (2, .int a2), (3, .int a3), (4, .int a4), (5, .int a5), (8, .int a8), (9, .int a9)]) hx hb dX9_mends_324 hl (k := 8) rfl (by rw [ev10_324]; rfl) (by decide) rfl (fun ls hl => ?_)
  refine lv_goto (tgt := 122) hx hb dX9_mends_327 (by decide) ?_
  exact h122_ S G a1 a2 a3 a4 a5 a8 a9 v10_324 hw H locs hP hD hS ls (lv_sub hl [1, 2, 3, 4, 5, 6, 7, 8, 0] rfl)
set_option maxHeartbeats 4000000 in
set_option maxRecDepth 100000 in
theorem tb_X9_mends_299 {p : Program} {l : Launch} {e : Env} {s : State} {m : MethodId} {below : List Frame} {meth : Method} {c : Code} {args : Array Value} {dC : Nat → ClassId} {dI : Nat → Nat → Nat} {cI cJ cZ : ClassId} {o : Nat} {ad : Nat → Nat} {A : Nat → Prop} {Q : Int32 → mS → mG → Prop} (C : mCx p s m args meth c cX9_mends 15 (some .boolean) wsX9_mends A dC dI cI cJ cZ) {k122_ : mS → mG → Int32 → Int32 → Int32 → Int32 → Int32 → Int32 → Int32 → Int32 → Prop} (h122_ : ∀ (S : mS) (G : mG) (a1 : Int32) (a2 : Int32) (a3 : Int32) (a4 : Int32) (a5 : Int32) (a8 : Int32) (a9 : Int32) (a10 : Int32), k122_ S G a1 a2 a3 a4 a5 a8 a9 a10 → mAt p l e rm_X9_mends s m args below meth c dC dI cI cJ cZ o ad A (MQ below (va_Qi (fun r (u : mS × mG) => Q r u.1 u.2) (mB dC dI cI cJ cZ o ad A) A) args s 0 0 A) 122 15 [(0, .ref o), (1, .int a1), (2, .int a2), (3, .int a3), (4, .int a4), (5, .int a5), (8, .int a8), (9, .int a9), (10, .int a10)] [] S G) : ∀ (S : mS) (G : mG) (a1 : Int32) (a2 : Int32) (a3 : Int32) (a4 : Int32) (a5 : Int32) (a8 : Int32) (a9 : Int32) (a10 : Int32), wp_X9_mends_299 Q k122_ S G a1 a2 a3 a4 a5 a8 a9 a10 → mAt p l e rm_X9_mends s m args below meth c dC dI cI cJ cZ o ad A (MQ below (va_Qi (fun r (u : mS × mG) => Q r u.1 u.2) (mB dC dI cI cJ cZ o ad A) A) args s 0 0 A) 299 15 [(0, .ref o), (1, .int a1), (2, .int a2), (3, .int a3), (4, .int a4), (5, .int a5), (8, .int a8), (9, .int a9), (10, .int a10)] [] S G := by
  obtain ⟨hx, hb, hml, hown, hts, hr, hlocks, hA, hK⟩ := id C
  intro S G a1 a2 a3 a4 a5 a8 a9 a10 hw H locs hP hD hS ls hl
  rw [wp_X9_mends_299] at hw
  refine lv_iload hx hb dX9_mends_299 (lv_at hl 8 rfl) ?_
  refine lv_iconst (v := 1) hx hb dX9_mends_301 (by decide) ?_
  refine lv_iadd hx hb dX9_mends_302 ?_
  refine lv_aload_n hx hb dX9_mends_303 rfl (lv_at hl 0 rfl) ?_
  refine va_get (D := (dC, dI)) (ci := 10) (v := .ref (ad 10)) (C := RX9) (T := TX9) (N := 38) hx hb hts iw_X9_mends hown hK hP 0 rfl rfl 10 (by decide) (hts _ lk_X9_mends_25) (fun _ h9 => h9) rfl dX9_mends_304 ?_
  refine lv_iload_n hx hb dX9_mends_307 rfl (lv_at hl 3 rfl) ?_
  refine va_iald hx hb hK hP 6 0 rfl rfl hw.1 dX9_mends_308 ?_
  have hw := hw.2
  refine lv_icmp_ge (tgt := 324) hx hb dX9_mends_309 (by decide) (fun c_309 => ?_) (fun c_309 => ?_)
  · have hw := hw.1 c_309
    exact tb_X9_mends_324 C h122_ S G a1 a2 a3 a4 a5 a8 a9 a10 hw H locs hP hD hS ls (lv_sub hl [0, 1, 2, 3, 4, 5, 6, 7, 8] rfl)
  · have hw := hw.2 c_309
    refine lv_aload_n hx hb dX9_mends_312 rfl (lv_at hl 0 rfl) ?_
    refine va_get (D := (dC, dI)) (ci := 10) (v := .ref (ad 31)) (C := RX9) (T := TX9) (N := 38) hx hb hts iw_X9_mends hown hK hP 0 rfl rfl 31 (by decide) (hts _ lk_X9_mends_84) (fun _ h9 => h9) rfl dX9_mends_313 ?_
    refine lv_iload hx hb dX9_mends_316 (lv_at hl 7 rfl) ?_
    refine lv_bipush (v := 32) hx hb dX9_mends_318 (by decide) ?_
    refine va_iast hx hb hK hP hD hS 25 0 rfl rfl hw.1 dX9_mends_320 (fun H locs hP hD hS => ?_)
    obtain ⟨S_320, eS_320⟩ : ∃ y : mS, y = mst S 31 (Int32.toNatClampNeg a9) (32 : Int32) := ⟨_, rfl⟩
    have hw := hw.2 S_320 eS_320
    have hP : va_P (dC, dI) vwCl (mW cI cJ cZ o ad S_320 G) H := by rw [eS_320]; exact hP
    have hD : va_D A (mW cI cJ cZ o ad S_320 G) := by rw [eS_320]; exact hD
    obtain ⟨v9_321, ev9_321⟩ : ∃ y : Int32, y = a9 + (1 : Int32) := ⟨_, rfl⟩
    have hw := hw v9_321 ev9_321
    refine lv_iinc (v := v9_321) (lv' := [(9, .int v9_321), (0, .ref o), (1, .int a1), (2, .int a2), (3, .int a3), (4, .int a4), (5, .int a5), (8, .int a8), (10, .int a10)]) hx hb dX9_mends_321 hl (k := 7) rfl (by rw [ev9_321]; rfl) (by decide) rfl (fun ls hl => ?_)
    exact tb_X9_mends_324 C h122_ S_320 G a1 a2 a3 a4 a5 a8 v9_321 a10 hw H locs hP hD hS ls (lv_sub hl [1, 2, 3, 4, 5, 6, 7, 0, 8] rfl)
set_option maxHeartbeats 4000000 in
set_option maxRecDepth 100000 in
theorem tb_X9_mends_189 {p : Program} {l : Launch} {e : Env} {s : State} {m : MethodId} {below : List Frame} {meth : Method} {c : Code} {args : Array Value} {dC : Nat → ClassId} {dI : Nat → Nat → Nat} {cI cJ cZ : ClassId} {o : Nat} {ad : Nat → Nat} {A : Nat → Prop} {Q : Int32 → mS → mG → Prop} (C : mCx p s m args meth c cX9_mends 15 (some .boolean) wsX9_mends A dC dI cI cJ cZ) {k122_ : mS → mG → Int32 → Int32 → Int32 → Int32 → Int32 → Int32 → Int32 → Int32 → Prop} (h122_ : ∀ (S : mS) (G : mG) (a1 : Int32) (a2 : Int32) (a3 : Int32) (a4 : Int32) (a5 : Int32) (a8 : Int32) (a9 : Int32) (a10 : Int32), k122_ S G a1 a2 a3 a4 a5 a8 a9 a10 → mAt p l e rm_X9_mends s m args below meth c dC dI cI cJ cZ o ad A (MQ below (va_Qi (fun r (u : mS × mG) => Q r u.1 u.2) (mB dC dI cI cJ cZ o ad A) A) args s 0 0 A) 122 15 [(0, .ref o), (1, .int a1), (2, .int a2), (3, .int a3), (4, .int a4), (5, .int a5), (8, .int a8), (9, .int a9), (10, .int a10)] [] S G) : ∀ (n : Nat) (S : mS) (G : mG) (a1 : Int32) (a2 : Int32) (a3 : Int32) (a4 : Int32) (a5 : Int32) (a8 : Int32) (a9 : Int32) (a10 : Int32) (a11 : Int32) (a12 : Int32) (a13 : Int32), wp_X9_mends_189 Q k122_ n S G a1 a2 a3 a4 a5 a8 a9 a10 a11 a12 a13 → mAt p l e rm_X9_mends s m args below meth c dC dI cI cJ cZ o ad A (MQ below (va_Qi (fun r (u : mS × mG) => Q r u.1 u.2) (mB dC dI cI cJ cZ o ad A) A) args s 0 0 A) 189 15 [(0, .ref o), (1, .int a1), (2, .int a2), (3, .int a3), (4, .int a4), (5, .int a5), (8, .int a8), (9, .int a9), (10, .int a10), (11, .int a11), (12, .int a12), (13, .int a13)] [] S G := by
  obtain ⟨hx, hb, hml, hown, hts, hr, hlocks, hA, hK⟩ := id C
  intro n
  induction n with
  | zero => intro S G a1 a2 a3 a4 a5 a8 a9 a10 a11 a12 a13 hw; exact hw.elim
  | succ n ih =>
    intro S G a1 a2 a3 a4 a5 a8 a9 a10 a11 a12 a13 hw H locs hP hD hS ls hl
    rw [wp_X9_mends_189] at hw
    refine lv_iload hx hb dX9_mends_189 (lv_at hl 11 rfl) ?_
    refine lv_iload hx hb dX9_mends_191 (lv_at hl 9 rfl) ?_
    refine lv_iload hx hb dX9_mends_193 (lv_at hl 10 rfl) ?_
    refine lv_iadd hx hb dX9_mends_195 ?_
    refine lv_icmp_ge (tgt := 299) hx hb dX9_mends_196 (by decide) (fun c_196 => ?_) (fun c_196 => ?_)
    · have hw := hw.1 c_196
      exact tb_X9_mends_299 C h122_ S G a1 a2 a3 a4 a5 a8 a9 a10 hw H locs hP hD hS ls (lv_sub hl [0, 1, 2, 3, 4, 5, 6, 7, 8] rfl)
    · have hw := hw.2 c_196
      refine lv_iload hx hb dX9_mends_199 (lv_at hl 11 rfl) ?_
      refine lv_iload hx hb dX9_mends_201 (lv_at hl 9 rfl) ?_
      refine lv_icmp_ge (tgt := 227) hx hb dX9_mends_203 (by decide) (fun c_203 => ?_) (fun c_203 => ?_)
      · have hw := hw.1 c_203
        refine lv_aload_n hx hb dX9_mends_227 rfl (lv_at hl 0 rfl) ?_
        refine va_get (D := (dC, dI)) (ci := 10) (v := .ref (ad 6)) (C := RX9) (T := TX9) (N := 38) hx hb hts iw_X9_mends hown hK hP 0 rfl rfl 6 (by decide) (hts _ lk_X9_mends_13) (fun _ h9 => h9) rfl dX9_mends_228 ?_
        refine lv_iconst (v := 4) hx hb dX9_mends_231 (by decide) ?_
        refine lv_aload_n hx hb dX9_mends_232 rfl (lv_at hl 0 rfl) ?_
        refine va_get (D := (dC, dI)) (ci := 10) (v := .ref (ad 29)) (C := RX9) (T := TX9) (N := 38) hx hb hts iw_X9_mends hown hK hP 0 rfl rfl 29 (by decide) (hts _ lk_X9_mends_78) (fun _ h9 => h9) rfl dX9_mends_233 ?_
        refine lv_iload_n hx hb dX9_mends_236 rfl (lv_at hl 2 rfl) ?_
        refine va_iald hx hb hK hP 23 0 rfl rfl hw.1 dX9_mends_237 ?_
        have hw := hw.2
        refine lv_imul hx hb dX9_mends_238 ?_
        refine lv_iload hx hb dX9_mends_239 (lv_at hl 11 rfl) ?_
        refine lv_iadd hx hb dX9_mends_241 ?_
        refine lv_iload hx hb dX9_mends_242 (lv_at hl 9 rfl) ?_
        refine lv_isub hx hb dX9_mends_244 ?_
        refine va_iald hx hb hK hP 2 0 rfl rfl hw.1 dX9_mends_245 ?_
        have hw := hw.2
        exact tb_X9_mends_246 C h122_ ih S G a1 a2 a3 a4 a5 a8 a9 a10 a11 a12 a13 (S 6 (Int32.toNatClampNeg ((((4 : Int32) * (S 29 (Int32.toNatClampNeg a2))) + a13) - a11))) hw H locs hP hD hS ls (lv_sub hl [0, 1, 2, 3, 4, 5, 6, 7, 8, 9, 10, 11] rfl)
      · have hw := hw.2 c_203
        refine lv_aload_n hx hb dX9_mends_206 rfl (lv_at hl 0 rfl) ?_
        refine va_get (D := (dC, dI)) (ci := 10) (v := .ref (ad 8)) (C := RX9) (T := TX9) (N := 38) hx hb hts iw_X9_mends hown hK hP 0 rfl rfl 8 (by decide) (hts _ lk_X9_mends_19) (fun _ h9 => h9) rfl dX9_mends_207 ?_
        refine lv_bipush (v := 36) hx hb dX9_mends_210 (by decide) ?_
        refine lv_iload_n hx hb dX9_mends_212 rfl (lv_at hl 3 rfl) ?_
        refine lv_imul hx hb dX9_mends_213 ?_
        refine lv_bipush (v := 12) hx hb dX9_mends_214 (by decide) ?_
        refine lv_iload hx hb dX9_mends_216 (lv_at hl 8 rfl) ?_
        refine lv_imul hx hb dX9_mends_218 ?_
        refine lv_iadd hx hb dX9_mends_219 ?_
        refine lv_iload hx hb dX9_mends_220 (lv_at hl 11 rfl) ?_
        refine lv_iadd hx hb dX9_mends_222 ?_
        refine va_iald hx hb hK hP 4 0 rfl rfl hw.1 dX9_mends_223 ?_
        have hw := hw.2
        refine lv_goto (tgt := 246) hx hb dX9_mends_224 (by decide) ?_
        exact tb_X9_mends_246 C h122_ ih S G a1 a2 a3 a4 a5 a8 a9 a10 a11 a12 a13 (S 8 (Int32.toNatClampNeg ((((36 : Int32) * a3) + ((12 : Int32) * a10)) + a13))) hw H locs hP hD hS ls (lv_sub hl [0, 1, 2, 3, 4, 5, 6, 7, 8, 9, 10, 11] rfl)
set_option maxHeartbeats 4000000 in
set_option maxRecDepth 100000 in
theorem tb_X9_mends_184 {p : Program} {l : Launch} {e : Env} {s : State} {m : MethodId} {below : List Frame} {meth : Method} {c : Code} {args : Array Value} {dC : Nat → ClassId} {dI : Nat → Nat → Nat} {cI cJ cZ : ClassId} {o : Nat} {ad : Nat → Nat} {A : Nat → Prop} {Q : Int32 → mS → mG → Prop} (C : mCx p s m args meth c cX9_mends 15 (some .boolean) wsX9_mends A dC dI cI cJ cZ) {k122_ : mS → mG → Int32 → Int32 → Int32 → Int32 → Int32 → Int32 → Int32 → Int32 → Prop} (h122_ : ∀ (S : mS) (G : mG) (a1 : Int32) (a2 : Int32) (a3 : Int32) (a4 : Int32) (a5 : Int32) (a8 : Int32) (a9 : Int32) (a10 : Int32), k122_ S G a1 a2 a3 a4 a5 a8 a9 a10 → mAt p l e rm_X9_mends s m args below meth c dC dI cI cJ cZ o ad A (MQ below (va_Qi (fun r (u : mS × mG) => Q r u.1 u.2) (mB dC dI cI cJ cZ o ad A) A) args s 0 0 A) 122 15 [(0, .ref o), (1, .int a1), (2, .int a2), (3, .int a3), (4, .int a4), (5, .int a5), (8, .int a8), (9, .int a9), (10, .int a10)] [] S G) : ∀ (S : mS) (G : mG) (a1 : Int32) (a2 : Int32) (a3 : Int32) (a4 : Int32) (a5 : Int32) (a8 : Int32) (a9 : Int32) (a10 : Int32) (a11 : Int32) (k0 : Int32), wp_X9_mends_184 Q k122_ S G a1 a2 a3 a4 a5 a8 a9 a10 a11 k0 → mAt p l e rm_X9_mends s m args below meth c dC dI cI cJ cZ o ad A (MQ below (va_Qi (fun r (u : mS × mG) => Q r u.1 u.2) (mB dC dI cI cJ cZ o ad A) A) args s 0 0 A) 184 15 [(0, .ref o), (1, .int a1), (2, .int a2), (3, .int a3), (4, .int a4), (5, .int a5), (8, .int a8), (9, .int a9), (10, .int a10), (11, .int a11)] [.int k0] S G := by
  obtain ⟨hx, hb, hml, hown, hts, hr, hlocks, hA, hK⟩ := id C
  intro S G a1 a2 a3 a4 a5 a8 a9 a10 a11 k0 hw H locs hP hD hS ls hl
  rw [wp_X9_mends_184] at hw
  refine lv_istore (lv' := [(12, .int k0), (0, .ref o), (1, .int a1), (2, .int a2), (3, .int a3), (4, .int a4), (5, .int a5), (8, .int a8), (9, .int a9), (10, .int a10), (11, .int a11)]) hx hb dX9_mends_184 hl (by decide) rfl (fun ls hl => ?_)
  refine lv_iconst (v := 0) hx hb dX9_mends_186 (by decide) ?_
  refine lv_istore (lv' := [(13, .int (0 : Int32)), (12, .int k0), (0, .ref o), (1, .int a1), (2, .int a2), (3, .int a3), (4, .int a4), (5, .int a5), (8, .int a8), (9, .int a9), (10, .int a10), (11, .int a11)]) hx hb dX9_mends_187 hl (by decide) rfl (fun ls hl => ?_)
  obtain ⟨n9, hw⟩ := hw
  exact tb_X9_mends_189 C h122_ n9 S G a1 a2 a3 a4 a5 a8 a9 a10 a11 k0 (0 : Int32) hw H locs hP hD hS ls (lv_sub hl [2, 3, 4, 5, 6, 7, 8, 9, 10, 11, 1, 0] rfl)
set_option maxHeartbeats 4000000 in
set_option maxRecDepth 100000 in
theorem tb_X9_mends_183 {p : Program} {l : Launch} {e : Env} {s : State} {m : MethodId} {below : List Frame} {meth : Method} {c : Code} {args : Array Value} {dC : Nat → ClassId} {dI : Nat → Nat → Nat} {cI cJ cZ : ClassId} {o : Nat} {ad : Nat → Nat} {A : Nat → Prop} {Q : Int32 → mS → mG → Prop} (C : mCx p s m args meth c cX9_mends 15 (some .boolean) wsX9_mends A dC dI cI cJ cZ) {k122_ : mS → mG → Int32 → Int32 → Int32 → Int32 → Int32 → Int32 → Int32 → Int32 → Prop} (h122_ : ∀ (S : mS) (G : mG) (a1 : Int32) (a2 : Int32) (a3 : Int32) (a4 : Int32) (a5 : Int32) (a8 : Int32) (a9 : Int32) (a10 : Int32), k122_ S G a1 a2 a3 a4 a5 a8 a9 a10 → mAt p l e rm_X9_mends s m args below meth c dC dI cI cJ cZ o ad A (MQ below (va_Qi (fun r (u : mS × mG) => Q r u.1 u.2) (mB dC dI cI cJ cZ o ad A) A) args s 0 0 A) 122 15 [(0, .ref o), (1, .int a1), (2, .int a2), (3, .int a3), (4, .int a4), (5, .int a5), (8, .int a8), (9, .int a9), (10, .int a10)] [] S G) : ∀ (S : mS) (G : mG) (a1 : Int32) (a2 : Int32) (a3 : Int32) (a4 : Int32) (a5 : Int32) (a8 : Int32) (a9 : Int32) (a10 : Int32) (a11 : Int32), wp_X9_mends_183 Q k122_ S G a1 a2 a3 a4 a5 a8 a9 a10 a11 → mAt p l e rm_X9_mends s m args below meth c dC dI cI cJ cZ o ad A (MQ below (va_Qi (fun r (u : mS × mG) => Q r u.1 u.2) (mB dC dI cI cJ cZ o ad A) A) args s 0 0 A) 183 15 [(0, .ref o), (1, .int a1), (2, .int a2), (3, .int a3), (4, .int a4), (5, .int a5), (8, .int a8), (9, .int a9), (10, .int a10), (11, .int a11)] [] S G := by
  obtain ⟨hx, hb, hml, hown, hts, hr, hlocks, hA, hK⟩ := id C
  intro S G a1 a2 a3 a4 a5 a8 a9 a10 a11 hw H locs hP hD hS ls hl
  rw [wp_X9_mends_183] at hw
  refine lv_iconst (v := 0) hx hb dX9_mends_183 (by decide) ?_
  exact tb_X9_mends_184 C h122_ S G a1 a2 a3 a4 a5 a8 a9 a10 a11 (0 : Int32) hw H locs hP hD hS ls (lv_sub hl [0, 1, 2, 3, 4, 5, 6, 7, 8, 9] rfl)
set_option maxHeartbeats 4000000 in
set_option maxRecDepth 100000 in
theorem tb_X9_mends_471 {p : Program} {l : Launch} {e : Env} {s : State} {m : MethodId} {below : List Frame} {meth : Method} {c : Code} {args : Array Value} {dC : Nat → ClassId} {dI : Nat → Nat → Nat} {cI cJ cZ : ClassId} {o : Nat} {ad : Nat → Nat} {A : Nat → Prop} {Q : Int32 → mS → mG → Prop} (C : mCx p s m args meth c cX9_mends 15 (some .boolean) wsX9_mends A dC dI cI cJ cZ) : ∀ (S : mS) (G : mG) (a1 : Int32) (a4 : Int32) (a9 : Int32) (a10 : Int32), wp_X9_mends_471 Q  S G a1 a4 a9 a10 → mAt p l e rm_X9_mends s m args below meth c dC dI cI cJ cZ o ad A (MQ below (va_Qi (fun r (u : mS × mG) => Q r u.1 u.2) (mB dC dI cI cJ cZ o ad A) A) args s 0 0 A) 471 15 [(0, .ref o), (1, .int a1), (4, .int a4), (9, .int a9), (10, .int a10)] [] S G := by
  obtain ⟨hx, hb, hml, hown, hts, hr, hlocks, hA, hK⟩ := id C
  intro S G a1 a4 a9 a10 hw H locs hP hD hS ls hl
  rw [wp_X9_mends_471] at hw
  refine lv_aload_n hx hb dX9_mends_471 rfl (lv_at hl 0 rfl) ?_
  refine va_get (D := (dC, dI)) (ci := 10) (v := .ref (ad 20)) (C := RX9) (T := TX9) (N := 38) hx hb hts iw_X9_mends hown hK hP 0 rfl rfl 20 (by decide) (hts _ lk_X9_mends_57) (fun _ h9 => h9) rfl dX9_mends_472 ?_
  refine lv_iload_n hx hb dX9_mends_475 rfl (lv_at hl 1 rfl) ?_
  refine lv_iload hx hb dX9_mends_476 (lv_at hl 2 rfl) ?_
  refine lv_iload hx hb dX9_mends_478 (lv_at hl 3 rfl) ?_
  refine lv_iadd hx hb dX9_mends_480 ?_
  refine lv_iload hx hb dX9_mends_481 (lv_at hl 4 rfl) ?_
  refine lv_iadd hx hb dX9_mends_483 ?_
  refine va_iast hx hb hK hP hD hS 16 0 rfl rfl hw.1 dX9_mends_484 (fun H locs hP hD hS => ?_)
  obtain ⟨S_484, eS_484⟩ : ∃ y : mS, y = mst S 20 (Int32.toNatClampNeg a1) ((a4 + a9) + a10) := ⟨_, rfl⟩
  have hw := hw.2 S_484 eS_484
  have hP : va_P (dC, dI) vwCl (mW cI cJ cZ o ad S_484 G) H := by rw [eS_484]; exact hP
  have hD : va_D A (mW cI cJ cZ o ad S_484 G) := by rw [eS_484]; exact hD
  refine lv_aload_n hx hb dX9_mends_485 rfl (lv_at hl 0 rfl) ?_
  refine lv_dup hx hb dX9_mends_486 rfl ?_
  refine va_get (D := (dC, dI)) (ci := 10) (v := .int (S_484 5 0)) (C := RX9) (T := TX9) (N := 38) hx hb hts iw_X9_mends hown hK hP 0 rfl rfl 5 (by decide) (hts _ lk_X9_mends_195) (fun _ h9 => h9) rfl dX9_mends_487 ?_
  refine lv_iconst (v := 1) hx hb dX9_mends_490 (by decide) ?_
  refine lv_iadd hx hb dX9_mends_491 ?_
  refine va_put (D := (dC, dI)) (ci := 10) (v := .int ((S_484 5 0) + (1 : Int32))) (C := RX9) (T := TX9) (N := 38) hx hb hts iw_X9_mends tyX9 tyX9_ok nmX9 hown hK hP hD hS 0 rfl rfl 5 (by decide) (hts _ lk_X9_mends_195) (fun _ h9 => h9) rfl (tyX9_ok 5 (by decide)) rfl rfl (Nat.le_of_ble_eq_true rfl) dX9_mends_492 (fun H locs hP hD hS => ?_)
  obtain ⟨S_492, eS_492⟩ : ∃ y : mS, y = mst S_484 5 0 ((S_484 5 0) + (1 : Int32)) := ⟨_, rfl⟩
  have hw := hw S_492 eS_492
  have hP : va_P (dC, dI) vwCl (mW cI cJ cZ o ad S_492 G) H := by rw [eS_492]; exact hP
  have hD : va_D A (mW cI cJ cZ o ad S_492 G) := by rw [eS_492]; exact hD
  refine lv_iconst (v := 1) hx hb dX9_mends_495 (by decide) ?_
  exact W.zret (v := (1 : Int32)) hx hb hr rfl (fun t ht hW => ⟨⟨(1 : Int32), (S_492, G), rfl, hw, by rw [ht]; exact hP, va_K.moved hW.alike hK, hD⟩, hS.F ht⟩) hS.2.2 dX9_mends_496
set_option maxHeartbeats 4000000 in
set_option maxRecDepth 100000 in
theorem tb_X9_mends_432 {p : Program} {l : Launch} {e : Env} {s : State} {m : MethodId} {below : List Frame} {meth : Method} {c : Code} {args : Array Value} {dC : Nat → ClassId} {dI : Nat → Nat → Nat} {cI cJ cZ : ClassId} {o : Nat} {ad : Nat → Nat} {A : Nat → Prop} {Q : Int32 → mS → mG → Prop} (C : mCx p s m args meth c cX9_mends 15 (some .boolean) wsX9_mends A dC dI cI cJ cZ) : ∀ (n : Nat) (S : mS) (G : mG) (a1 : Int32) (a4 : Int32) (a9 : Int32) (a10 : Int32) (a11 : Int32), wp_X9_mends_432 Q  n S G a1 a4 a9 a10 a11 → mAt p l e rm_X9_mends s m args below meth c dC dI cI cJ cZ o ad A (MQ below (va_Qi (fun r (u : mS × mG) => Q r u.1 u.2) (mB dC dI cI cJ cZ o ad A) A) args s 0 0 A) 432 15 [(0, .ref o), (1, .int a1), (4, .int a4), (9, .int a9), (10, .int a10), (11, .int a11)] [] S G := by
  obtain ⟨hx, hb, hml, hown, hts, hr, hlocks, hA, hK⟩ := id C
  intro n
  induction n with
  | zero => intro S G a1 a4 a9 a10 a11 hw; exact hw.elim
  | succ n ih =>
    intro S G a1 a4 a9 a10 a11 hw H locs hP hD hS ls hl
    rw [wp_X9_mends_432] at hw
    refine lv_iload hx hb dX9_mends_432 (lv_at hl 5 rfl) ?_
    refine lv_iload hx hb dX9_mends_434 (lv_at hl 4 rfl) ?_
    refine lv_icmp_ge (tgt := 471) hx hb dX9_mends_436 (by decide) (fun c_436 => ?_) (fun c_436 => ?_)
    · have hw := hw.1 c_436
      exact tb_X9_mends_471 C  S G a1 a4 a9 a10 hw H locs hP hD hS ls (lv_sub hl [0, 1, 2, 3, 4] rfl)
    · have hw := hw.2 c_436
      refine lv_aload_n hx hb dX9_mends_439 rfl (lv_at hl 0 rfl) ?_
      refine va_get (D := (dC, dI)) (ci := 10) (v := .ref (ad 19)) (C := RX9) (T := TX9) (N := 38) hx hb hts iw_X9_mends hown hK hP 0 rfl rfl 19 (by decide) (hts _ lk_X9_mends_54) (fun _ h9 => h9) rfl dX9_mends_440 ?_
      refine lv_sipush (v := 600) hx hb dX9_mends_443 (by decide) ?_
      refine lv_iload_n hx hb dX9_mends_446 rfl (lv_at hl 1 rfl) ?_
      refine lv_imul hx hb dX9_mends_447 ?_
      refine lv_iload hx hb dX9_mends_448 (lv_at hl 2 rfl) ?_
      refine lv_iadd hx hb dX9_mends_450 ?_
      refine lv_iload hx hb dX9_mends_451 (lv_at hl 3 rfl) ?_
      refine lv_iadd hx hb dX9_mends_453 ?_
      refine lv_iload hx hb dX9_mends_454 (lv_at hl 5 rfl) ?_
      refine lv_iadd hx hb dX9_mends_456 ?_
      refine lv_aload_n hx hb dX9_mends_457 rfl (lv_at hl 0 rfl) ?_
      refine va_get (D := (dC, dI)) (ci := 10) (v := .ref (ad 32)) (C := RX9) (T := TX9) (N := 38) hx hb hts iw_X9_mends hown hK hP 0 rfl rfl 32 (by decide) (hts _ lk_X9_mends_87) (fun _ h9 => h9) rfl dX9_mends_458 ?_
      refine lv_iload hx hb dX9_mends_461 (lv_at hl 5 rfl) ?_
      refine va_iald hx hb hK hP 26 0 rfl rfl hw.1 dX9_mends_463 ?_
      have hw := hw.2
      refine va_iast hx hb hK hP hD hS 15 0 rfl rfl hw.1 dX9_mends_464 (fun H locs hP hD hS => ?_)
      obtain ⟨S_464, eS_464⟩ : ∃ y : mS, y = mst S 19 (Int32.toNatClampNeg (((((600 : Int32) * a1) + a4) + a9) + a11)) (S 32 (Int32.toNatClampNeg a11)) := ⟨_, rfl⟩
      have hw := hw.2 S_464 eS_464
      have hP : va_P (dC, dI) vwCl (mW cI cJ cZ o ad S_464 G) H := by rw [eS_464]; exact hP
      have hD : va_D A (mW cI cJ cZ o ad S_464 G) := by rw [eS_464]; exact hD
      obtain ⟨v11_465, ev11_465⟩ : ∃ y : Int32, y = a11 + (1 : Int32) := ⟨_, rfl⟩
      have hw := hw v11_465 ev11_465
      refine lv_iinc (v := v11_465) (lv' := [(11, .int v11_465), (0, .ref o), (1, .int a1), (4, .int a4), (9, .int a9), (10, .int a10)]) hx hb dX9_mends_465 hl (k := 5) rfl (by rw [ev11_465]; rfl) (by decide) rfl (fun ls hl => ?_)
      refine lv_goto (tgt := 432) hx hb dX9_mends_468 (by decide) ?_
      exact ih S_464 G a1 a4 a9 a10 v11_465 hw H locs hP hD hS ls (lv_sub hl [1, 2, 3, 4, 5, 0] rfl)
set_option maxHeartbeats 4000000 in
set_option maxRecDepth 100000 in
theorem tb_X9_mends_429 {p : Program} {l : Launch} {e : Env} {s : State} {m : MethodId} {below : List Frame} {meth : Method} {c : Code} {args : Array Value} {dC : Nat → ClassId} {dI : Nat → Nat → Nat} {cI cJ cZ : ClassId} {o : Nat} {ad : Nat → Nat} {A : Nat → Prop} {Q : Int32 → mS → mG → Prop} (C : mCx p s m args meth c cX9_mends 15 (some .boolean) wsX9_mends A dC dI cI cJ cZ) : ∀ (S : mS) (G : mG) (a1 : Int32) (a4 : Int32) (a9 : Int32) (a10 : Int32), wp_X9_mends_429 Q  S G a1 a4 a9 a10 → mAt p l e rm_X9_mends s m args below meth c dC dI cI cJ cZ o ad A (MQ below (va_Qi (fun r (u : mS × mG) => Q r u.1 u.2) (mB dC dI cI cJ cZ o ad A) A) args s 0 0 A) 429 15 [(0, .ref o), (1, .int a1), (4, .int a4), (9, .int a9), (10, .int a10)] [] S G := by
  obtain ⟨hx, hb, hml, hown, hts, hr, hlocks, hA, hK⟩ := id C
  intro S G a1 a4 a9 a10 hw H locs hP hD hS ls hl
  rw [wp_X9_mends_429] at hw
  refine lv_iconst (v := 0) hx hb dX9_mends_429 (by decide) ?_
  refine lv_istore (lv' := [(11, .int (0 : Int32)), (0, .ref o), (1, .int a1), (4, .int a4), (9, .int a9), (10, .int a10)]) hx hb dX9_mends_430 hl (by decide) rfl (fun ls hl => ?_)
  obtain ⟨n9, hw⟩ := hw
  exact tb_X9_mends_432 C  n9 S G a1 a4 a9 a10 (0 : Int32) hw H locs hP hD hS ls (lv_sub hl [1, 2, 3, 4, 5, 0] rfl)
set_option maxHeartbeats 4000000 in
set_option maxRecDepth 100000 in
theorem tb_X9_mends_393 {p : Program} {l : Launch} {e : Env} {s : State} {m : MethodId} {below : List Frame} {meth : Method} {c : Code} {args : Array Value} {dC : Nat → ClassId} {dI : Nat → Nat → Nat} {cI cJ cZ : ClassId} {o : Nat} {ad : Nat → Nat} {A : Nat → Prop} {Q : Int32 → mS → mG → Prop} (C : mCx p s m args meth c cX9_mends 15 (some .boolean) wsX9_mends A dC dI cI cJ cZ) : ∀ (n : Nat) (S : mS) (G : mG) (a1 : Int32) (a4 : Int32) (a9 : Int32) (a10 : Int32) (a11 : Int32), wp_X9_mends_393 Q  n S G a1 a4 a9 a10 a11 → mAt p l e rm_X9_mends s m args below meth c dC dI cI cJ cZ o ad A (MQ below (va_Qi (fun r (u : mS × mG) => Q r u.1 u.2) (mB dC dI cI cJ cZ o ad A) A) args s 0 0 A) 393 15 [(0, .ref o), (1, .int a1), (4, .int a4), (9, .int a9), (10, .int a10), (11, .int a11)] [] S G := by
  obtain ⟨hx, hb, hml, hown, hts, hr, hlocks, hA, hK⟩ := id C
  intro n
  induction n with
  | zero => intro S G a1 a4 a9 a10 a11 hw; exact hw.elim
  | succ n ih =>
    intro S G a1 a4 a9 a10 a11 hw H locs hP hD hS ls hl
    rw [wp_X9_mends_393] at hw
    refine lv_iload hx hb dX9_mends_393 (lv_at hl 5 rfl) ?_
    refine lv_iload hx hb dX9_mends_395 (lv_at hl 3 rfl) ?_
    refine lv_icmp_ge (tgt := 429) hx hb dX9_mends_397 (by decide) (fun c_397 => ?_) (fun c_397 => ?_)
    · have hw := hw.1 c_397
      exact tb_X9_mends_429 C  S G a1 a4 a9 a10 hw H locs hP hD hS ls (lv_sub hl [0, 1, 2, 3, 4] rfl)
    · have hw := hw.2 c_397
      refine lv_aload_n hx hb dX9_mends_400 rfl (lv_at hl 0 rfl) ?_
      refine va_get (D := (dC, dI)) (ci := 10) (v := .ref (ad 19)) (C := RX9) (T := TX9) (N := 38) hx hb hts iw_X9_mends hown hK hP 0 rfl rfl 19 (by decide) (hts _ lk_X9_mends_54) (fun _ h9 => h9) rfl dX9_mends_401 ?_
      refine lv_sipush (v := 600) hx hb dX9_mends_404 (by decide) ?_
      refine lv_iload_n hx hb dX9_mends_407 rfl (lv_at hl 1 rfl) ?_
      refine lv_imul hx hb dX9_mends_408 ?_
      refine lv_iload hx hb dX9_mends_409 (lv_at hl 2 rfl) ?_
      refine lv_iadd hx hb dX9_mends_411 ?_
      refine lv_iload hx hb dX9_mends_412 (lv_at hl 5 rfl) ?_
      refine lv_iadd hx hb dX9_mends_414 ?_
      refine lv_aload_n hx hb dX9_mends_415 rfl (lv_at hl 0 rfl) ?_
      refine va_get (D := (dC, dI)) (ci := 10) (v := .ref (ad 31)) (C := RX9) (T := TX9) (N := 38) hx hb hts iw_X9_mends hown hK hP 0 rfl rfl 31 (by decide) (hts _ lk_X9_mends_84) (fun _ h9 => h9) rfl dX9_mends_416 ?_
      refine lv_iload hx hb dX9_mends_419 (lv_at hl 5 rfl) ?_
      refine va_iald hx hb hK hP 25 0 rfl rfl hw.1 dX9_mends_421 ?_
      have hw := hw.2
      refine va_iast hx hb hK hP hD hS 15 0 rfl rfl hw.1 dX9_mends_422 (fun H locs hP hD hS => ?_)
      obtain ⟨S_422, eS_422⟩ : ∃ y : mS, y = mst S 19 (Int32.toNatClampNeg ((((600 : Int32) * a1) + a4) + a11)) (S 31 (Int32.toNatClampNeg a11)) := ⟨_, rfl⟩
      have hw := hw.2 S_422 eS_422
      have hP : va_P (dC, dI) vwCl (mW cI cJ cZ o ad S_422 G) H := by rw [eS_422]; exact hP
      have hD : va_D A (mW cI cJ cZ o ad S_422 G) := by rw [eS_422]; exact hD
      obtain ⟨v11_423, ev11_423⟩ : ∃ y : Int32, y = a11 + (1 : Int32) := ⟨_, rfl⟩
      have hw := hw v11_423 ev11_423
      refine lv_iinc (v := v11_423) (lv' := [(11, .int v11_423), (0, .ref o), (1, .int a1), (4, .int a4), (9, .int a9), (10, .int a10)]) hx hb dX9_mends_423 hl (k := 5) rfl (by rw [ev11_423]; rfl) (by decide) rfl (fun ls hl => ?_)
      refine lv_goto (tgt := 393) hx hb dX9_mends_426 (by decide) ?_
      exact ih S_422 G a1 a4 a9 a10 v11_423 hw H locs hP hD hS ls (lv_sub hl [1, 2, 3, 4, 5, 0] rfl)
set_option maxHeartbeats 4000000 in
set_option maxRecDepth 100000 in
theorem tb_X9_mends_390 {p : Program} {l : Launch} {e : Env} {s : State} {m : MethodId} {below : List Frame} {meth : Method} {c : Code} {args : Array Value} {dC : Nat → ClassId} {dI : Nat → Nat → Nat} {cI cJ cZ : ClassId} {o : Nat} {ad : Nat → Nat} {A : Nat → Prop} {Q : Int32 → mS → mG → Prop} (C : mCx p s m args meth c cX9_mends 15 (some .boolean) wsX9_mends A dC dI cI cJ cZ) : ∀ (S : mS) (G : mG) (a1 : Int32) (a4 : Int32) (a9 : Int32) (a10 : Int32), wp_X9_mends_390 Q  S G a1 a4 a9 a10 → mAt p l e rm_X9_mends s m args below meth c dC dI cI cJ cZ o ad A (MQ below (va_Qi (fun r (u : mS × mG) => Q r u.1 u.2) (mB dC dI cI cJ cZ o ad A) A) args s 0 0 A) 390 15 [(0, .ref o), (1, .int a1), (4, .int a4), (9, .int a9), (10, .int a10)] [] S G := by
  obtain ⟨hx, hb, hml, hown, hts, hr, hlocks, hA, hK⟩ := id C
  intro S G a1 a4 a9 a10 hw H locs hP hD hS ls hl
  rw [wp_X9_mends_390] at hw
  refine lv_iconst (v := 0) hx hb dX9_mends_390 (by decide) ?_
  refine lv_istore (lv' := [(11, .int (0 : Int32)), (0, .ref o), (1, .int a1), (4, .int a4), (9, .int a9), (10, .int a10)]) hx hb dX9_mends_391 hl (by decide) rfl (fun ls hl => ?_)
  obtain ⟨n9, hw⟩ := hw
  exact tb_X9_mends_393 C  n9 S G a1 a4 a9 a10 (0 : Int32) hw H locs hP hD hS ls (lv_sub hl [1, 2, 3, 4, 5, 0] rfl)
set_option maxHeartbeats 4000000 in
set_option maxRecDepth 100000 in
theorem tb_X9_mends_360 {p : Program} {l : Launch} {e : Env} {s : State} {m : MethodId} {below : List Frame} {meth : Method} {c : Code} {args : Array Value} {dC : Nat → ClassId} {dI : Nat → Nat → Nat} {cI cJ cZ : ClassId} {o : Nat} {ad : Nat → Nat} {A : Nat → Prop} {Q : Int32 → mS → mG → Prop} (C : mCx p s m args meth c cX9_mends 15 (some .boolean) wsX9_mends A dC dI cI cJ cZ) : ∀ (n : Nat) (S : mS) (G : mG) (a1 : Int32) (a4 : Int32) (a5 : Int32) (a9 : Int32) (a10 : Int32) (a11 : Int32), wp_X9_mends_360 Q  n S G a1 a4 a5 a9 a10 a11 → mAt p l e rm_X9_mends s m args below meth c dC dI cI cJ cZ o ad A (MQ below (va_Qi (fun r (u : mS × mG) => Q r u.1 u.2) (mB dC dI cI cJ cZ o ad A) A) args s 0 0 A) 360 15 [(0, .ref o), (1, .int a1), (4, .int a4), (5, .int a5), (9, .int a9), (10, .int a10), (11, .int a11)] [] S G := by
  obtain ⟨hx, hb, hml, hown, hts, hr, hlocks, hA, hK⟩ := id C
  intro n
  induction n with
  | zero => intro S G a1 a4 a5 a9 a10 a11 hw; exact hw.elim
  | succ n ih =>
    intro S G a1 a4 a5 a9 a10 a11 hw H locs hP hD hS ls hl
    rw [wp_X9_mends_360] at hw
    refine lv_iload hx hb dX9_mends_360 (lv_at hl 6 rfl) ?_
    refine lv_iload hx hb dX9_mends_362 (lv_at hl 5 rfl) ?_
    refine lv_icmp_ge (tgt := 390) hx hb dX9_mends_364 (by decide) (fun c_364 => ?_) (fun c_364 => ?_)
    · have hw := hw.1 c_364
      exact tb_X9_mends_390 C  S G a1 a4 a9 a10 hw H locs hP hD hS ls (lv_sub hl [0, 1, 2, 4, 5] rfl)
    · have hw := hw.2 c_364
      refine lv_aload_n hx hb dX9_mends_367 rfl (lv_at hl 0 rfl) ?_
      refine va_get (D := (dC, dI)) (ci := 10) (v := .ref (ad 32)) (C := RX9) (T := TX9) (N := 38) hx hb hts iw_X9_mends hown hK hP 0 rfl rfl 32 (by decide) (hts _ lk_X9_mends_87) (fun _ h9 => h9) rfl dX9_mends_368 ?_
      refine lv_iload hx hb dX9_mends_371 (lv_at hl 6 rfl) ?_
      refine lv_aload_n hx hb dX9_mends_373 rfl (lv_at hl 0 rfl) ?_
      refine lv_iload_n hx hb dX9_mends_374 rfl (lv_at hl 1 rfl) ?_
      refine lv_iload hx hb dX9_mends_375 (lv_at hl 3 rfl) ?_
      refine lv_iload hx hb dX9_mends_377 (lv_at hl 6 rfl) ?_
      refine lv_iadd hx hb dX9_mends_379 ?_
      have hFc := mFree hD hS hA
      refine va_calli (va_runV (As := [.int a1, .int (a5 + a11)]) (rest := [.int a11, .ref (ad 32)]) ⟨hx, hb, hml, hown, hts⟩ (c_X9_at l dC dI cI cJ cZ o ad S G H.size a1 (a5 + a11) _ hw) (cwV 2 hts gX9_mends_X9_at rfl rfl rfl (by decide +kernel) ⟨Nat.le_of_ble_eq_true rfl, Nat.le_of_ble_eq_true rfl⟩) (mPreV [.int a1, .int (a5 + a11)] hK hP hD) rfl rfl hl.1 rfl (lv_room (Nat.le_of_ble_eq_true rfl)) dX9_mends_380 ⟨Nat.zero_le _, Nat.zero_le _⟩) hS (fun q _ h => hFc q h) hFc (fun r_380 u t H1 locs ht hvm hw hB hz1 hk1 hS => ?_)
      obtain ⟨S_380, G_380⟩ := u
      obtain ⟨hP, -, hD1⟩ := hB
      rw [ht] at hP
      have hw := id hw
      have hP : va_P (dC, dI) vwCl (mW cI cJ cZ o ad S_380 G_380) H1 := hP
      have hD : va_D A (mW cI cJ cZ o ad S_380 G_380) := mGain hD1 hFc
      generalize H1 = H at hP hS ⊢
      refine va_iast hx hb hK hP hD hS 26 0 rfl rfl hw.1 dX9_mends_383 (fun H locs hP hD hS => ?_)
      obtain ⟨S_383, eS_383⟩ : ∃ y : mS, y = mst S_380 32 (Int32.toNatClampNeg a11) r_380 := ⟨_, rfl⟩
      have hw := hw.2 S_383 eS_383
      have hP : va_P (dC, dI) vwCl (mW cI cJ cZ o ad S_383 G_380) H := by rw [eS_383]; exact hP
      have hD : va_D A (mW cI cJ cZ o ad S_383 G_380) := by rw [eS_383]; exact hD
      obtain ⟨v11_384, ev11_384⟩ : ∃ y : Int32, y = a11 + (1 : Int32) := ⟨_, rfl⟩
      have hw := hw v11_384 ev11_384
      refine lv_iinc (v := v11_384) (lv' := [(11, .int v11_384), (0, .ref o), (1, .int a1), (4, .int a4), (5, .int a5), (9, .int a9), (10, .int a10)]) hx hb dX9_mends_384 hl (k := 6) rfl (by rw [ev11_384]; rfl) (by decide) rfl (fun ls hl => ?_)
      refine lv_goto (tgt := 360) hx hb dX9_mends_387 (by decide) ?_
      exact ih S_383 G_380 a1 a4 a5 a9 a10 v11_384 hw H locs hP hD hS ls (lv_sub hl [1, 2, 3, 4, 5, 6, 0] rfl)
set_option maxHeartbeats 4000000 in
set_option maxRecDepth 100000 in
theorem tb_X9_mends_330 {p : Program} {l : Launch} {e : Env} {s : State} {m : MethodId} {below : List Frame} {meth : Method} {c : Code} {args : Array Value} {dC : Nat → ClassId} {dI : Nat → Nat → Nat} {cI cJ cZ : ClassId} {o : Nat} {ad : Nat → Nat} {A : Nat → Prop} {Q : Int32 → mS → mG → Prop} (C : mCx p s m args meth c cX9_mends 15 (some .boolean) wsX9_mends A dC dI cI cJ cZ) : ∀ (S : mS) (G : mG) (a1 : Int32) (a4 : Int32) (a5 : Int32) (a9 : Int32), wp_X9_mends_330 Q  S G a1 a4 a5 a9 → mAt p l e rm_X9_mends s m args below meth c dC dI cI cJ cZ o ad A (MQ below (va_Qi (fun r (u : mS × mG) => Q r u.1 u.2) (mB dC dI cI cJ cZ o ad A) A) args s 0 0 A) 330 15 [(0, .ref o), (1, .int a1), (4, .int a4), (5, .int a5), (9, .int a9)] [] S G := by
  obtain ⟨hx, hb, hml, hown, hts, hr, hlocks, hA, hK⟩ := id C
  intro S G a1 a4 a5 a9 hw H locs hP hD hS ls hl
  rw [wp_X9_mends_330] at hw
  refine lv_aload_n hx hb dX9_mends_330 rfl (lv_at hl 0 rfl) ?_
  refine va_get (D := (dC, dI)) (ci := 10) (v := .ref (ad 20)) (C := RX9) (T := TX9) (N := 38) hx hb hts iw_X9_mends hown hK hP 0 rfl rfl 20 (by decide) (hts _ lk_X9_mends_57) (fun _ h9 => h9) rfl dX9_mends_331 ?_
  refine lv_iload_n hx hb dX9_mends_334 rfl (lv_at hl 1 rfl) ?_
  refine va_iald hx hb hK hP 16 0 rfl rfl hw.1 dX9_mends_335 ?_
  have hw := hw.2
  refine lv_iload hx hb dX9_mends_336 (lv_at hl 3 rfl) ?_
  refine lv_isub hx hb dX9_mends_338 ?_
  refine lv_topi (fun v10_339 ev10_339 => ?_)
  have hw := hw v10_339 ev10_339
  refine lv_istore (lv' := [(10, .int v10_339), (0, .ref o), (1, .int a1), (4, .int a4), (5, .int a5), (9, .int a9)]) hx hb dX9_mends_339 hl (by decide) rfl (fun ls hl => ?_)
  refine lv_iload hx hb dX9_mends_341 (lv_at hl 3 rfl) ?_
  refine lv_iload hx hb dX9_mends_343 (lv_at hl 5 rfl) ?_
  refine lv_iadd hx hb dX9_mends_345 ?_
  refine lv_iload hx hb dX9_mends_346 (lv_at hl 0 rfl) ?_
  refine lv_iadd hx hb dX9_mends_348 ?_
  refine lv_sipush (v := 600) hx hb dX9_mends_349 (by decide) ?_
  refine lv_icmp_le (tgt := 357) hx hb dX9_mends_352 (by decide) (fun c_352 => ?_) (fun c_352 => ?_)
  · have hw := hw.1 c_352
    refine lv_iconst (v := 0) hx hb dX9_mends_357 (by decide) ?_
    refine lv_istore (lv' := [(11, .int (0 : Int32)), (10, .int v10_339), (0, .ref o), (1, .int a1), (4, .int a4), (5, .int a5), (9, .int a9)]) hx hb dX9_mends_358 hl (by decide) rfl (fun ls hl => ?_)
    obtain ⟨n9, hw⟩ := hw
    exact tb_X9_mends_360 C  n9 S G a1 a4 a5 a9 v10_339 (0 : Int32) hw H locs hP hD hS ls (lv_sub hl [2, 3, 4, 5, 6, 1, 0] rfl)
  · have hw := hw.2 c_352
    refine lv_iconst (v := 0) hx hb dX9_mends_355 (by decide) ?_
    exact W.zret (v := (0 : Int32)) hx hb hr rfl (fun t ht hW => ⟨⟨(0 : Int32), (S, G), rfl, hw, by rw [ht]; exact hP, va_K.moved hW.alike hK, hD⟩, hS.F ht⟩) hS.2.2 dX9_mends_356
set_option maxHeartbeats 4000000 in
set_option maxRecDepth 100000 in
theorem tb_X9_mends_122 {p : Program} {l : Launch} {e : Env} {s : State} {m : MethodId} {below : List Frame} {meth : Method} {c : Code} {args : Array Value} {dC : Nat → ClassId} {dI : Nat → Nat → Nat} {cI cJ cZ : ClassId} {o : Nat} {ad : Nat → Nat} {A : Nat → Prop} {Q : Int32 → mS → mG → Prop} (C : mCx p s m args meth c cX9_mends 15 (some .boolean) wsX9_mends A dC dI cI cJ cZ) : ∀ (n : Nat) (S : mS) (G : mG) (a1 : Int32) (a2 : Int32) (a3 : Int32) (a4 : Int32) (a5 : Int32) (a8 : Int32) (a9 : Int32) (a10 : Int32), wp_X9_mends_122 Q  n S G a1 a2 a3 a4 a5 a8 a9 a10 → mAt p l e rm_X9_mends s m args below meth c dC dI cI cJ cZ o ad A (MQ below (va_Qi (fun r (u : mS × mG) => Q r u.1 u.2) (mB dC dI cI cJ cZ o ad A) A) args s 0 0 A) 122 15 [(0, .ref o), (1, .int a1), (2, .int a2), (3, .int a3), (4, .int a4), (5, .int a5), (8, .int a8), (9, .int a9), (10, .int a10)] [] S G := by
  obtain ⟨hx, hb, hml, hown, hts, hr, hlocks, hA, hK⟩ := id C
  intro n
  induction n with
  | zero => intro S G a1 a2 a3 a4 a5 a8 a9 a10 hw; exact hw.elim
  | succ n ih =>
    intro S G a1 a2 a3 a4 a5 a8 a9 a10 hw H locs hP hD hS ls hl
    rw [wp_X9_mends_122] at hw
    refine lv_iload hx hb dX9_mends_122 (lv_at hl 8 rfl) ?_
    refine lv_aload_n hx hb dX9_mends_124 rfl (lv_at hl 0 rfl) ?_
    refine va_get (D := (dC, dI)) (ci := 10) (v := .ref (ad 10)) (C := RX9) (T := TX9) (N := 38) hx hb hts iw_X9_mends hown hK hP 0 rfl rfl 10 (by decide) (hts _ lk_X9_mends_25) (fun _ h9 => h9) rfl dX9_mends_125 ?_
    refine lv_iload_n hx hb dX9_mends_128 rfl (lv_at hl 3 rfl) ?_
    refine va_iald hx hb hK hP 6 0 rfl rfl hw.1 dX9_mends_129 ?_
    have hw := hw.2
    refine lv_icmp_ge (tgt := 330) hx hb dX9_mends_130 (by decide) (fun c_130 => ?_) (fun c_130 => ?_)
    · have hw := hw.1 c_130
      exact tb_X9_mends_330 C  S G a1 a4 a5 a9 hw H locs hP hD hS ls (lv_sub hl [0, 1, 4, 5, 7] rfl)
    · have hw := hw.2 c_130
      refine lv_aload_n hx hb dX9_mends_133 rfl (lv_at hl 0 rfl) ?_
      refine va_get (D := (dC, dI)) (ci := 10) (v := .ref (ad 9)) (C := RX9) (T := TX9) (N := 38) hx hb hts iw_X9_mends hown hK hP 0 rfl rfl 9 (by decide) (hts _ lk_X9_mends_22) (fun _ h9 => h9) rfl dX9_mends_134 ?_
      refine lv_iconst (v := 3) hx hb dX9_mends_137 (by decide) ?_
      refine lv_iload_n hx hb dX9_mends_138 rfl (lv_at hl 3 rfl) ?_
      refine lv_imul hx hb dX9_mends_139 ?_
      refine lv_iload hx hb dX9_mends_140 (lv_at hl 8 rfl) ?_
      refine lv_iadd hx hb dX9_mends_142 ?_
      refine va_iald hx hb hK hP 5 0 rfl rfl hw.1 dX9_mends_143 ?_
      have hw := hw.2
      refine lv_topi (fun v11_144 ev11_144 => ?_)
      have hw := hw v11_144 ev11_144
      refine lv_istore (lv' := [(11, .int v11_144), (0, .ref o), (1, .int a1), (2, .int a2), (3, .int a3), (4, .int a4), (5, .int a5), (8, .int a8), (9, .int a9), (10, .int a10)]) hx hb dX9_mends_144 hl (by decide) rfl (fun ls hl => ?_)
      refine lv_iload hx hb dX9_mends_146 (lv_at hl 9 rfl) ?_
      refine lv_aload_n hx hb dX9_mends_148 rfl (lv_at hl 1 rfl) ?_
      refine va_get (D := (dC, dI)) (ci := 10) (v := .ref (ad 10)) (C := RX9) (T := TX9) (N := 38) hx hb hts iw_X9_mends hown hK hP 0 rfl rfl 10 (by decide) (hts _ lk_X9_mends_25) (fun _ h9 => h9) rfl dX9_mends_149 ?_
      refine lv_iload_n hx hb dX9_mends_152 rfl (lv_at hl 4 rfl) ?_
      refine va_iald hx hb hK hP 6 0 rfl rfl hw.1 dX9_mends_153 ?_
      have hw := hw.2
      refine lv_iconst (v := 1) hx hb dX9_mends_154 (by decide) ?_
      refine lv_isub hx hb dX9_mends_155 ?_
      refine lv_icmp_ne (tgt := 183) hx hb dX9_mends_156 (by decide) (fun c_156 => ?_) (fun c_156 => ?_)
      · have hw := hw.1 c_156
        exact tb_X9_mends_183 C ih S G a1 a2 a3 a4 a5 a8 a9 a10 v11_144 hw H locs hP hD hS ls (lv_sub hl [1, 2, 3, 4, 5, 6, 7, 8, 9, 0] rfl)
      · have hw := hw.2 c_156
        refine lv_aload_n hx hb dX9_mends_159 rfl (lv_at hl 1 rfl) ?_
        refine va_get (D := (dC, dI)) (ci := 10) (v := .ref (ad 29)) (C := RX9) (T := TX9) (N := 38) hx hb hts iw_X9_mends hown hK hP 0 rfl rfl 29 (by decide) (hts _ lk_X9_mends_78) (fun _ h9 => h9) rfl dX9_mends_160 ?_
        refine lv_iload_n hx hb dX9_mends_163 rfl (lv_at hl 3 rfl) ?_
        refine va_iald hx hb hK hP 23 0 rfl rfl hw.1 dX9_mends_164 ?_
        have hw := hw.2
        refine lv_iconst (v := -1) hx hb dX9_mends_165 (by decide) ?_
        refine lv_icmp_eq (tgt := 183) hx hb dX9_mends_166 (by decide) (fun c_166 => ?_) (fun c_166 => ?_)
        · have hw := hw.1 c_166
          exact tb_X9_mends_183 C ih S G a1 a2 a3 a4 a5 a8 a9 a10 v11_144 hw H locs hP hD hS ls (lv_sub hl [1, 2, 3, 4, 5, 6, 7, 8, 9, 0] rfl)
        · have hw := hw.2 c_166
          refine lv_aload_n hx hb dX9_mends_169 rfl (lv_at hl 1 rfl) ?_
          refine va_get (D := (dC, dI)) (ci := 10) (v := .ref (ad 7)) (C := RX9) (T := TX9) (N := 38) hx hb hts iw_X9_mends hown hK hP 0 rfl rfl 7 (by decide) (hts _ lk_X9_mends_16) (fun _ h9 => h9) rfl dX9_mends_170 ?_
          refine lv_aload_n hx hb dX9_mends_173 rfl (lv_at hl 1 rfl) ?_
          refine va_get (D := (dC, dI)) (ci := 10) (v := .ref (ad 29)) (C := RX9) (T := TX9) (N := 38) hx hb hts iw_X9_mends hown hK hP 0 rfl rfl 29 (by decide) (hts _ lk_X9_mends_78) (fun _ h9 => h9) rfl dX9_mends_174 ?_
          refine lv_iload_n hx hb dX9_mends_177 rfl (lv_at hl 3 rfl) ?_
          refine va_iald hx hb hK hP 23 0 rfl rfl hw.1 dX9_mends_178 ?_
          have hw := hw.2
          refine va_iald hx hb hK hP 3 0 rfl rfl hw.1 dX9_mends_179 ?_
          have hw := hw.2
          refine lv_goto (tgt := 184) hx hb dX9_mends_180 (by decide) ?_
          exact tb_X9_mends_184 C ih S G a1 a2 a3 a4 a5 a8 a9 a10 v11_144 (S 7 (Int32.toNatClampNeg (S 29 (Int32.toNatClampNeg a2)))) hw H locs hP hD hS ls (lv_sub hl [1, 2, 3, 4, 5, 6, 7, 8, 9, 0] rfl)
set_option maxHeartbeats 4000000 in
set_option maxRecDepth 100000 in
theorem tb_X9_mends_114 {p : Program} {l : Launch} {e : Env} {s : State} {m : MethodId} {below : List Frame} {meth : Method} {c : Code} {args : Array Value} {dC : Nat → ClassId} {dI : Nat → Nat → Nat} {cI cJ cZ : ClassId} {o : Nat} {ad : Nat → Nat} {A : Nat → Prop} {Q : Int32 → mS → mG → Prop} (C : mCx p s m args meth c cX9_mends 15 (some .boolean) wsX9_mends A dC dI cI cJ cZ) : ∀ (S : mS) (G : mG) (a1 : Int32) (a2 : Int32) (a3 : Int32) (a4 : Int32) (a5 : Int32) (k0 : Int32), wp_X9_mends_114 Q  S G a1 a2 a3 a4 a5 k0 → mAt p l e rm_X9_mends s m args below meth c dC dI cI cJ cZ o ad A (MQ below (va_Qi (fun r (u : mS × mG) => Q r u.1 u.2) (mB dC dI cI cJ cZ o ad A) A) args s 0 0 A) 114 15 [(0, .ref o), (1, .int a1), (2, .int a2), (3, .int a3), (4, .int a4), (5, .int a5)] [.int k0] S G := by
  obtain ⟨hx, hb, hml, hown, hts, hr, hlocks, hA, hK⟩ := id C
  intro S G a1 a2 a3 a4 a5 k0 hw H locs hP hD hS ls hl
  rw [wp_X9_mends_114] at hw
  refine lv_istore (lv' := [(8, .int k0), (0, .ref o), (1, .int a1), (2, .int a2), (3, .int a3), (4, .int a4), (5, .int a5)]) hx hb dX9_mends_114 hl (by decide) rfl (fun ls hl => ?_)
  refine lv_iconst (v := 0) hx hb dX9_mends_116 (by decide) ?_
  refine lv_istore (lv' := [(9, .int (0 : Int32)), (8, .int k0), (0, .ref o), (1, .int a1), (2, .int a2), (3, .int a3), (4, .int a4), (5, .int a5)]) hx hb dX9_mends_117 hl (by decide) rfl (fun ls hl => ?_)
  refine lv_iconst (v := 0) hx hb dX9_mends_119 (by decide) ?_
  refine lv_istore (lv' := [(10, .int (0 : Int32)), (9, .int (0 : Int32)), (8, .int k0), (0, .ref o), (1, .int a1), (2, .int a2), (3, .int a3), (4, .int a4), (5, .int a5)]) hx hb dX9_mends_120 hl (by decide) rfl (fun ls hl => ?_)
  obtain ⟨n9, hw⟩ := hw
  exact tb_X9_mends_122 C  n9 S G a1 a2 a3 a4 a5 k0 (0 : Int32) (0 : Int32) hw H locs hP hD hS ls (lv_sub hl [3, 4, 5, 6, 7, 8, 2, 1, 0] rfl)
set_option maxHeartbeats 4000000 in
set_option maxRecDepth 100000 in
theorem tb_X9_mends_113 {p : Program} {l : Launch} {e : Env} {s : State} {m : MethodId} {below : List Frame} {meth : Method} {c : Code} {args : Array Value} {dC : Nat → ClassId} {dI : Nat → Nat → Nat} {cI cJ cZ : ClassId} {o : Nat} {ad : Nat → Nat} {A : Nat → Prop} {Q : Int32 → mS → mG → Prop} (C : mCx p s m args meth c cX9_mends 15 (some .boolean) wsX9_mends A dC dI cI cJ cZ) : ∀ (S : mS) (G : mG) (a1 : Int32) (a2 : Int32) (a3 : Int32) (a4 : Int32) (a5 : Int32), wp_X9_mends_113 Q  S G a1 a2 a3 a4 a5 → mAt p l e rm_X9_mends s m args below meth c dC dI cI cJ cZ o ad A (MQ below (va_Qi (fun r (u : mS × mG) => Q r u.1 u.2) (mB dC dI cI cJ cZ o ad A) A) args s 0 0 A) 113 15 [(0, .ref o), (1, .int a1), (2, .int a2), (3, .int a3), (4, .int a4), (5, .int a5)] [] S G := by
  obtain ⟨hx, hb, hml, hown, hts, hr, hlocks, hA, hK⟩ := id C
  intro S G a1 a2 a3 a4 a5 hw H locs hP hD hS ls hl
  rw [wp_X9_mends_113] at hw
  refine lv_iconst (v := 0) hx hb dX9_mends_113 (by decide) ?_
  exact tb_X9_mends_114 C  S G a1 a2 a3 a4 a5 (0 : Int32) hw H locs hP hD hS ls (lv_sub hl [0, 1, 2, 3, 4, 5] rfl)
set_option maxHeartbeats 4000000 in
set_option maxRecDepth 100000 in
theorem tb_X9_mends_96 {p : Program} {l : Launch} {e : Env} {s : State} {m : MethodId} {below : List Frame} {meth : Method} {c : Code} {args : Array Value} {dC : Nat → ClassId} {dI : Nat → Nat → Nat} {cI cJ cZ : ClassId} {o : Nat} {ad : Nat → Nat} {A : Nat → Prop} {Q : Int32 → mS → mG → Prop} (C : mCx p s m args meth c cX9_mends 15 (some .boolean) wsX9_mends A dC dI cI cJ cZ) : ∀ (S : mS) (G : mG) (a1 : Int32) (a2 : Int32) (a3 : Int32) (a4 : Int32) (a5 : Int32) (a6 : Int32) (a7 : Int32), wp_X9_mends_96 Q  S G a1 a2 a3 a4 a5 a6 a7 → mAt p l e rm_X9_mends s m args below meth c dC dI cI cJ cZ o ad A (MQ below (va_Qi (fun r (u : mS × mG) => Q r u.1 u.2) (mB dC dI cI cJ cZ o ad A) A) args s 0 0 A) 96 15 [(0, .ref o), (1, .int a1), (2, .int a2), (3, .int a3), (4, .int a4), (5, .int a5), (6, .int a6), (7, .int a7)] [] S G := by
  obtain ⟨hx, hb, hml, hown, hts, hr, hlocks, hA, hK⟩ := id C
  intro S G a1 a2 a3 a4 a5 a6 a7 hw H locs hP hD hS ls hl
  rw [wp_X9_mends_96] at hw
  refine lv_iload hx hb dX9_mends_96 (lv_at hl 7 rfl) ?_
  refine lv_iload hx hb dX9_mends_98 (lv_at hl 6 rfl) ?_
  refine lv_icmp_ne (tgt := 113) hx hb dX9_mends_100 (by decide) (fun c_100 => ?_) (fun c_100 => ?_)
  · have hw := hw.1 c_100
    exact tb_X9_mends_113 C  S G a1 a2 a3 a4 a5 hw H locs hP hD hS ls (lv_sub hl [0, 1, 2, 3, 4, 5] rfl)
  · have hw := hw.2 c_100
    refine lv_iload hx hb dX9_mends_103 (lv_at hl 6 rfl) ?_
    refine lv_iconst (v := 1) hx hb dX9_mends_105 (by decide) ?_
    refine lv_icmp_le (tgt := 113) hx hb dX9_mends_106 (by decide) (fun c_106 => ?_) (fun c_106 => ?_)
    · have hw := hw.1 c_106
      exact tb_X9_mends_113 C  S G a1 a2 a3 a4 a5 hw H locs hP hD hS ls (lv_sub hl [0, 1, 2, 3, 4, 5] rfl)
    · have hw := hw.2 c_106
      refine lv_iconst (v := 1) hx hb dX9_mends_109 (by decide) ?_
      refine lv_goto (tgt := 114) hx hb dX9_mends_110 (by decide) ?_
      exact tb_X9_mends_114 C  S G a1 a2 a3 a4 a5 (1 : Int32) hw H locs hP hD hS ls (lv_sub hl [0, 1, 2, 3, 4, 5] rfl)
set_option maxHeartbeats 4000000 in
set_option maxRecDepth 100000 in
theorem tb_X9_mends_51 {p : Program} {l : Launch} {e : Env} {s : State} {m : MethodId} {below : List Frame} {meth : Method} {c : Code} {args : Array Value} {dC : Nat → ClassId} {dI : Nat → Nat → Nat} {cI cJ cZ : ClassId} {o : Nat} {ad : Nat → Nat} {A : Nat → Prop} {Q : Int32 → mS → mG → Prop} (C : mCx p s m args meth c cX9_mends 15 (some .boolean) wsX9_mends A dC dI cI cJ cZ) : ∀ (n : Nat) (S : mS) (G : mG) (a1 : Int32) (a2 : Int32) (a3 : Int32) (a4 : Int32) (a5 : Int32) (a6 : Int32) (a7 : Int32) (a8 : Int32), wp_X9_mends_51 Q  n S G a1 a2 a3 a4 a5 a6 a7 a8 → mAt p l e rm_X9_mends s m args below meth c dC dI cI cJ cZ o ad A (MQ below (va_Qi (fun r (u : mS × mG) => Q r u.1 u.2) (mB dC dI cI cJ cZ o ad A) A) args s 0 0 A) 51 15 [(0, .ref o), (1, .int a1), (2, .int a2), (3, .int a3), (4, .int a4), (5, .int a5), (6, .int a6), (7, .int a7), (8, .int a8)] [] S G := by
  obtain ⟨hx, hb, hml, hown, hts, hr, hlocks, hA, hK⟩ := id C
  intro n
  induction n with
  | zero => intro S G a1 a2 a3 a4 a5 a6 a7 a8 hw; exact hw.elim
  | succ n ih =>
    intro S G a1 a2 a3 a4 a5 a6 a7 a8 hw H locs hP hD hS ls hl
    rw [wp_X9_mends_51] at hw
    refine lv_iload hx hb dX9_mends_51 (lv_at hl 8 rfl) ?_
    refine lv_iload hx hb dX9_mends_53 (lv_at hl 5 rfl) ?_
    refine lv_icmp_ge (tgt := 96) hx hb dX9_mends_55 (by decide) (fun c_55 => ?_) (fun c_55 => ?_)
    · have hw := hw.1 c_55
      exact tb_X9_mends_96 C  S G a1 a2 a3 a4 a5 a6 a7 hw H locs hP hD hS ls (lv_sub hl [0, 1, 2, 3, 4, 5, 6, 7] rfl)
    · have hw := hw.2 c_55
      refine lv_aload_n hx hb dX9_mends_58 rfl (lv_at hl 0 rfl) ?_
      refine lv_iload_n hx hb dX9_mends_59 rfl (lv_at hl 1 rfl) ?_
      refine lv_iload hx hb dX9_mends_60 (lv_at hl 8 rfl) ?_
      have hFc := mFree hD hS hA
      refine va_calli (va_runV (As := [.int a1, .int a8]) (rest := []) ⟨hx, hb, hml, hown, hts⟩ (c_X9_at l dC dI cI cJ cZ o ad S G H.size a1 a8 _ hw) (cwV 2 hts gX9_mends_X9_at rfl rfl rfl (by decide +kernel) ⟨Nat.le_of_ble_eq_true rfl, Nat.le_of_ble_eq_true rfl⟩) (mPreV [.int a1, .int a8] hK hP hD) rfl rfl hl.1 rfl (lv_room (Nat.le_of_ble_eq_true rfl)) dX9_mends_62 ⟨Nat.zero_le _, Nat.zero_le _⟩) hS (fun q _ h => hFc q h) hFc (fun r_62 u t H1 locs ht hvm hw hB hz1 hk1 hS => ?_)
      obtain ⟨S_62, G_62⟩ := u
      obtain ⟨hP, -, hD1⟩ := hB
      rw [ht] at hP
      have hw := id hw
      have hP : va_P (dC, dI) vwCl (mW cI cJ cZ o ad S_62 G_62) H1 := hP
      have hD : va_D A (mW cI cJ cZ o ad S_62 G_62) := mGain hD1 hFc
      generalize H1 = H at hP hS ⊢
      refine vp_callSi (W.runS (As := [.int r_62]) (rest := []) ⟨hx, hb, hml, hown, hts⟩ (c_X9_letterOf l r_62 _ hw) (va_cwS 1 hts gX9_mends_X9_letterOf rfl rfl rfl (by decide +kernel) ⟨Nat.le_of_ble_eq_true rfl, Nat.le_of_ble_eq_true rfl⟩) preEq rfl rfl hl.1 rfl (lv_room (Nat.le_of_ble_eq_true rfl)) dX9_mends_65 ⟨Nat.zero_le _, Nat.zero_le _⟩) (fun r_65 hw => ?_)
      refine lv_if_le (tgt := 74) hx hb dX9_mends_68 (by decide) (fun c_68 => ?_) (fun c_68 => ?_)
      · have hw := hw.1 c_68
        exact tb_X9_mends_74 C ih S_62 G_62 a1 a2 a3 a4 a5 a6 a7 a8 hw H locs hP hD hS ls (lv_sub hl [0, 1, 2, 3, 4, 5, 6, 7, 8] rfl)
      · have hw := hw.2 c_68
        obtain ⟨v6_71, ev6_71⟩ : ∃ y : Int32, y = a6 + (1 : Int32) := ⟨_, rfl⟩
        have hw := hw v6_71 ev6_71
        refine lv_iinc (v := v6_71) (lv' := [(6, .int v6_71), (0, .ref o), (1, .int a1), (2, .int a2), (3, .int a3), (4, .int a4), (5, .int a5), (7, .int a7), (8, .int a8)]) hx hb dX9_mends_71 hl (k := 6) rfl (by rw [ev6_71]; rfl) (by decide) rfl (fun ls hl => ?_)
        exact tb_X9_mends_74 C ih S_62 G_62 a1 a2 a3 a4 a5 v6_71 a7 a8 hw H locs hP hD hS ls (lv_sub hl [1, 2, 3, 4, 5, 6, 0, 7, 8] rfl)
set_option maxHeartbeats 4000000 in
set_option maxRecDepth 100000 in
theorem tb_X9_mends_0 {p : Program} {l : Launch} {e : Env} {s : State} {m : MethodId} {below : List Frame} {meth : Method} {c : Code} {args : Array Value} {dC : Nat → ClassId} {dI : Nat → Nat → Nat} {cI cJ cZ : ClassId} {o : Nat} {ad : Nat → Nat} {A : Nat → Prop} {Q : Int32 → mS → mG → Prop} (C : mCx p s m args meth c cX9_mends 15 (some .boolean) wsX9_mends A dC dI cI cJ cZ) : ∀ (S : mS) (G : mG) (a1 : Int32) (a2 : Int32), wp_X9_mends_0 Q  S G a1 a2 → mAt p l e rm_X9_mends s m args below meth c dC dI cI cJ cZ o ad A (MQ below (va_Qi (fun r (u : mS × mG) => Q r u.1 u.2) (mB dC dI cI cJ cZ o ad A) A) args s 0 0 A) 0 15 [(0, .ref o), (1, .int a1), (2, .int a2)] [] S G := by
  obtain ⟨hx, hb, hml, hown, hts, hr, hlocks, hA, hK⟩ := id C
  intro S G a1 a2 hw H locs hP hD hS ls hl
  rw [wp_X9_mends_0] at hw
  refine lv_aload_n hx hb dX9_mends_0 rfl (lv_at hl 0 rfl) ?_
  refine lv_iload_n hx hb dX9_mends_1 rfl (lv_at hl 2 rfl) ?_
  have hFc := mFree hD hS hA
  refine va_calli (va_runV (As := [.int a2]) (rest := []) ⟨hx, hb, hml, hown, hts⟩ (c_X9_goodFor l dC dI cI cJ cZ o ad S G H.size a2 _ hw) (cwV 1 hts gX9_mends_X9_goodFor rfl rfl rfl (by decide +kernel) ⟨Nat.le_of_ble_eq_true rfl, Nat.le_of_ble_eq_true rfl⟩) (mPreV [.int a2] hK hP hD) rfl rfl hl.1 rfl (lv_room (Nat.le_of_ble_eq_true rfl)) dX9_mends_2 ⟨Nat.zero_le _, Nat.zero_le _⟩) hS (fun q _ h => hFc q h) hFc (fun r_2 u t H1 locs ht hvm hw hB hz1 hk1 hS => ?_)
  obtain ⟨S_2, G_2⟩ := u
  obtain ⟨hP, -, hD1⟩ := hB
  rw [ht] at hP
  have hw := id hw
  have hP : va_P (dC, dI) vwCl (mW cI cJ cZ o ad S_2 G_2) H1 := hP
  have hD : va_D A (mW cI cJ cZ o ad S_2 G_2) := mGain hD1 hFc
  generalize H1 = H at hP hS ⊢
  refine lv_istore_n (lv' := [(3, .int r_2), (0, .ref o), (1, .int a1), (2, .int a2)]) hx hb dX9_mends_5 rfl hl (by decide) rfl (fun ls hl => ?_)
  refine lv_iload_n hx hb dX9_mends_6 rfl (lv_at hl 0 rfl) ?_
  refine lv_iconst (v := -1) hx hb dX9_mends_7 (by decide) ?_
  refine lv_icmp_ne (tgt := 13) hx hb dX9_mends_8 (by decide) (fun c_8 => ?_) (fun c_8 => ?_)
  · have hw := hw.1 c_8
    refine lv_aload_n hx hb dX9_mends_13 rfl (lv_at hl 1 rfl) ?_
    refine va_get (D := (dC, dI)) (ci := 10) (v := .ref (ad 22)) (C := RX9) (T := TX9) (N := 38) hx hb hts iw_X9_mends hown hK hP 0 rfl rfl 22 (by decide) (hts _ lk_X9_mends_60) (fun _ h9 => h9) rfl dX9_mends_14 ?_
    refine lv_aload_n hx hb dX9_mends_17 rfl (lv_at hl 1 rfl) ?_
    refine va_get (D := (dC, dI)) (ci := 10) (v := .ref (ad 26)) (C := RX9) (T := TX9) (N := 38) hx hb hts iw_X9_mends hown hK hP 0 rfl rfl 26 (by decide) (hts _ lk_X9_mends_69) (fun _ h9 => h9) rfl dX9_mends_18 ?_
    refine lv_iload_n hx hb dX9_mends_21 rfl (lv_at hl 3 rfl) ?_
    refine va_iald hx hb hK hP 20 0 rfl rfl hw.1 dX9_mends_22 ?_
    have hw := hw.2
    refine va_iald hx hb hK hP 17 0 rfl rfl hw.1 dX9_mends_23 ?_
    have hw := hw.2
    refine lv_topi (fun v4_24 ev4_24 => ?_)
    have hw := hw v4_24 ev4_24
    refine lv_istore (lv' := [(4, .int v4_24), (3, .int r_2), (0, .ref o), (1, .int a1), (2, .int a2)]) hx hb dX9_mends_24 hl (by decide) rfl (fun ls hl => ?_)
    refine lv_aload_n hx hb dX9_mends_26 rfl (lv_at hl 2 rfl) ?_
    refine va_get (D := (dC, dI)) (ci := 10) (v := .ref (ad 23)) (C := RX9) (T := TX9) (N := 38) hx hb hts iw_X9_mends hown hK hP 0 rfl rfl 23 (by decide) (hts _ lk_X9_mends_63) (fun _ h9 => h9) rfl dX9_mends_27 ?_
    refine lv_aload_n hx hb dX9_mends_30 rfl (lv_at hl 2 rfl) ?_
    refine va_get (D := (dC, dI)) (ci := 10) (v := .ref (ad 27)) (C := RX9) (T := TX9) (N := 38) hx hb hts iw_X9_mends hown hK hP 0 rfl rfl 27 (by decide) (hts _ lk_X9_mends_72) (fun _ h9 => h9) rfl dX9_mends_31 ?_
    refine lv_iload_n hx hb dX9_mends_34 rfl (lv_at hl 4 rfl) ?_
    refine va_iald hx hb hK hP 21 0 rfl rfl hw.1 dX9_mends_35 ?_
    have hw := hw.2
    refine lv_iconst (v := 1) hx hb dX9_mends_36 (by decide) ?_
    refine lv_isub hx hb dX9_mends_37 ?_
    refine va_iald hx hb hK hP 18 0 rfl rfl hw.1 dX9_mends_38 ?_
    have hw := hw.2
    refine lv_topi (fun v5_39 ev5_39 => ?_)
    have hw := hw v5_39 ev5_39
    refine lv_istore (lv' := [(5, .int v5_39), (4, .int v4_24), (3, .int r_2), (0, .ref o), (1, .int a1), (2, .int a2)]) hx hb dX9_mends_39 hl (by decide) rfl (fun ls hl => ?_)
    refine lv_iconst (v := 0) hx hb dX9_mends_41 (by decide) ?_
    refine lv_istore (lv' := [(6, .int (0 : Int32)), (5, .int v5_39), (4, .int v4_24), (3, .int r_2), (0, .ref o), (1, .int a1), (2, .int a2)]) hx hb dX9_mends_42 hl (by decide) rfl (fun ls hl => ?_)
    refine lv_iconst (v := 0) hx hb dX9_mends_44 (by decide) ?_
    refine lv_istore (lv' := [(7, .int (0 : Int32)), (6, .int (0 : Int32)), (5, .int v5_39), (4, .int v4_24), (3, .int r_2), (0, .ref o), (1, .int a1), (2, .int a2)]) hx hb dX9_mends_45 hl (by decide) rfl (fun ls hl => ?_)
    refine lv_iload hx hb dX9_mends_47 (lv_at hl 3 rfl) ?_
    refine lv_istore (lv' := [(8, .int v4_24), (7, .int (0 : Int32)), (6, .int (0 : Int32)), (5, .int v5_39), (4, .int v4_24), (3, .int r_2), (0, .ref o), (1, .int a1), (2, .int a2)]) hx hb dX9_mends_49 hl (by decide) rfl (fun ls hl => ?_)
    obtain ⟨n9, hw⟩ := hw
    exact tb_X9_mends_51 C  n9 S_2 G_2 a1 a2 r_2 v4_24 v5_39 (0 : Int32) (0 : Int32) v4_24 hw H locs hP hD hS ls (lv_sub hl [6, 7, 8, 5, 4, 3, 2, 1, 0] rfl)
  · have hw := hw.2 c_8
    refine lv_iconst (v := 0) hx hb dX9_mends_11 (by decide) ?_
    exact W.zret (v := (0 : Int32)) hx hb hr rfl (fun t ht hW => ⟨⟨(0 : Int32), (S_2, G_2), rfl, hw, by rw [ht]; exact hP, va_K.moved hW.alike hK, hD⟩, hS.F ht⟩) hS.2.2 dX9_mends_12
set_option maxHeartbeats 4000000 in
set_option maxRecDepth 100000 in
theorem c_X9_mends (l : Launch) (dC : Nat → ClassId) (dI : Nat → Nat → Nat) (cI cJ cZ : ClassId) (o : Nat) (ad : Nat → Nat) (S : mS) (G : mG) (sz : Nat) (a1 : Int32) (a2 : Int32) (Q : Int32 → mS → mG → Prop) (hw : wp_X9_mends_0 Q S G a1 a2) : Met l yX9_mends wsX9_mends rm_X9_mends (va_Pc [.ref o, .int a1, .int a2] (mPre dC dI cI cJ cZ o ad S G sz)) (va_Qi (fun r (u : mS × mG) => Q r u.1 u.2) (mB dC dI cI cJ cZ o ad (mA cI cJ cZ o ad S G sz)) (mA cI cJ cZ o ad S G sz)) 0 0 (mA cI cJ cZ o ad S G sz) := by
  refine Met.ofW (cc := cX9_mends) (maxL := 15) (ret := (some .boolean)) (by decide) rfl ?_
  intro p e s m args below meth c s₁ B hml hv
  obtain ⟨rfl, hsz, hP, hK, hD0⟩ := hv
  subst hsz
  have hl := lv_entry ([.ref o, .int a1, .int a2]) (n := 15) (Nat.le_of_ble_eq_true rfl)
  rw [lg_entry_eq]
  generalize (lg_sl ([.ref o, .int a1, .int a2]) ++ List.replicate (15 - (lg_sl ([.ref o, .int a1, .int a2])).length) Slot.unset).toArray = ls at hl ⊢
  exact tb_X9_mends_0 (Q := Q) (p := p) ⟨B.exec, B.bytes, hml, findClass_of_methodNamed B.named, atoms_spec (ws := wsX9_mends) B.pre, B.returns, B.notSynchronized, fun q h => Or.inr h, hK⟩ S G a1 a2 hw s.heap [] hP (hD0.self (sz := s.heap.size)) va_S.rf ls hl
