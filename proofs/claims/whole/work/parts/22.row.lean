abbrev rm_X8_isGreat : Room := { frames := 0, cells := 0, slots := 0, locals := 0 }
def wp_X8_isGreat_0 (Q : Int32 → Prop) (a0 : Int32) : Prop :=
    ((a0 < (65 : Int32) →
      (Q (0 : Int32)))
     ∧ (¬ a0 < (65 : Int32) →
      (((90 : Int32) < a0 →
        (Q (0 : Int32)))
       ∧ (¬ (90 : Int32) < a0 →
        (Q (1 : Int32))))))
set_option maxHeartbeats 4000000 in
set_option maxRecDepth 100000 in
theorem tb_X8_isGreat_0 {p : Program} {l : Launch} {e : Env} {s : State} {m : MethodId} {below : List Frame} {meth : Method} {c : Code} {args : Array Value} {Q : Int32 → Prop} (C : sCx p s m args meth c cX8_isGreat 1 (some .boolean) RX8 wsX8_isGreat) : ∀ (a0 : Int32), wp_X8_isGreat_0 Q  a0 → sAt p l e rm_X8_isGreat s m args below meth c (MQ below (vp_Si (fun r => Q r)) args s 0 0 (fun _ => False)) 0 1 [(0, .int a0)] [] := by
  obtain ⟨hx, hb, hml, hown, hts, hr, hlocks⟩ := id C
  intro a0 hw ls hl
  rw [wp_X8_isGreat_0] at hw
  refine lv_iload_n hx hb dX8_isGreat_0 rfl (lv_at hl 0 rfl) ?_
  refine lv_bipush (v := 65) hx hb dX8_isGreat_1 (by decide) ?_
  refine lv_icmp_lt (tgt := 16) hx hb dX8_isGreat_3 (by decide) (fun c_3 => ?_) (fun c_3 => ?_)
  · have hw := hw.1 c_3
    refine lv_iconst (v := 0) hx hb dX8_isGreat_16 (by decide) ?_
    exact W.zret (v := (0 : Int32)) hx hb hr rfl (fun t ht hW => ⟨(0 : Int32), rfl, hw, ht⟩) (fun q h => absurd h List.not_mem_nil) dX8_isGreat_17
  · have hw := hw.2 c_3
    refine lv_iload_n hx hb dX8_isGreat_6 rfl (lv_at hl 0 rfl) ?_
    refine lv_bipush (v := 90) hx hb dX8_isGreat_7 (by decide) ?_
    refine lv_icmp_gt (tgt := 16) hx hb dX8_isGreat_9 (by decide) (fun c_9 => ?_) (fun c_9 => ?_)
    · have hw := hw.1 c_9
      refine lv_iconst (v := 0) hx hb dX8_isGreat_16 (by decide) ?_
      exact W.zret (v := (0 : Int32)) hx hb hr rfl (fun t ht hW => ⟨(0 : Int32), rfl, hw, ht⟩) (fun q h => absurd h List.not_mem_nil) dX8_isGreat_17
    · have hw := hw.2 c_9
      refine lv_iconst (v := 1) hx hb dX8_isGreat_12 (by decide) ?_
      refine lv_goto (tgt := 17) hx hb dX8_isGreat_13 (by decide) ?_
      exact W.zret (v := (1 : Int32)) hx hb hr rfl (fun t ht hW => ⟨(1 : Int32), rfl, hw, ht⟩) (fun q h => absurd h List.not_mem_nil) dX8_isGreat_17
set_option maxHeartbeats 4000000 in
set_option maxRecDepth 100000 in
theorem c_X8_isGreat (l : Launch) (a0 : Int32) (Q : Int32 → Prop) (hw : wp_X8_isGreat_0 Q a0) : Met l yX8_isGreat wsX8_isGreat rm_X8_isGreat (fun v _ => v = ([.int a0] : List Value).toArray) (vp_Si (fun r => Q r)) 0 0 (fun _ => False) := by
  refine Met.ofW (cc := cX8_isGreat) (maxL := 1) (ret := (some .boolean)) (by decide) rfl ?_
  intro p e s m args below meth c s₁ B hml hv
  subst hv
  have hl := lv_entry ([.int a0]) (n := 1) (Nat.le_of_ble_eq_true rfl)
  rw [lg_entry_eq]
  generalize (lg_sl ([.int a0]) ++ List.replicate (1 - (lg_sl ([.int a0])).length) Slot.unset).toArray = ls at hl ⊢
  exact tb_X8_isGreat_0 (Q := Q) (p := p) ⟨B.exec, B.bytes, hml, findClass_of_methodNamed B.named, atoms_spec (ws := wsX8_isGreat) B.pre, B.returns, B.notSynchronized⟩ a0 hw ls (lv_sub hl [0] rfl)
abbrev rm_X8_isLetter : Room := { frames := 1, cells := 0, slots := 0, locals := 20 }
def wp_X8_isLetter_19 (Q : Int32 → Prop) : Prop :=
    (Q (1 : Int32))
def wp_X8_isLetter_12 (Q : Int32 → Prop) (a0 : Int32) : Prop :=
    (wp_X8_isGreat_0 (fun r_13 =>
      ((r_13 = 0 →
        (Q (0 : Int32)))
       ∧ (¬ r_13 = 0 →
        (wp_X8_isLetter_19 Q  )))) a0)
def wp_X8_isLetter_0 (Q : Int32 → Prop) (a0 : Int32) : Prop :=
    ((a0 < (97 : Int32) →
      (wp_X8_isLetter_12 Q  a0))
     ∧ (¬ a0 < (97 : Int32) →
      ((a0 ≤ (122 : Int32) →
        (wp_X8_isLetter_19 Q  ))
       ∧ (¬ a0 ≤ (122 : Int32) →
        (wp_X8_isLetter_12 Q  a0)))))
set_option maxHeartbeats 4000000 in
set_option maxRecDepth 100000 in
theorem tb_X8_isLetter_19 {p : Program} {l : Launch} {e : Env} {s : State} {m : MethodId} {below : List Frame} {meth : Method} {c : Code} {args : Array Value} {Q : Int32 → Prop} (C : sCx p s m args meth c cX8_isLetter 1 (some .boolean) RX8 wsX8_isLetter) : wp_X8_isLetter_19 Q   → sAt p l e rm_X8_isLetter s m args below meth c (MQ below (vp_Si (fun r => Q r)) args s 0 0 (fun _ => False)) 19 1 [] [] := by
  obtain ⟨hx, hb, hml, hown, hts, hr, hlocks⟩ := id C
  intro  hw ls hl
  rw [wp_X8_isLetter_19] at hw
  refine lv_iconst (v := 1) hx hb dX8_isLetter_19 (by decide) ?_
  refine lv_goto (tgt := 24) hx hb dX8_isLetter_20 (by decide) ?_
  exact W.zret (v := (1 : Int32)) hx hb hr rfl (fun t ht hW => ⟨(1 : Int32), rfl, hw, ht⟩) (fun q h => absurd h List.not_mem_nil) dX8_isLetter_24
set_option maxHeartbeats 4000000 in
set_option maxRecDepth 100000 in
theorem tb_X8_isLetter_12 {p : Program} {l : Launch} {e : Env} {s : State} {m : MethodId} {below : List Frame} {meth : Method} {c : Code} {args : Array Value} {Q : Int32 → Prop} (C : sCx p s m args meth c cX8_isLetter 1 (some .boolean) RX8 wsX8_isLetter) : ∀ (a0 : Int32), wp_X8_isLetter_12 Q  a0 → sAt p l e rm_X8_isLetter s m args below meth c (MQ below (vp_Si (fun r => Q r)) args s 0 0 (fun _ => False)) 12 1 [(0, .int a0)] [] := by
  obtain ⟨hx, hb, hml, hown, hts, hr, hlocks⟩ := id C
  intro a0 hw ls hl
  rw [wp_X8_isLetter_12] at hw
  refine lv_iload_n hx hb dX8_isLetter_12 rfl (lv_at hl 0 rfl) ?_
  refine vp_callSi (W.runS (As := [.int a0]) (rest := []) ⟨hx, hb, hml, hown, hts⟩ (c_X8_isGreat l a0 _ hw) (va_cwS 1 hts gX8_isLetter_X8_isGreat rfl rfl rfl (by decide +kernel) ⟨by decide, by decide⟩) preEq rfl rfl hl.1 rfl (lv_room (Nat.le_of_ble_eq_true rfl)) dX8_isLetter_13 ⟨by decide, by decide⟩) (fun r_13 hw => ?_)
  refine lv_if_eq (tgt := 23) hx hb dX8_isLetter_16 (by decide) (fun c_16 => ?_) (fun c_16 => ?_)
  · have hw := hw.1 c_16
    refine lv_iconst (v := 0) hx hb dX8_isLetter_23 (by decide) ?_
    exact W.zret (v := (0 : Int32)) hx hb hr rfl (fun t ht hW => ⟨(0 : Int32), rfl, hw, ht⟩) (fun q h => absurd h List.not_mem_nil) dX8_isLetter_24
  · have hw := hw.2 c_16
    exact tb_X8_isLetter_19 C   hw ls (lv_sub hl [] rfl)
set_option maxHeartbeats 4000000 in
set_option maxRecDepth 100000 in
theorem tb_X8_isLetter_0 {p : Program} {l : Launch} {e : Env} {s : State} {m : MethodId} {below : List Frame} {meth : Method} {c : Code} {args : Array Value} {Q : Int32 → Prop} (C : sCx p s m args meth c cX8_isLetter 1 (some .boolean) RX8 wsX8_isLetter) : ∀ (a0 : Int32), wp_X8_isLetter_0 Q  a0 → sAt p l e rm_X8_isLetter s m args below meth c (MQ below (vp_Si (fun r => Q r)) args s 0 0 (fun _ => False)) 0 1 [(0, .int a0)] [] := by
  obtain ⟨hx, hb, hml, hown, hts, hr, hlocks⟩ := id C
  intro a0 hw ls hl
  rw [wp_X8_isLetter_0] at hw
  refine lv_iload_n hx hb dX8_isLetter_0 rfl (lv_at hl 0 rfl) ?_
  refine lv_bipush (v := 97) hx hb dX8_isLetter_1 (by decide) ?_
  refine lv_icmp_lt (tgt := 12) hx hb dX8_isLetter_3 (by decide) (fun c_3 => ?_) (fun c_3 => ?_)
  · have hw := hw.1 c_3
    exact tb_X8_isLetter_12 C  a0 hw ls (lv_sub hl [0] rfl)
  · have hw := hw.2 c_3
    refine lv_iload_n hx hb dX8_isLetter_6 rfl (lv_at hl 0 rfl) ?_
    refine lv_bipush (v := 122) hx hb dX8_isLetter_7 (by decide) ?_
    refine lv_icmp_le (tgt := 19) hx hb dX8_isLetter_9 (by decide) (fun c_9 => ?_) (fun c_9 => ?_)
    · have hw := hw.1 c_9
      exact tb_X8_isLetter_19 C   hw ls (lv_sub hl [] rfl)
    · have hw := hw.2 c_9
      exact tb_X8_isLetter_12 C  a0 hw ls (lv_sub hl [0] rfl)
set_option maxHeartbeats 4000000 in
set_option maxRecDepth 100000 in
theorem c_X8_isLetter (l : Launch) (a0 : Int32) (Q : Int32 → Prop) (hw : wp_X8_isLetter_0 Q a0) : Met l yX8_isLetter wsX8_isLetter rm_X8_isLetter (fun v _ => v = ([.int a0] : List Value).toArray) (vp_Si (fun r => Q r)) 0 0 (fun _ => False) := by
  refine Met.ofW (cc := cX8_isLetter) (maxL := 1) (ret := (some .boolean)) (by decide) rfl ?_
  intro p e s m args below meth c s₁ B hml hv
  subst hv
  have hl := lv_entry ([.int a0]) (n := 1) (Nat.le_of_ble_eq_true rfl)
  rw [lg_entry_eq]
  generalize (lg_sl ([.int a0]) ++ List.replicate (1 - (lg_sl ([.int a0])).length) Slot.unset).toArray = ls at hl ⊢
  exact tb_X8_isLetter_0 (Q := Q) (p := p) ⟨B.exec, B.bytes, hml, findClass_of_methodNamed B.named, atoms_spec (ws := wsX8_isLetter) B.pre, B.returns, B.notSynchronized⟩ a0 hw ls (lv_sub hl [0] rfl)
abbrev rm_X8_endsSentence : Room := { frames := 0, cells := 0, slots := 0, locals := 0 }
def wp_X8_endsSentence_24 (Q : Int32 → Prop) : Prop :=
    (Q (1 : Int32))
def wp_X8_endsSentence_0 (Q : Int32 → Prop) (a0 : Int32) : Prop :=
    ((a0 = (46 : Int32) →
      (wp_X8_endsSentence_24 Q  ))
     ∧ (¬ a0 = (46 : Int32) →
      ((a0 = (33 : Int32) →
        (wp_X8_endsSentence_24 Q  ))
       ∧ (¬ a0 = (33 : Int32) →
        ((a0 = (63 : Int32) →
          (wp_X8_endsSentence_24 Q  ))
         ∧ (¬ a0 = (63 : Int32) →
          ((¬ a0 = (59 : Int32) →
            (Q (0 : Int32)))
           ∧ (a0 = (59 : Int32) →
            (wp_X8_endsSentence_24 Q  )))))))))
set_option maxHeartbeats 4000000 in
set_option maxRecDepth 100000 in
theorem tb_X8_endsSentence_24 {p : Program} {l : Launch} {e : Env} {s : State} {m : MethodId} {below : List Frame} {meth : Method} {c : Code} {args : Array Value} {Q : Int32 → Prop} (C : sCx p s m args meth c cX8_endsSentence 1 (some .boolean) RX8 wsX8_endsSentence) : wp_X8_endsSentence_24 Q   → sAt p l e rm_X8_endsSentence s m args below meth c (MQ below (vp_Si (fun r => Q r)) args s 0 0 (fun _ => False)) 24 1 [] [] := by
  obtain ⟨hx, hb, hml, hown, hts, hr, hlocks⟩ := id C
  intro  hw ls hl
  rw [wp_X8_endsSentence_24] at hw
  refine lv_iconst (v := 1) hx hb dX8_endsSentence_24 (by decide) ?_
  refine lv_goto (tgt := 29) hx hb dX8_endsSentence_25 (by decide) ?_
  exact W.zret (v := (1 : Int32)) hx hb hr rfl (fun t ht hW => ⟨(1 : Int32), rfl, hw, ht⟩) (fun q h => absurd h List.not_mem_nil) dX8_endsSentence_29
set_option maxHeartbeats 4000000 in
set_option maxRecDepth 100000 in
theorem tb_X8_endsSentence_0 {p : Program} {l : Launch} {e : Env} {s : State} {m : MethodId} {below : List Frame} {meth : Method} {c : Code} {args : Array Value} {Q : Int32 → Prop} (C : sCx p s m args meth c cX8_endsSentence 1 (some .boolean) RX8 wsX8_endsSentence) : ∀ (a0 : Int32), wp_X8_endsSentence_0 Q  a0 → sAt p l e rm_X8_endsSentence s m args below meth c (MQ below (vp_Si (fun r => Q r)) args s 0 0 (fun _ => False)) 0 1 [(0, .int a0)] [] := by
  obtain ⟨hx, hb, hml, hown, hts, hr, hlocks⟩ := id C
  intro a0 hw ls hl
  rw [wp_X8_endsSentence_0] at hw
  refine lv_iload_n hx hb dX8_endsSentence_0 rfl (lv_at hl 0 rfl) ?_
  refine lv_bipush (v := 46) hx hb dX8_endsSentence_1 (by decide) ?_
  refine lv_icmp_eq (tgt := 24) hx hb dX8_endsSentence_3 (by decide) (fun c_3 => ?_) (fun c_3 => ?_)
  · have hw := hw.1 c_3
    exact tb_X8_endsSentence_24 C   hw ls (lv_sub hl [] rfl)
  · have hw := hw.2 c_3
    refine lv_iload_n hx hb dX8_endsSentence_6 rfl (lv_at hl 0 rfl) ?_
    refine lv_bipush (v := 33) hx hb dX8_endsSentence_7 (by decide) ?_
    refine lv_icmp_eq (tgt := 24) hx hb dX8_endsSentence_9 (by decide) (fun c_9 => ?_) (fun c_9 => ?_)
    · have hw := hw.1 c_9
      exact tb_X8_endsSentence_24 C   hw ls (lv_sub hl [] rfl)
    · have hw := hw.2 c_9
      refine lv_iload_n hx hb dX8_endsSentence_12 rfl (lv_at hl 0 rfl) ?_
      refine lv_bipush (v := 63) hx hb dX8_endsSentence_13 (by decide) ?_
      refine lv_icmp_eq (tgt := 24) hx hb dX8_endsSentence_15 (by decide) (fun c_15 => ?_) (fun c_15 => ?_)
      · have hw := hw.1 c_15
        exact tb_X8_endsSentence_24 C   hw ls (lv_sub hl [] rfl)
      · have hw := hw.2 c_15
        refine lv_iload_n hx hb dX8_endsSentence_18 rfl (lv_at hl 0 rfl) ?_
        refine lv_bipush (v := 59) hx hb dX8_endsSentence_19 (by decide) ?_
        refine lv_icmp_ne (tgt := 28) hx hb dX8_endsSentence_21 (by decide) (fun c_21 => ?_) (fun c_21 => ?_)
        · have hw := hw.1 c_21
          refine lv_iconst (v := 0) hx hb dX8_endsSentence_28 (by decide) ?_
          exact W.zret (v := (0 : Int32)) hx hb hr rfl (fun t ht hW => ⟨(0 : Int32), rfl, hw, ht⟩) (fun q h => absurd h List.not_mem_nil) dX8_endsSentence_29
        · have hw := hw.2 c_21
          exact tb_X8_endsSentence_24 C   hw ls (lv_sub hl [] rfl)
set_option maxHeartbeats 4000000 in
set_option maxRecDepth 100000 in
theorem c_X8_endsSentence (l : Launch) (a0 : Int32) (Q : Int32 → Prop) (hw : wp_X8_endsSentence_0 Q a0) : Met l yX8_endsSentence wsX8_endsSentence rm_X8_endsSentence (fun v _ => v = ([.int a0] : List Value).toArray) (vp_Si (fun r => Q r)) 0 0 (fun _ => False) := by
  refine Met.ofW (cc := cX8_endsSentence) (maxL := 1) (ret := (some .boolean)) (by decide) rfl ?_
  intro p e s m args below meth c s₁ B hml hv
  subst hv
  have hl := lv_entry ([.int a0]) (n := 1) (Nat.le_of_ble_eq_true rfl)
  rw [lg_entry_eq]
  generalize (lg_sl ([.int a0]) ++ List.replicate (1 - (lg_sl ([.int a0])).length) Slot.unset).toArray = ls at hl ⊢
  exact tb_X8_endsSentence_0 (Q := Q) (p := p) ⟨B.exec, B.bytes, hml, findClass_of_methodNamed B.named, atoms_spec (ws := wsX8_endsSentence) B.pre, B.returns, B.notSynchronized⟩ a0 hw ls (lv_sub hl [0] rfl)
theorem iw_X4_init_RX4 : ∀ w ∈ u_ws RX4 TX4 2, w ∈ wsX4_init := by decide +kernel
theorem la_X4_init_byte : Cond.arrayClass .byte ∈ wsX4_init := by decide +kernel
theorem lk_X4_init_15 : Cond.fieldLink RX4 15 "TermKeeper$Row" "bytes" "[B" ∈ wsX4_init := by decide +kernel
theorem lo1_X4_init : Cond.instanceMethod objectInit ∈ wsX4_init := by decide +kernel
theorem lo2_X4_init : Cond.code objectInit ⟨#[0xb1]⟩ 1 none ∈ wsX4_init := by decide +kernel
theorem lm_X4_init_3 : Cond.methodLink RX4 3 objectInit ∈ wsX4_init := by decide +kernel
theorem lm_X4_init_9 : Cond.methodLink RX4 9 Lib.Math.max.name ∈ wsX4_init := by decide +kernel
theorem lmm1_X4_init_max : Cond.static Lib.Math.max.name ∈ wsX4_init := by decide +kernel
theorem lmm2_X4_init_max : Cond.initialized "java/lang/Math" ∈ wsX4_init := by decide +kernel
theorem lmm3_X4_init_max : Cond.code Lib.Math.max.name Lib.Math.max.code 2 (some .int) ∈ wsX4_init := by decide +kernel
abbrev rm_X4_init : Room := { frames := 1, cells := 1, slots := 600, locals := 14 }
def wp_X4_init_0 (dA : Nat → ClassId) (zz : Nat → Nat) (Q : List Nat → pF → Prop) (L : List Nat) (f : pF) (a0 : Nat) (a1 : Int32) : Prop :=
    (∀ m_7 : Int32, m_7 = (if a1 < (0 : Int32) then (0 : Int32) else a1) →
      ((¬ m_7 < 0 ∧ Int32.toNatClampNeg m_7 ≤ 600) ∧
        (nO zz L f (.inl (dA 0, Int32.toNatClampNeg m_7, .inl (fun _ => 0))) (fun q_10 L_10 f_10 =>
          (gP L_10 f_10 5 a0 0 (.ref q_10) (fun f_12 =>
            (Q L_10 f_12)))))))
set_option maxHeartbeats 4000000 in
set_option maxRecDepth 100000 in
theorem tb_X4_init_0 {p : Program} {l : Launch} {e : Env} {s : State} {m : MethodId} {below : List Frame} {meth : Method} {c : Code} {args : Array Value} {dC : Nat → ClassId} {dI : Nat → Nat → Nat} {dA : Nat → ClassId} {zz : Nat → Nat} {base : Nat} {A : Nat → Prop} {Q : List Nat → pF → Prop} (C : pCx p s m args meth c cX4_init 2 none RX4 wsX4_init A dC dI dA zz base ∧ meth.name = "<init>") : ∀ (L : List Nat) (f : pF) (a0 : Nat) (a1 : Int32), wp_X4_init_0 dA zz Q  L f a0 a1 → pAt p l e rm_X4_init s m args below meth c dC dI A (MQ below (va_Qv (fun (u : List Nat × pF) => Q u.1 u.2) (pB dC dI dA A) A) args s 1 600 A) 0 0 0 2 [(0, .ref a0), (1, .int a1)] [] L f := by
  obtain ⟨⟨hx, hb, hml, hown, hts, hr, hlocks, hA, hK, hB, hz, hN, hT⟩, hin⟩ := id C
  intro L f a0 a1 hw H locs hP hD hS ls hl
  rw [wp_X4_init_0] at hw
  refine lv_aload_n hx hb dX4_init_0 rfl (lv_at hl 0 rfl) ?_
  refine W.objInit hx hb hown (hts _ lm_X4_init_3) (hts _ lo1_X4_init) (hts _ lo2_X4_init) rfl (by rw [hml]; exact hl.1) rfl dX4_init_1 (Nat.le_of_ble_eq_true rfl) (Nat.le_of_ble_eq_true rfl) ?_
  refine W.eq (g2 := F0 m 4 ls []) rfl ?_
  refine lv_aload_n hx hb dX4_init_4 rfl (lv_at hl 0 rfl) ?_
  refine lv_iload_n hx hb dX4_init_5 rfl (lv_at hl 1 rfl) ?_
  refine lv_iconst (v := 0) hx hb dX4_init_6 (by decide) ?_
  refine va_mmax hx hb (by rw [hml]; exact hl.1.symm) hown (hts _ lm_X4_init_9) (hts _ lmm1_X4_init_max) (hts _ lmm2_X4_init_max) (hts _ lmm3_X4_init_max) (Nat.le_of_ble_eq_true rfl) (Nat.le_of_ble_eq_true rfl) (Nat.le_of_ble_eq_true rfl) (Nat.le_of_ble_eq_true rfl) dX4_init_7 ?_
  refine lv_topi (fun m_7 em_7 => ?_)
  have hw := hw m_7 em_7
  obtain ⟨⟨hn9, hc9⟩, hw⟩ := hw
  refine va_newa (atype := .byte) (ty := .byte) hx hb (hts _ la_X4_init_byte) rfl hK hP hD hS hA (a0 := (Int32.toNatClampNeg m_7, .inl (fun _ => 0))) (fun _ => rfl) hn9 rfl (by first | (show _ * 1 ≤ _; omega) | (show _ * 4 ≤ _; omega) | (show _ * 8 ≤ _; omega)) (by decide) (Nat.le_trans (Nat.add_le_add_left hc9 _) (by decide)) dX4_init_10 (fun q_10 cA9 H hK9 hP2 hD2 hS => ?_)
  have hcA : cA9 = dA 0 := p_cA hK9 (t := 0) rfl
  subst hcA
  have hq9 := p_fresh hD2
  have hz9 := p_nz hB hT hD2
  rw [va_pl_push hq9] at hP2 hD2
  obtain ⟨L_10, eL_10⟩ : ∃ y : List Nat, y = L ++ [q_10] := ⟨_, rfl⟩
  obtain ⟨f_10, ef_10⟩ : ∃ y : pF, y = va_up f q_10 (.inl (dA 0, Int32.toNatClampNeg m_7, .inl (fun _ => 0))) := ⟨_, rfl⟩
  have hw := hw q_10 hq9 hz9 L_10 f_10 eL_10 ef_10
  have hP : va_P (dC, dI) vwCl (va_pl L_10 f_10) H := by rw [eL_10, ef_10]; exact hP2
  have hD : va_D A (va_pl L_10 f_10) := by rw [eL_10, ef_10]; exact hD2
  refine W.widen (k := 1) (n := 600) (by omega) (by omega) ?_
  obtain ⟨fs_12, ⟨hL9, hf9, hn9⟩, hw⟩ := hw
  obtain ⟨kq9, hkq9⟩ := p_at hL9 hf9
  refine va_putF (D := (dC, dI)) (ci := 5) (v := .ref q_10) (C := RX4) (T := TX4) (N := 2) hx hb hts iw_X4_init_RX4 tyX4 tyX4_ok nmX4 hown hK hP hD hS kq9 hkq9 rfl 0 (by decide) (hts _ lk_X4_init_15) (fun _ h9 => h9) rfl hin rfl (tyX4_ok 0 (by decide)) rfl rfl hn9 dX4_init_12 (fun H locs hP2 hD2 hS => ?_)
  rw [p_set hD hL9 hf9 hkq9] at hP2 hD2
  obtain ⟨f_12, ef_12⟩ : ∃ y : pF, y = va_up f_10 a0 (.inr (5, fs_12.set 0 (.ref q_10))) := ⟨_, rfl⟩
  rw [← ef_12] at hP2 hD2
  have hw := hw f_12 ef_12
  have hP := hP2
  have hD := hD2
  exact W.vret hx hb hr (fun t ht hW => ⟨⟨(L_10, f_12), rfl, hw, by rw [ht]; exact hP, va_K.moved hW.alike hK, hD⟩, hS.F ht⟩) hS.2.2 dX4_init_15
set_option maxHeartbeats 4000000 in
set_option maxRecDepth 100000 in
theorem c_X4_init (l : Launch) (dC : Nat → ClassId) (dI : Nat → Nat → Nat) (dA : Nat → ClassId) (zz : Nat → Nat) (base : Nat) (L : List Nat) (f : pF) (sz : Nat) (a0 : Nat) (a1 : Int32) (Q : List Nat → pF → Prop) (hw : wp_X4_init_0 dA zz Q L f a0 a1) : Met l yX4_init wsX4_init rm_X4_init (va_Pc [.ref a0, .int a1] (pPre dC dI dA zz base L f sz)) (va_Qv (fun (u : List Nat × pF) => Q u.1 u.2) (pB dC dI dA (va_A (va_pl L f) sz)) (va_A (va_pl L f) sz)) 1 600 (va_A (va_pl L f) sz) := by
  refine Met.ofW (cc := cX4_init) (maxL := 2) (ret := none) (by decide) rfl ?_
  intro p e s m args below meth c s₁ B hml hv
  obtain ⟨rfl, hsz, hP, hK, hD0, hz, hN, hT⟩ := hv
  subst hsz
  have hl := lv_entry ([.ref a0, .int a1]) (n := 2) (Nat.le_of_ble_eq_true rfl)
  rw [lg_entry_eq]
  generalize (lg_sl ([.ref a0, .int a1]) ++ List.replicate (2 - (lg_sl ([.ref a0, .int a1])).length) Slot.unset).toArray = ls at hl ⊢
  exact tb_X4_init_0 (Q := Q) (p := p) ⟨⟨B.exec, B.bytes, hml, findClass_of_methodNamed B.named, atoms_spec (ws := wsX4_init) B.pre, B.returns, B.notSynchronized, fun q h => Or.inr h, hK, pAB hD0 hz, hz, hN, hT⟩, (name_of_methodNamed B.named B.method).1⟩ L f a0 a1 hw s.heap [] hP (hD0.self (sz := s.heap.size)) va_S.rf ls (lv_sub hl [0, 1] rfl)
theorem iw_X4_size_RX4 : ∀ w ∈ u_ws RX4 TX4 2, w ∈ wsX4_size := by decide +kernel
theorem lk_X4_size_21 : Cond.fieldLink RX4 21 "TermKeeper$Row" "size" "I" ∈ wsX4_size := by decide +kernel
abbrev rm_X4_size : Room := { frames := 0, cells := 0, slots := 0, locals := 0 }
def wp_X4_size_0 (dA : Nat → ClassId) (zz : Nat → Nat) (Q : Int32 → List Nat → pF → Prop) (L : List Nat) (f : pF) (a0 : Nat) : Prop :=
    (gI L f 5 a0 1 (fun g_1 =>
      (Q g_1 L f)))
set_option maxHeartbeats 4000000 in
set_option maxRecDepth 100000 in
theorem tb_X4_size_0 {p : Program} {l : Launch} {e : Env} {s : State} {m : MethodId} {below : List Frame} {meth : Method} {c : Code} {args : Array Value} {dC : Nat → ClassId} {dI : Nat → Nat → Nat} {dA : Nat → ClassId} {zz : Nat → Nat} {base : Nat} {A : Nat → Prop} {Q : Int32 → List Nat → pF → Prop} (C : pCx p s m args meth c cX4_size 1 (some .int) RX4 wsX4_size A dC dI dA zz base) : ∀ (L : List Nat) (f : pF) (a0 : Nat), wp_X4_size_0 dA zz Q  L f a0 → pAt p l e rm_X4_size s m args below meth c dC dI A (MQ below (va_Qi (fun r (u : List Nat × pF) => Q r u.1 u.2) (pB dC dI dA A) A) args s 0 0 A) 0 0 0 1 [(0, .ref a0)] [] L f := by
  obtain ⟨hx, hb, hml, hown, hts, hr, hlocks, hA, hK, hB, hz, hN, hT⟩ := id C
  intro L f a0 hw H locs hP hD hS ls hl
  rw [wp_X4_size_0] at hw
  refine lv_aload_n hx hb dX4_size_0 rfl (lv_at hl 0 rfl) ?_
  obtain ⟨fs_1, g_1, ⟨hL9, hf9, hn9⟩, hw⟩ := hw
  refine va_get (D := (dC, dI)) (ci := 5) (v := .int g_1) (C := RX4) (T := TX4) (N := 2) hx hb hts iw_X4_size_RX4 hown hK (p_one hP hL9 hf9) 0 rfl rfl 1 (by decide) (hts _ lk_X4_size_21) (fun _ h9 => h9) hn9 dX4_size_1 ?_
  exact W.iret (v := g_1) hx hb hr (fun t ht hW => ⟨⟨g_1, (L, f), rfl, hw, by rw [ht]; exact hP, va_K.moved hW.alike hK, hD⟩, hS.F ht⟩) hS.2.2 dX4_size_4
set_option maxHeartbeats 4000000 in
set_option maxRecDepth 100000 in
theorem c_X4_size (l : Launch) (dC : Nat → ClassId) (dI : Nat → Nat → Nat) (dA : Nat → ClassId) (zz : Nat → Nat) (base : Nat) (L : List Nat) (f : pF) (sz : Nat) (a0 : Nat) (Q : Int32 → List Nat → pF → Prop) (hw : wp_X4_size_0 dA zz Q L f a0) : Met l yX4_size wsX4_size rm_X4_size (va_Pc [.ref a0] (pPre dC dI dA zz base L f sz)) (va_Qi (fun r (u : List Nat × pF) => Q r u.1 u.2) (pB dC dI dA (va_A (va_pl L f) sz)) (va_A (va_pl L f) sz)) 0 0 (va_A (va_pl L f) sz) := by
  refine Met.ofW (cc := cX4_size) (maxL := 1) (ret := (some .int)) (by decide) rfl ?_
  intro p e s m args below meth c s₁ B hml hv
  obtain ⟨rfl, hsz, hP, hK, hD0, hz, hN, hT⟩ := hv
  subst hsz
  have hl := lv_entry ([.ref a0]) (n := 1) (Nat.le_of_ble_eq_true rfl)
  rw [lg_entry_eq]
  generalize (lg_sl ([.ref a0]) ++ List.replicate (1 - (lg_sl ([.ref a0])).length) Slot.unset).toArray = ls at hl ⊢
  exact tb_X4_size_0 (Q := Q) (p := p) ⟨B.exec, B.bytes, hml, findClass_of_methodNamed B.named, atoms_spec (ws := wsX4_size) B.pre, B.returns, B.notSynchronized, fun q h => Or.inr h, hK, pAB hD0 hz, hz, hN, hT⟩ L f a0 hw s.heap [] hP (hD0.self (sz := s.heap.size)) va_S.rf ls (lv_sub hl [0] rfl)
theorem iw_X4_at_RX4 : ∀ w ∈ u_ws RX4 TX4 2, w ∈ wsX4_at := by decide +kernel
theorem lk_X4_at_15 : Cond.fieldLink RX4 15 "TermKeeper$Row" "bytes" "[B" ∈ wsX4_at := by decide +kernel
theorem lk_X4_at_21 : Cond.fieldLink RX4 21 "TermKeeper$Row" "size" "I" ∈ wsX4_at := by decide +kernel
abbrev rm_X4_at : Room := { frames := 0, cells := 0, slots := 0, locals := 0 }
def wp_X4_at_0 (dA : Nat → ClassId) (zz : Nat → Nat) (Q : Int32 → List Nat → pF → Prop) (L : List Nat) (f : pF) (a0 : Nat) (a1 : Int32) : Prop :=
    ((a1 < 0 →
      (Q (-1 : Int32) L f))
     ∧ (¬ a1 < 0 →
      (gI L f 5 a0 1 (fun g_6 =>
        ((g_6 ≤ a1 →
          (Q (-1 : Int32) L f))
         ∧ (¬ g_6 ≤ a1 →
          (gR L f 5 a0 0 (fun g_13 =>
            (aI L f (dA 0) g_13 a1 (fun g_17 =>
              (Q (g_17 &&& (255 : Int32)) L f)))))))))))
set_option maxHeartbeats 4000000 in
set_option maxRecDepth 100000 in
theorem tb_X4_at_0 {p : Program} {l : Launch} {e : Env} {s : State} {m : MethodId} {below : List Frame} {meth : Method} {c : Code} {args : Array Value} {dC : Nat → ClassId} {dI : Nat → Nat → Nat} {dA : Nat → ClassId} {zz : Nat → Nat} {base : Nat} {A : Nat → Prop} {Q : Int32 → List Nat → pF → Prop} (C : pCx p s m args meth c cX4_at 2 (some .int) RX4 wsX4_at A dC dI dA zz base) : ∀ (L : List Nat) (f : pF) (a0 : Nat) (a1 : Int32), wp_X4_at_0 dA zz Q  L f a0 a1 → pAt p l e rm_X4_at s m args below meth c dC dI A (MQ below (va_Qi (fun r (u : List Nat × pF) => Q r u.1 u.2) (pB dC dI dA A) A) args s 0 0 A) 0 0 0 2 [(0, .ref a0), (1, .int a1)] [] L f := by
  obtain ⟨hx, hb, hml, hown, hts, hr, hlocks, hA, hK, hB, hz, hN, hT⟩ := id C
  intro L f a0 a1 hw H locs hP hD hS ls hl
  rw [wp_X4_at_0] at hw
  refine lv_iload_n hx hb dX4_at_0 rfl (lv_at hl 1 rfl) ?_
  refine lv_if_lt (tgt := 25) hx hb dX4_at_1 (by decide) (fun c_1 => ?_) (fun c_1 => ?_)
  · have hw := hw.1 c_1
    refine lv_iconst (v := -1) hx hb dX4_at_25 (by decide) ?_
    exact W.iret (v := (-1 : Int32)) hx hb hr (fun t ht hW => ⟨⟨(-1 : Int32), (L, f), rfl, hw, by rw [ht]; exact hP, va_K.moved hW.alike hK, hD⟩, hS.F ht⟩) hS.2.2 dX4_at_26
  · have hw := hw.2 c_1
    refine lv_iload_n hx hb dX4_at_4 rfl (lv_at hl 1 rfl) ?_
    refine lv_aload_n hx hb dX4_at_5 rfl (lv_at hl 0 rfl) ?_
    obtain ⟨fs_6, g_6, ⟨hL9, hf9, hn9⟩, hw⟩ := hw
    refine va_get (D := (dC, dI)) (ci := 5) (v := .int g_6) (C := RX4) (T := TX4) (N := 2) hx hb hts iw_X4_at_RX4 hown hK (p_one hP hL9 hf9) 0 rfl rfl 1 (by decide) (hts _ lk_X4_at_21) (fun _ h9 => h9) hn9 dX4_at_6 ?_
    refine lv_icmp_ge (tgt := 25) hx hb dX4_at_9 (by decide) (fun c_9 => ?_) (fun c_9 => ?_)
    · have hw := hw.1 c_9
      refine lv_iconst (v := -1) hx hb dX4_at_25 (by decide) ?_
      exact W.iret (v := (-1 : Int32)) hx hb hr (fun t ht hW => ⟨⟨(-1 : Int32), (L, f), rfl, hw, by rw [ht]; exact hP, va_K.moved hW.alike hK, hD⟩, hS.F ht⟩) hS.2.2 dX4_at_26
    · have hw := hw.2 c_9
      refine lv_aload_n hx hb dX4_at_12 rfl (lv_at hl 0 rfl) ?_
      obtain ⟨fs_13, g_13, ⟨hL9, hf9, hn9⟩, hw⟩ := hw
      refine va_get (D := (dC, dI)) (ci := 5) (v := .ref g_13) (C := RX4) (T := TX4) (N := 2) hx hb hts iw_X4_at_RX4 hown hK (p_one hP hL9 hf9) 0 rfl rfl 0 (by decide) (hts _ lk_X4_at_15) (fun _ h9 => h9) hn9 dX4_at_13 ?_
      refine lv_iload_n hx hb dX4_at_16 rfl (lv_at hl 1 rfl) ?_
      obtain ⟨n_17, h_17, ⟨hL9, hf9, hn9⟩, hw⟩ := hw
      refine va_bald hx hb hK (p_one hP hL9 hf9) 0 0 rfl rfl hn9 dX4_at_17 ?_
      refine lv_topi (fun g_17 eg_17 => ?_)
      rw [← eg_17] at hw
      refine lv_sipush (v := 255) hx hb dX4_at_18 (by decide) ?_
      refine lv_iand hx hb dX4_at_21 ?_
      refine lv_goto (tgt := 26) hx hb dX4_at_22 (by decide) ?_
      exact W.iret (v := (g_17 &&& (255 : Int32))) hx hb hr (fun t ht hW => ⟨⟨(g_17 &&& (255 : Int32)), (L, f), rfl, hw, by rw [ht]; exact hP, va_K.moved hW.alike hK, hD⟩, hS.F ht⟩) hS.2.2 dX4_at_26
set_option maxHeartbeats 4000000 in
set_option maxRecDepth 100000 in
theorem c_X4_at (l : Launch) (dC : Nat → ClassId) (dI : Nat → Nat → Nat) (dA : Nat → ClassId) (zz : Nat → Nat) (base : Nat) (L : List Nat) (f : pF) (sz : Nat) (a0 : Nat) (a1 : Int32) (Q : Int32 → List Nat → pF → Prop) (hw : wp_X4_at_0 dA zz Q L f a0 a1) : Met l yX4_at wsX4_at rm_X4_at (va_Pc [.ref a0, .int a1] (pPre dC dI dA zz base L f sz)) (va_Qi (fun r (u : List Nat × pF) => Q r u.1 u.2) (pB dC dI dA (va_A (va_pl L f) sz)) (va_A (va_pl L f) sz)) 0 0 (va_A (va_pl L f) sz) := by
  refine Met.ofW (cc := cX4_at) (maxL := 2) (ret := (some .int)) (by decide) rfl ?_
  intro p e s m args below meth c s₁ B hml hv
  obtain ⟨rfl, hsz, hP, hK, hD0, hz, hN, hT⟩ := hv
  subst hsz
  have hl := lv_entry ([.ref a0, .int a1]) (n := 2) (Nat.le_of_ble_eq_true rfl)
  rw [lg_entry_eq]
  generalize (lg_sl ([.ref a0, .int a1]) ++ List.replicate (2 - (lg_sl ([.ref a0, .int a1])).length) Slot.unset).toArray = ls at hl ⊢
  exact tb_X4_at_0 (Q := Q) (p := p) ⟨B.exec, B.bytes, hml, findClass_of_methodNamed B.named, atoms_spec (ws := wsX4_at) B.pre, B.returns, B.notSynchronized, fun q h => Or.inr h, hK, pAB hD0 hz, hz, hN, hT⟩ L f a0 a1 hw s.heap [] hP (hD0.self (sz := s.heap.size)) va_S.rf ls (lv_sub hl [0, 1] rfl)
theorem lt_X4_smallAt_X8_isGreat : Cond.static yX8_isGreat ∈ wsX4_smallAt := by decide +kernel
theorem lz_X4_smallAt_RX8 : Cond.initialized RX8 ∈ wsX4_smallAt := by decide +kernel
abbrev rm_X4_smallAt : Room := { frames := 1, cells := 0, slots := 0, locals := 21 }
def wp_X4_smallAt_0 (dA : Nat → ClassId) (zz : Nat → Nat) (Q : Int32 → List Nat → pF → Prop) (L : List Nat) (f : pF) (a0 : Nat) (a1 : Int32) : Prop :=
    (isO L f 5 a0 ∧
      (wp_X4_at_0 dA zz (fun r_2 L_2 f_2 =>
        (wp_X8_isGreat_0 (fun r_7 =>
          ((r_7 = 0 →
            (Q r_2 L_2 f_2))
           ∧ (¬ r_7 = 0 →
            (Q (r_2 + (32 : Int32)) L_2 f_2)))) r_2)) L f a0 a1))
set_option maxHeartbeats 4000000 in
set_option maxRecDepth 100000 in
theorem tb_X4_smallAt_0 {p : Program} {l : Launch} {e : Env} {s : State} {m : MethodId} {below : List Frame} {meth : Method} {c : Code} {args : Array Value} {dC : Nat → ClassId} {dI : Nat → Nat → Nat} {dA : Nat → ClassId} {zz : Nat → Nat} {base : Nat} {A : Nat → Prop} {Q : Int32 → List Nat → pF → Prop} (C : pCx p s m args meth c cX4_smallAt 3 (some .int) RX4 wsX4_smallAt A dC dI dA zz base) : ∀ (L : List Nat) (f : pF) (a0 : Nat) (a1 : Int32), wp_X4_smallAt_0 dA zz Q  L f a0 a1 → pAt p l e rm_X4_smallAt s m args below meth c dC dI A (MQ below (va_Qi (fun r (u : List Nat × pF) => Q r u.1 u.2) (pB dC dI dA A) A) args s 0 0 A) 0 0 0 3 [(0, .ref a0), (1, .int a1)] [] L f := by
  obtain ⟨hx, hb, hml, hown, hts, hr, hlocks, hA, hK, hB, hz, hN, hT⟩ := id C
  intro L f a0 a1 hw H locs hP hD hS ls hl
  rw [wp_X4_smallAt_0] at hw
  refine lv_aload_n hx hb dX4_smallAt_0 rfl (lv_at hl 0 rfl) ?_
  refine lv_iload_n hx hb dX4_smallAt_1 rfl (lv_at hl 1 rfl) ?_
  obtain ⟨hO9, hw⟩ := hw
  have hFc := p_free hD hS hA
  refine va_calli (va_runV (As := [.int a1]) (rest := []) ⟨hx, hb, hml, hown, hts⟩ (c_X4_at l dC dI dA zz base L f H.size a0 a1 _ hw) (cwV 1 hts gX4_smallAt_X4_at rfl rfl rfl (by decide +kernel) ⟨by decide, by decide⟩) (pPreV [.int a1] (ci := 5) rfl hO9 hK hP hD hS hB hz hN hT) rfl rfl hl.1 rfl (lv_room (Nat.le_of_ble_eq_true rfl)) dX4_smallAt_2 ⟨by decide, by decide⟩) hS (fun q _ h => hFc q h) hFc (fun r_2 u t H1 locs ht hvm hw hB1 hz1 hk1 hS => ?_)
  obtain ⟨L_2, f_2⟩ := u
  obtain ⟨hP, -, hD1⟩ := hB1
  rw [ht] at hP
  have hw := id hw
  have hP : va_P (dC, dI) vwCl (va_pl L_2 f_2) H1 := hP
  have hD : va_D A (va_pl L_2 f_2) := p_gain hD1 hFc
  generalize H1 = H at hP hS ⊢
  refine lv_istore_n (lv' := [(2, .int r_2), (0, .ref a0), (1, .int a1)]) hx hb dX4_smallAt_5 rfl hl (by decide) rfl (fun ls hl => ?_)
  refine lv_iload_n hx hb dX4_smallAt_6 rfl (lv_at hl 0 rfl) ?_
  refine vp_callSi (va_runSN (As := [.int r_2]) (rest := []) ⟨hx, hb, hml, hown, hts⟩ (c_X8_isGreat l r_2 _ hw) ⟨va_cnB 1 hts gX4_smallAt_X8_isGreat_n29 rfl rfl rfl hN.2.1 (hts _ lz_X4_smallAt_RX8) (by decide +kernel) ⟨by decide, by decide⟩, hts _ lt_X4_smallAt_X8_isGreat, trivial⟩ preEq rfl rfl hl.1 rfl (lv_room (Nat.le_of_ble_eq_true rfl)) dX4_smallAt_7 ⟨by decide, by decide⟩).run (fun r_7 hw => ?_)
  refine lv_if_eq (tgt := 20) hx hb dX4_smallAt_10 (by decide) (fun c_10 => ?_) (fun c_10 => ?_)
  · have hw := hw.1 c_10
    refine lv_iload_n hx hb dX4_smallAt_20 rfl (lv_at hl 0 rfl) ?_
    exact W.iret (v := r_2) hx hb hr (fun t ht hW => ⟨⟨r_2, (L_2, f_2), rfl, hw, by rw [ht]; exact hP, va_K.moved hW.alike hK, hD⟩, hS.F ht⟩) hS.2.2 dX4_smallAt_21
  · have hw := hw.2 c_10
    refine lv_iload_n hx hb dX4_smallAt_13 rfl (lv_at hl 0 rfl) ?_
    refine lv_bipush (v := 32) hx hb dX4_smallAt_14 (by decide) ?_
    refine lv_iadd hx hb dX4_smallAt_16 ?_
    refine lv_goto (tgt := 21) hx hb dX4_smallAt_17 (by decide) ?_
    exact W.iret (v := (r_2 + (32 : Int32))) hx hb hr (fun t ht hW => ⟨⟨(r_2 + (32 : Int32)), (L_2, f_2), rfl, hw, by rw [ht]; exact hP, va_K.moved hW.alike hK, hD⟩, hS.F ht⟩) hS.2.2 dX4_smallAt_21
set_option maxHeartbeats 4000000 in
set_option maxRecDepth 100000 in
theorem c_X4_smallAt (l : Launch) (dC : Nat → ClassId) (dI : Nat → Nat → Nat) (dA : Nat → ClassId) (zz : Nat → Nat) (base : Nat) (L : List Nat) (f : pF) (sz : Nat) (a0 : Nat) (a1 : Int32) (Q : Int32 → List Nat → pF → Prop) (hw : wp_X4_smallAt_0 dA zz Q L f a0 a1) : Met l yX4_smallAt wsX4_smallAt rm_X4_smallAt (va_Pc [.ref a0, .int a1] (pPre dC dI dA zz base L f sz)) (va_Qi (fun r (u : List Nat × pF) => Q r u.1 u.2) (pB dC dI dA (va_A (va_pl L f) sz)) (va_A (va_pl L f) sz)) 0 0 (va_A (va_pl L f) sz) := by
  refine Met.ofW (cc := cX4_smallAt) (maxL := 3) (ret := (some .int)) (by decide) rfl ?_
  intro p e s m args below meth c s₁ B hml hv
  obtain ⟨rfl, hsz, hP, hK, hD0, hz, hN, hT⟩ := hv
  subst hsz
  have hl := lv_entry ([.ref a0, .int a1]) (n := 3) (Nat.le_of_ble_eq_true rfl)
  rw [lg_entry_eq]
  generalize (lg_sl ([.ref a0, .int a1]) ++ List.replicate (3 - (lg_sl ([.ref a0, .int a1])).length) Slot.unset).toArray = ls at hl ⊢
  exact tb_X4_smallAt_0 (Q := Q) (p := p) ⟨B.exec, B.bytes, hml, findClass_of_methodNamed B.named, atoms_spec (ws := wsX4_smallAt) B.pre, B.returns, B.notSynchronized, fun q h => Or.inr h, hK, pAB hD0 hz, hz, hN, hT⟩ L f a0 a1 hw s.heap [] hP (hD0.self (sz := s.heap.size)) va_S.rf ls (lv_sub hl [0, 1] rfl)
theorem lt_X4_letterAt_X8_isLetter : Cond.static yX8_isLetter ∈ wsX4_letterAt := by decide +kernel
theorem lz_X4_letterAt_RX8 : Cond.initialized RX8 ∈ wsX4_letterAt := by decide +kernel
abbrev rm_X4_letterAt : Room := { frames := 2, cells := 0, slots := 0, locals := 40 }
def wp_X4_letterAt_0 (dA : Nat → ClassId) (zz : Nat → Nat) (Q : Int32 → List Nat → pF → Prop) (L : List Nat) (f : pF) (a0 : Nat) (a1 : Int32) : Prop :=
    (isO L f 5 a0 ∧
      (wp_X4_at_0 dA zz (fun r_2 L_2 f_2 =>
        (wp_X8_isLetter_0 (fun r_5 =>
          (narrow .boolean (.int r_5) = .int r_5 ∧ (Q r_5 L_2 f_2))) r_2)) L f a0 a1))
set_option maxHeartbeats 4000000 in
set_option maxRecDepth 100000 in
theorem tb_X4_letterAt_0 {p : Program} {l : Launch} {e : Env} {s : State} {m : MethodId} {below : List Frame} {meth : Method} {c : Code} {args : Array Value} {dC : Nat → ClassId} {dI : Nat → Nat → Nat} {dA : Nat → ClassId} {zz : Nat → Nat} {base : Nat} {A : Nat → Prop} {Q : Int32 → List Nat → pF → Prop} (C : pCx p s m args meth c cX4_letterAt 2 (some .boolean) RX4 wsX4_letterAt A dC dI dA zz base) : ∀ (L : List Nat) (f : pF) (a0 : Nat) (a1 : Int32), wp_X4_letterAt_0 dA zz Q  L f a0 a1 → pAt p l e rm_X4_letterAt s m args below meth c dC dI A (MQ below (va_Qi (fun r (u : List Nat × pF) => Q r u.1 u.2) (pB dC dI dA A) A) args s 0 0 A) 0 0 0 2 [(0, .ref a0), (1, .int a1)] [] L f := by
  obtain ⟨hx, hb, hml, hown, hts, hr, hlocks, hA, hK, hB, hz, hN, hT⟩ := id C
  intro L f a0 a1 hw H locs hP hD hS ls hl
  rw [wp_X4_letterAt_0] at hw
  refine lv_aload_n hx hb dX4_letterAt_0 rfl (lv_at hl 0 rfl) ?_
  refine lv_iload_n hx hb dX4_letterAt_1 rfl (lv_at hl 1 rfl) ?_
  obtain ⟨hO9, hw⟩ := hw
  have hFc := p_free hD hS hA
  refine va_calli (va_runV (As := [.int a1]) (rest := []) ⟨hx, hb, hml, hown, hts⟩ (c_X4_at l dC dI dA zz base L f H.size a0 a1 _ hw) (cwV 1 hts gX4_letterAt_X4_at rfl rfl rfl (by decide +kernel) ⟨by decide, by decide⟩) (pPreV [.int a1] (ci := 5) rfl hO9 hK hP hD hS hB hz hN hT) rfl rfl hl.1 rfl (lv_room (Nat.le_of_ble_eq_true rfl)) dX4_letterAt_2 ⟨by decide, by decide⟩) hS (fun q _ h => hFc q h) hFc (fun r_2 u t H1 locs ht hvm hw hB1 hz1 hk1 hS => ?_)
  obtain ⟨L_2, f_2⟩ := u
  obtain ⟨hP, -, hD1⟩ := hB1
  rw [ht] at hP
  have hw := id hw
  have hP : va_P (dC, dI) vwCl (va_pl L_2 f_2) H1 := hP
  have hD : va_D A (va_pl L_2 f_2) := p_gain hD1 hFc
  generalize H1 = H at hP hS ⊢
  refine vp_callSi (va_runSN (As := [.int r_2]) (rest := []) ⟨hx, hb, hml, hown, hts⟩ (c_X8_isLetter l r_2 _ hw) ⟨va_cnB 1 hts gX4_letterAt_X8_isLetter_n33 rfl rfl rfl hN.2.2.1 (hts _ lz_X4_letterAt_RX8) (by decide +kernel) ⟨by decide, by decide⟩, hts _ lt_X4_letterAt_X8_isLetter, trivial⟩ preEq rfl rfl hl.1 rfl (lv_room (Nat.le_of_ble_eq_true rfl)) dX4_letterAt_5 ⟨by decide, by decide⟩).run (fun r_5 hw => ?_)
  exact W.zret (v := r_5) hx hb hr hw.1 (fun t ht hW => ⟨⟨r_5, (L_2, f_2), rfl, hw.2, by rw [ht]; exact hP, va_K.moved hW.alike hK, hD⟩, hS.F ht⟩) hS.2.2 dX4_letterAt_8
set_option maxHeartbeats 4000000 in
set_option maxRecDepth 100000 in
theorem c_X4_letterAt (l : Launch) (dC : Nat → ClassId) (dI : Nat → Nat → Nat) (dA : Nat → ClassId) (zz : Nat → Nat) (base : Nat) (L : List Nat) (f : pF) (sz : Nat) (a0 : Nat) (a1 : Int32) (Q : Int32 → List Nat → pF → Prop) (hw : wp_X4_letterAt_0 dA zz Q L f a0 a1) : Met l yX4_letterAt wsX4_letterAt rm_X4_letterAt (va_Pc [.ref a0, .int a1] (pPre dC dI dA zz base L f sz)) (va_Qi (fun r (u : List Nat × pF) => Q r u.1 u.2) (pB dC dI dA (va_A (va_pl L f) sz)) (va_A (va_pl L f) sz)) 0 0 (va_A (va_pl L f) sz) := by
  refine Met.ofW (cc := cX4_letterAt) (maxL := 2) (ret := (some .boolean)) (by decide) rfl ?_
  intro p e s m args below meth c s₁ B hml hv
  obtain ⟨rfl, hsz, hP, hK, hD0, hz, hN, hT⟩ := hv
  subst hsz
  have hl := lv_entry ([.ref a0, .int a1]) (n := 2) (Nat.le_of_ble_eq_true rfl)
  rw [lg_entry_eq]
  generalize (lg_sl ([.ref a0, .int a1]) ++ List.replicate (2 - (lg_sl ([.ref a0, .int a1])).length) Slot.unset).toArray = ls at hl ⊢
  exact tb_X4_letterAt_0 (Q := Q) (p := p) ⟨B.exec, B.bytes, hml, findClass_of_methodNamed B.named, atoms_spec (ws := wsX4_letterAt) B.pre, B.returns, B.notSynchronized, fun q h => Or.inr h, hK, pAB hD0 hz, hz, hN, hT⟩ L f a0 a1 hw s.heap [] hP (hD0.self (sz := s.heap.size)) va_S.rf ls (lv_sub hl [0, 1] rfl)
theorem iw_X4_push_RX4 : ∀ w ∈ u_ws RX4 TX4 2, w ∈ wsX4_push := by decide +kernel
theorem lk_X4_push_15 : Cond.fieldLink RX4 15 "TermKeeper$Row" "bytes" "[B" ∈ wsX4_push := by decide +kernel
theorem lk_X4_push_21 : Cond.fieldLink RX4 21 "TermKeeper$Row" "size" "I" ∈ wsX4_push := by decide +kernel
abbrev rm_X4_push : Room := { frames := 0, cells := 0, slots := 0, locals := 0 }
def wp_X4_push_0 (dA : Nat → ClassId) (zz : Nat → Nat) (Q : Int32 → List Nat → pF → Prop) (L : List Nat) (f : pF) (a0 : Nat) (a1 : Int32) : Prop :=
    (gI L f 5 a0 1 (fun g_1 =>
      (gR L f 5 a0 0 (fun g_5 =>
        (aN L f (dA 0) g_5 (fun g_8 =>
          ((g_1 < g_8 →
            (gR L f 5 a0 0 (fun g_15 =>
              (gI L f 5 a0 1 (fun g_19 =>
                (aIs L f (dA 0) g_15 g_19 (vp_nar .byte (Int8.toInt32 (Int32.toInt8 a1))) (fun f_24 =>
                  (gI L f_24 5 a0 1 (fun g_27 =>
                    (gP L f_24 5 a0 1 (.int (g_27 + (1 : Int32))) (fun f_32 =>
                      (Q (1 : Int32) L f_32))))))))))))
           ∧ (¬ g_1 < g_8 →
            (Q (0 : Int32) L f)))))))))
set_option maxHeartbeats 4000000 in
set_option maxRecDepth 100000 in
theorem tb_X4_push_0 {p : Program} {l : Launch} {e : Env} {s : State} {m : MethodId} {below : List Frame} {meth : Method} {c : Code} {args : Array Value} {dC : Nat → ClassId} {dI : Nat → Nat → Nat} {dA : Nat → ClassId} {zz : Nat → Nat} {base : Nat} {A : Nat → Prop} {Q : Int32 → List Nat → pF → Prop} (C : pCx p s m args meth c cX4_push 2 (some .boolean) RX4 wsX4_push A dC dI dA zz base) : ∀ (L : List Nat) (f : pF) (a0 : Nat) (a1 : Int32), wp_X4_push_0 dA zz Q  L f a0 a1 → pAt p l e rm_X4_push s m args below meth c dC dI A (MQ below (va_Qi (fun r (u : List Nat × pF) => Q r u.1 u.2) (pB dC dI dA A) A) args s 0 0 A) 0 0 0 2 [(0, .ref a0), (1, .int a1)] [] L f := by
  obtain ⟨hx, hb, hml, hown, hts, hr, hlocks, hA, hK, hB, hz, hN, hT⟩ := id C
  intro L f a0 a1 hw H locs hP hD hS ls hl
  rw [wp_X4_push_0] at hw
  refine lv_aload_n hx hb dX4_push_0 rfl (lv_at hl 0 rfl) ?_
  obtain ⟨fs_1, g_1, ⟨hL9, hf9, hn9⟩, hw⟩ := hw
  refine va_get (D := (dC, dI)) (ci := 5) (v := .int g_1) (C := RX4) (T := TX4) (N := 2) hx hb hts iw_X4_push_RX4 hown hK (p_one hP hL9 hf9) 0 rfl rfl 1 (by decide) (hts _ lk_X4_push_21) (fun _ h9 => h9) hn9 dX4_push_1 ?_
  refine lv_aload_n hx hb dX4_push_4 rfl (lv_at hl 0 rfl) ?_
  obtain ⟨fs_5, g_5, ⟨hL9, hf9, hn9⟩, hw⟩ := hw
  refine va_get (D := (dC, dI)) (ci := 5) (v := .ref g_5) (C := RX4) (T := TX4) (N := 2) hx hb hts iw_X4_push_RX4 hown hK (p_one hP hL9 hf9) 0 rfl rfl 0 (by decide) (hts _ lk_X4_push_15) (fun _ h9 => h9) hn9 dX4_push_5 ?_
  obtain ⟨x9, ⟨hL9, hf9⟩, hw⟩ := hw
  obtain ⟨g_8, eg_8⟩ : ∃ y : Int32, y = Int32.ofNat x9.1 := ⟨_, rfl⟩
  rw [← eg_8] at hw
  refine va_alen (v := g_8) hx hb hK (p_one hP hL9 hf9) 0 0 rfl rfl eg_8.symm dX4_push_8 ?_
  refine lv_icmp_lt (tgt := 14) hx hb dX4_push_9 (by decide) (fun c_9 => ?_) (fun c_9 => ?_)
  · have hw := hw.1 c_9
    refine lv_aload_n hx hb dX4_push_14 rfl (lv_at hl 0 rfl) ?_
    obtain ⟨fs_15, g_15, ⟨hL9, hf9, hn9⟩, hw⟩ := hw
    refine va_get (D := (dC, dI)) (ci := 5) (v := .ref g_15) (C := RX4) (T := TX4) (N := 2) hx hb hts iw_X4_push_RX4 hown hK (p_one hP hL9 hf9) 0 rfl rfl 0 (by decide) (hts _ lk_X4_push_15) (fun _ h9 => h9) hn9 dX4_push_15 ?_
    refine lv_aload_n hx hb dX4_push_18 rfl (lv_at hl 0 rfl) ?_
    obtain ⟨fs_19, g_19, ⟨hL9, hf9, hn9⟩, hw⟩ := hw
    refine va_get (D := (dC, dI)) (ci := 5) (v := .int g_19) (C := RX4) (T := TX4) (N := 2) hx hb hts iw_X4_push_RX4 hown hK (p_one hP hL9 hf9) 0 rfl rfl 1 (by decide) (hts _ lk_X4_push_21) (fun _ h9 => h9) hn9 dX4_push_19 ?_
    refine lv_iload_n hx hb dX4_push_22 rfl (lv_at hl 1 rfl) ?_
    refine lv_i2b hx hb dX4_push_23 rfl ?_
    obtain ⟨n_24, h_24, ⟨hL9, hf9, hn9⟩, hw⟩ := hw
    obtain ⟨kq9, hkq9⟩ := p_at hL9 hf9
    refine va_bast hx hb hK hP hD hS kq9 0 hkq9 rfl hn9 dX4_push_24 (fun H locs hP2 hD2 hS => ?_)
    rw [p_set hD hL9 hf9 hkq9] at hP2 hD2
    obtain ⟨f_24, ef_24⟩ : ∃ y : pF, y = va_up f g_15 (.inl (dA 0, n_24, .inl (upd h_24 (Int32.toNatClampNeg g_19) (vp_nar .byte (Int8.toInt32 (Int32.toInt8 a1)))))) := ⟨_, rfl⟩
    rw [← ef_24] at hP2 hD2
    have hw := hw f_24 ef_24
    have hP := hP2
    have hD := hD2
    refine lv_aload_n hx hb dX4_push_25 rfl (lv_at hl 0 rfl) ?_
    refine lv_dup hx hb dX4_push_26 rfl ?_
    obtain ⟨fs_27, g_27, ⟨hL9, hf9, hn9⟩, hw⟩ := hw
    refine va_get (D := (dC, dI)) (ci := 5) (v := .int g_27) (C := RX4) (T := TX4) (N := 2) hx hb hts iw_X4_push_RX4 hown hK (p_one hP hL9 hf9) 0 rfl rfl 1 (by decide) (hts _ lk_X4_push_21) (fun _ h9 => h9) hn9 dX4_push_27 ?_
    refine lv_iconst (v := 1) hx hb dX4_push_30 (by decide) ?_
    refine lv_iadd hx hb dX4_push_31 ?_
    obtain ⟨fs_32, ⟨hL9, hf9, hn9⟩, hw⟩ := hw
    obtain ⟨kq9, hkq9⟩ := p_at hL9 hf9
    refine va_put (D := (dC, dI)) (ci := 5) (v := .int (g_27 + (1 : Int32))) (C := RX4) (T := TX4) (N := 2) hx hb hts iw_X4_push_RX4 tyX4 tyX4_ok nmX4 hown hK hP hD hS kq9 hkq9 rfl 1 (by decide) (hts _ lk_X4_push_21) (fun _ h9 => h9) rfl (tyX4_ok 1 (by decide)) rfl rfl hn9 dX4_push_32 (fun H locs hP2 hD2 hS => ?_)
    rw [p_set hD hL9 hf9 hkq9] at hP2 hD2
    obtain ⟨f_32, ef_32⟩ : ∃ y : pF, y = va_up f_24 a0 (.inr (5, fs_32.set 1 (.int (g_27 + (1 : Int32))))) := ⟨_, rfl⟩
    rw [← ef_32] at hP2 hD2
    have hw := hw f_32 ef_32
    have hP := hP2
    have hD := hD2
    refine lv_iconst (v := 1) hx hb dX4_push_35 (by decide) ?_
    exact W.zret (v := (1 : Int32)) hx hb hr rfl (fun t ht hW => ⟨⟨(1 : Int32), (L, f_32), rfl, hw, by rw [ht]; exact hP, va_K.moved hW.alike hK, hD⟩, hS.F ht⟩) hS.2.2 dX4_push_36
  · have hw := hw.2 c_9
    refine lv_iconst (v := 0) hx hb dX4_push_12 (by decide) ?_
    exact W.zret (v := (0 : Int32)) hx hb hr rfl (fun t ht hW => ⟨⟨(0 : Int32), (L, f), rfl, hw, by rw [ht]; exact hP, va_K.moved hW.alike hK, hD⟩, hS.F ht⟩) hS.2.2 dX4_push_13
set_option maxHeartbeats 4000000 in
set_option maxRecDepth 100000 in
theorem c_X4_push (l : Launch) (dC : Nat → ClassId) (dI : Nat → Nat → Nat) (dA : Nat → ClassId) (zz : Nat → Nat) (base : Nat) (L : List Nat) (f : pF) (sz : Nat) (a0 : Nat) (a1 : Int32) (Q : Int32 → List Nat → pF → Prop) (hw : wp_X4_push_0 dA zz Q L f a0 a1) : Met l yX4_push wsX4_push rm_X4_push (va_Pc [.ref a0, .int a1] (pPre dC dI dA zz base L f sz)) (va_Qi (fun r (u : List Nat × pF) => Q r u.1 u.2) (pB dC dI dA (va_A (va_pl L f) sz)) (va_A (va_pl L f) sz)) 0 0 (va_A (va_pl L f) sz) := by
  refine Met.ofW (cc := cX4_push) (maxL := 2) (ret := (some .boolean)) (by decide) rfl ?_
  intro p e s m args below meth c s₁ B hml hv
  obtain ⟨rfl, hsz, hP, hK, hD0, hz, hN, hT⟩ := hv
  subst hsz
  have hl := lv_entry ([.ref a0, .int a1]) (n := 2) (Nat.le_of_ble_eq_true rfl)
  rw [lg_entry_eq]
  generalize (lg_sl ([.ref a0, .int a1]) ++ List.replicate (2 - (lg_sl ([.ref a0, .int a1])).length) Slot.unset).toArray = ls at hl ⊢
  exact tb_X4_push_0 (Q := Q) (p := p) ⟨B.exec, B.bytes, hml, findClass_of_methodNamed B.named, atoms_spec (ws := wsX4_push) B.pre, B.returns, B.notSynchronized, fun q h => Or.inr h, hK, pAB hD0 hz, hz, hN, hT⟩ L f a0 a1 hw s.heap [] hP (hD0.self (sz := s.heap.size)) va_S.rf ls (lv_sub hl [0, 1] rfl)
theorem iw_X4_shorten_RX4 : ∀ w ∈ u_ws RX4 TX4 2, w ∈ wsX4_shorten := by decide +kernel
theorem lk_X4_shorten_21 : Cond.fieldLink RX4 21 "TermKeeper$Row" "size" "I" ∈ wsX4_shorten := by decide +kernel
abbrev rm_X4_shorten : Room := { frames := 0, cells := 0, slots := 0, locals := 0 }
def wp_X4_shorten_0 (dA : Nat → ClassId) (zz : Nat → Nat) (Q : List Nat → pF → Prop) (L : List Nat) (f : pF) (a0 : Nat) (a1 : Int32) : Prop :=
    ((a1 < 0 →
      (Q L f))
     ∧ (¬ a1 < 0 →
      (gI L f 5 a0 1 (fun g_6 =>
        ((g_6 ≤ a1 →
          (Q L f))
         ∧ (¬ g_6 ≤ a1 →
          (gP L f 5 a0 1 (.int a1) (fun f_14 =>
            (Q L f_14)))))))))
set_option maxHeartbeats 4000000 in
set_option maxRecDepth 100000 in
theorem tb_X4_shorten_0 {p : Program} {l : Launch} {e : Env} {s : State} {m : MethodId} {below : List Frame} {meth : Method} {c : Code} {args : Array Value} {dC : Nat → ClassId} {dI : Nat → Nat → Nat} {dA : Nat → ClassId} {zz : Nat → Nat} {base : Nat} {A : Nat → Prop} {Q : List Nat → pF → Prop} (C : pCx p s m args meth c cX4_shorten 2 none RX4 wsX4_shorten A dC dI dA zz base) : ∀ (L : List Nat) (f : pF) (a0 : Nat) (a1 : Int32), wp_X4_shorten_0 dA zz Q  L f a0 a1 → pAt p l e rm_X4_shorten s m args below meth c dC dI A (MQ below (va_Qv (fun (u : List Nat × pF) => Q u.1 u.2) (pB dC dI dA A) A) args s 0 0 A) 0 0 0 2 [(0, .ref a0), (1, .int a1)] [] L f := by
  obtain ⟨hx, hb, hml, hown, hts, hr, hlocks, hA, hK, hB, hz, hN, hT⟩ := id C
  intro L f a0 a1 hw H locs hP hD hS ls hl
  rw [wp_X4_shorten_0] at hw
  refine lv_iload_n hx hb dX4_shorten_0 rfl (lv_at hl 1 rfl) ?_
  refine lv_if_lt (tgt := 17) hx hb dX4_shorten_1 (by decide) (fun c_1 => ?_) (fun c_1 => ?_)
  · have hw := hw.1 c_1
    exact W.vret hx hb hr (fun t ht hW => ⟨⟨(L, f), rfl, hw, by rw [ht]; exact hP, va_K.moved hW.alike hK, hD⟩, hS.F ht⟩) hS.2.2 dX4_shorten_17
  · have hw := hw.2 c_1
    refine lv_iload_n hx hb dX4_shorten_4 rfl (lv_at hl 1 rfl) ?_
    refine lv_aload_n hx hb dX4_shorten_5 rfl (lv_at hl 0 rfl) ?_
    obtain ⟨fs_6, g_6, ⟨hL9, hf9, hn9⟩, hw⟩ := hw
    refine va_get (D := (dC, dI)) (ci := 5) (v := .int g_6) (C := RX4) (T := TX4) (N := 2) hx hb hts iw_X4_shorten_RX4 hown hK (p_one hP hL9 hf9) 0 rfl rfl 1 (by decide) (hts _ lk_X4_shorten_21) (fun _ h9 => h9) hn9 dX4_shorten_6 ?_
    refine lv_icmp_ge (tgt := 17) hx hb dX4_shorten_9 (by decide) (fun c_9 => ?_) (fun c_9 => ?_)
    · have hw := hw.1 c_9
      exact W.vret hx hb hr (fun t ht hW => ⟨⟨(L, f), rfl, hw, by rw [ht]; exact hP, va_K.moved hW.alike hK, hD⟩, hS.F ht⟩) hS.2.2 dX4_shorten_17
    · have hw := hw.2 c_9
      refine lv_aload_n hx hb dX4_shorten_12 rfl (lv_at hl 0 rfl) ?_
      refine lv_iload_n hx hb dX4_shorten_13 rfl (lv_at hl 1 rfl) ?_
      obtain ⟨fs_14, ⟨hL9, hf9, hn9⟩, hw⟩ := hw
      obtain ⟨kq9, hkq9⟩ := p_at hL9 hf9
      refine va_put (D := (dC, dI)) (ci := 5) (v := .int a1) (C := RX4) (T := TX4) (N := 2) hx hb hts iw_X4_shorten_RX4 tyX4 tyX4_ok nmX4 hown hK hP hD hS kq9 hkq9 rfl 1 (by decide) (hts _ lk_X4_shorten_21) (fun _ h9 => h9) rfl (tyX4_ok 1 (by decide)) rfl rfl hn9 dX4_shorten_14 (fun H locs hP2 hD2 hS => ?_)
      rw [p_set hD hL9 hf9 hkq9] at hP2 hD2
      obtain ⟨f_14, ef_14⟩ : ∃ y : pF, y = va_up f a0 (.inr (5, fs_14.set 1 (.int a1))) := ⟨_, rfl⟩
      rw [← ef_14] at hP2 hD2
      have hw := hw f_14 ef_14
      have hP := hP2
      have hD := hD2
      exact W.vret hx hb hr (fun t ht hW => ⟨⟨(L, f_14), rfl, hw, by rw [ht]; exact hP, va_K.moved hW.alike hK, hD⟩, hS.F ht⟩) hS.2.2 dX4_shorten_17
set_option maxHeartbeats 4000000 in
set_option maxRecDepth 100000 in
theorem c_X4_shorten (l : Launch) (dC : Nat → ClassId) (dI : Nat → Nat → Nat) (dA : Nat → ClassId) (zz : Nat → Nat) (base : Nat) (L : List Nat) (f : pF) (sz : Nat) (a0 : Nat) (a1 : Int32) (Q : List Nat → pF → Prop) (hw : wp_X4_shorten_0 dA zz Q L f a0 a1) : Met l yX4_shorten wsX4_shorten rm_X4_shorten (va_Pc [.ref a0, .int a1] (pPre dC dI dA zz base L f sz)) (va_Qv (fun (u : List Nat × pF) => Q u.1 u.2) (pB dC dI dA (va_A (va_pl L f) sz)) (va_A (va_pl L f) sz)) 0 0 (va_A (va_pl L f) sz) := by
  refine Met.ofW (cc := cX4_shorten) (maxL := 2) (ret := none) (by decide) rfl ?_
  intro p e s m args below meth c s₁ B hml hv
  obtain ⟨rfl, hsz, hP, hK, hD0, hz, hN, hT⟩ := hv
  subst hsz
  have hl := lv_entry ([.ref a0, .int a1]) (n := 2) (Nat.le_of_ble_eq_true rfl)
  rw [lg_entry_eq]
  generalize (lg_sl ([.ref a0, .int a1]) ++ List.replicate (2 - (lg_sl ([.ref a0, .int a1])).length) Slot.unset).toArray = ls at hl ⊢
  exact tb_X4_shorten_0 (Q := Q) (p := p) ⟨B.exec, B.bytes, hml, findClass_of_methodNamed B.named, atoms_spec (ws := wsX4_shorten) B.pre, B.returns, B.notSynchronized, fun q h => Or.inr h, hK, pAB hD0 hz, hz, hN, hT⟩ L f a0 a1 hw s.heap [] hP (hD0.self (sz := s.heap.size)) va_S.rf ls (lv_sub hl [0, 1] rfl)
theorem iw_X4_greaten_RX4 : ∀ w ∈ u_ws RX4 TX4 2, w ∈ wsX4_greaten := by decide +kernel
theorem lk_X4_greaten_15 : Cond.fieldLink RX4 15 "TermKeeper$Row" "bytes" "[B" ∈ wsX4_greaten := by decide +kernel
theorem lk_X4_greaten_21 : Cond.fieldLink RX4 21 "TermKeeper$Row" "size" "I" ∈ wsX4_greaten := by decide +kernel
abbrev rm_X4_greaten : Room := { frames := 0, cells := 0, slots := 0, locals := 0 }
def wp_X4_greaten_49 (dA : Nat → ClassId) (zz : Nat → Nat) (Q : List Nat → pF → Prop) (k2_ : List Nat → pF → Nat → Int32 → Int32 → Prop) (L : List Nat) (f : pF) (a0 : Nat) (a1 : Int32) (a2 : Int32) : Prop :=
    (∀ v2_49 : Int32, v2_49 = a2 + (1 : Int32) →
      (k2_ L f a0 a1 v2_49))
def wp_X4_greaten_2 (dA : Nat → ClassId) (zz : Nat → Nat) (Q : List Nat → pF → Prop) : Nat → List Nat → pF → Nat → Int32 → Int32 → Prop
  | 0, _, _, _, _, _ => False
  | n + 1, L, f, a0, a1, a2 =>
    ((a1 ≤ a2 →
      (Q L f))
     ∧ (¬ a1 ≤ a2 →
      (gI L f 5 a0 1 (fun g_9 =>
        ((g_9 ≤ a2 →
          (Q L f))
         ∧ (¬ g_9 ≤ a2 →
          (gR L f 5 a0 0 (fun g_16 =>
            (aI L f (dA 0) g_16 a2 (fun g_20 =>
              ((g_20 < (97 : Int32) →
                (wp_X4_greaten_49 dA zz Q (wp_X4_greaten_2 dA zz Q  n) L f a0 a1 a2))
               ∧ (¬ g_20 < (97 : Int32) →
                (gR L f 5 a0 0 (fun g_27 =>
                  (aI L f (dA 0) g_27 a2 (fun g_31 =>
                    (((122 : Int32) < g_31 →
                      (wp_X4_greaten_49 dA zz Q (wp_X4_greaten_2 dA zz Q  n) L f a0 a1 a2))
                     ∧ (¬ (122 : Int32) < g_31 →
                      (gR L f 5 a0 0 (fun g_38 =>
                        (aI L f (dA 0) g_38 a2 (fun g_43 =>
                          (aIs L f (dA 0) g_38 a2 (vp_nar .byte (Int8.toInt32 (Int32.toInt8 (g_43 - (32 : Int32))))) (fun f_48 =>
                            (wp_X4_greaten_49 dA zz Q (wp_X4_greaten_2 dA zz Q  n) L f_48 a0 a1 a2)))))))))))))))))))))))))
def wp_X4_greaten_0 (dA : Nat → ClassId) (zz : Nat → Nat) (Q : List Nat → pF → Prop) (L : List Nat) (f : pF) (a0 : Nat) (a1 : Int32) : Prop :=
    (∃ n9 : Nat, wp_X4_greaten_2 dA zz Q  n9 L f a0 a1 (0 : Int32))
set_option maxHeartbeats 4000000 in
set_option maxRecDepth 100000 in
theorem tb_X4_greaten_49 {p : Program} {l : Launch} {e : Env} {s : State} {m : MethodId} {below : List Frame} {meth : Method} {c : Code} {args : Array Value} {dC : Nat → ClassId} {dI : Nat → Nat → Nat} {dA : Nat → ClassId} {zz : Nat → Nat} {base : Nat} {A : Nat → Prop} {Q : List Nat → pF → Prop} (C : pCx p s m args meth c cX4_greaten 3 none RX4 wsX4_greaten A dC dI dA zz base) {k2_ : List Nat → pF → Nat → Int32 → Int32 → Prop} (h2_ : ∀ (L : List Nat) (f : pF) (a0 : Nat) (a1 : Int32) (a2 : Int32), k2_ L f a0 a1 a2 → pAt p l e rm_X4_greaten s m args below meth c dC dI A (MQ below (va_Qv (fun (u : List Nat × pF) => Q u.1 u.2) (pB dC dI dA A) A) args s 0 0 A) 0 0 2 3 [(0, .ref a0), (1, .int a1), (2, .int a2)] [] L f) : ∀ (L : List Nat) (f : pF) (a0 : Nat) (a1 : Int32) (a2 : Int32), wp_X4_greaten_49 dA zz Q k2_ L f a0 a1 a2 → pAt p l e rm_X4_greaten s m args below meth c dC dI A (MQ below (va_Qv (fun (u : List Nat × pF) => Q u.1 u.2) (pB dC dI dA A) A) args s 0 0 A) 0 0 49 3 [(0, .ref a0), (1, .int a1), (2, .int a2)] [] L f := by
  obtain ⟨hx, hb, hml, hown, hts, hr, hlocks, hA, hK, hB, hz, hN, hT⟩ := id C
  intro L f a0 a1 a2 hw H locs hP hD hS ls hl
  rw [wp_X4_greaten_49] at hw
  obtain ⟨v2_49, ev2_49⟩ : ∃ y : Int32, y = a2 + (1 : Int32) := ⟨_, rfl⟩
  have hw := hw v2_49 ev2_49
  refine lv_iinc (v := v2_49) (lv' := [(2, .int v2_49), (0, .ref a0), (1, .int a1)]) hx hb dX4_greaten_49 hl (k := 2) rfl (by rw [ev2_49]; rfl) (by decide) rfl (fun ls hl => ?_)
  refine lv_goto (tgt := 2) hx hb dX4_greaten_52 (by decide) ?_
  exact h2_ L f a0 a1 v2_49 hw H locs hP hD hS ls (lv_sub hl [1, 2, 0] rfl)
set_option maxHeartbeats 4000000 in
set_option maxRecDepth 100000 in
theorem tb_X4_greaten_2 {p : Program} {l : Launch} {e : Env} {s : State} {m : MethodId} {below : List Frame} {meth : Method} {c : Code} {args : Array Value} {dC : Nat → ClassId} {dI : Nat → Nat → Nat} {dA : Nat → ClassId} {zz : Nat → Nat} {base : Nat} {A : Nat → Prop} {Q : List Nat → pF → Prop} (C : pCx p s m args meth c cX4_greaten 3 none RX4 wsX4_greaten A dC dI dA zz base) : ∀ (n : Nat) (L : List Nat) (f : pF) (a0 : Nat) (a1 : Int32) (a2 : Int32), wp_X4_greaten_2 dA zz Q  n L f a0 a1 a2 → pAt p l e rm_X4_greaten s m args below meth c dC dI A (MQ below (va_Qv (fun (u : List Nat × pF) => Q u.1 u.2) (pB dC dI dA A) A) args s 0 0 A) 0 0 2 3 [(0, .ref a0), (1, .int a1), (2, .int a2)] [] L f := by
  obtain ⟨hx, hb, hml, hown, hts, hr, hlocks, hA, hK, hB, hz, hN, hT⟩ := id C
  intro n
  induction n with
  | zero => intro L f a0 a1 a2 hw; exact hw.elim
  | succ n ih =>
    intro L f a0 a1 a2 hw H locs hP hD hS ls hl
    rw [wp_X4_greaten_2] at hw
    refine lv_iload_n hx hb dX4_greaten_2 rfl (lv_at hl 2 rfl) ?_
    refine lv_iload_n hx hb dX4_greaten_3 rfl (lv_at hl 1 rfl) ?_
    refine lv_icmp_ge (tgt := 55) hx hb dX4_greaten_4 (by decide) (fun c_4 => ?_) (fun c_4 => ?_)
    · have hw := hw.1 c_4
      exact W.vret hx hb hr (fun t ht hW => ⟨⟨(L, f), rfl, hw, by rw [ht]; exact hP, va_K.moved hW.alike hK, hD⟩, hS.F ht⟩) hS.2.2 dX4_greaten_55
    · have hw := hw.2 c_4
      refine lv_iload_n hx hb dX4_greaten_7 rfl (lv_at hl 2 rfl) ?_
      refine lv_aload_n hx hb dX4_greaten_8 rfl (lv_at hl 0 rfl) ?_
      obtain ⟨fs_9, g_9, ⟨hL9, hf9, hn9⟩, hw⟩ := hw
      refine va_get (D := (dC, dI)) (ci := 5) (v := .int g_9) (C := RX4) (T := TX4) (N := 2) hx hb hts iw_X4_greaten_RX4 hown hK (p_one hP hL9 hf9) 0 rfl rfl 1 (by decide) (hts _ lk_X4_greaten_21) (fun _ h9 => h9) hn9 dX4_greaten_9 ?_
      refine lv_icmp_ge (tgt := 55) hx hb dX4_greaten_12 (by decide) (fun c_12 => ?_) (fun c_12 => ?_)
      · have hw := hw.1 c_12
        exact W.vret hx hb hr (fun t ht hW => ⟨⟨(L, f), rfl, hw, by rw [ht]; exact hP, va_K.moved hW.alike hK, hD⟩, hS.F ht⟩) hS.2.2 dX4_greaten_55
      · have hw := hw.2 c_12
        refine lv_aload_n hx hb dX4_greaten_15 rfl (lv_at hl 0 rfl) ?_
        obtain ⟨fs_16, g_16, ⟨hL9, hf9, hn9⟩, hw⟩ := hw
        refine va_get (D := (dC, dI)) (ci := 5) (v := .ref g_16) (C := RX4) (T := TX4) (N := 2) hx hb hts iw_X4_greaten_RX4 hown hK (p_one hP hL9 hf9) 0 rfl rfl 0 (by decide) (hts _ lk_X4_greaten_15) (fun _ h9 => h9) hn9 dX4_greaten_16 ?_
        refine lv_iload_n hx hb dX4_greaten_19 rfl (lv_at hl 2 rfl) ?_
        obtain ⟨n_20, h_20, ⟨hL9, hf9, hn9⟩, hw⟩ := hw
        refine va_bald hx hb hK (p_one hP hL9 hf9) 0 0 rfl rfl hn9 dX4_greaten_20 ?_
        refine lv_topi (fun g_20 eg_20 => ?_)
        rw [← eg_20] at hw
        refine lv_bipush (v := 97) hx hb dX4_greaten_21 (by decide) ?_
        refine lv_icmp_lt (tgt := 49) hx hb dX4_greaten_23 (by decide) (fun c_23 => ?_) (fun c_23 => ?_)
        · have hw := hw.1 c_23
          exact tb_X4_greaten_49 C ih L f a0 a1 a2 hw H locs hP hD hS ls (lv_sub hl [0, 1, 2] rfl)
        · have hw := hw.2 c_23
          refine lv_aload_n hx hb dX4_greaten_26 rfl (lv_at hl 0 rfl) ?_
          obtain ⟨fs_27, g_27, ⟨hL9, hf9, hn9⟩, hw⟩ := hw
          refine va_get (D := (dC, dI)) (ci := 5) (v := .ref g_27) (C := RX4) (T := TX4) (N := 2) hx hb hts iw_X4_greaten_RX4 hown hK (p_one hP hL9 hf9) 0 rfl rfl 0 (by decide) (hts _ lk_X4_greaten_15) (fun _ h9 => h9) hn9 dX4_greaten_27 ?_
          refine lv_iload_n hx hb dX4_greaten_30 rfl (lv_at hl 2 rfl) ?_
          obtain ⟨n_31, h_31, ⟨hL9, hf9, hn9⟩, hw⟩ := hw
          refine va_bald hx hb hK (p_one hP hL9 hf9) 0 0 rfl rfl hn9 dX4_greaten_31 ?_
          refine lv_topi (fun g_31 eg_31 => ?_)
          rw [← eg_31] at hw
          refine lv_bipush (v := 122) hx hb dX4_greaten_32 (by decide) ?_
          refine lv_icmp_gt (tgt := 49) hx hb dX4_greaten_34 (by decide) (fun c_34 => ?_) (fun c_34 => ?_)
          · have hw := hw.1 c_34
            exact tb_X4_greaten_49 C ih L f a0 a1 a2 hw H locs hP hD hS ls (lv_sub hl [0, 1, 2] rfl)
          · have hw := hw.2 c_34
            refine lv_aload_n hx hb dX4_greaten_37 rfl (lv_at hl 0 rfl) ?_
            obtain ⟨fs_38, g_38, ⟨hL9, hf9, hn9⟩, hw⟩ := hw
            refine va_get (D := (dC, dI)) (ci := 5) (v := .ref g_38) (C := RX4) (T := TX4) (N := 2) hx hb hts iw_X4_greaten_RX4 hown hK (p_one hP hL9 hf9) 0 rfl rfl 0 (by decide) (hts _ lk_X4_greaten_15) (fun _ h9 => h9) hn9 dX4_greaten_38 ?_
            refine lv_iload_n hx hb dX4_greaten_41 rfl (lv_at hl 2 rfl) ?_
            refine lv_dup2_11 hx hb dX4_greaten_42 rfl rfl ?_
            obtain ⟨n_43, h_43, ⟨hL9, hf9, hn9⟩, hw⟩ := hw
            refine va_bald hx hb hK (p_one hP hL9 hf9) 0 0 rfl rfl hn9 dX4_greaten_43 ?_
            refine lv_topi (fun g_43 eg_43 => ?_)
            rw [← eg_43] at hw
            refine lv_bipush (v := 32) hx hb dX4_greaten_44 (by decide) ?_
            refine lv_isub hx hb dX4_greaten_46 ?_
            refine lv_i2b hx hb dX4_greaten_47 rfl ?_
            obtain ⟨n_48, h_48, ⟨hL9, hf9, hn9⟩, hw⟩ := hw
            obtain ⟨kq9, hkq9⟩ := p_at hL9 hf9
            refine va_bast hx hb hK hP hD hS kq9 0 hkq9 rfl hn9 dX4_greaten_48 (fun H locs hP2 hD2 hS => ?_)
            rw [p_set hD hL9 hf9 hkq9] at hP2 hD2
            obtain ⟨f_48, ef_48⟩ : ∃ y : pF, y = va_up f g_38 (.inl (dA 0, n_48, .inl (upd h_48 (Int32.toNatClampNeg a2) (vp_nar .byte (Int8.toInt32 (Int32.toInt8 (g_43 - (32 : Int32)))))))) := ⟨_, rfl⟩
            rw [← ef_48] at hP2 hD2
            have hw := hw f_48 ef_48
            have hP := hP2
            have hD := hD2
            exact tb_X4_greaten_49 C ih L f_48 a0 a1 a2 hw H locs hP hD hS ls (lv_sub hl [0, 1, 2] rfl)
set_option maxHeartbeats 4000000 in
set_option maxRecDepth 100000 in
theorem tb_X4_greaten_0 {p : Program} {l : Launch} {e : Env} {s : State} {m : MethodId} {below : List Frame} {meth : Method} {c : Code} {args : Array Value} {dC : Nat → ClassId} {dI : Nat → Nat → Nat} {dA : Nat → ClassId} {zz : Nat → Nat} {base : Nat} {A : Nat → Prop} {Q : List Nat → pF → Prop} (C : pCx p s m args meth c cX4_greaten 3 none RX4 wsX4_greaten A dC dI dA zz base) : ∀ (L : List Nat) (f : pF) (a0 : Nat) (a1 : Int32), wp_X4_greaten_0 dA zz Q  L f a0 a1 → pAt p l e rm_X4_greaten s m args below meth c dC dI A (MQ below (va_Qv (fun (u : List Nat × pF) => Q u.1 u.2) (pB dC dI dA A) A) args s 0 0 A) 0 0 0 3 [(0, .ref a0), (1, .int a1)] [] L f := by
  obtain ⟨hx, hb, hml, hown, hts, hr, hlocks, hA, hK, hB, hz, hN, hT⟩ := id C
  intro L f a0 a1 hw H locs hP hD hS ls hl
  rw [wp_X4_greaten_0] at hw
  refine lv_iconst (v := 0) hx hb dX4_greaten_0 (by decide) ?_
  refine lv_istore_n (lv' := [(2, .int (0 : Int32)), (0, .ref a0), (1, .int a1)]) hx hb dX4_greaten_1 rfl hl (by decide) rfl (fun ls hl => ?_)
  obtain ⟨n9, hw⟩ := hw
  exact tb_X4_greaten_2 C  n9 L f a0 a1 (0 : Int32) hw H locs hP hD hS ls (lv_sub hl [1, 2, 0] rfl)
set_option maxHeartbeats 4000000 in
set_option maxRecDepth 100000 in
theorem c_X4_greaten (l : Launch) (dC : Nat → ClassId) (dI : Nat → Nat → Nat) (dA : Nat → ClassId) (zz : Nat → Nat) (base : Nat) (L : List Nat) (f : pF) (sz : Nat) (a0 : Nat) (a1 : Int32) (Q : List Nat → pF → Prop) (hw : wp_X4_greaten_0 dA zz Q L f a0 a1) : Met l yX4_greaten wsX4_greaten rm_X4_greaten (va_Pc [.ref a0, .int a1] (pPre dC dI dA zz base L f sz)) (va_Qv (fun (u : List Nat × pF) => Q u.1 u.2) (pB dC dI dA (va_A (va_pl L f) sz)) (va_A (va_pl L f) sz)) 0 0 (va_A (va_pl L f) sz) := by
  refine Met.ofW (cc := cX4_greaten) (maxL := 3) (ret := none) (by decide) rfl ?_
  intro p e s m args below meth c s₁ B hml hv
  obtain ⟨rfl, hsz, hP, hK, hD0, hz, hN, hT⟩ := hv
  subst hsz
  have hl := lv_entry ([.ref a0, .int a1]) (n := 3) (Nat.le_of_ble_eq_true rfl)
  rw [lg_entry_eq]
  generalize (lg_sl ([.ref a0, .int a1]) ++ List.replicate (3 - (lg_sl ([.ref a0, .int a1])).length) Slot.unset).toArray = ls at hl ⊢
  exact tb_X4_greaten_0 (Q := Q) (p := p) ⟨B.exec, B.bytes, hml, findClass_of_methodNamed B.named, atoms_spec (ws := wsX4_greaten) B.pre, B.returns, B.notSynchronized, fun q h => Or.inr h, hK, pAB hD0 hz, hz, hN, hT⟩ L f a0 a1 hw s.heap [] hP (hD0.self (sz := s.heap.size)) va_S.rf ls (lv_sub hl [0, 1] rfl)
theorem iw_X4_copied_RX4 : ∀ w ∈ u_ws RX4 TX4 2, w ∈ wsX4_copied := by decide +kernel
theorem lk_X4_copied_16 : Cond.classLink RX4 16 RX4 ∈ wsX4_copied := by decide +kernel
theorem lk_X4_copied_21 : Cond.fieldLink RX4 21 "TermKeeper$Row" "size" "I" ∈ wsX4_copied := by decide +kernel
theorem li_X4_copied_RX4 : Cond.instantiable RX4 2 ∈ wsX4_copied := by decide +kernel
theorem lim_X4_copied_X4_init : Cond.instanceMethod yX4_init ∈ wsX4_copied := by decide +kernel
theorem lm_X4_copied_36 : Cond.methodLink RX4 36 yX4_init ∈ wsX4_copied := by decide +kernel
theorem lz_X4_copied_RX4 : Cond.initialized RX4 ∈ wsX4_copied := by decide +kernel
abbrev rm_X4_copied : Room := { frames := 2, cells := 2, slots := 602, locals := 35 }
def wp_X4_copied_14 (dA : Nat → ClassId) (zz : Nat → Nat) (Q : Nat → List Nat → pF → Prop) : Nat → List Nat → pF → Nat → Nat → Int32 → Prop
  | 0, _, _, _, _, _ => False
  | n + 1, L, f, a0, a1, a2 =>
    (gI L f 5 a0 1 (fun g_16 =>
      ((g_16 ≤ a2 →
        (Q a1 L f))
       ∧ (¬ g_16 ≤ a2 →
        (isO L f 5 a0 ∧
          (wp_X4_at_0 dA zz (fun r_25 L_25 f_25 =>
            (isO L_25 f_25 5 a1 ∧
              (wp_X4_push_0 dA zz (fun r_28 L_28 f_28 =>
                (∀ v2_32 : Int32, v2_32 = a2 + (1 : Int32) →
                  ((wp_X4_copied_14 dA zz Q  n) L_28 f_28 a0 a1 v2_32))) L_25 f_25 a1 r_25))) L f a0 a2))))))
def wp_X4_copied_0 (dA : Nat → ClassId) (zz : Nat → Nat) (Q : Nat → List Nat → pF → Prop) (L : List Nat) (f : pF) (a0 : Nat) : Prop :=
    (nO zz L f (.inr (5, [.null, .int 0])) (fun q_0 L_0 f_0 =>
      (gI L_0 f_0 5 a0 1 (fun g_5 =>
        (wp_X4_init_0 dA zz (fun L_8 f_8 =>
          (∃ n9 : Nat, wp_X4_copied_14 dA zz Q  n9 L_8 f_8 a0 q_0 (0 : Int32))) L_0 f_0 q_0 g_5)))))
set_option maxHeartbeats 4000000 in
set_option maxRecDepth 100000 in
theorem tb_X4_copied_14 {p : Program} {l : Launch} {e : Env} {s : State} {m : MethodId} {below : List Frame} {meth : Method} {c : Code} {args : Array Value} {dC : Nat → ClassId} {dI : Nat → Nat → Nat} {dA : Nat → ClassId} {zz : Nat → Nat} {base : Nat} {A : Nat → Prop} {Q : Nat → List Nat → pF → Prop} (C : pCx p s m args meth c cX4_copied 3 (some (.object "TermKeeper$Row")) RX4 wsX4_copied A dC dI dA zz base) : ∀ (n : Nat) (L : List Nat) (f : pF) (a0 : Nat) (a1 : Nat) (a2 : Int32), wp_X4_copied_14 dA zz Q  n L f a0 a1 a2 → pAt p l e rm_X4_copied s m args below meth c dC dI A (MQ below (va_Qr (fun (u : Nat × List Nat × pF) => Q u.1 u.2.1 u.2.2) (fun u a t => a = u.1 ∧ pB dC dI dA A u.2 t) A) args s 2 602 A) 2 602 14 3 [(0, .ref a0), (1, .ref a1), (2, .int a2)] [] L f := by
  obtain ⟨hx, hb, hml, hown, hts, hr, hlocks, hA, hK, hB, hz, hN, hT⟩ := id C
  intro n
  induction n with
  | zero => intro L f a0 a1 a2 hw; exact hw.elim
  | succ n ih =>
    intro L f a0 a1 a2 hw H locs hP hD hS ls hl
    rw [wp_X4_copied_14] at hw
    refine lv_iload_n hx hb dX4_copied_14 rfl (lv_at hl 2 rfl) ?_
    refine lv_aload_n hx hb dX4_copied_15 rfl (lv_at hl 0 rfl) ?_
    obtain ⟨fs_16, g_16, ⟨hL9, hf9, hn9⟩, hw⟩ := hw
    refine va_get (D := (dC, dI)) (ci := 5) (v := .int g_16) (C := RX4) (T := TX4) (N := 2) hx hb hts iw_X4_copied_RX4 hown hK (p_one hP hL9 hf9) 0 rfl rfl 1 (by decide) (hts _ lk_X4_copied_21) (fun _ h9 => h9) hn9 dX4_copied_16 ?_
    refine lv_icmp_ge (tgt := 38) hx hb dX4_copied_19 (by decide) (fun c_19 => ?_) (fun c_19 => ?_)
    · have hw := hw.1 c_19
      refine lv_aload_n hx hb dX4_copied_38 rfl (lv_at hl 1 rfl) ?_
      exact W.aret (v := .ref a1) hx hb hr (Or.inl ⟨_, rfl⟩) (Or.inr ⟨_, rfl⟩) (fun t ht hW => ⟨⟨(a1, L, f), a1, rfl, hw, rfl, by rw [ht]; exact hP, va_K.moved hW.alike hK, hD⟩, hS.F ht⟩) hS.2.2 dX4_copied_39
    · have hw := hw.2 c_19
      refine lv_aload_n hx hb dX4_copied_22 rfl (lv_at hl 1 rfl) ?_
      refine lv_aload_n hx hb dX4_copied_23 rfl (lv_at hl 0 rfl) ?_
      refine lv_iload_n hx hb dX4_copied_24 rfl (lv_at hl 2 rfl) ?_
      obtain ⟨hO9, hw⟩ := hw
      have hFc := p_free hD hS hA
      refine va_calli (va_runV (As := [.int a2]) (rest := [.ref a1]) ⟨hx, hb, hml, hown, hts⟩ (c_X4_at l dC dI dA zz base L f H.size a0 a2 _ hw) (cwV 1 hts gX4_copied_X4_at rfl rfl rfl (by decide +kernel) ⟨by decide, by decide⟩) (pPreV [.int a2] (ci := 5) rfl hO9 hK hP hD hS hB hz hN hT) rfl rfl hl.1 rfl (lv_room (Nat.le_of_ble_eq_true rfl)) dX4_copied_25 ⟨by decide, by decide⟩) hS (fun q _ h => hFc q h) hFc (fun r_25 u t H1 locs ht hvm hw hB1 hz1 hk1 hS => ?_)
      obtain ⟨L_25, f_25⟩ := u
      obtain ⟨hP, -, hD1⟩ := hB1
      rw [ht] at hP
      have hw := id hw
      have hP : va_P (dC, dI) vwCl (va_pl L_25 f_25) H1 := hP
      have hD : va_D A (va_pl L_25 f_25) := p_gain hD1 hFc
      generalize H1 = H at hP hS ⊢
      obtain ⟨hO9, hw⟩ := hw
      have hFc := p_free hD hS hA
      refine va_calli (va_runV (As := [.int r_25]) (rest := []) ⟨hx, hb, hml, hown, hts⟩ (c_X4_push l dC dI dA zz base L_25 f_25 H.size a1 r_25 _ hw) (cwV 1 hts gX4_copied_X4_push rfl rfl rfl (by decide +kernel) ⟨by decide, by decide⟩) (pPreV [.int r_25] (ci := 5) rfl hO9 hK hP hD hS hB hz hN hT) rfl rfl hl.1 rfl (lv_room (Nat.le_of_ble_eq_true rfl)) dX4_copied_28 ⟨by decide, by decide⟩) hS (fun q _ h => hFc q h) hFc (fun r_28 u t H1 locs ht hvm hw hB1 hz1 hk1 hS => ?_)
      obtain ⟨L_28, f_28⟩ := u
      obtain ⟨hP, -, hD1⟩ := hB1
      rw [ht] at hP
      have hw := id hw
      have hP : va_P (dC, dI) vwCl (va_pl L_28 f_28) H1 := hP
      have hD : va_D A (va_pl L_28 f_28) := p_gain hD1 hFc
      generalize H1 = H at hP hS ⊢
      refine lv_pop hx hb dX4_copied_31 rfl ?_
      obtain ⟨v2_32, ev2_32⟩ : ∃ y : Int32, y = a2 + (1 : Int32) := ⟨_, rfl⟩
      have hw := hw v2_32 ev2_32
      refine lv_iinc (v := v2_32) (lv' := [(2, .int v2_32), (0, .ref a0), (1, .ref a1)]) hx hb dX4_copied_32 hl (k := 2) rfl (by rw [ev2_32]; rfl) (by decide) rfl (fun ls hl => ?_)
      refine lv_goto (tgt := 14) hx hb dX4_copied_35 (by decide) ?_
      exact ih L_28 f_28 a0 a1 v2_32 hw H locs hP hD hS ls (lv_sub hl [1, 2, 0] rfl)
set_option maxHeartbeats 4000000 in
set_option maxRecDepth 100000 in
theorem tb_X4_copied_0 {p : Program} {l : Launch} {e : Env} {s : State} {m : MethodId} {below : List Frame} {meth : Method} {c : Code} {args : Array Value} {dC : Nat → ClassId} {dI : Nat → Nat → Nat} {dA : Nat → ClassId} {zz : Nat → Nat} {base : Nat} {A : Nat → Prop} {Q : Nat → List Nat → pF → Prop} (C : pCx p s m args meth c cX4_copied 3 (some (.object "TermKeeper$Row")) RX4 wsX4_copied A dC dI dA zz base) : ∀ (L : List Nat) (f : pF) (a0 : Nat), wp_X4_copied_0 dA zz Q  L f a0 → pAt p l e rm_X4_copied s m args below meth c dC dI A (MQ below (va_Qr (fun (u : Nat × List Nat × pF) => Q u.1 u.2.1 u.2.2) (fun u a t => a = u.1 ∧ pB dC dI dA A u.2 t) A) args s 2 602 A) 0 0 0 3 [(0, .ref a0)] [] L f := by
  obtain ⟨hx, hb, hml, hown, hts, hr, hlocks, hA, hK, hB, hz, hN, hT⟩ := id C
  intro L f a0 hw H locs hP hD hS ls hl
  rw [wp_X4_copied_0] at hw
  refine va_new (ci := 5) (fs := [.null, .int 0]) (C := RX4) (T := TX4) (N := 2) hx hb hts iw_X4_copied_RX4 tyX4 tyX4_ok hown (hts _ lk_X4_copied_16) (hts _ li_X4_copied_RX4) (hts _ lz_X4_copied_RX4) hK hP hD hS hA rfl (fun j hj => by rcases (show j = 0 ∨ j = 1 by omega) with rfl | rfl <;> rfl) (by decide) (by decide) dX4_copied_0 (fun q_0 H hP2 hD2 hS => ?_)
  have hq9 := p_fresh hD2
  have hz9 := p_nz hB hT hD2
  rw [va_pl_push hq9] at hP2 hD2
  obtain ⟨L_0, eL_0⟩ : ∃ y : List Nat, y = L ++ [q_0] := ⟨_, rfl⟩
  obtain ⟨f_0, ef_0⟩ : ∃ y : pF, y = va_up f q_0 (.inr (5, [.null, .int 0])) := ⟨_, rfl⟩
  have hw := hw q_0 hq9 hz9 L_0 f_0 eL_0 ef_0
  have hP : va_P (dC, dI) vwCl (va_pl L_0 f_0) H := by rw [eL_0, ef_0]; exact hP2
  have hD : va_D A (va_pl L_0 f_0) := by rw [eL_0, ef_0]; exact hD2
  refine lv_dup hx hb dX4_copied_3 rfl ?_
  refine lv_aload_n hx hb dX4_copied_4 rfl (lv_at hl 0 rfl) ?_
  obtain ⟨fs_5, g_5, ⟨hL9, hf9, hn9⟩, hw⟩ := hw
  refine va_get (D := (dC, dI)) (ci := 5) (v := .int g_5) (C := RX4) (T := TX4) (N := 2) hx hb hts iw_X4_copied_RX4 hown hK (p_one hP hL9 hf9) 0 rfl rfl 1 (by decide) (hts _ lk_X4_copied_21) (fun _ h9 => h9) hn9 dX4_copied_5 ?_
  have hFc := p_free hD hS hA
  refine va_callv (va_runI (As := [.int g_5]) (rest := [.ref q_0]) ⟨hx, hb, hml, hown, hts⟩ (c_X4_init l dC dI dA zz base L_0 f_0 H.size q_0 g_5 _ hw) (cwI 1 hts gX4_copied_X4_init rfl rfl rfl (hts _ lz_X4_copied_RX4) (hts _ lm_X4_copied_36) (hts _ lim_X4_copied_X4_init) rfl (by decide +kernel) ⟨by decide, by decide⟩) (pPreS [.ref q_0, .int g_5] hK hP hD hS hB hz hN hT) rfl rfl hl.1 rfl (lv_room (Nat.le_of_ble_eq_true rfl)) dX4_copied_8 ⟨by decide, by decide⟩) hS (fun q _ h => hFc q h) hFc (fun u t H1 locs ht hvm hw hB1 hz1 hk1 hS => ?_)
  obtain ⟨L_8, f_8⟩ := u
  obtain ⟨hP, -, hD1⟩ := hB1
  rw [ht] at hP
  have hw := id hw
  have hP : va_P (dC, dI) vwCl (va_pl L_8 f_8) H1 := hP
  have hD : va_D A (va_pl L_8 f_8) := p_gain hD1 hFc
  generalize H1 = H at hP hS ⊢
  refine W.widen (k := 2) (n := 602) (by decide) (by decide) ?_
  refine lv_astore_n (lv' := [(1, .ref q_0), (0, .ref a0)]) hx hb dX4_copied_11 rfl hl (by decide) rfl (fun ls hl => ?_)
  refine lv_iconst (v := 0) hx hb dX4_copied_12 (by decide) ?_
  refine lv_istore_n (lv' := [(2, .int (0 : Int32)), (1, .ref q_0), (0, .ref a0)]) hx hb dX4_copied_13 rfl hl (by decide) rfl (fun ls hl => ?_)
  obtain ⟨n9, hw⟩ := hw
  exact tb_X4_copied_14 C  n9 L_8 f_8 a0 q_0 (0 : Int32) hw H locs hP hD hS ls (lv_sub hl [2, 1, 0] rfl)
set_option maxHeartbeats 4000000 in
set_option maxRecDepth 100000 in
theorem c_X4_copied (l : Launch) (dC : Nat → ClassId) (dI : Nat → Nat → Nat) (dA : Nat → ClassId) (zz : Nat → Nat) (base : Nat) (L : List Nat) (f : pF) (sz : Nat) (a0 : Nat) (Q : Nat → List Nat → pF → Prop) (hw : wp_X4_copied_0 dA zz Q L f a0) : Met l yX4_copied wsX4_copied rm_X4_copied (va_Pc [.ref a0] (pPre dC dI dA zz base L f sz)) (va_Qr (fun (u : Nat × List Nat × pF) => Q u.1 u.2.1 u.2.2) (fun u a t => a = u.1 ∧ pB dC dI dA (va_A (va_pl L f) sz) u.2 t) (va_A (va_pl L f) sz)) 2 602 (va_A (va_pl L f) sz) := by
  refine Met.ofW (cc := cX4_copied) (maxL := 3) (ret := (some (.object "TermKeeper$Row"))) (by decide) rfl ?_
  intro p e s m args below meth c s₁ B hml hv
  obtain ⟨rfl, hsz, hP, hK, hD0, hz, hN, hT⟩ := hv
  subst hsz
  have hl := lv_entry ([.ref a0]) (n := 3) (Nat.le_of_ble_eq_true rfl)
  rw [lg_entry_eq]
  generalize (lg_sl ([.ref a0]) ++ List.replicate (3 - (lg_sl ([.ref a0])).length) Slot.unset).toArray = ls at hl ⊢
  exact tb_X4_copied_0 (Q := Q) (p := p) ⟨B.exec, B.bytes, hml, findClass_of_methodNamed B.named, atoms_spec (ws := wsX4_copied) B.pre, B.returns, B.notSynchronized, fun q h => Or.inr h, hK, pAB hD0 hz, hz, hN, hT⟩ L f a0 hw s.heap [] hP (hD0.self (sz := s.heap.size)) va_S.rf ls (lv_sub hl [0] rfl)
theorem iw_X4_endOfForm_RX4 : ∀ w ∈ u_ws RX4 TX4 2, w ∈ wsX4_endOfForm := by decide +kernel
theorem lk_X4_endOfForm_21 : Cond.fieldLink RX4 21 "TermKeeper$Row" "size" "I" ∈ wsX4_endOfForm := by decide +kernel
abbrev rm_X4_endOfForm : Room := { frames := 2, cells := 0, slots := 0, locals := 43 }
def wp_X4_endOfForm_61 (dA : Nat → ClassId) (zz : Nat → Nat) (Q : Int32 → List Nat → pF → Prop) (k2_ : List Nat → pF → Nat → Int32 → Nat → Int32 → Prop) (L : List Nat) (f : pF) (a0 : Nat) (a1 : Int32) (a2 : Nat) (a3 : Int32) : Prop :=
    (∀ v3_61 : Int32, v3_61 = a3 + (1 : Int32) →
      (k2_ L f a0 a1 a2 v3_61))
def wp_X4_endOfForm_45 (dA : Nat → ClassId) (zz : Nat → Nat) (Q : Int32 → List Nat → pF → Prop) (k2_ : List Nat → pF → Nat → Int32 → Nat → Int32 → Prop) (L : List Nat) (f : pF) (a0 : Nat) (a1 : Int32) (a2 : Nat) (a3 : Int32) (a4 : Int32) (a5 : Int32) (k0 : Int32) : Prop :=
    ((a5 = a4 →
      (wp_X4_endOfForm_61 dA zz Q k2_ L f a0 a1 a2 a3))
     ∧ (¬ a5 = a4 →
      ((¬ k0 = 0 →
        (wp_X4_endOfForm_61 dA zz Q k2_ L f a0 a1 a2 a3))
       ∧ (k0 = 0 →
        (Q (-1 : Int32) L f)))))
def wp_X4_endOfForm_44 (dA : Nat → ClassId) (zz : Nat → Nat) (Q : Int32 → List Nat → pF → Prop) (k2_ : List Nat → pF → Nat → Int32 → Nat → Int32 → Prop) (L : List Nat) (f : pF) (a0 : Nat) (a1 : Int32) (a2 : Nat) (a3 : Int32) (a4 : Int32) (a5 : Int32) : Prop :=
    (wp_X4_endOfForm_45 dA zz Q k2_ L f a0 a1 a2 a3 a4 a5 (0 : Int32))
def wp_X4_endOfForm_67 (dA : Nat → ClassId) (zz : Nat → Nat) (Q : Int32 → List Nat → pF → Prop) (L : List Nat) (f : pF) (a1 : Int32) (a2 : Nat) : Prop :=
    (gI L f 5 a2 1 (fun g_69 =>
      (Q (a1 + g_69) L f)))
def wp_X4_endOfForm_2 (dA : Nat → ClassId) (zz : Nat → Nat) (Q : Int32 → List Nat → pF → Prop) : Nat → List Nat → pF → Nat → Int32 → Nat → Int32 → Prop
  | 0, _, _, _, _, _, _ => False
  | n + 1, L, f, a0, a1, a2, a3 =>
    (gI L f 5 a2 1 (fun g_4 =>
      ((g_4 ≤ a3 →
        (wp_X4_endOfForm_67 dA zz Q  L f a1 a2))
       ∧ (¬ g_4 ≤ a3 →
        (isO L f 5 a2 ∧
          (wp_X4_at_0 dA zz (fun r_12 L_12 f_12 =>
            (isO L_12 f_12 5 a0 ∧
              (wp_X4_smallAt_0 dA zz (fun r_21 L_21 f_21 =>
                ((¬ r_12 = (32 : Int32) →
                  (wp_X4_endOfForm_44 dA zz Q (wp_X4_endOfForm_2 dA zz Q  n) L_21 f_21 a0 a1 a2 a3 r_12 r_21))
                 ∧ (r_12 = (32 : Int32) →
                  ((¬ r_21 = (10 : Int32) →
                    (wp_X4_endOfForm_44 dA zz Q (wp_X4_endOfForm_2 dA zz Q  n) L_21 f_21 a0 a1 a2 a3 r_12 r_21))
                   ∧ (r_21 = (10 : Int32) →
                    (wp_X4_endOfForm_45 dA zz Q (wp_X4_endOfForm_2 dA zz Q  n) L_21 f_21 a0 a1 a2 a3 r_12 r_21 (1 : Int32))))))) L_12 f_12 a0 (a1 + a3)))) L f a2 a3))))))
def wp_X4_endOfForm_0 (dA : Nat → ClassId) (zz : Nat → Nat) (Q : Int32 → List Nat → pF → Prop) (L : List Nat) (f : pF) (a0 : Nat) (a1 : Int32) (a2 : Nat) : Prop :=
    (∃ n9 : Nat, wp_X4_endOfForm_2 dA zz Q  n9 L f a0 a1 a2 (0 : Int32))
set_option maxHeartbeats 4000000 in
set_option maxRecDepth 100000 in
theorem tb_X4_endOfForm_61 {p : Program} {l : Launch} {e : Env} {s : State} {m : MethodId} {below : List Frame} {meth : Method} {c : Code} {args : Array Value} {dC : Nat → ClassId} {dI : Nat → Nat → Nat} {dA : Nat → ClassId} {zz : Nat → Nat} {base : Nat} {A : Nat → Prop} {Q : Int32 → List Nat → pF → Prop} (C : pCx p s m args meth c cX4_endOfForm 7 (some .int) RX4 wsX4_endOfForm A dC dI dA zz base) {k2_ : List Nat → pF → Nat → Int32 → Nat → Int32 → Prop} (h2_ : ∀ (L : List Nat) (f : pF) (a0 : Nat) (a1 : Int32) (a2 : Nat) (a3 : Int32), k2_ L f a0 a1 a2 a3 → pAt p l e rm_X4_endOfForm s m args below meth c dC dI A (MQ below (va_Qi (fun r (u : List Nat × pF) => Q r u.1 u.2) (pB dC dI dA A) A) args s 0 0 A) 0 0 2 7 [(0, .ref a0), (1, .int a1), (2, .ref a2), (3, .int a3)] [] L f) : ∀ (L : List Nat) (f : pF) (a0 : Nat) (a1 : Int32) (a2 : Nat) (a3 : Int32), wp_X4_endOfForm_61 dA zz Q k2_ L f a0 a1 a2 a3 → pAt p l e rm_X4_endOfForm s m args below meth c dC dI A (MQ below (va_Qi (fun r (u : List Nat × pF) => Q r u.1 u.2) (pB dC dI dA A) A) args s 0 0 A) 0 0 61 7 [(0, .ref a0), (1, .int a1), (2, .ref a2), (3, .int a3)] [] L f := by
  obtain ⟨hx, hb, hml, hown, hts, hr, hlocks, hA, hK, hB, hz, hN, hT⟩ := id C
  intro L f a0 a1 a2 a3 hw H locs hP hD hS ls hl
  rw [wp_X4_endOfForm_61] at hw
  obtain ⟨v3_61, ev3_61⟩ : ∃ y : Int32, y = a3 + (1 : Int32) := ⟨_, rfl⟩
  have hw := hw v3_61 ev3_61
  refine lv_iinc (v := v3_61) (lv' := [(3, .int v3_61), (0, .ref a0), (1, .int a1), (2, .ref a2)]) hx hb dX4_endOfForm_61 hl (k := 3) rfl (by rw [ev3_61]; rfl) (by decide) rfl (fun ls hl => ?_)
  refine lv_goto (tgt := 2) hx hb dX4_endOfForm_64 (by decide) ?_
  exact h2_ L f a0 a1 a2 v3_61 hw H locs hP hD hS ls (lv_sub hl [1, 2, 3, 0] rfl)
set_option maxHeartbeats 4000000 in
set_option maxRecDepth 100000 in
theorem tb_X4_endOfForm_45 {p : Program} {l : Launch} {e : Env} {s : State} {m : MethodId} {below : List Frame} {meth : Method} {c : Code} {args : Array Value} {dC : Nat → ClassId} {dI : Nat → Nat → Nat} {dA : Nat → ClassId} {zz : Nat → Nat} {base : Nat} {A : Nat → Prop} {Q : Int32 → List Nat → pF → Prop} (C : pCx p s m args meth c cX4_endOfForm 7 (some .int) RX4 wsX4_endOfForm A dC dI dA zz base) {k2_ : List Nat → pF → Nat → Int32 → Nat → Int32 → Prop} (h2_ : ∀ (L : List Nat) (f : pF) (a0 : Nat) (a1 : Int32) (a2 : Nat) (a3 : Int32), k2_ L f a0 a1 a2 a3 → pAt p l e rm_X4_endOfForm s m args below meth c dC dI A (MQ below (va_Qi (fun r (u : List Nat × pF) => Q r u.1 u.2) (pB dC dI dA A) A) args s 0 0 A) 0 0 2 7 [(0, .ref a0), (1, .int a1), (2, .ref a2), (3, .int a3)] [] L f) : ∀ (L : List Nat) (f : pF) (a0 : Nat) (a1 : Int32) (a2 : Nat) (a3 : Int32) (a4 : Int32) (a5 : Int32) (k0 : Int32), wp_X4_endOfForm_45 dA zz Q k2_ L f a0 a1 a2 a3 a4 a5 k0 → pAt p l e rm_X4_endOfForm s m args below meth c dC dI A (MQ below (va_Qi (fun r (u : List Nat × pF) => Q r u.1 u.2) (pB dC dI dA A) A) args s 0 0 A) 0 0 45 7 [(0, .ref a0), (1, .int a1), (2, .ref a2), (3, .int a3), (4, .int a4), (5, .int a5)] [.int k0] L f := by
  obtain ⟨hx, hb, hml, hown, hts, hr, hlocks, hA, hK, hB, hz, hN, hT⟩ := id C
  intro L f a0 a1 a2 a3 a4 a5 k0 hw H locs hP hD hS ls hl
  rw [wp_X4_endOfForm_45] at hw
  refine lv_istore (lv' := [(6, .int k0), (0, .ref a0), (1, .int a1), (2, .ref a2), (3, .int a3), (4, .int a4), (5, .int a5)]) hx hb dX4_endOfForm_45 hl (by decide) rfl (fun ls hl => ?_)
  refine lv_iload hx hb dX4_endOfForm_47 (lv_at hl 6 rfl) ?_
  refine lv_iload hx hb dX4_endOfForm_49 (lv_at hl 5 rfl) ?_
  refine lv_icmp_eq (tgt := 61) hx hb dX4_endOfForm_51 (by decide) (fun c_51 => ?_) (fun c_51 => ?_)
  · have hw := hw.1 c_51
    exact tb_X4_endOfForm_61 C h2_ L f a0 a1 a2 a3 hw H locs hP hD hS ls (lv_sub hl [1, 2, 3, 4] rfl)
  · have hw := hw.2 c_51
    refine lv_iload hx hb dX4_endOfForm_54 (lv_at hl 0 rfl) ?_
    refine lv_if_ne (tgt := 61) hx hb dX4_endOfForm_56 (by decide) (fun c_56 => ?_) (fun c_56 => ?_)
    · have hw := hw.1 c_56
      exact tb_X4_endOfForm_61 C h2_ L f a0 a1 a2 a3 hw H locs hP hD hS ls (lv_sub hl [1, 2, 3, 4] rfl)
    · have hw := hw.2 c_56
      refine lv_iconst (v := -1) hx hb dX4_endOfForm_59 (by decide) ?_
      exact W.iret (v := (-1 : Int32)) hx hb hr (fun t ht hW => ⟨⟨(-1 : Int32), (L, f), rfl, hw, by rw [ht]; exact hP, va_K.moved hW.alike hK, hD⟩, hS.F ht⟩) hS.2.2 dX4_endOfForm_60
set_option maxHeartbeats 4000000 in
set_option maxRecDepth 100000 in
theorem tb_X4_endOfForm_44 {p : Program} {l : Launch} {e : Env} {s : State} {m : MethodId} {below : List Frame} {meth : Method} {c : Code} {args : Array Value} {dC : Nat → ClassId} {dI : Nat → Nat → Nat} {dA : Nat → ClassId} {zz : Nat → Nat} {base : Nat} {A : Nat → Prop} {Q : Int32 → List Nat → pF → Prop} (C : pCx p s m args meth c cX4_endOfForm 7 (some .int) RX4 wsX4_endOfForm A dC dI dA zz base) {k2_ : List Nat → pF → Nat → Int32 → Nat → Int32 → Prop} (h2_ : ∀ (L : List Nat) (f : pF) (a0 : Nat) (a1 : Int32) (a2 : Nat) (a3 : Int32), k2_ L f a0 a1 a2 a3 → pAt p l e rm_X4_endOfForm s m args below meth c dC dI A (MQ below (va_Qi (fun r (u : List Nat × pF) => Q r u.1 u.2) (pB dC dI dA A) A) args s 0 0 A) 0 0 2 7 [(0, .ref a0), (1, .int a1), (2, .ref a2), (3, .int a3)] [] L f) : ∀ (L : List Nat) (f : pF) (a0 : Nat) (a1 : Int32) (a2 : Nat) (a3 : Int32) (a4 : Int32) (a5 : Int32), wp_X4_endOfForm_44 dA zz Q k2_ L f a0 a1 a2 a3 a4 a5 → pAt p l e rm_X4_endOfForm s m args below meth c dC dI A (MQ below (va_Qi (fun r (u : List Nat × pF) => Q r u.1 u.2) (pB dC dI dA A) A) args s 0 0 A) 0 0 44 7 [(0, .ref a0), (1, .int a1), (2, .ref a2), (3, .int a3), (4, .int a4), (5, .int a5)] [] L f := by
  obtain ⟨hx, hb, hml, hown, hts, hr, hlocks, hA, hK, hB, hz, hN, hT⟩ := id C
  intro L f a0 a1 a2 a3 a4 a5 hw H locs hP hD hS ls hl
  rw [wp_X4_endOfForm_44] at hw
  refine lv_iconst (v := 0) hx hb dX4_endOfForm_44 (by decide) ?_
  exact tb_X4_endOfForm_45 C h2_ L f a0 a1 a2 a3 a4 a5 (0 : Int32) hw H locs hP hD hS ls (lv_sub hl [0, 1, 2, 3, 4, 5] rfl)
set_option maxHeartbeats 4000000 in
set_option maxRecDepth 100000 in
theorem tb_X4_endOfForm_67 {p : Program} {l : Launch} {e : Env} {s : State} {m : MethodId} {below : List Frame} {meth : Method} {c : Code} {args : Array Value} {dC : Nat → ClassId} {dI : Nat → Nat → Nat} {dA : Nat → ClassId} {zz : Nat → Nat} {base : Nat} {A : Nat → Prop} {Q : Int32 → List Nat → pF → Prop} (C : pCx p s m args meth c cX4_endOfForm 7 (some .int) RX4 wsX4_endOfForm A dC dI dA zz base) : ∀ (L : List Nat) (f : pF) (a1 : Int32) (a2 : Nat), wp_X4_endOfForm_67 dA zz Q  L f a1 a2 → pAt p l e rm_X4_endOfForm s m args below meth c dC dI A (MQ below (va_Qi (fun r (u : List Nat × pF) => Q r u.1 u.2) (pB dC dI dA A) A) args s 0 0 A) 0 0 67 7 [(1, .int a1), (2, .ref a2)] [] L f := by
  obtain ⟨hx, hb, hml, hown, hts, hr, hlocks, hA, hK, hB, hz, hN, hT⟩ := id C
  intro L f a1 a2 hw H locs hP hD hS ls hl
  rw [wp_X4_endOfForm_67] at hw
  refine lv_iload_n hx hb dX4_endOfForm_67 rfl (lv_at hl 0 rfl) ?_
  refine lv_aload_n hx hb dX4_endOfForm_68 rfl (lv_at hl 1 rfl) ?_
  obtain ⟨fs_69, g_69, ⟨hL9, hf9, hn9⟩, hw⟩ := hw
  refine va_get (D := (dC, dI)) (ci := 5) (v := .int g_69) (C := RX4) (T := TX4) (N := 2) hx hb hts iw_X4_endOfForm_RX4 hown hK (p_one hP hL9 hf9) 0 rfl rfl 1 (by decide) (hts _ lk_X4_endOfForm_21) (fun _ h9 => h9) hn9 dX4_endOfForm_69 ?_
  refine lv_iadd hx hb dX4_endOfForm_72 ?_
  exact W.iret (v := (a1 + g_69)) hx hb hr (fun t ht hW => ⟨⟨(a1 + g_69), (L, f), rfl, hw, by rw [ht]; exact hP, va_K.moved hW.alike hK, hD⟩, hS.F ht⟩) hS.2.2 dX4_endOfForm_73
set_option maxHeartbeats 4000000 in
set_option maxRecDepth 100000 in
theorem tb_X4_endOfForm_2 {p : Program} {l : Launch} {e : Env} {s : State} {m : MethodId} {below : List Frame} {meth : Method} {c : Code} {args : Array Value} {dC : Nat → ClassId} {dI : Nat → Nat → Nat} {dA : Nat → ClassId} {zz : Nat → Nat} {base : Nat} {A : Nat → Prop} {Q : Int32 → List Nat → pF → Prop} (C : pCx p s m args meth c cX4_endOfForm 7 (some .int) RX4 wsX4_endOfForm A dC dI dA zz base) : ∀ (n : Nat) (L : List Nat) (f : pF) (a0 : Nat) (a1 : Int32) (a2 : Nat) (a3 : Int32), wp_X4_endOfForm_2 dA zz Q  n L f a0 a1 a2 a3 → pAt p l e rm_X4_endOfForm s m args below meth c dC dI A (MQ below (va_Qi (fun r (u : List Nat × pF) => Q r u.1 u.2) (pB dC dI dA A) A) args s 0 0 A) 0 0 2 7 [(0, .ref a0), (1, .int a1), (2, .ref a2), (3, .int a3)] [] L f := by
  obtain ⟨hx, hb, hml, hown, hts, hr, hlocks, hA, hK, hB, hz, hN, hT⟩ := id C
  intro n
  induction n with
  | zero => intro L f a0 a1 a2 a3 hw; exact hw.elim
  | succ n ih =>
    intro L f a0 a1 a2 a3 hw H locs hP hD hS ls hl
    rw [wp_X4_endOfForm_2] at hw
    refine lv_iload_n hx hb dX4_endOfForm_2 rfl (lv_at hl 3 rfl) ?_
    refine lv_aload_n hx hb dX4_endOfForm_3 rfl (lv_at hl 2 rfl) ?_
    obtain ⟨fs_4, g_4, ⟨hL9, hf9, hn9⟩, hw⟩ := hw
    refine va_get (D := (dC, dI)) (ci := 5) (v := .int g_4) (C := RX4) (T := TX4) (N := 2) hx hb hts iw_X4_endOfForm_RX4 hown hK (p_one hP hL9 hf9) 0 rfl rfl 1 (by decide) (hts _ lk_X4_endOfForm_21) (fun _ h9 => h9) hn9 dX4_endOfForm_4 ?_
    refine lv_icmp_ge (tgt := 67) hx hb dX4_endOfForm_7 (by decide) (fun c_7 => ?_) (fun c_7 => ?_)
    · have hw := hw.1 c_7
      exact tb_X4_endOfForm_67 C  L f a1 a2 hw H locs hP hD hS ls (lv_sub hl [1, 2] rfl)
    · have hw := hw.2 c_7
      refine lv_aload_n hx hb dX4_endOfForm_10 rfl (lv_at hl 2 rfl) ?_
      refine lv_iload_n hx hb dX4_endOfForm_11 rfl (lv_at hl 3 rfl) ?_
      obtain ⟨hO9, hw⟩ := hw
      have hFc := p_free hD hS hA
      refine va_calli (va_runV (As := [.int a3]) (rest := []) ⟨hx, hb, hml, hown, hts⟩ (c_X4_at l dC dI dA zz base L f H.size a2 a3 _ hw) (cwV 1 hts gX4_endOfForm_X4_at rfl rfl rfl (by decide +kernel) ⟨by decide, by decide⟩) (pPreV [.int a3] (ci := 5) rfl hO9 hK hP hD hS hB hz hN hT) rfl rfl hl.1 rfl (lv_room (Nat.le_of_ble_eq_true rfl)) dX4_endOfForm_12 ⟨by decide, by decide⟩) hS (fun q _ h => hFc q h) hFc (fun r_12 u t H1 locs ht hvm hw hB1 hz1 hk1 hS => ?_)
      obtain ⟨L_12, f_12⟩ := u
      obtain ⟨hP, -, hD1⟩ := hB1
      rw [ht] at hP
      have hw := id hw
      have hP : va_P (dC, dI) vwCl (va_pl L_12 f_12) H1 := hP
      have hD : va_D A (va_pl L_12 f_12) := p_gain hD1 hFc
      generalize H1 = H at hP hS ⊢
      refine lv_istore (lv' := [(4, .int r_12), (0, .ref a0), (1, .int a1), (2, .ref a2), (3, .int a3)]) hx hb dX4_endOfForm_15 hl (by decide) rfl (fun ls hl => ?_)
      refine lv_aload_n hx hb dX4_endOfForm_17 rfl (lv_at hl 1 rfl) ?_
      refine lv_iload_n hx hb dX4_endOfForm_18 rfl (lv_at hl 2 rfl) ?_
      refine lv_iload_n hx hb dX4_endOfForm_19 rfl (lv_at hl 4 rfl) ?_
      refine lv_iadd hx hb dX4_endOfForm_20 ?_
      obtain ⟨hO9, hw⟩ := hw
      have hFc := p_free hD hS hA
      refine va_calli (va_runV (As := [.int (a1 + a3)]) (rest := []) ⟨hx, hb, hml, hown, hts⟩ (c_X4_smallAt l dC dI dA zz base L_12 f_12 H.size a0 (a1 + a3) _ hw) (cwV 1 hts gX4_endOfForm_X4_smallAt rfl rfl rfl (by decide +kernel) ⟨by decide, by decide⟩) (pPreV [.int (a1 + a3)] (ci := 5) rfl hO9 hK hP hD hS hB hz hN hT) rfl rfl hl.1 rfl (lv_room (Nat.le_of_ble_eq_true rfl)) dX4_endOfForm_21 ⟨by decide, by decide⟩) hS (fun q _ h => hFc q h) hFc (fun r_21 u t H1 locs ht hvm hw hB1 hz1 hk1 hS => ?_)
      obtain ⟨L_21, f_21⟩ := u
      obtain ⟨hP, -, hD1⟩ := hB1
      rw [ht] at hP
      have hw := id hw
      have hP : va_P (dC, dI) vwCl (va_pl L_21 f_21) H1 := hP
      have hD : va_D A (va_pl L_21 f_21) := p_gain hD1 hFc
      generalize H1 = H at hP hS ⊢
      refine lv_istore (lv' := [(5, .int r_21), (4, .int r_12), (0, .ref a0), (1, .int a1), (2, .ref a2), (3, .int a3)]) hx hb dX4_endOfForm_24 hl (by decide) rfl (fun ls hl => ?_)
      refine lv_iload hx hb dX4_endOfForm_26 (lv_at hl 1 rfl) ?_
      refine lv_bipush (v := 32) hx hb dX4_endOfForm_28 (by decide) ?_
      refine lv_icmp_ne (tgt := 44) hx hb dX4_endOfForm_30 (by decide) (fun c_30 => ?_) (fun c_30 => ?_)
      · have hw := hw.1 c_30
        exact tb_X4_endOfForm_44 C ih L_21 f_21 a0 a1 a2 a3 r_12 r_21 hw H locs hP hD hS ls (lv_sub hl [2, 3, 4, 5, 1, 0] rfl)
      · have hw := hw.2 c_30
        refine lv_iload hx hb dX4_endOfForm_33 (lv_at hl 0 rfl) ?_
        refine lv_bipush (v := 10) hx hb dX4_endOfForm_35 (by decide) ?_
        refine lv_icmp_ne (tgt := 44) hx hb dX4_endOfForm_37 (by decide) (fun c_37 => ?_) (fun c_37 => ?_)
        · have hw := hw.1 c_37
          exact tb_X4_endOfForm_44 C ih L_21 f_21 a0 a1 a2 a3 r_12 r_21 hw H locs hP hD hS ls (lv_sub hl [2, 3, 4, 5, 1, 0] rfl)
        · have hw := hw.2 c_37
          refine lv_iconst (v := 1) hx hb dX4_endOfForm_40 (by decide) ?_
          refine lv_goto (tgt := 45) hx hb dX4_endOfForm_41 (by decide) ?_
          exact tb_X4_endOfForm_45 C ih L_21 f_21 a0 a1 a2 a3 r_12 r_21 (1 : Int32) hw H locs hP hD hS ls (lv_sub hl [2, 3, 4, 5, 1, 0] rfl)
set_option maxHeartbeats 4000000 in
set_option maxRecDepth 100000 in
theorem tb_X4_endOfForm_0 {p : Program} {l : Launch} {e : Env} {s : State} {m : MethodId} {below : List Frame} {meth : Method} {c : Code} {args : Array Value} {dC : Nat → ClassId} {dI : Nat → Nat → Nat} {dA : Nat → ClassId} {zz : Nat → Nat} {base : Nat} {A : Nat → Prop} {Q : Int32 → List Nat → pF → Prop} (C : pCx p s m args meth c cX4_endOfForm 7 (some .int) RX4 wsX4_endOfForm A dC dI dA zz base) : ∀ (L : List Nat) (f : pF) (a0 : Nat) (a1 : Int32) (a2 : Nat), wp_X4_endOfForm_0 dA zz Q  L f a0 a1 a2 → pAt p l e rm_X4_endOfForm s m args below meth c dC dI A (MQ below (va_Qi (fun r (u : List Nat × pF) => Q r u.1 u.2) (pB dC dI dA A) A) args s 0 0 A) 0 0 0 7 [(0, .ref a0), (1, .int a1), (2, .ref a2)] [] L f := by
  obtain ⟨hx, hb, hml, hown, hts, hr, hlocks, hA, hK, hB, hz, hN, hT⟩ := id C
  intro L f a0 a1 a2 hw H locs hP hD hS ls hl
  rw [wp_X4_endOfForm_0] at hw
  refine lv_iconst (v := 0) hx hb dX4_endOfForm_0 (by decide) ?_
  refine lv_istore_n (lv' := [(3, .int (0 : Int32)), (0, .ref a0), (1, .int a1), (2, .ref a2)]) hx hb dX4_endOfForm_1 rfl hl (by decide) rfl (fun ls hl => ?_)
  obtain ⟨n9, hw⟩ := hw
  exact tb_X4_endOfForm_2 C  n9 L f a0 a1 a2 (0 : Int32) hw H locs hP hD hS ls (lv_sub hl [1, 2, 3, 0] rfl)
set_option maxHeartbeats 4000000 in
set_option maxRecDepth 100000 in
theorem c_X4_endOfForm (l : Launch) (dC : Nat → ClassId) (dI : Nat → Nat → Nat) (dA : Nat → ClassId) (zz : Nat → Nat) (base : Nat) (L : List Nat) (f : pF) (sz : Nat) (a0 : Nat) (a1 : Int32) (a2 : Nat) (Q : Int32 → List Nat → pF → Prop) (hw : wp_X4_endOfForm_0 dA zz Q L f a0 a1 a2) : Met l yX4_endOfForm wsX4_endOfForm rm_X4_endOfForm (va_Pc [.ref a0, .int a1, .ref a2] (pPre dC dI dA zz base L f sz)) (va_Qi (fun r (u : List Nat × pF) => Q r u.1 u.2) (pB dC dI dA (va_A (va_pl L f) sz)) (va_A (va_pl L f) sz)) 0 0 (va_A (va_pl L f) sz) := by
  refine Met.ofW (cc := cX4_endOfForm) (maxL := 7) (ret := (some .int)) (by decide) rfl ?_
  intro p e s m args below meth c s₁ B hml hv
  obtain ⟨rfl, hsz, hP, hK, hD0, hz, hN, hT⟩ := hv
  subst hsz
  have hl := lv_entry ([.ref a0, .int a1, .ref a2]) (n := 7) (Nat.le_of_ble_eq_true rfl)
  rw [lg_entry_eq]
  generalize (lg_sl ([.ref a0, .int a1, .ref a2]) ++ List.replicate (7 - (lg_sl ([.ref a0, .int a1, .ref a2])).length) Slot.unset).toArray = ls at hl ⊢
  exact tb_X4_endOfForm_0 (Q := Q) (p := p) ⟨B.exec, B.bytes, hml, findClass_of_methodNamed B.named, atoms_spec (ws := wsX4_endOfForm) B.pre, B.returns, B.notSynchronized, fun q h => Or.inr h, hK, pAB hD0 hz, hz, hN, hT⟩ L f a0 a1 a2 hw s.heap [] hP (hD0.self (sz := s.heap.size)) va_S.rf ls (lv_sub hl [0, 1, 2] rfl)
theorem iw_X4_sameAs_RX4 : ∀ w ∈ u_ws RX4 TX4 2, w ∈ wsX4_sameAs := by decide +kernel
theorem lk_X4_sameAs_21 : Cond.fieldLink RX4 21 "TermKeeper$Row" "size" "I" ∈ wsX4_sameAs := by decide +kernel
abbrev rm_X4_sameAs : Room := { frames := 3, cells := 0, slots := 0, locals := 69 }
def wp_X4_sameAs_0 (dA : Nat → ClassId) (zz : Nat → Nat) (Q : Int32 → List Nat → pF → Prop) (L : List Nat) (f : pF) (a0 : Nat) (a1 : Nat) : Prop :=
    (gI L f 5 a0 1 (fun g_1 =>
      (gI L f 5 a1 1 (fun g_5 =>
        ((¬ g_1 = g_5 →
          (Q (0 : Int32) L f))
         ∧ (g_1 = g_5 →
          (isO L f 5 a0 ∧
            (wp_X4_endOfForm_0 dA zz (fun r_14 L_14 f_14 =>
              (gI L_14 f_14 5 a0 1 (fun g_18 =>
                ((¬ r_14 = g_18 →
                  (Q (0 : Int32) L_14 f_14))
                 ∧ (r_14 = g_18 →
                  (Q (1 : Int32) L_14 f_14)))))) L f a0 (0 : Int32) a1))))))))
set_option maxHeartbeats 4000000 in
set_option maxRecDepth 100000 in
theorem tb_X4_sameAs_0 {p : Program} {l : Launch} {e : Env} {s : State} {m : MethodId} {below : List Frame} {meth : Method} {c : Code} {args : Array Value} {dC : Nat → ClassId} {dI : Nat → Nat → Nat} {dA : Nat → ClassId} {zz : Nat → Nat} {base : Nat} {A : Nat → Prop} {Q : Int32 → List Nat → pF → Prop} (C : pCx p s m args meth c cX4_sameAs 2 (some .boolean) RX4 wsX4_sameAs A dC dI dA zz base) : ∀ (L : List Nat) (f : pF) (a0 : Nat) (a1 : Nat), wp_X4_sameAs_0 dA zz Q  L f a0 a1 → pAt p l e rm_X4_sameAs s m args below meth c dC dI A (MQ below (va_Qi (fun r (u : List Nat × pF) => Q r u.1 u.2) (pB dC dI dA A) A) args s 0 0 A) 0 0 0 2 [(0, .ref a0), (1, .ref a1)] [] L f := by
  obtain ⟨hx, hb, hml, hown, hts, hr, hlocks, hA, hK, hB, hz, hN, hT⟩ := id C
  intro L f a0 a1 hw H locs hP hD hS ls hl
  rw [wp_X4_sameAs_0] at hw
  refine lv_aload_n hx hb dX4_sameAs_0 rfl (lv_at hl 0 rfl) ?_
  obtain ⟨fs_1, g_1, ⟨hL9, hf9, hn9⟩, hw⟩ := hw
  refine va_get (D := (dC, dI)) (ci := 5) (v := .int g_1) (C := RX4) (T := TX4) (N := 2) hx hb hts iw_X4_sameAs_RX4 hown hK (p_one hP hL9 hf9) 0 rfl rfl 1 (by decide) (hts _ lk_X4_sameAs_21) (fun _ h9 => h9) hn9 dX4_sameAs_1 ?_
  refine lv_aload_n hx hb dX4_sameAs_4 rfl (lv_at hl 1 rfl) ?_
  obtain ⟨fs_5, g_5, ⟨hL9, hf9, hn9⟩, hw⟩ := hw
  refine va_get (D := (dC, dI)) (ci := 5) (v := .int g_5) (C := RX4) (T := TX4) (N := 2) hx hb hts iw_X4_sameAs_RX4 hown hK (p_one hP hL9 hf9) 0 rfl rfl 1 (by decide) (hts _ lk_X4_sameAs_21) (fun _ h9 => h9) hn9 dX4_sameAs_5 ?_
  refine lv_icmp_ne (tgt := 28) hx hb dX4_sameAs_8 (by decide) (fun c_8 => ?_) (fun c_8 => ?_)
  · have hw := hw.1 c_8
    refine lv_iconst (v := 0) hx hb dX4_sameAs_28 (by decide) ?_
    exact W.zret (v := (0 : Int32)) hx hb hr rfl (fun t ht hW => ⟨⟨(0 : Int32), (L, f), rfl, hw, by rw [ht]; exact hP, va_K.moved hW.alike hK, hD⟩, hS.F ht⟩) hS.2.2 dX4_sameAs_29
  · have hw := hw.2 c_8
    refine lv_aload_n hx hb dX4_sameAs_11 rfl (lv_at hl 0 rfl) ?_
    refine lv_iconst (v := 0) hx hb dX4_sameAs_12 (by decide) ?_
    refine lv_aload_n hx hb dX4_sameAs_13 rfl (lv_at hl 1 rfl) ?_
    obtain ⟨hO9, hw⟩ := hw
    have hFc := p_free hD hS hA
    refine va_calli (va_runV (As := [.int (0 : Int32), .ref a1]) (rest := []) ⟨hx, hb, hml, hown, hts⟩ (c_X4_endOfForm l dC dI dA zz base L f H.size a0 (0 : Int32) a1 _ hw) (cwV 2 hts gX4_sameAs_X4_endOfForm rfl rfl rfl (by decide +kernel) ⟨by decide, by decide⟩) (pPreV [.int (0 : Int32), .ref a1] (ci := 5) rfl hO9 hK hP hD hS hB hz hN hT) rfl rfl hl.1 rfl (lv_room (Nat.le_of_ble_eq_true rfl)) dX4_sameAs_14 ⟨by decide, by decide⟩) hS (fun q _ h => hFc q h) hFc (fun r_14 u t H1 locs ht hvm hw hB1 hz1 hk1 hS => ?_)
    obtain ⟨L_14, f_14⟩ := u
    obtain ⟨hP, -, hD1⟩ := hB1
    rw [ht] at hP
    have hw := id hw
    have hP : va_P (dC, dI) vwCl (va_pl L_14 f_14) H1 := hP
    have hD : va_D A (va_pl L_14 f_14) := p_gain hD1 hFc
    generalize H1 = H at hP hS ⊢
    refine lv_aload_n hx hb dX4_sameAs_17 rfl (lv_at hl 0 rfl) ?_
    obtain ⟨fs_18, g_18, ⟨hL9, hf9, hn9⟩, hw⟩ := hw
    refine va_get (D := (dC, dI)) (ci := 5) (v := .int g_18) (C := RX4) (T := TX4) (N := 2) hx hb hts iw_X4_sameAs_RX4 hown hK (p_one hP hL9 hf9) 0 rfl rfl 1 (by decide) (hts _ lk_X4_sameAs_21) (fun _ h9 => h9) hn9 dX4_sameAs_18 ?_
    refine lv_icmp_ne (tgt := 28) hx hb dX4_sameAs_21 (by decide) (fun c_21 => ?_) (fun c_21 => ?_)
    · have hw := hw.1 c_21
      refine lv_iconst (v := 0) hx hb dX4_sameAs_28 (by decide) ?_
      exact W.zret (v := (0 : Int32)) hx hb hr rfl (fun t ht hW => ⟨⟨(0 : Int32), (L_14, f_14), rfl, hw, by rw [ht]; exact hP, va_K.moved hW.alike hK, hD⟩, hS.F ht⟩) hS.2.2 dX4_sameAs_29
    · have hw := hw.2 c_21
      refine lv_iconst (v := 1) hx hb dX4_sameAs_24 (by decide) ?_
      refine lv_goto (tgt := 29) hx hb dX4_sameAs_25 (by decide) ?_
      exact W.zret (v := (1 : Int32)) hx hb hr rfl (fun t ht hW => ⟨⟨(1 : Int32), (L_14, f_14), rfl, hw, by rw [ht]; exact hP, va_K.moved hW.alike hK, hD⟩, hS.F ht⟩) hS.2.2 dX4_sameAs_29
set_option maxHeartbeats 4000000 in
set_option maxRecDepth 100000 in
theorem c_X4_sameAs (l : Launch) (dC : Nat → ClassId) (dI : Nat → Nat → Nat) (dA : Nat → ClassId) (zz : Nat → Nat) (base : Nat) (L : List Nat) (f : pF) (sz : Nat) (a0 : Nat) (a1 : Nat) (Q : Int32 → List Nat → pF → Prop) (hw : wp_X4_sameAs_0 dA zz Q L f a0 a1) : Met l yX4_sameAs wsX4_sameAs rm_X4_sameAs (va_Pc [.ref a0, .ref a1] (pPre dC dI dA zz base L f sz)) (va_Qi (fun r (u : List Nat × pF) => Q r u.1 u.2) (pB dC dI dA (va_A (va_pl L f) sz)) (va_A (va_pl L f) sz)) 0 0 (va_A (va_pl L f) sz) := by
  refine Met.ofW (cc := cX4_sameAs) (maxL := 2) (ret := (some .boolean)) (by decide) rfl ?_
  intro p e s m args below meth c s₁ B hml hv
  obtain ⟨rfl, hsz, hP, hK, hD0, hz, hN, hT⟩ := hv
  subst hsz
  have hl := lv_entry ([.ref a0, .ref a1]) (n := 2) (Nat.le_of_ble_eq_true rfl)
  rw [lg_entry_eq]
  generalize (lg_sl ([.ref a0, .ref a1]) ++ List.replicate (2 - (lg_sl ([.ref a0, .ref a1])).length) Slot.unset).toArray = ls at hl ⊢
  exact tb_X4_sameAs_0 (Q := Q) (p := p) ⟨B.exec, B.bytes, hml, findClass_of_methodNamed B.named, atoms_spec (ws := wsX4_sameAs) B.pre, B.returns, B.notSynchronized, fun q h => Or.inr h, hK, pAB hD0 hz, hz, hN, hT⟩ L f a0 a1 hw s.heap [] hP (hD0.self (sz := s.heap.size)) va_S.rf ls (lv_sub hl [0, 1] rfl)
theorem iw_X4_wordsOfTerm_RX4 : ∀ w ∈ u_ws RX4 TX4 2, w ∈ wsX4_wordsOfTerm := by decide +kernel
theorem lk_X4_wordsOfTerm_21 : Cond.fieldLink RX4 21 "TermKeeper$Row" "size" "I" ∈ wsX4_wordsOfTerm := by decide +kernel
abbrev rm_X4_wordsOfTerm : Room := { frames := 3, cells := 0, slots := 0, locals := 61 }
def wp_X4_wordsOfTerm_46 (dA : Nat → ClassId) (zz : Nat → Nat) (Q : Int32 → List Nat → pF → Prop) (k6_ : List Nat → pF → Nat → Int32 → Int32 → Int32 → Prop) (L : List Nat) (f : pF) (a0 : Nat) (a1 : Int32) (a2 : Int32) (a3 : Int32) : Prop :=
    (∀ v3_46 : Int32, v3_46 = a3 + (1 : Int32) →
      (k6_ L f a0 a1 a2 v3_46))
def wp_X4_wordsOfTerm_52 (dA : Nat → ClassId) (zz : Nat → Nat) (Q : Int32 → List Nat → pF → Prop) (L : List Nat) (f : pF) (a1 : Int32) : Prop :=
    (((3 : Int32) < a1 →
      (Q (0 : Int32) L f))
     ∧ (¬ (3 : Int32) < a1 →
      (Q a1 L f)))
def wp_X4_wordsOfTerm_6 (dA : Nat → ClassId) (zz : Nat → Nat) (Q : Int32 → List Nat → pF → Prop) : Nat → List Nat → pF → Nat → Int32 → Int32 → Int32 → Prop
  | 0, _, _, _, _, _, _ => False
  | n + 1, L, f, a0, a1, a2, a3 =>
    (gI L f 5 a0 1 (fun g_8 =>
      ((g_8 < a3 →
        (wp_X4_wordsOfTerm_52 dA zz Q  L f a1))
       ∧ (¬ g_8 < a3 →
        (isO L f 5 a0 ∧
          (wp_X4_letterAt_0 dA zz (fun r_16 L_16 f_16 =>
            ((r_16 = 0 →
              ((a2 < (1 : Int32) →
                (Q (0 : Int32) L_16 f_16))
               ∧ (¬ a2 < (1 : Int32) →
                ((a2 ≤ (12 : Int32) →
                  (∀ v1_41 : Int32, v1_41 = a1 + (1 : Int32) →
                    (wp_X4_wordsOfTerm_46 dA zz Q (wp_X4_wordsOfTerm_6 dA zz Q  n) L_16 f_16 a0 v1_41 (0 : Int32) a3)))
                 ∧ (¬ a2 ≤ (12 : Int32) →
                  (Q (0 : Int32) L_16 f_16))))))
             ∧ (¬ r_16 = 0 →
              (∀ v2_22 : Int32, v2_22 = a2 + (1 : Int32) →
                (wp_X4_wordsOfTerm_46 dA zz Q (wp_X4_wordsOfTerm_6 dA zz Q  n) L_16 f_16 a0 a1 v2_22 a3))))) L f a0 a3))))))
def wp_X4_wordsOfTerm_0 (dA : Nat → ClassId) (zz : Nat → Nat) (Q : Int32 → List Nat → pF → Prop) (L : List Nat) (f : pF) (a0 : Nat) : Prop :=
    (∃ n9 : Nat, wp_X4_wordsOfTerm_6 dA zz Q  n9 L f a0 (0 : Int32) (0 : Int32) (0 : Int32))
set_option maxHeartbeats 4000000 in
set_option maxRecDepth 100000 in
theorem tb_X4_wordsOfTerm_46 {p : Program} {l : Launch} {e : Env} {s : State} {m : MethodId} {below : List Frame} {meth : Method} {c : Code} {args : Array Value} {dC : Nat → ClassId} {dI : Nat → Nat → Nat} {dA : Nat → ClassId} {zz : Nat → Nat} {base : Nat} {A : Nat → Prop} {Q : Int32 → List Nat → pF → Prop} (C : pCx p s m args meth c cX4_wordsOfTerm 4 (some .int) RX4 wsX4_wordsOfTerm A dC dI dA zz base) {k6_ : List Nat → pF → Nat → Int32 → Int32 → Int32 → Prop} (h6_ : ∀ (L : List Nat) (f : pF) (a0 : Nat) (a1 : Int32) (a2 : Int32) (a3 : Int32), k6_ L f a0 a1 a2 a3 → pAt p l e rm_X4_wordsOfTerm s m args below meth c dC dI A (MQ below (va_Qi (fun r (u : List Nat × pF) => Q r u.1 u.2) (pB dC dI dA A) A) args s 0 0 A) 0 0 6 4 [(0, .ref a0), (1, .int a1), (2, .int a2), (3, .int a3)] [] L f) : ∀ (L : List Nat) (f : pF) (a0 : Nat) (a1 : Int32) (a2 : Int32) (a3 : Int32), wp_X4_wordsOfTerm_46 dA zz Q k6_ L f a0 a1 a2 a3 → pAt p l e rm_X4_wordsOfTerm s m args below meth c dC dI A (MQ below (va_Qi (fun r (u : List Nat × pF) => Q r u.1 u.2) (pB dC dI dA A) A) args s 0 0 A) 0 0 46 4 [(0, .ref a0), (1, .int a1), (2, .int a2), (3, .int a3)] [] L f := by
  obtain ⟨hx, hb, hml, hown, hts, hr, hlocks, hA, hK, hB, hz, hN, hT⟩ := id C
  intro L f a0 a1 a2 a3 hw H locs hP hD hS ls hl
  rw [wp_X4_wordsOfTerm_46] at hw
  obtain ⟨v3_46, ev3_46⟩ : ∃ y : Int32, y = a3 + (1 : Int32) := ⟨_, rfl⟩
  have hw := hw v3_46 ev3_46
  refine lv_iinc (v := v3_46) (lv' := [(3, .int v3_46), (0, .ref a0), (1, .int a1), (2, .int a2)]) hx hb dX4_wordsOfTerm_46 hl (k := 3) rfl (by rw [ev3_46]; rfl) (by decide) rfl (fun ls hl => ?_)
  refine lv_goto (tgt := 6) hx hb dX4_wordsOfTerm_49 (by decide) ?_
  exact h6_ L f a0 a1 a2 v3_46 hw H locs hP hD hS ls (lv_sub hl [1, 2, 3, 0] rfl)
set_option maxHeartbeats 4000000 in
set_option maxRecDepth 100000 in
theorem tb_X4_wordsOfTerm_52 {p : Program} {l : Launch} {e : Env} {s : State} {m : MethodId} {below : List Frame} {meth : Method} {c : Code} {args : Array Value} {dC : Nat → ClassId} {dI : Nat → Nat → Nat} {dA : Nat → ClassId} {zz : Nat → Nat} {base : Nat} {A : Nat → Prop} {Q : Int32 → List Nat → pF → Prop} (C : pCx p s m args meth c cX4_wordsOfTerm 4 (some .int) RX4 wsX4_wordsOfTerm A dC dI dA zz base) : ∀ (L : List Nat) (f : pF) (a1 : Int32), wp_X4_wordsOfTerm_52 dA zz Q  L f a1 → pAt p l e rm_X4_wordsOfTerm s m args below meth c dC dI A (MQ below (va_Qi (fun r (u : List Nat × pF) => Q r u.1 u.2) (pB dC dI dA A) A) args s 0 0 A) 0 0 52 4 [(1, .int a1)] [] L f := by
  obtain ⟨hx, hb, hml, hown, hts, hr, hlocks, hA, hK, hB, hz, hN, hT⟩ := id C
  intro L f a1 hw H locs hP hD hS ls hl
  rw [wp_X4_wordsOfTerm_52] at hw
  refine lv_iload_n hx hb dX4_wordsOfTerm_52 rfl (lv_at hl 0 rfl) ?_
  refine lv_iconst (v := 3) hx hb dX4_wordsOfTerm_53 (by decide) ?_
  refine lv_icmp_gt (tgt := 61) hx hb dX4_wordsOfTerm_54 (by decide) (fun c_54 => ?_) (fun c_54 => ?_)
  · have hw := hw.1 c_54
    refine lv_iconst (v := 0) hx hb dX4_wordsOfTerm_61 (by decide) ?_
    exact W.iret (v := (0 : Int32)) hx hb hr (fun t ht hW => ⟨⟨(0 : Int32), (L, f), rfl, hw, by rw [ht]; exact hP, va_K.moved hW.alike hK, hD⟩, hS.F ht⟩) hS.2.2 dX4_wordsOfTerm_62
  · have hw := hw.2 c_54
    refine lv_iload_n hx hb dX4_wordsOfTerm_57 rfl (lv_at hl 0 rfl) ?_
    refine lv_goto (tgt := 62) hx hb dX4_wordsOfTerm_58 (by decide) ?_
    exact W.iret (v := a1) hx hb hr (fun t ht hW => ⟨⟨a1, (L, f), rfl, hw, by rw [ht]; exact hP, va_K.moved hW.alike hK, hD⟩, hS.F ht⟩) hS.2.2 dX4_wordsOfTerm_62
set_option maxHeartbeats 4000000 in
set_option maxRecDepth 100000 in
theorem tb_X4_wordsOfTerm_6 {p : Program} {l : Launch} {e : Env} {s : State} {m : MethodId} {below : List Frame} {meth : Method} {c : Code} {args : Array Value} {dC : Nat → ClassId} {dI : Nat → Nat → Nat} {dA : Nat → ClassId} {zz : Nat → Nat} {base : Nat} {A : Nat → Prop} {Q : Int32 → List Nat → pF → Prop} (C : pCx p s m args meth c cX4_wordsOfTerm 4 (some .int) RX4 wsX4_wordsOfTerm A dC dI dA zz base) : ∀ (n : Nat) (L : List Nat) (f : pF) (a0 : Nat) (a1 : Int32) (a2 : Int32) (a3 : Int32), wp_X4_wordsOfTerm_6 dA zz Q  n L f a0 a1 a2 a3 → pAt p l e rm_X4_wordsOfTerm s m args below meth c dC dI A (MQ below (va_Qi (fun r (u : List Nat × pF) => Q r u.1 u.2) (pB dC dI dA A) A) args s 0 0 A) 0 0 6 4 [(0, .ref a0), (1, .int a1), (2, .int a2), (3, .int a3)] [] L f := by
  obtain ⟨hx, hb, hml, hown, hts, hr, hlocks, hA, hK, hB, hz, hN, hT⟩ := id C
  intro n
  induction n with
  | zero => intro L f a0 a1 a2 a3 hw; exact hw.elim
  | succ n ih =>
    intro L f a0 a1 a2 a3 hw H locs hP hD hS ls hl
    rw [wp_X4_wordsOfTerm_6] at hw
    refine lv_iload_n hx hb dX4_wordsOfTerm_6 rfl (lv_at hl 3 rfl) ?_
    refine lv_aload_n hx hb dX4_wordsOfTerm_7 rfl (lv_at hl 0 rfl) ?_
    obtain ⟨fs_8, g_8, ⟨hL9, hf9, hn9⟩, hw⟩ := hw
    refine va_get (D := (dC, dI)) (ci := 5) (v := .int g_8) (C := RX4) (T := TX4) (N := 2) hx hb hts iw_X4_wordsOfTerm_RX4 hown hK (p_one hP hL9 hf9) 0 rfl rfl 1 (by decide) (hts _ lk_X4_wordsOfTerm_21) (fun _ h9 => h9) hn9 dX4_wordsOfTerm_8 ?_
    refine lv_icmp_gt (tgt := 52) hx hb dX4_wordsOfTerm_11 (by decide) (fun c_11 => ?_) (fun c_11 => ?_)
    · have hw := hw.1 c_11
      exact tb_X4_wordsOfTerm_52 C  L f a1 hw H locs hP hD hS ls (lv_sub hl [1] rfl)
    · have hw := hw.2 c_11
      refine lv_aload_n hx hb dX4_wordsOfTerm_14 rfl (lv_at hl 0 rfl) ?_
      refine lv_iload_n hx hb dX4_wordsOfTerm_15 rfl (lv_at hl 3 rfl) ?_
      obtain ⟨hO9, hw⟩ := hw
      have hFc := p_free hD hS hA
      refine va_calli (va_runV (As := [.int a3]) (rest := []) ⟨hx, hb, hml, hown, hts⟩ (c_X4_letterAt l dC dI dA zz base L f H.size a0 a3 _ hw) (cwV 1 hts gX4_wordsOfTerm_X4_letterAt rfl rfl rfl (by decide +kernel) ⟨by decide, by decide⟩) (pPreV [.int a3] (ci := 5) rfl hO9 hK hP hD hS hB hz hN hT) rfl rfl hl.1 rfl (lv_room (Nat.le_of_ble_eq_true rfl)) dX4_wordsOfTerm_16 ⟨by decide, by decide⟩) hS (fun q _ h => hFc q h) hFc (fun r_16 u t H1 locs ht hvm hw hB1 hz1 hk1 hS => ?_)
      obtain ⟨L_16, f_16⟩ := u
      obtain ⟨hP, -, hD1⟩ := hB1
      rw [ht] at hP
      have hw := id hw
      have hP : va_P (dC, dI) vwCl (va_pl L_16 f_16) H1 := hP
      have hD : va_D A (va_pl L_16 f_16) := p_gain hD1 hFc
      generalize H1 = H at hP hS ⊢
      refine lv_if_eq (tgt := 28) hx hb dX4_wordsOfTerm_19 (by decide) (fun c_19 => ?_) (fun c_19 => ?_)
      · have hw := hw.1 c_19
        refine lv_iload_n hx hb dX4_wordsOfTerm_28 rfl (lv_at hl 2 rfl) ?_
        refine lv_iconst (v := 1) hx hb dX4_wordsOfTerm_29 (by decide) ?_
        refine lv_icmp_lt (tgt := 39) hx hb dX4_wordsOfTerm_30 (by decide) (fun c_30 => ?_) (fun c_30 => ?_)
        · have hw := hw.1 c_30
          refine lv_iconst (v := 0) hx hb dX4_wordsOfTerm_39 (by decide) ?_
          exact W.iret (v := (0 : Int32)) hx hb hr (fun t ht hW => ⟨⟨(0 : Int32), (L_16, f_16), rfl, hw, by rw [ht]; exact hP, va_K.moved hW.alike hK, hD⟩, hS.F ht⟩) hS.2.2 dX4_wordsOfTerm_40
        · have hw := hw.2 c_30
          refine lv_iload_n hx hb dX4_wordsOfTerm_33 rfl (lv_at hl 2 rfl) ?_
          refine lv_bipush (v := 12) hx hb dX4_wordsOfTerm_34 (by decide) ?_
          refine lv_icmp_le (tgt := 41) hx hb dX4_wordsOfTerm_36 (by decide) (fun c_36 => ?_) (fun c_36 => ?_)
          · have hw := hw.1 c_36
            obtain ⟨v1_41, ev1_41⟩ : ∃ y : Int32, y = a1 + (1 : Int32) := ⟨_, rfl⟩
            have hw := hw v1_41 ev1_41
            refine lv_iinc (v := v1_41) (lv' := [(1, .int v1_41), (0, .ref a0), (2, .int a2), (3, .int a3)]) hx hb dX4_wordsOfTerm_41 hl (k := 1) rfl (by rw [ev1_41]; rfl) (by decide) rfl (fun ls hl => ?_)
            refine lv_iconst (v := 0) hx hb dX4_wordsOfTerm_44 (by decide) ?_
            refine lv_istore_n (lv' := [(2, .int (0 : Int32)), (1, .int v1_41), (0, .ref a0), (3, .int a3)]) hx hb dX4_wordsOfTerm_45 rfl hl (by decide) rfl (fun ls hl => ?_)
            exact tb_X4_wordsOfTerm_46 C ih L_16 f_16 a0 v1_41 (0 : Int32) a3 hw H locs hP hD hS ls (lv_sub hl [2, 1, 0, 3] rfl)
          · have hw := hw.2 c_36
            refine lv_iconst (v := 0) hx hb dX4_wordsOfTerm_39 (by decide) ?_
            exact W.iret (v := (0 : Int32)) hx hb hr (fun t ht hW => ⟨⟨(0 : Int32), (L_16, f_16), rfl, hw, by rw [ht]; exact hP, va_K.moved hW.alike hK, hD⟩, hS.F ht⟩) hS.2.2 dX4_wordsOfTerm_40
      · have hw := hw.2 c_19
        obtain ⟨v2_22, ev2_22⟩ : ∃ y : Int32, y = a2 + (1 : Int32) := ⟨_, rfl⟩
        have hw := hw v2_22 ev2_22
        refine lv_iinc (v := v2_22) (lv' := [(2, .int v2_22), (0, .ref a0), (1, .int a1), (3, .int a3)]) hx hb dX4_wordsOfTerm_22 hl (k := 2) rfl (by rw [ev2_22]; rfl) (by decide) rfl (fun ls hl => ?_)
        refine lv_goto (tgt := 46) hx hb dX4_wordsOfTerm_25 (by decide) ?_
        exact tb_X4_wordsOfTerm_46 C ih L_16 f_16 a0 a1 v2_22 a3 hw H locs hP hD hS ls (lv_sub hl [1, 2, 0, 3] rfl)
set_option maxHeartbeats 4000000 in
set_option maxRecDepth 100000 in
theorem tb_X4_wordsOfTerm_0 {p : Program} {l : Launch} {e : Env} {s : State} {m : MethodId} {below : List Frame} {meth : Method} {c : Code} {args : Array Value} {dC : Nat → ClassId} {dI : Nat → Nat → Nat} {dA : Nat → ClassId} {zz : Nat → Nat} {base : Nat} {A : Nat → Prop} {Q : Int32 → List Nat → pF → Prop} (C : pCx p s m args meth c cX4_wordsOfTerm 4 (some .int) RX4 wsX4_wordsOfTerm A dC dI dA zz base) : ∀ (L : List Nat) (f : pF) (a0 : Nat), wp_X4_wordsOfTerm_0 dA zz Q  L f a0 → pAt p l e rm_X4_wordsOfTerm s m args below meth c dC dI A (MQ below (va_Qi (fun r (u : List Nat × pF) => Q r u.1 u.2) (pB dC dI dA A) A) args s 0 0 A) 0 0 0 4 [(0, .ref a0)] [] L f := by
  obtain ⟨hx, hb, hml, hown, hts, hr, hlocks, hA, hK, hB, hz, hN, hT⟩ := id C
  intro L f a0 hw H locs hP hD hS ls hl
  rw [wp_X4_wordsOfTerm_0] at hw
  refine lv_iconst (v := 0) hx hb dX4_wordsOfTerm_0 (by decide) ?_
  refine lv_istore_n (lv' := [(1, .int (0 : Int32)), (0, .ref a0)]) hx hb dX4_wordsOfTerm_1 rfl hl (by decide) rfl (fun ls hl => ?_)
  refine lv_iconst (v := 0) hx hb dX4_wordsOfTerm_2 (by decide) ?_
  refine lv_istore_n (lv' := [(2, .int (0 : Int32)), (1, .int (0 : Int32)), (0, .ref a0)]) hx hb dX4_wordsOfTerm_3 rfl hl (by decide) rfl (fun ls hl => ?_)
  refine lv_iconst (v := 0) hx hb dX4_wordsOfTerm_4 (by decide) ?_
  refine lv_istore_n (lv' := [(3, .int (0 : Int32)), (2, .int (0 : Int32)), (1, .int (0 : Int32)), (0, .ref a0)]) hx hb dX4_wordsOfTerm_5 rfl hl (by decide) rfl (fun ls hl => ?_)
  obtain ⟨n9, hw⟩ := hw
  exact tb_X4_wordsOfTerm_6 C  n9 L f a0 (0 : Int32) (0 : Int32) (0 : Int32) hw H locs hP hD hS ls (lv_sub hl [3, 2, 1, 0] rfl)
set_option maxHeartbeats 4000000 in
set_option maxRecDepth 100000 in
theorem c_X4_wordsOfTerm (l : Launch) (dC : Nat → ClassId) (dI : Nat → Nat → Nat) (dA : Nat → ClassId) (zz : Nat → Nat) (base : Nat) (L : List Nat) (f : pF) (sz : Nat) (a0 : Nat) (Q : Int32 → List Nat → pF → Prop) (hw : wp_X4_wordsOfTerm_0 dA zz Q L f a0) : Met l yX4_wordsOfTerm wsX4_wordsOfTerm rm_X4_wordsOfTerm (va_Pc [.ref a0] (pPre dC dI dA zz base L f sz)) (va_Qi (fun r (u : List Nat × pF) => Q r u.1 u.2) (pB dC dI dA (va_A (va_pl L f) sz)) (va_A (va_pl L f) sz)) 0 0 (va_A (va_pl L f) sz) := by
  refine Met.ofW (cc := cX4_wordsOfTerm) (maxL := 4) (ret := (some .int)) (by decide) rfl ?_
  intro p e s m args below meth c s₁ B hml hv
  obtain ⟨rfl, hsz, hP, hK, hD0, hz, hN, hT⟩ := hv
  subst hsz
  have hl := lv_entry ([.ref a0]) (n := 4) (Nat.le_of_ble_eq_true rfl)
  rw [lg_entry_eq]
  generalize (lg_sl ([.ref a0]) ++ List.replicate (4 - (lg_sl ([.ref a0])).length) Slot.unset).toArray = ls at hl ⊢
  exact tb_X4_wordsOfTerm_0 (Q := Q) (p := p) ⟨B.exec, B.bytes, hml, findClass_of_methodNamed B.named, atoms_spec (ws := wsX4_wordsOfTerm) B.pre, B.returns, B.notSynchronized, fun q h => Or.inr h, hK, pAB hD0 hz, hz, hN, hT⟩ L f a0 hw s.heap [] hP (hD0.self (sz := s.heap.size)) va_S.rf ls (lv_sub hl [0] rfl)
theorem iw_X4_takesInstead_RX4 : ∀ w ∈ u_ws RX4 TX4 2, w ∈ wsX4_takesInstead := by decide +kernel
theorem lac1_X4_takesInstead : Cond.native arraycopyName ∈ wsX4_takesInstead := by decide +kernel
theorem lac2_X4_takesInstead : Cond.static arraycopyName ∈ wsX4_takesInstead := by decide +kernel
theorem lac3_X4_takesInstead : Cond.initialized "java/lang/System" ∈ wsX4_takesInstead := by decide +kernel
theorem lk_X4_takesInstead_15 : Cond.fieldLink RX4 15 "TermKeeper$Row" "bytes" "[B" ∈ wsX4_takesInstead := by decide +kernel
theorem lk_X4_takesInstead_21 : Cond.fieldLink RX4 21 "TermKeeper$Row" "size" "I" ∈ wsX4_takesInstead := by decide +kernel
theorem lm_X4_takesInstead_52 : Cond.methodLink RX4 52 arraycopyName ∈ wsX4_takesInstead := by decide +kernel
abbrev rm_X4_takesInstead : Room := { frames := 1, cells := 0, slots := 0, locals := 60 }
def wp_X4_takesInstead_0 (dA : Nat → ClassId) (zz : Nat → Nat) (Q : Int32 → List Nat → pF → Prop) (L : List Nat) (f : pF) (a0 : Nat) (a1 : Int32) (a2 : Int32) (a3 : Nat) : Prop :=
    ((a1 < 0 →
      (Q (0 : Int32) L f))
     ∧ (¬ a1 < 0 →
      ((a2 < a1 →
        (Q (0 : Int32) L f))
       ∧ (¬ a2 < a1 →
        (gI L f 5 a0 1 (fun g_11 =>
          ((a2 ≤ g_11 →
            (gI L f 5 a0 1 (fun g_20 =>
              (gI L f 5 a3 1 (fun g_28 =>
                (∀ v4_32 : Int32, v4_32 = ((g_20 - (a2 - a1)) + g_28) →
                  (gR L f 5 a0 0 (fun g_37 =>
                    (aN L f (dA 0) g_37 (fun g_40 =>
                      ((v4_32 ≤ g_40 →
                        (gR L f 5 a0 0 (fun g_47 =>
                          (gR L f 5 a0 0 (fun g_52 =>
                            (gI L f 5 a3 1 (fun g_57 =>
                              (gI L f 5 a0 1 (fun g_62 =>
                                (cI9 L f (dA 0) (dA 0) g_47 g_52 a2 (a1 + g_57) (g_62 - a2) (fun f_67 =>
                                  (gR L f_67 5 a3 0 (fun g_71 =>
                                    (gR L f_67 5 a0 0 (fun g_76 =>
                                      (gI L f_67 5 a3 1 (fun g_81 =>
                                        (cI9 L f_67 (dA 0) (dA 0) g_71 g_76 (0 : Int32) a1 g_81 (fun f_84 =>
                                          (gP L f_84 5 a0 1 (.int v4_32) (fun f_90 =>
                                            (Q (1 : Int32) L f_90))))))))))))))))))))))
                       ∧ (¬ v4_32 ≤ g_40 →
                        (Q (0 : Int32) L f)))))))))))))
           ∧ (¬ a2 ≤ g_11 →
            (Q (0 : Int32) L f)))))))))
set_option maxHeartbeats 4000000 in
set_option maxRecDepth 100000 in
theorem tb_X4_takesInstead_0 {p : Program} {l : Launch} {e : Env} {s : State} {m : MethodId} {below : List Frame} {meth : Method} {c : Code} {args : Array Value} {dC : Nat → ClassId} {dI : Nat → Nat → Nat} {dA : Nat → ClassId} {zz : Nat → Nat} {base : Nat} {A : Nat → Prop} {Q : Int32 → List Nat → pF → Prop} (C : pCx p s m args meth c cX4_takesInstead 5 (some .boolean) RX4 wsX4_takesInstead A dC dI dA zz base) : ∀ (L : List Nat) (f : pF) (a0 : Nat) (a1 : Int32) (a2 : Int32) (a3 : Nat), wp_X4_takesInstead_0 dA zz Q  L f a0 a1 a2 a3 → pAt p l e rm_X4_takesInstead s m args below meth c dC dI A (MQ below (va_Qi (fun r (u : List Nat × pF) => Q r u.1 u.2) (pB dC dI dA A) A) args s 0 0 A) 0 0 0 5 [(0, .ref a0), (1, .int a1), (2, .int a2), (3, .ref a3)] [] L f := by
  obtain ⟨hx, hb, hml, hown, hts, hr, hlocks, hA, hK, hB, hz, hN, hT⟩ := id C
  intro L f a0 a1 a2 a3 hw H locs hP hD hS ls hl
  rw [wp_X4_takesInstead_0] at hw
  refine lv_iload_n hx hb dX4_takesInstead_0 rfl (lv_at hl 1 rfl) ?_
  refine lv_if_lt (tgt := 17) hx hb dX4_takesInstead_1 (by decide) (fun c_1 => ?_) (fun c_1 => ?_)
  · have hw := hw.1 c_1
    refine lv_iconst (v := 0) hx hb dX4_takesInstead_17 (by decide) ?_
    exact W.zret (v := (0 : Int32)) hx hb hr rfl (fun t ht hW => ⟨⟨(0 : Int32), (L, f), rfl, hw, by rw [ht]; exact hP, va_K.moved hW.alike hK, hD⟩, hS.F ht⟩) hS.2.2 dX4_takesInstead_18
  · have hw := hw.2 c_1
    refine lv_iload_n hx hb dX4_takesInstead_4 rfl (lv_at hl 2 rfl) ?_
    refine lv_iload_n hx hb dX4_takesInstead_5 rfl (lv_at hl 1 rfl) ?_
    refine lv_icmp_lt (tgt := 17) hx hb dX4_takesInstead_6 (by decide) (fun c_6 => ?_) (fun c_6 => ?_)
    · have hw := hw.1 c_6
      refine lv_iconst (v := 0) hx hb dX4_takesInstead_17 (by decide) ?_
      exact W.zret (v := (0 : Int32)) hx hb hr rfl (fun t ht hW => ⟨⟨(0 : Int32), (L, f), rfl, hw, by rw [ht]; exact hP, va_K.moved hW.alike hK, hD⟩, hS.F ht⟩) hS.2.2 dX4_takesInstead_18
    · have hw := hw.2 c_6
      refine lv_iload_n hx hb dX4_takesInstead_9 rfl (lv_at hl 2 rfl) ?_
      refine lv_aload_n hx hb dX4_takesInstead_10 rfl (lv_at hl 0 rfl) ?_
      obtain ⟨fs_11, g_11, ⟨hL9, hf9, hn9⟩, hw⟩ := hw
      refine va_get (D := (dC, dI)) (ci := 5) (v := .int g_11) (C := RX4) (T := TX4) (N := 2) hx hb hts iw_X4_takesInstead_RX4 hown hK (p_one hP hL9 hf9) 0 rfl rfl 1 (by decide) (hts _ lk_X4_takesInstead_21) (fun _ h9 => h9) hn9 dX4_takesInstead_11 ?_
      refine lv_icmp_le (tgt := 19) hx hb dX4_takesInstead_14 (by decide) (fun c_14 => ?_) (fun c_14 => ?_)
      · have hw := hw.1 c_14
        refine lv_aload_n hx hb dX4_takesInstead_19 rfl (lv_at hl 0 rfl) ?_
        obtain ⟨fs_20, g_20, ⟨hL9, hf9, hn9⟩, hw⟩ := hw
        refine va_get (D := (dC, dI)) (ci := 5) (v := .int g_20) (C := RX4) (T := TX4) (N := 2) hx hb hts iw_X4_takesInstead_RX4 hown hK (p_one hP hL9 hf9) 0 rfl rfl 1 (by decide) (hts _ lk_X4_takesInstead_21) (fun _ h9 => h9) hn9 dX4_takesInstead_20 ?_
        refine lv_iload_n hx hb dX4_takesInstead_23 rfl (lv_at hl 2 rfl) ?_
        refine lv_iload_n hx hb dX4_takesInstead_24 rfl (lv_at hl 1 rfl) ?_
        refine lv_isub hx hb dX4_takesInstead_25 ?_
        refine lv_isub hx hb dX4_takesInstead_26 ?_
        refine lv_aload_n hx hb dX4_takesInstead_27 rfl (lv_at hl 3 rfl) ?_
        obtain ⟨fs_28, g_28, ⟨hL9, hf9, hn9⟩, hw⟩ := hw
        refine va_get (D := (dC, dI)) (ci := 5) (v := .int g_28) (C := RX4) (T := TX4) (N := 2) hx hb hts iw_X4_takesInstead_RX4 hown hK (p_one hP hL9 hf9) 0 rfl rfl 1 (by decide) (hts _ lk_X4_takesInstead_21) (fun _ h9 => h9) hn9 dX4_takesInstead_28 ?_
        refine lv_iadd hx hb dX4_takesInstead_31 ?_
        refine lv_topi (fun v4_32 ev4_32 => ?_)
        have hw := hw v4_32 ev4_32
        refine lv_istore (lv' := [(4, .int v4_32), (0, .ref a0), (1, .int a1), (2, .int a2), (3, .ref a3)]) hx hb dX4_takesInstead_32 hl (by decide) rfl (fun ls hl => ?_)
        refine lv_iload hx hb dX4_takesInstead_34 (lv_at hl 0 rfl) ?_
        refine lv_aload_n hx hb dX4_takesInstead_36 rfl (lv_at hl 1 rfl) ?_
        obtain ⟨fs_37, g_37, ⟨hL9, hf9, hn9⟩, hw⟩ := hw
        refine va_get (D := (dC, dI)) (ci := 5) (v := .ref g_37) (C := RX4) (T := TX4) (N := 2) hx hb hts iw_X4_takesInstead_RX4 hown hK (p_one hP hL9 hf9) 0 rfl rfl 0 (by decide) (hts _ lk_X4_takesInstead_15) (fun _ h9 => h9) hn9 dX4_takesInstead_37 ?_
        obtain ⟨x9, ⟨hL9, hf9⟩, hw⟩ := hw
        obtain ⟨g_40, eg_40⟩ : ∃ y : Int32, y = Int32.ofNat x9.1 := ⟨_, rfl⟩
        rw [← eg_40] at hw
        refine va_alen (v := g_40) hx hb hK (p_one hP hL9 hf9) 0 0 rfl rfl eg_40.symm dX4_takesInstead_40 ?_
        refine lv_icmp_le (tgt := 46) hx hb dX4_takesInstead_41 (by decide) (fun c_41 => ?_) (fun c_41 => ?_)
        · have hw := hw.1 c_41
          refine lv_aload_n hx hb dX4_takesInstead_46 rfl (lv_at hl 1 rfl) ?_
          obtain ⟨fs_47, g_47, ⟨hL9, hf9, hn9⟩, hw⟩ := hw
          refine va_get (D := (dC, dI)) (ci := 5) (v := .ref g_47) (C := RX4) (T := TX4) (N := 2) hx hb hts iw_X4_takesInstead_RX4 hown hK (p_one hP hL9 hf9) 0 rfl rfl 0 (by decide) (hts _ lk_X4_takesInstead_15) (fun _ h9 => h9) hn9 dX4_takesInstead_47 ?_
          refine lv_iload_n hx hb dX4_takesInstead_50 rfl (lv_at hl 3 rfl) ?_
          refine lv_aload_n hx hb dX4_takesInstead_51 rfl (lv_at hl 1 rfl) ?_
          obtain ⟨fs_52, g_52, ⟨hL9, hf9, hn9⟩, hw⟩ := hw
          refine va_get (D := (dC, dI)) (ci := 5) (v := .ref g_52) (C := RX4) (T := TX4) (N := 2) hx hb hts iw_X4_takesInstead_RX4 hown hK (p_one hP hL9 hf9) 0 rfl rfl 0 (by decide) (hts _ lk_X4_takesInstead_15) (fun _ h9 => h9) hn9 dX4_takesInstead_52 ?_
          refine lv_iload_n hx hb dX4_takesInstead_55 rfl (lv_at hl 2 rfl) ?_
          refine lv_aload_n hx hb dX4_takesInstead_56 rfl (lv_at hl 4 rfl) ?_
          obtain ⟨fs_57, g_57, ⟨hL9, hf9, hn9⟩, hw⟩ := hw
          refine va_get (D := (dC, dI)) (ci := 5) (v := .int g_57) (C := RX4) (T := TX4) (N := 2) hx hb hts iw_X4_takesInstead_RX4 hown hK (p_one hP hL9 hf9) 0 rfl rfl 1 (by decide) (hts _ lk_X4_takesInstead_21) (fun _ h9 => h9) hn9 dX4_takesInstead_57 ?_
          refine lv_iadd hx hb dX4_takesInstead_60 ?_
          refine lv_aload_n hx hb dX4_takesInstead_61 rfl (lv_at hl 1 rfl) ?_
          obtain ⟨fs_62, g_62, ⟨hL9, hf9, hn9⟩, hw⟩ := hw
          refine va_get (D := (dC, dI)) (ci := 5) (v := .int g_62) (C := RX4) (T := TX4) (N := 2) hx hb hts iw_X4_takesInstead_RX4 hown hK (p_one hP hL9 hf9) 0 rfl rfl 1 (by decide) (hts _ lk_X4_takesInstead_21) (fun _ h9 => h9) hn9 dX4_takesInstead_62 ?_
          refine lv_iload_n hx hb dX4_takesInstead_65 rfl (lv_at hl 3 rfl) ?_
          refine lv_isub hx hb dX4_takesInstead_66 ?_
          obtain ⟨n0_67, n1_67, g_67, h_67, ⟨hL0, hf0, hL9, hf9, h1_, h2_, h3_, h4_, h5_, h6_⟩, hw⟩ := hw
          obtain ⟨kq9, hkq9⟩ := p_at hL9 hf9
          obtain ⟨kq0, hkq0⟩ := p_at hL0 hf0
          refine va_copyi hx hb (by rw [hml]; exact hl.1.symm) hown (hts _ lm_X4_takesInstead_52) (hts _ lac1_X4_takesInstead) (hts _ lac2_X4_takesInstead) (hts _ lac3_X4_takesInstead) hK hP hD hS kq0 kq9 0 0 hkq0 hkq9 rfl rfl rfl h1_ h2_ h3_ h4_ h5_ h6_ (Nat.le_of_ble_eq_true rfl) (Nat.le_of_ble_eq_true rfl) dX4_takesInstead_67 (fun H locs hP2 hD2 hS => ?_)
          rw [p_set hD hL9 hf9 hkq9] at hP2 hD2
          obtain ⟨f_67, ef_67⟩ : ∃ y : pF, y = va_up f g_52 (.inl (dA 0, n1_67, .inl (va_cpy g_67 h_67 (Int32.toNatClampNeg a2) (Int32.toNatClampNeg (a1 + g_57)) (Int32.toNatClampNeg (g_62 - a2))))) := ⟨_, rfl⟩
          rw [← ef_67] at hP2 hD2
          have hw := hw f_67 ef_67
          have hP := hP2
          have hD := hD2
          refine lv_aload_n hx hb dX4_takesInstead_70 rfl (lv_at hl 4 rfl) ?_
          obtain ⟨fs_71, g_71, ⟨hL9, hf9, hn9⟩, hw⟩ := hw
          refine va_get (D := (dC, dI)) (ci := 5) (v := .ref g_71) (C := RX4) (T := TX4) (N := 2) hx hb hts iw_X4_takesInstead_RX4 hown hK (p_one hP hL9 hf9) 0 rfl rfl 0 (by decide) (hts _ lk_X4_takesInstead_15) (fun _ h9 => h9) hn9 dX4_takesInstead_71 ?_
          refine lv_iconst (v := 0) hx hb dX4_takesInstead_74 (by decide) ?_
          refine lv_aload_n hx hb dX4_takesInstead_75 rfl (lv_at hl 1 rfl) ?_
          obtain ⟨fs_76, g_76, ⟨hL9, hf9, hn9⟩, hw⟩ := hw
          refine va_get (D := (dC, dI)) (ci := 5) (v := .ref g_76) (C := RX4) (T := TX4) (N := 2) hx hb hts iw_X4_takesInstead_RX4 hown hK (p_one hP hL9 hf9) 0 rfl rfl 0 (by decide) (hts _ lk_X4_takesInstead_15) (fun _ h9 => h9) hn9 dX4_takesInstead_76 ?_
          refine lv_iload_n hx hb dX4_takesInstead_79 rfl (lv_at hl 2 rfl) ?_
          refine lv_aload_n hx hb dX4_takesInstead_80 rfl (lv_at hl 4 rfl) ?_
          obtain ⟨fs_81, g_81, ⟨hL9, hf9, hn9⟩, hw⟩ := hw
          refine va_get (D := (dC, dI)) (ci := 5) (v := .int g_81) (C := RX4) (T := TX4) (N := 2) hx hb hts iw_X4_takesInstead_RX4 hown hK (p_one hP hL9 hf9) 0 rfl rfl 1 (by decide) (hts _ lk_X4_takesInstead_21) (fun _ h9 => h9) hn9 dX4_takesInstead_81 ?_
          obtain ⟨n0_84, n1_84, g_84, h_84, ⟨hL0, hf0, hL9, hf9, h1_, h2_, h3_, h4_, h5_, h6_⟩, hw⟩ := hw
          obtain ⟨kq9, hkq9⟩ := p_at hL9 hf9
          obtain ⟨kq0, hkq0⟩ := p_at hL0 hf0
          refine va_copyi hx hb (by rw [hml]; exact hl.1.symm) hown (hts _ lm_X4_takesInstead_52) (hts _ lac1_X4_takesInstead) (hts _ lac2_X4_takesInstead) (hts _ lac3_X4_takesInstead) hK hP hD hS kq0 kq9 0 0 hkq0 hkq9 rfl rfl rfl h1_ h2_ h3_ h4_ h5_ h6_ (Nat.le_of_ble_eq_true rfl) (Nat.le_of_ble_eq_true rfl) dX4_takesInstead_84 (fun H locs hP2 hD2 hS => ?_)
          rw [p_set hD hL9 hf9 hkq9] at hP2 hD2
          obtain ⟨f_84, ef_84⟩ : ∃ y : pF, y = va_up f_67 g_76 (.inl (dA 0, n1_84, .inl (va_cpy g_84 h_84 (Int32.toNatClampNeg (0 : Int32)) (Int32.toNatClampNeg a1) (Int32.toNatClampNeg g_81)))) := ⟨_, rfl⟩
          rw [← ef_84] at hP2 hD2
          have hw := hw f_84 ef_84
          have hP := hP2
          have hD := hD2
          refine lv_aload_n hx hb dX4_takesInstead_87 rfl (lv_at hl 1 rfl) ?_
          refine lv_iload hx hb dX4_takesInstead_88 (lv_at hl 0 rfl) ?_
          obtain ⟨fs_90, ⟨hL9, hf9, hn9⟩, hw⟩ := hw
          obtain ⟨kq9, hkq9⟩ := p_at hL9 hf9
          refine va_put (D := (dC, dI)) (ci := 5) (v := .int v4_32) (C := RX4) (T := TX4) (N := 2) hx hb hts iw_X4_takesInstead_RX4 tyX4 tyX4_ok nmX4 hown hK hP hD hS kq9 hkq9 rfl 1 (by decide) (hts _ lk_X4_takesInstead_21) (fun _ h9 => h9) rfl (tyX4_ok 1 (by decide)) rfl rfl hn9 dX4_takesInstead_90 (fun H locs hP2 hD2 hS => ?_)
          rw [p_set hD hL9 hf9 hkq9] at hP2 hD2
          obtain ⟨f_90, ef_90⟩ : ∃ y : pF, y = va_up f_84 a0 (.inr (5, fs_90.set 1 (.int v4_32))) := ⟨_, rfl⟩
          rw [← ef_90] at hP2 hD2
          have hw := hw f_90 ef_90
          have hP := hP2
          have hD := hD2
          refine lv_iconst (v := 1) hx hb dX4_takesInstead_93 (by decide) ?_
          exact W.zret (v := (1 : Int32)) hx hb hr rfl (fun t ht hW => ⟨⟨(1 : Int32), (L, f_90), rfl, hw, by rw [ht]; exact hP, va_K.moved hW.alike hK, hD⟩, hS.F ht⟩) hS.2.2 dX4_takesInstead_94
        · have hw := hw.2 c_41
          refine lv_iconst (v := 0) hx hb dX4_takesInstead_44 (by decide) ?_
          exact W.zret (v := (0 : Int32)) hx hb hr rfl (fun t ht hW => ⟨⟨(0 : Int32), (L, f), rfl, hw, by rw [ht]; exact hP, va_K.moved hW.alike hK, hD⟩, hS.F ht⟩) hS.2.2 dX4_takesInstead_45
      · have hw := hw.2 c_14
        refine lv_iconst (v := 0) hx hb dX4_takesInstead_17 (by decide) ?_
        exact W.zret (v := (0 : Int32)) hx hb hr rfl (fun t ht hW => ⟨⟨(0 : Int32), (L, f), rfl, hw, by rw [ht]; exact hP, va_K.moved hW.alike hK, hD⟩, hS.F ht⟩) hS.2.2 dX4_takesInstead_18
set_option maxHeartbeats 4000000 in
set_option maxRecDepth 100000 in
theorem c_X4_takesInstead (l : Launch) (dC : Nat → ClassId) (dI : Nat → Nat → Nat) (dA : Nat → ClassId) (zz : Nat → Nat) (base : Nat) (L : List Nat) (f : pF) (sz : Nat) (a0 : Nat) (a1 : Int32) (a2 : Int32) (a3 : Nat) (Q : Int32 → List Nat → pF → Prop) (hw : wp_X4_takesInstead_0 dA zz Q L f a0 a1 a2 a3) : Met l yX4_takesInstead wsX4_takesInstead rm_X4_takesInstead (va_Pc [.ref a0, .int a1, .int a2, .ref a3] (pPre dC dI dA zz base L f sz)) (va_Qi (fun r (u : List Nat × pF) => Q r u.1 u.2) (pB dC dI dA (va_A (va_pl L f) sz)) (va_A (va_pl L f) sz)) 0 0 (va_A (va_pl L f) sz) := by
  refine Met.ofW (cc := cX4_takesInstead) (maxL := 5) (ret := (some .boolean)) (by decide) rfl ?_
  intro p e s m args below meth c s₁ B hml hv
  obtain ⟨rfl, hsz, hP, hK, hD0, hz, hN, hT⟩ := hv
  subst hsz
  have hl := lv_entry ([.ref a0, .int a1, .int a2, .ref a3]) (n := 5) (Nat.le_of_ble_eq_true rfl)
  rw [lg_entry_eq]
  generalize (lg_sl ([.ref a0, .int a1, .int a2, .ref a3]) ++ List.replicate (5 - (lg_sl ([.ref a0, .int a1, .int a2, .ref a3])).length) Slot.unset).toArray = ls at hl ⊢
  exact tb_X4_takesInstead_0 (Q := Q) (p := p) ⟨B.exec, B.bytes, hml, findClass_of_methodNamed B.named, atoms_spec (ws := wsX4_takesInstead) B.pre, B.returns, B.notSynchronized, fun q h => Or.inr h, hK, pAB hD0 hz, hz, hN, hT⟩ L f a0 a1 a2 a3 hw s.heap [] hP (hD0.self (sz := s.heap.size)) va_S.rf ls (lv_sub hl [0, 1, 2, 3] rfl)
