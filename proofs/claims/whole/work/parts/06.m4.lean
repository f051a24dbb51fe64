theorem iw_X9_total : ∀ w ∈ u_ws RX9 TX9 38, w ∈ wsX9_total := fun w h => List.mem_cons_of_mem _ (by first | exact List.mem_append_right _ h | decide +kernel +revert)
theorem lk_X9_total_28 : Cond.fieldLink RX9 28 "TermKeeperModel" "thingOf" "[I" ∈ wsX9_total := by decide +kernel
theorem lk_X9_total_105 : Cond.fieldLink RX9 105 "TermKeeperModel" "thrown" "I" ∈ wsX9_total := by decide +kernel
theorem lk_X9_total_109 : Cond.fieldLink RX9 109 "TermKeeperModel" "waiting" "I" ∈ wsX9_total := by decide +kernel
theorem lk_X9_total_116 : Cond.fieldLink RX9 116 "TermKeeperModel" "endings" "I" ∈ wsX9_total := by decide +kernel
theorem lk_X9_total_127 : Cond.fieldLink RX9 127 "TermKeeperModel" "terms" "I" ∈ wsX9_total := by decide +kernel
theorem lk_X9_total_195 : Cond.fieldLink RX9 195 "TermKeeperModel" "mends" "I" ∈ wsX9_total := by decide +kernel
abbrev rm_X9_total : Room := { frames := 1, cells := 0, slots := 0, locals := 22 }
def wp_X9_total_134 (Q : Int32 → mS → mG → Prop) (k113_ : mS → mG → Int64 → Int32 → Int32 → Prop) (S : mS) (G : mG) (a2 : Int64) (a4 : Int32) (a5 : Int32) : Prop :=
    (∀ v5_134 : Int32, v5_134 = a5 + (1 : Int32) →
      (k113_ S G a2 a4 v5_134))
def wp_X9_total_113 (Q : Int32 → mS → mG → Prop) : Nat → mS → mG → Int64 → Int32 → Int32 → Prop
  | 0, _, _, _, _, _ => False
  | n + 1, S, G, a2, a4, a5 =>
    (((40 : Int32) ≤ a5 →
      (Q a4 S G))
     ∧ (¬ (40 : Int32) ≤ a5 →
      ((¬ (lg_cmp ((a2 >>> (Int32.toInt64 a5 &&& 63)) &&& (1 : Int64)) (1 : Int64)) = 0 →
        (wp_X9_total_134 Q (wp_X9_total_113 Q  n) S G a2 a4 a5))
       ∧ ((lg_cmp ((a2 >>> (Int32.toInt64 a5 &&& 63)) &&& (1 : Int64)) (1 : Int64)) = 0 →
        (∀ v4_131 : Int32, v4_131 = a4 + (1 : Int32) →
          (wp_X9_total_134 Q (wp_X9_total_113 Q  n) S G a2 v4_131 a5))))))
def wp_X9_total_107 (Q : Int32 → mS → mG → Prop) (S : mS) (G : mG) (a2 : Int64) : Prop :=
    (∃ n9 : Nat, wp_X9_total_113 Q  n9 S G a2 (0 : Int32) (0 : Int32))
def wp_X9_total_80 (Q : Int32 → mS → mG → Prop) : Nat → mS → mG → Int64 → Int32 → Prop
  | 0, _, _, _, _ => False
  | n + 1, S, G, a2, a4 =>
    (((S 4 0) ≤ a4 →
      (wp_X9_total_107 Q  S G a2))
     ∧ (¬ (S 4 0) ≤ a4 →
      (vp_in a4 60 ∧
        (∀ v2_100 : Int64, v2_100 = (a2 ||| ((1 : Int64) <<< (Int32.toInt64 (S 11 (Int32.toNatClampNeg a4)) &&& 63))) →
          (∀ v4_101 : Int32, v4_101 = a4 + (1 : Int32) →
            ((wp_X9_total_80 Q  n) S G v2_100 v4_101))))))
def wp_X9_total_20 (Q : Int32 → mS → mG → Prop) (S : mS) (G : mG) (a1 : Int32) (k0 : Int32) : Prop :=
    (wp_X9_right_0 (fun r_21 S_21 G_21 =>
      ((¬ r_21 = 0 →
        (
         (a1 = 0 →
          (Q (S_21 3 0) S_21 G_21)) ∧
         (a1 = 1 →
          (Q (S_21 4 0) S_21 G_21)) ∧
         (a1 = 2 →
          (Q (S_21 1 0) S_21 G_21)) ∧
         (a1 = 3 →
          (∃ n9 : Nat, wp_X9_total_80 Q  n9 S_21 G_21 (0 : Int64) (0 : Int32))) ∧
         (¬ a1 = 0 → ¬ a1 = 1 → ¬ a1 = 2 → ¬ a1 = 3 →
          (Q (S_21 5 0) S_21 G_21))))
       ∧ (r_21 = 0 →
        (Q (0 : Int32) S_21 G_21)))) S G k0 (1 : Int32))
def wp_X9_total_19 (Q : Int32 → mS → mG → Prop) (S : mS) (G : mG) (a1 : Int32) : Prop :=
    (wp_X9_total_20 Q  S G a1 (0 : Int32))
def wp_X9_total_0 (Q : Int32 → mS → mG → Prop) (S : mS) (G : mG) (a1 : Int32) : Prop :=
    (∀ S_2 : mS, S_2 = mst S 0 0 (0 : Int32) →
      ((a1 < 0 →
        (wp_X9_total_19 Q  S_2 G a1))
       ∧ (¬ a1 < 0 →
        (((4 : Int32) < a1 →
          (wp_X9_total_19 Q  S_2 G a1))
         ∧ (¬ (4 : Int32) < a1 →
          (wp_X9_total_20 Q  S_2 G a1 (1 : Int32)))))))
set_option maxHeartbeats 4000000 in
set_option maxRecDepth 100000 in
theorem tb_X9_total_134 {p : Program} {l : Launch} {e : Env} {s : State} {m : MethodId} {below : List Frame} {meth : Method} {c : Code} {args : Array Value} {dC : Nat → ClassId} {dI : Nat → Nat → Nat} {cI cJ cZ : ClassId} {o : Nat} {ad : Nat → Nat} {A : Nat → Prop} {Q : Int32 → mS → mG → Prop} (C : mCx p s m args meth c cX9_total 6 (some .int) wsX9_total A dC dI cI cJ cZ) {k113_ : mS → mG → Int64 → Int32 → Int32 → Prop} (h113_ : ∀ (S : mS) (G : mG) (a2 : Int64) (a4 : Int32) (a5 : Int32), k113_ S G a2 a4 a5 → mAt p l e rm_X9_total s m args below meth c dC dI cI cJ cZ o ad A (MQ below (va_Qi (fun r (u : mS × mG) => Q r u.1 u.2) (mB dC dI cI cJ cZ o ad A) A) args s 0 0 A) 113 6 [(0, .ref o), (2, .long a2), (4, .int a4), (5, .int a5)] [] S G) : ∀ (S : mS) (G : mG) (a2 : Int64) (a4 : Int32) (a5 : Int32), wp_X9_total_134 Q k113_ S G a2 a4 a5 → mAt p l e rm_X9_total s m args below meth c dC dI cI cJ cZ o ad A (MQ below (va_Qi (fun r (u : mS × mG) => Q r u.1 u.2) (mB dC dI cI cJ cZ o ad A) A) args s 0 0 A) 134 6 [(0, .ref o), (2, .long a2), (4, .int a4), (5, .int a5)] [] S G := by
  obtain ⟨hx, hb, hml, hown, hts, hr, hlocks, hA, hK⟩ := id C
  intro S G a2 a4 a5 hw H locs hP hD hS ls hl
  rw [wp_X9_total_134] at hw
  obtain ⟨v5_134, ev5_134⟩ : ∃ y : Int32, y = a5 + (1 : Int32) := ⟨_, rfl⟩
  have hw := hw v5_134 ev5_134
  refine lv_iinc (v := v5_134) (lv' := [(5, .int v5_134), (0, .ref o), (2, .long a2), (4, .int a4)]) hx hb dX9_total_134 hl (k := 3) rfl (by rw [ev5_134]; rfl) (by decide) rfl (fun ls hl => ?_)
  refine lv_goto (tgt := 113) hx hb dX9_total_137 (by decide) ?_
  exact h113_ S G a2 a4 v5_134 hw H locs hP hD hS ls (lv_sub hl [1, 2, 3, 0] rfl)
set_option maxHeartbeats 4000000 in
set_option maxRecDepth 100000 in
theorem tb_X9_total_113 {p : Program} {l : Launch} {e : Env} {s : State} {m : MethodId} {below : List Frame} {meth : Method} {c : Code} {args : Array Value} {dC : Nat → ClassId} {dI : Nat → Nat → Nat} {cI cJ cZ : ClassId} {o : Nat} {ad : Nat → Nat} {A : Nat → Prop} {Q : Int32 → mS → mG → Prop} (C : mCx p s m args meth c cX9_total 6 (some .int) wsX9_total A dC dI cI cJ cZ) : ∀ (n : Nat) (S : mS) (G : mG) (a2 : Int64) (a4 : Int32) (a5 : Int32), wp_X9_total_113 Q  n S G a2 a4 a5 → mAt p l e rm_X9_total s m args below meth c dC dI cI cJ cZ o ad A (MQ below (va_Qi (fun r (u : mS × mG) => Q r u.1 u.2) (mB dC dI cI cJ cZ o ad A) A) args s 0 0 A) 113 6 [(0, .ref o), (2, .long a2), (4, .int a4), (5, .int a5)] [] S G := by
  obtain ⟨hx, hb, hml, hown, hts, hr, hlocks, hA, hK⟩ := id C
  intro n
  induction n with
  | zero => intro S G a2 a4 a5 hw; exact hw.elim
  | succ n ih =>
    intro S G a2 a4 a5 hw H locs hP hD hS ls hl
    rw [wp_X9_total_113] at hw
    refine lv_iload hx hb dX9_total_113 (lv_at hl 3 rfl) ?_
    refine lv_bipush (v := 40) hx hb dX9_total_115 (by decide) ?_
    refine lv_icmp_ge (tgt := 140) hx hb dX9_total_117 (by decide) (fun c_117 => ?_) (fun c_117 => ?_)
    · have hw := hw.1 c_117
      refine lv_iload hx hb dX9_total_140 (lv_at hl 2 rfl) ?_
      exact W.iret (v := a4) hx hb hr (fun t ht hW => ⟨⟨a4, (S, G), rfl, hw, by rw [ht]; exact hP, va_K.moved hW.alike hK, hD⟩, hS.F ht⟩) hS.2.2 dX9_total_142
    · have hw := hw.2 c_117
      refine lv_lload_n hx hb dX9_total_120 rfl (lv_at hl 1 rfl) ?_
      refine lv_iload hx hb dX9_total_121 (lv_at hl 3 rfl) ?_
      refine lv_lshr hx hb dX9_total_123 rfl ?_
      refine lv_lconst (v := 1) hx hb dX9_total_124 (by decide) ?_
      refine lv_land hx hb dX9_total_125 ?_
      refine lv_lconst (v := 1) hx hb dX9_total_126 (by decide) ?_
      refine W.lcmp hx hb dX9_total_127 ?_
      refine lv_if_ne (tgt := 134) hx hb dX9_total_128 (by decide) (fun c_128 => ?_) (fun c_128 => ?_)
      · have hw := hw.1 c_128
        exact tb_X9_total_134 C ih S G a2 a4 a5 hw H locs hP hD hS ls (lv_sub hl [0, 1, 2, 3] rfl)
      · have hw := hw.2 c_128
        obtain ⟨v4_131, ev4_131⟩ : ∃ y : Int32, y = a4 + (1 : Int32) := ⟨_, rfl⟩
        have hw := hw v4_131 ev4_131
        refine lv_iinc (v := v4_131) (lv' := [(4, .int v4_131), (0, .ref o), (2, .long a2), (5, .int a5)]) hx hb dX9_total_131 hl (k := 2) rfl (by rw [ev4_131]; rfl) (by decide) rfl (fun ls hl => ?_)
        exact tb_X9_total_134 C ih S G a2 v4_131 a5 hw H locs hP hD hS ls (lv_sub hl [1, 2, 0, 3] rfl)
set_option maxHeartbeats 4000000 in
set_option maxRecDepth 100000 in
theorem tb_X9_total_107 {p : Program} {l : Launch} {e : Env} {s : State} {m : MethodId} {below : List Frame} {meth : Method} {c : Code} {args : Array Value} {dC : Nat → ClassId} {dI : Nat → Nat → Nat} {cI cJ cZ : ClassId} {o : Nat} {ad : Nat → Nat} {A : Nat → Prop} {Q : Int32 → mS → mG → Prop} (C : mCx p s m args meth c cX9_total 6 (some .int) wsX9_total A dC dI cI cJ cZ) : ∀ (S : mS) (G : mG) (a2 : Int64), wp_X9_total_107 Q  S G a2 → mAt p l e rm_X9_total s m args below meth c dC dI cI cJ cZ o ad A (MQ below (va_Qi (fun r (u : mS × mG) => Q r u.1 u.2) (mB dC dI cI cJ cZ o ad A) A) args s 0 0 A) 107 6 [(0, .ref o), (2, .long a2)] [] S G := by
  obtain ⟨hx, hb, hml, hown, hts, hr, hlocks, hA, hK⟩ := id C
  intro S G a2 hw H locs hP hD hS ls hl
  rw [wp_X9_total_107] at hw
  refine lv_iconst (v := 0) hx hb dX9_total_107 (by decide) ?_
  refine lv_istore (lv' := [(4, .int (0 : Int32)), (0, .ref o), (2, .long a2)]) hx hb dX9_total_108 hl (by decide) rfl (fun ls hl => ?_)
  refine lv_iconst (v := 0) hx hb dX9_total_110 (by decide) ?_
  refine lv_istore (lv' := [(5, .int (0 : Int32)), (4, .int (0 : Int32)), (0, .ref o), (2, .long a2)]) hx hb dX9_total_111 hl (by decide) rfl (fun ls hl => ?_)
  obtain ⟨n9, hw⟩ := hw
  exact tb_X9_total_113 C  n9 S G a2 (0 : Int32) (0 : Int32) hw H locs hP hD hS ls (lv_sub hl [2, 3, 1, 0] rfl)
set_option maxHeartbeats 4000000 in
set_option maxRecDepth 100000 in
theorem tb_X9_total_80 {p : Program} {l : Launch} {e : Env} {s : State} {m : MethodId} {below : List Frame} {meth : Method} {c : Code} {args : Array Value} {dC : Nat → ClassId} {dI : Nat → Nat → Nat} {cI cJ cZ : ClassId} {o : Nat} {ad : Nat → Nat} {A : Nat → Prop} {Q : Int32 → mS → mG → Prop} (C : mCx p s m args meth c cX9_total 6 (some .int) wsX9_total A dC dI cI cJ cZ) : ∀ (n : Nat) (S : mS) (G : mG) (a2 : Int64) (a4 : Int32), wp_X9_total_80 Q  n S G a2 a4 → mAt p l e rm_X9_total s m args below meth c dC dI cI cJ cZ o ad A (MQ below (va_Qi (fun r (u : mS × mG) => Q r u.1 u.2) (mB dC dI cI cJ cZ o ad A) A) args s 0 0 A) 80 6 [(0, .ref o), (2, .long a2), (4, .int a4)] [] S G := by
  obtain ⟨hx, hb, hml, hown, hts, hr, hlocks, hA, hK⟩ := id C
  intro n
  induction n with
  | zero => intro S G a2 a4 hw; exact hw.elim
  | succ n ih =>
    intro S G a2 a4 hw H locs hP hD hS ls hl
    rw [wp_X9_total_80] at hw
    refine lv_iload hx hb dX9_total_80 (lv_at hl 2 rfl) ?_
    refine lv_aload_n hx hb dX9_total_82 rfl (lv_at hl 0 rfl) ?_
    refine va_get (D := (dC, dI)) (ci := 10) (v := .int (S 4 0)) (C := RX9) (T := TX9) (N := 38) hx hb hts iw_X9_total hown hK hP 0 rfl rfl 4 (by decide) (hts _ lk_X9_total_127) (fun _ h9 => h9) rfl dX9_total_83 ?_
    refine lv_icmp_ge (tgt := 107) hx hb dX9_total_86 (by decide) (fun c_86 => ?_) (fun c_86 => ?_)
    · have hw := hw.1 c_86
      exact tb_X9_total_107 C  S G a2 hw H locs hP hD hS ls (lv_sub hl [0, 1] rfl)
    · have hw := hw.2 c_86
      refine lv_lload_n hx hb dX9_total_89 rfl (lv_at hl 1 rfl) ?_
      refine lv_lconst (v := 1) hx hb dX9_total_90 (by decide) ?_
      refine lv_aload_n hx hb dX9_total_91 rfl (lv_at hl 0 rfl) ?_
      refine va_get (D := (dC, dI)) (ci := 10) (v := .ref (ad 11)) (C := RX9) (T := TX9) (N := 38) hx hb hts iw_X9_total hown hK hP 0 rfl rfl 11 (by decide) (hts _ lk_X9_total_28) (fun _ h9 => h9) rfl dX9_total_92 ?_
      refine lv_iload hx hb dX9_total_95 (lv_at hl 2 rfl) ?_
      refine va_iald hx hb hK hP 7 0 rfl rfl hw.1 dX9_total_97 ?_
      have hw := hw.2
      refine lv_lshl hx hb dX9_total_98 rfl ?_
      refine lv_lor hx hb dX9_total_99 ?_
      refine lv_topl (fun v2_100 ev2_100 => ?_)
      have hw := hw v2_100 ev2_100
      refine lv_lstore_n (lv' := [(2, .long v2_100), (0, .ref o), (4, .int a4)]) hx hb dX9_total_100 rfl hl (by decide) rfl (fun ls hl => ?_)
      obtain ⟨v4_101, ev4_101⟩ : ∃ y : Int32, y = a4 + (1 : Int32) := ⟨_, rfl⟩
      have hw := hw v4_101 ev4_101
      refine lv_iinc (v := v4_101) (lv' := [(4, .int v4_101), (2, .long v2_100), (0, .ref o)]) hx hb dX9_total_101 hl (k := 2) rfl (by rw [ev4_101]; rfl) (by decide) rfl (fun ls hl => ?_)
      refine lv_goto (tgt := 80) hx hb dX9_total_104 (by decide) ?_
      exact ih S G v2_100 v4_101 hw H locs hP hD hS ls (lv_sub hl [2, 1, 0] rfl)
set_option maxHeartbeats 4000000 in
set_option maxRecDepth 100000 in
theorem tb_X9_total_20 {p : Program} {l : Launch} {e : Env} {s : State} {m : MethodId} {below : List Frame} {meth : Method} {c : Code} {args : Array Value} {dC : Nat → ClassId} {dI : Nat → Nat → Nat} {cI cJ cZ : ClassId} {o : Nat} {ad : Nat → Nat} {A : Nat → Prop} {Q : Int32 → mS → mG → Prop} (C : mCx p s m args meth c cX9_total 6 (some .int) wsX9_total A dC dI cI cJ cZ) : ∀ (S : mS) (G : mG) (a1 : Int32) (k0 : Int32), wp_X9_total_20 Q  S G a1 k0 → mAt p l e rm_X9_total s m args below meth c dC dI cI cJ cZ o ad A (MQ below (va_Qi (fun r (u : mS × mG) => Q r u.1 u.2) (mB dC dI cI cJ cZ o ad A) A) args s 0 0 A) 20 6 [(0, .ref o), (1, .int a1)] [.int k0, .ref o] S G := by
  obtain ⟨hx, hb, hml, hown, hts, hr, hlocks, hA, hK⟩ := id C
  intro S G a1 k0 hw H locs hP hD hS ls hl
  rw [wp_X9_total_20] at hw
  refine lv_iconst (v := 1) hx hb dX9_total_20 (by decide) ?_
  have hFc := mFree hD hS hA
  refine va_calli (va_runV (As := [.int k0, .int (1 : Int32)]) (rest := []) ⟨hx, hb, hml, hown, hts⟩ (c_X9_right l dC dI cI cJ cZ o ad S G H.size k0 (1 : Int32) _ hw) (cwV 2 hts gX9_total_X9_right rfl rfl rfl (by decide +kernel) ⟨Nat.le_of_ble_eq_true rfl, Nat.le_of_ble_eq_true rfl⟩) (mPreV [.int k0, .int (1 : Int32)] hK hP hD) rfl rfl hl.1 rfl (lv_room (Nat.le_of_ble_eq_true rfl)) dX9_total_21 ⟨Nat.zero_le _, Nat.zero_le _⟩) hS (fun q _ h => hFc q h) hFc (fun r_21 u t H1 locs ht hvm hw hB hz1 hk1 hS => ?_)
  obtain ⟨S_21, G_21⟩ := u
  obtain ⟨hP, -, hD1⟩ := hB
  rw [ht] at hP
  have hw := id hw
  have hP : va_P (dC, dI) vwCl (mW cI cJ cZ o ad S_21 G_21) H1 := hP
  have hD : va_D A (mW cI cJ cZ o ad S_21 G_21) := mGain hD1 hFc
  generalize H1 = H at hP hS ⊢
  refine lv_if_ne (tgt := 29) hx hb dX9_total_24 (by decide) (fun c_24 => ?_) (fun c_24 => ?_)
  · have hw := hw.1 c_24
    refine lv_iload_n hx hb dX9_total_29 rfl (lv_at hl 1 rfl) ?_
    by_cases c_30_0 : a1 = 0
    · have hw := hw.1 c_30_0
      refine lv_tableIn (off := 30) (tgt := 60) hx hb dX9_total_30 (by rw [c_30_0]; decide) (by rw [c_30_0]; decide) (by rw [c_30_0]; decide) (by decide) ?_
      refine lv_aload_n hx hb dX9_total_60 rfl (lv_at hl 0 rfl) ?_
      refine va_get (D := (dC, dI)) (ci := 10) (v := .int (S_21 3 0)) (C := RX9) (T := TX9) (N := 38) hx hb hts iw_X9_total hown hK hP 0 rfl rfl 3 (by decide) (hts _ lk_X9_total_116) (fun _ h9 => h9) rfl dX9_total_61 ?_
      exact W.iret (v := (S_21 3 0)) hx hb hr (fun t ht hW => ⟨⟨(S_21 3 0), (S_21, G_21), rfl, hw, by rw [ht]; exact hP, va_K.moved hW.alike hK, hD⟩, hS.F ht⟩) hS.2.2 dX9_total_64
    by_cases c_30_1 : a1 = 1
    · have hw := hw.2.1 c_30_1
      refine lv_tableIn (off := 35) (tgt := 65) hx hb dX9_total_30 (by rw [c_30_1]; decide) (by rw [c_30_1]; decide) (by rw [c_30_1]; decide) (by decide) ?_
      refine lv_aload_n hx hb dX9_total_65 rfl (lv_at hl 0 rfl) ?_
      refine va_get (D := (dC, dI)) (ci := 10) (v := .int (S_21 4 0)) (C := RX9) (T := TX9) (N := 38) hx hb hts iw_X9_total hown hK hP 0 rfl rfl 4 (by decide) (hts _ lk_X9_total_127) (fun _ h9 => h9) rfl dX9_total_66 ?_
      exact W.iret (v := (S_21 4 0)) hx hb hr (fun t ht hW => ⟨⟨(S_21 4 0), (S_21, G_21), rfl, hw, by rw [ht]; exact hP, va_K.moved hW.alike hK, hD⟩, hS.F ht⟩) hS.2.2 dX9_total_69
    by_cases c_30_2 : a1 = 2
    · have hw := hw.2.2.1 c_30_2
      refine lv_tableIn (off := 40) (tgt := 70) hx hb dX9_total_30 (by rw [c_30_2]; decide) (by rw [c_30_2]; decide) (by rw [c_30_2]; decide) (by decide) ?_
      refine lv_aload_n hx hb dX9_total_70 rfl (lv_at hl 0 rfl) ?_
      refine va_get (D := (dC, dI)) (ci := 10) (v := .int (S_21 1 0)) (C := RX9) (T := TX9) (N := 38) hx hb hts iw_X9_total hown hK hP 0 rfl rfl 1 (by decide) (hts _ lk_X9_total_109) (fun _ h9 => h9) rfl dX9_total_71 ?_
      exact W.iret (v := (S_21 1 0)) hx hb hr (fun t ht hW => ⟨⟨(S_21 1 0), (S_21, G_21), rfl, hw, by rw [ht]; exact hP, va_K.moved hW.alike hK, hD⟩, hS.F ht⟩) hS.2.2 dX9_total_74
    by_cases c_30_3 : a1 = 3
    · have hw := hw.2.2.2.1 c_30_3
      refine lv_tableIn (off := 45) (tgt := 75) hx hb dX9_total_30 (by rw [c_30_3]; decide) (by rw [c_30_3]; decide) (by rw [c_30_3]; decide) (by decide) ?_
      refine lv_lconst (v := 0) hx hb dX9_total_75 (by decide) ?_
      refine lv_lstore_n (lv' := [(2, .long (0 : Int64)), (0, .ref o), (1, .int a1)]) hx hb dX9_total_76 rfl hl (by decide) rfl (fun ls hl => ?_)
      refine lv_iconst (v := 0) hx hb dX9_total_77 (by decide) ?_
      refine lv_istore (lv' := [(4, .int (0 : Int32)), (2, .long (0 : Int64)), (0, .ref o), (1, .int a1)]) hx hb dX9_total_78 hl (by decide) rfl (fun ls hl => ?_)
      obtain ⟨n9, hw⟩ := hw
      exact tb_X9_total_80 C  n9 S_21 G_21 (0 : Int64) (0 : Int32) hw H locs hP hD hS ls (lv_sub hl [2, 1, 0] rfl)
    have hw := hw.2.2.2.2 c_30_0 c_30_1 c_30_2 c_30_3
    refine lv_tableOut (tgt := 143) hx hb dX9_total_30 (sw_out4 c_30_0 c_30_1 c_30_2 c_30_3) (by decide) ?_
    refine lv_aload_n hx hb dX9_total_143 rfl (lv_at hl 0 rfl) ?_
    refine va_get (D := (dC, dI)) (ci := 10) (v := .int (S_21 5 0)) (C := RX9) (T := TX9) (N := 38) hx hb hts iw_X9_total hown hK hP 0 rfl rfl 5 (by decide) (hts _ lk_X9_total_195) (fun _ h9 => h9) rfl dX9_total_144 ?_
    exact W.iret (v := (S_21 5 0)) hx hb hr (fun t ht hW => ⟨⟨(S_21 5 0), (S_21, G_21), rfl, hw, by rw [ht]; exact hP, va_K.moved hW.alike hK, hD⟩, hS.F ht⟩) hS.2.2 dX9_total_147
  · have hw := hw.2 c_24
    refine lv_iconst (v := 0) hx hb dX9_total_27 (by decide) ?_
    exact W.iret (v := (0 : Int32)) hx hb hr (fun t ht hW => ⟨⟨(0 : Int32), (S_21, G_21), rfl, hw, by rw [ht]; exact hP, va_K.moved hW.alike hK, hD⟩, hS.F ht⟩) hS.2.2 dX9_total_28
set_option maxHeartbeats 4000000 in
set_option maxRecDepth 100000 in
theorem tb_X9_total_19 {p : Program} {l : Launch} {e : Env} {s : State} {m : MethodId} {below : List Frame} {meth : Method} {c : Code} {args : Array Value} {dC : Nat → ClassId} {dI : Nat → Nat → Nat} {cI cJ cZ : ClassId} {o : Nat} {ad : Nat → Nat} {A : Nat → Prop} {Q : Int32 → mS → mG → Prop} (C : mCx p s m args meth c cX9_total 6 (some .int) wsX9_total A dC dI cI cJ cZ) : ∀ (S : mS) (G : mG) (a1 : Int32), wp_X9_total_19 Q  S G a1 → mAt p l e rm_X9_total s m args below meth c dC dI cI cJ cZ o ad A (MQ below (va_Qi (fun r (u : mS × mG) => Q r u.1 u.2) (mB dC dI cI cJ cZ o ad A) A) args s 0 0 A) 19 6 [(0, .ref o), (1, .int a1)] [.ref o] S G := by
  obtain ⟨hx, hb, hml, hown, hts, hr, hlocks, hA, hK⟩ := id C
  intro S G a1 hw H locs hP hD hS ls hl
  rw [wp_X9_total_19] at hw
  refine lv_iconst (v := 0) hx hb dX9_total_19 (by decide) ?_
  exact tb_X9_total_20 C  S G a1 (0 : Int32) hw H locs hP hD hS ls (lv_sub hl [0, 1] rfl)
set_option maxHeartbeats 4000000 in
set_option maxRecDepth 100000 in
theorem tb_X9_total_0 {p : Program} {l : Launch} {e : Env} {s : State} {m : MethodId} {below : List Frame} {meth : Method} {c : Code} {args : Array Value} {dC : Nat → ClassId} {dI : Nat → Nat → Nat} {cI cJ cZ : ClassId} {o : Nat} {ad : Nat → Nat} {A : Nat → Prop} {Q : Int32 → mS → mG → Prop} (C : mCx p s m args meth c cX9_total 6 (some .int) wsX9_total A dC dI cI cJ cZ) : ∀ (S : mS) (G : mG) (a1 : Int32), wp_X9_total_0 Q  S G a1 → mAt p l e rm_X9_total s m args below meth c dC dI cI cJ cZ o ad A (MQ below (va_Qi (fun r (u : mS × mG) => Q r u.1 u.2) (mB dC dI cI cJ cZ o ad A) A) args s 0 0 A) 0 6 [(0, .ref o), (1, .int a1)] [] S G := by
  obtain ⟨hx, hb, hml, hown, hts, hr, hlocks, hA, hK⟩ := id C
  intro S G a1 hw H locs hP hD hS ls hl
  rw [wp_X9_total_0] at hw
  refine lv_aload_n hx hb dX9_total_0 rfl (lv_at hl 0 rfl) ?_
  refine lv_iconst (v := 0) hx hb dX9_total_1 (by decide) ?_
  refine va_put (D := (dC, dI)) (ci := 10) (v := .int (0 : Int32)) (C := RX9) (T := TX9) (N := 38) hx hb hts iw_X9_total tyX9 tyX9_ok nmX9 hown hK hP hD hS 0 rfl rfl 0 (by decide) (hts _ lk_X9_total_105) (fun _ h9 => h9) rfl (tyX9_ok 0 (by decide)) rfl rfl (Nat.le_of_ble_eq_true rfl) dX9_total_2 (fun H locs hP hD hS => ?_)
  obtain ⟨S_2, eS_2⟩ : ∃ y : mS, y = mst S 0 0 (0 : Int32) := ⟨_, rfl⟩
  have hw := hw S_2 eS_2
  have hP : va_P (dC, dI) vwCl (mW cI cJ cZ o ad S_2 G) H := by rw [eS_2]; exact hP
  have hD : va_D A (mW cI cJ cZ o ad S_2 G) := by rw [eS_2]; exact hD
  refine lv_aload_n hx hb dX9_total_5 rfl (lv_at hl 0 rfl) ?_
  refine lv_iload_n hx hb dX9_total_6 rfl (lv_at hl 1 rfl) ?_
  refine lv_if_lt (tgt := 19) hx hb dX9_total_7 (by decide) (fun c_7 => ?_) (fun c_7 => ?_)
  · have hw := hw.1 c_7
    exact tb_X9_total_19 C  S_2 G a1 hw H locs hP hD hS ls (lv_sub hl [0, 1] rfl)
  · have hw := hw.2 c_7
    refine lv_iload_n hx hb dX9_total_10 rfl (lv_at hl 1 rfl) ?_
    refine lv_iconst (v := 4) hx hb dX9_total_11 (by decide) ?_
    refine lv_icmp_gt (tgt := 19) hx hb dX9_total_12 (by decide) (fun c_12 => ?_) (fun c_12 => ?_)
    · have hw := hw.1 c_12
      exact tb_X9_total_19 C  S_2 G a1 hw H locs hP hD hS ls (lv_sub hl [0, 1] rfl)
    · have hw := hw.2 c_12
      refine lv_iconst (v := 1) hx hb dX9_total_15 (by decide) ?_
      refine lv_goto (tgt := 20) hx hb dX9_total_16 (by decide) ?_
      exact tb_X9_total_20 C  S_2 G a1 (1 : Int32) hw H locs hP hD hS ls (lv_sub hl [0, 1] rfl)
set_option maxHeartbeats 4000000 in
set_option maxRecDepth 100000 in
theorem c_X9_total (l : Launch) (dC : Nat → ClassId) (dI : Nat → Nat → Nat) (cI cJ cZ : ClassId) (o : Nat) (ad : Nat → Nat) (S : mS) (G : mG) (sz : Nat) (a1 : Int32) (Q : Int32 → mS → mG → Prop) (hw : wp_X9_total_0 Q S G a1) : Met l yX9_total wsX9_total rm_X9_total (va_Pc [.ref o, .int a1] (mPre dC dI cI cJ cZ o ad S G sz)) (va_Qi (fun r (u : mS × mG) => Q r u.1 u.2) (mB dC dI cI cJ cZ o ad (mA cI cJ cZ o ad S G sz)) (mA cI cJ cZ o ad S G sz)) 0 0 (mA cI cJ cZ o ad S G sz) := by
  refine Met.ofW (cc := cX9_total) (maxL := 6) (ret := (some .int)) (by decide) rfl ?_
  intro p e s m args below meth c s₁ B hml hv
  obtain ⟨rfl, hsz, hP, hK, hD0⟩ := hv
  subst hsz
  have hl := lv_entry ([.ref o, .int a1]) (n := 6) (Nat.le_of_ble_eq_true rfl)
  rw [lg_entry_eq]
  generalize (lg_sl ([.ref o, .int a1]) ++ List.replicate (6 - (lg_sl ([.ref o, .int a1])).length) Slot.unset).toArray = ls at hl ⊢
  exact tb_X9_total_0 (Q := Q) (p := p) ⟨B.exec, B.bytes, hml, findClass_of_methodNamed B.named, atoms_spec (ws := wsX9_total) B.pre, B.returns, B.notSynchronized, fun q h => Or.inr h, hK⟩ S G a1 hw s.heap [] hP (hD0.self (sz := s.heap.size)) va_S.rf ls hl
