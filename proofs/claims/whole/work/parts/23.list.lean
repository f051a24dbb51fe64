theorem lk_J6_bitCount_0f7a4_265 : Cond.constant RJ6 265 (1431655765) ∈ wsJ6_bitCount_0f7a4 := by decide +kernel
theorem lk_J6_bitCount_0f7a4_266 : Cond.constant RJ6 266 (858993459) ∈ wsJ6_bitCount_0f7a4 := by decide +kernel
theorem lk_J6_bitCount_0f7a4_267 : Cond.constant RJ6 267 (252645135) ∈ wsJ6_bitCount_0f7a4 := by decide +kernel
abbrev rm_J6_bitCount_0f7a4 : Room := { frames := 0, cells := 0, slots := 0, locals := 0 }
def wp_J6_bitCount_0f7a4_0 (Q : Int32 → Prop) (a0 : Int32) : Prop :=
    (∀ v0_9 : Int32, v0_9 = (a0 - (((a0).toUInt32 >>> (((1 : Int32)).toUInt32 &&& Int32.toUInt32 31)).toInt32 &&& (1431655765 : Int32))) →
      (∀ v0_23 : Int32, v0_23 = ((v0_9 &&& (858993459 : Int32)) + (((v0_9).toUInt32 >>> (((2 : Int32)).toUInt32 &&& Int32.toUInt32 31)).toInt32 &&& (858993459 : Int32))) →
        (∀ v0_33 : Int32, v0_33 = ((v0_23 + ((v0_23).toUInt32 >>> (((4 : Int32)).toUInt32 &&& Int32.toUInt32 31)).toInt32) &&& (252645135 : Int32)) →
          (∀ v0_40 : Int32, v0_40 = (v0_33 + ((v0_33).toUInt32 >>> (((8 : Int32)).toUInt32 &&& Int32.toUInt32 31)).toInt32) →
            (∀ v0_47 : Int32, v0_47 = (v0_40 + ((v0_40).toUInt32 >>> (((16 : Int32)).toUInt32 &&& Int32.toUInt32 31)).toInt32) →
              (Q (v0_47 &&& (63 : Int32))))))))
set_option maxHeartbeats 4000000 in
set_option maxRecDepth 100000 in
theorem tb_J6_bitCount_0f7a4_0 {p : Program} {l : Launch} {e : Env} {s : State} {m : MethodId} {below : List Frame} {meth : Method} {c : Code} {args : Array Value} {Q : Int32 → Prop} (C : sCx p s m args meth c cJ6_bitCount_0f7a4 1 (some .int) RJ6 wsJ6_bitCount_0f7a4) : ∀ (a0 : Int32), wp_J6_bitCount_0f7a4_0 Q  a0 → sAt p l e rm_J6_bitCount_0f7a4 s m args below meth c (MQ below (vp_Si (fun r => Q r)) args s 0 0 (fun _ => False)) 0 1 [(0, .int a0)] [] := by
  obtain ⟨hx, hb, hml, hown, hts, hr, hlocks⟩ := id C
  intro a0 hw ls hl
  rw [wp_J6_bitCount_0f7a4_0] at hw
  refine lv_iload_n hx hb dJ6_bitCount_0f7a4_0 rfl (lv_at hl 0 rfl) ?_
  refine lv_iload_n hx hb dJ6_bitCount_0f7a4_1 rfl (lv_at hl 0 rfl) ?_
  refine lv_iconst (v := 1) hx hb dJ6_bitCount_0f7a4_2 (by decide) ?_
  refine lv_iushr hx hb dJ6_bitCount_0f7a4_3 rfl ?_
  refine lv_ldcw (v := 1431655765) hx hb hown (hts _ lk_J6_bitCount_0f7a4_265) dJ6_bitCount_0f7a4_4 ?_
  refine lv_iand hx hb dJ6_bitCount_0f7a4_7 ?_
  refine lv_isub hx hb dJ6_bitCount_0f7a4_8 ?_
  refine lv_topi (fun v0_9 ev0_9 => ?_)
  have hw := hw v0_9 ev0_9
  refine lv_istore_n (lv' := [(0, .int v0_9)]) hx hb dJ6_bitCount_0f7a4_9 rfl hl (by decide) rfl (fun ls hl => ?_)
  refine lv_iload_n hx hb dJ6_bitCount_0f7a4_10 rfl (lv_at hl 0 rfl) ?_
  refine lv_ldcw (v := 858993459) hx hb hown (hts _ lk_J6_bitCount_0f7a4_266) dJ6_bitCount_0f7a4_11 ?_
  refine lv_iand hx hb dJ6_bitCount_0f7a4_14 ?_
  refine lv_iload_n hx hb dJ6_bitCount_0f7a4_15 rfl (lv_at hl 0 rfl) ?_
  refine lv_iconst (v := 2) hx hb dJ6_bitCount_0f7a4_16 (by decide) ?_
  refine lv_iushr hx hb dJ6_bitCount_0f7a4_17 rfl ?_
  refine lv_ldcw (v := 858993459) hx hb hown (hts _ lk_J6_bitCount_0f7a4_266) dJ6_bitCount_0f7a4_18 ?_
  refine lv_iand hx hb dJ6_bitCount_0f7a4_21 ?_
  refine lv_iadd hx hb dJ6_bitCount_0f7a4_22 ?_
  refine lv_topi (fun v0_23 ev0_23 => ?_)
  have hw := hw v0_23 ev0_23
  refine lv_istore_n (lv' := [(0, .int v0_23)]) hx hb dJ6_bitCount_0f7a4_23 rfl hl (by decide) rfl (fun ls hl => ?_)
  refine lv_iload_n hx hb dJ6_bitCount_0f7a4_24 rfl (lv_at hl 0 rfl) ?_
  refine lv_iload_n hx hb dJ6_bitCount_0f7a4_25 rfl (lv_at hl 0 rfl) ?_
  refine lv_iconst (v := 4) hx hb dJ6_bitCount_0f7a4_26 (by decide) ?_
  refine lv_iushr hx hb dJ6_bitCount_0f7a4_27 rfl ?_
  refine lv_iadd hx hb dJ6_bitCount_0f7a4_28 ?_
  refine lv_ldcw (v := 252645135) hx hb hown (hts _ lk_J6_bitCount_0f7a4_267) dJ6_bitCount_0f7a4_29 ?_
  refine lv_iand hx hb dJ6_bitCount_0f7a4_32 ?_
  refine lv_topi (fun v0_33 ev0_33 => ?_)
  have hw := hw v0_33 ev0_33
  refine lv_istore_n (lv' := [(0, .int v0_33)]) hx hb dJ6_bitCount_0f7a4_33 rfl hl (by decide) rfl (fun ls hl => ?_)
  refine lv_iload_n hx hb dJ6_bitCount_0f7a4_34 rfl (lv_at hl 0 rfl) ?_
  refine lv_iload_n hx hb dJ6_bitCount_0f7a4_35 rfl (lv_at hl 0 rfl) ?_
  refine lv_bipush (v := 8) hx hb dJ6_bitCount_0f7a4_36 (by decide) ?_
  refine lv_iushr hx hb dJ6_bitCount_0f7a4_38 rfl ?_
  refine lv_iadd hx hb dJ6_bitCount_0f7a4_39 ?_
  refine lv_topi (fun v0_40 ev0_40 => ?_)
  have hw := hw v0_40 ev0_40
  refine lv_istore_n (lv' := [(0, .int v0_40)]) hx hb dJ6_bitCount_0f7a4_40 rfl hl (by decide) rfl (fun ls hl => ?_)
  refine lv_iload_n hx hb dJ6_bitCount_0f7a4_41 rfl (lv_at hl 0 rfl) ?_
  refine lv_iload_n hx hb dJ6_bitCount_0f7a4_42 rfl (lv_at hl 0 rfl) ?_
  refine lv_bipush (v := 16) hx hb dJ6_bitCount_0f7a4_43 (by decide) ?_
  refine lv_iushr hx hb dJ6_bitCount_0f7a4_45 rfl ?_
  refine lv_iadd hx hb dJ6_bitCount_0f7a4_46 ?_
  refine lv_topi (fun v0_47 ev0_47 => ?_)
  have hw := hw v0_47 ev0_47
  refine lv_istore_n (lv' := [(0, .int v0_47)]) hx hb dJ6_bitCount_0f7a4_47 rfl hl (by decide) rfl (fun ls hl => ?_)
  refine lv_iload_n hx hb dJ6_bitCount_0f7a4_48 rfl (lv_at hl 0 rfl) ?_
  refine lv_bipush (v := 63) hx hb dJ6_bitCount_0f7a4_49 (by decide) ?_
  refine lv_iand hx hb dJ6_bitCount_0f7a4_51 ?_
  exact W.iret (v := (v0_47 &&& (63 : Int32))) hx hb hr (fun t ht hW => ⟨(v0_47 &&& (63 : Int32)), rfl, hw, ht⟩) (fun q h => absurd h List.not_mem_nil) dJ6_bitCount_0f7a4_52
set_option maxHeartbeats 4000000 in
set_option maxRecDepth 100000 in
theorem c_J6_bitCount_0f7a4 (l : Launch) (a0 : Int32) (Q : Int32 → Prop) (hw : wp_J6_bitCount_0f7a4_0 Q a0) : Met l yJ6_bitCount_0f7a4 wsJ6_bitCount_0f7a4 rm_J6_bitCount_0f7a4 (fun v _ => v = ([.int a0] : List Value).toArray) (vp_Si (fun r => Q r)) 0 0 (fun _ => False) := by
  refine Met.ofW (cc := cJ6_bitCount_0f7a4) (maxL := 1) (ret := (some .int)) (by decide) rfl ?_
  intro p e s m args below meth c s₁ B hml hv
  subst hv
  have hl := lv_entry ([.int a0]) (n := 1) (Nat.le_of_ble_eq_true rfl)
  rw [lg_entry_eq]
  generalize (lg_sl ([.int a0]) ++ List.replicate (1 - (lg_sl ([.int a0])).length) Slot.unset).toArray = ls at hl ⊢
  exact tb_J6_bitCount_0f7a4_0 (Q := Q) (p := p) ⟨B.exec, B.bytes, hml, findClass_of_methodNamed B.named, atoms_spec (ws := wsJ6_bitCount_0f7a4) B.pre, B.returns, B.notSynchronized⟩ a0 hw ls (lv_sub hl [0] rfl)
theorem lk_J13_bitCount_95d88_314 : Cond.constantLong RJ13 314 (6148914691236517205) ∈ wsJ13_bitCount_95d88 := by decide +kernel
theorem lk_J13_bitCount_95d88_316 : Cond.constantLong RJ13 316 (3689348814741910323) ∈ wsJ13_bitCount_95d88 := by decide +kernel
theorem lk_J13_bitCount_95d88_318 : Cond.constantLong RJ13 318 (1085102592571150095) ∈ wsJ13_bitCount_95d88 := by decide +kernel
abbrev rm_J13_bitCount_95d88 : Room := { frames := 0, cells := 0, slots := 0, locals := 0 }
def wp_J13_bitCount_95d88_0 (Q : Int32 → Prop) (a0 : Int64) : Prop :=
    (∀ v0_9 : Int64, v0_9 = (a0 - (((a0).toUInt64 >>> ((Int32.toInt64 (1 : Int32)).toUInt64 &&& Int64.toUInt64 63)).toInt64 &&& (6148914691236517205 : Int64))) →
      (∀ v0_23 : Int64, v0_23 = ((v0_9 &&& (3689348814741910323 : Int64)) + (((v0_9).toUInt64 >>> ((Int32.toInt64 (2 : Int32)).toUInt64 &&& Int64.toUInt64 63)).toInt64 &&& (3689348814741910323 : Int64))) →
        (∀ v0_33 : Int64, v0_33 = ((v0_23 + ((v0_23).toUInt64 >>> ((Int32.toInt64 (4 : Int32)).toUInt64 &&& Int64.toUInt64 63)).toInt64) &&& (1085102592571150095 : Int64)) →
          (∀ v0_40 : Int64, v0_40 = (v0_33 + ((v0_33).toUInt64 >>> ((Int32.toInt64 (8 : Int32)).toUInt64 &&& Int64.toUInt64 63)).toInt64) →
            (∀ v0_47 : Int64, v0_47 = (v0_40 + ((v0_40).toUInt64 >>> ((Int32.toInt64 (16 : Int32)).toUInt64 &&& Int64.toUInt64 63)).toInt64) →
              (∀ v0_54 : Int64, v0_54 = (v0_47 + ((v0_47).toUInt64 >>> ((Int32.toInt64 (32 : Int32)).toUInt64 &&& Int64.toUInt64 63)).toInt64) →
                (Q ((Int64.toInt32 v0_54) &&& (127 : Int32)))))))))
set_option maxHeartbeats 4000000 in
set_option maxRecDepth 100000 in
theorem tb_J13_bitCount_95d88_0 {p : Program} {l : Launch} {e : Env} {s : State} {m : MethodId} {below : List Frame} {meth : Method} {c : Code} {args : Array Value} {Q : Int32 → Prop} (C : sCx p s m args meth c cJ13_bitCount_95d88 2 (some .int) RJ13 wsJ13_bitCount_95d88) : ∀ (a0 : Int64), wp_J13_bitCount_95d88_0 Q  a0 → sAt p l e rm_J13_bitCount_95d88 s m args below meth c (MQ below (vp_Si (fun r => Q r)) args s 0 0 (fun _ => False)) 0 2 [(0, .long a0)] [] := by
  obtain ⟨hx, hb, hml, hown, hts, hr, hlocks⟩ := id C
  intro a0 hw ls hl
  rw [wp_J13_bitCount_95d88_0] at hw
  refine lv_lload_n hx hb dJ13_bitCount_95d88_0 rfl (lv_at hl 0 rfl) ?_
  refine lv_lload_n hx hb dJ13_bitCount_95d88_1 rfl (lv_at hl 0 rfl) ?_
  refine lv_iconst (v := 1) hx hb dJ13_bitCount_95d88_2 (by decide) ?_
  refine lv_lushr hx hb dJ13_bitCount_95d88_3 rfl ?_
  refine lv_ldc2 (v := 6148914691236517205) hx hb hown (hts _ lk_J13_bitCount_95d88_314) dJ13_bitCount_95d88_4 ?_
  refine lv_land hx hb dJ13_bitCount_95d88_7 ?_
  refine lv_lsub hx hb dJ13_bitCount_95d88_8 ?_
  refine lv_topl (fun v0_9 ev0_9 => ?_)
  have hw := hw v0_9 ev0_9
  refine lv_lstore_n (lv' := [(0, .long v0_9)]) hx hb dJ13_bitCount_95d88_9 rfl hl (by decide) rfl (fun ls hl => ?_)
  refine lv_lload_n hx hb dJ13_bitCount_95d88_10 rfl (lv_at hl 0 rfl) ?_
  refine lv_ldc2 (v := 3689348814741910323) hx hb hown (hts _ lk_J13_bitCount_95d88_316) dJ13_bitCount_95d88_11 ?_
  refine lv_land hx hb dJ13_bitCount_95d88_14 ?_
  refine lv_lload_n hx hb dJ13_bitCount_95d88_15 rfl (lv_at hl 0 rfl) ?_
  refine lv_iconst (v := 2) hx hb dJ13_bitCount_95d88_16 (by decide) ?_
  refine lv_lushr hx hb dJ13_bitCount_95d88_17 rfl ?_
  refine lv_ldc2 (v := 3689348814741910323) hx hb hown (hts _ lk_J13_bitCount_95d88_316) dJ13_bitCount_95d88_18 ?_
  refine lv_land hx hb dJ13_bitCount_95d88_21 ?_
  refine lv_ladd hx hb dJ13_bitCount_95d88_22 ?_
  refine lv_topl (fun v0_23 ev0_23 => ?_)
  have hw := hw v0_23 ev0_23
  refine lv_lstore_n (lv' := [(0, .long v0_23)]) hx hb dJ13_bitCount_95d88_23 rfl hl (by decide) rfl (fun ls hl => ?_)
  refine lv_lload_n hx hb dJ13_bitCount_95d88_24 rfl (lv_at hl 0 rfl) ?_
  refine lv_lload_n hx hb dJ13_bitCount_95d88_25 rfl (lv_at hl 0 rfl) ?_
  refine lv_iconst (v := 4) hx hb dJ13_bitCount_95d88_26 (by decide) ?_
  refine lv_lushr hx hb dJ13_bitCount_95d88_27 rfl ?_
  refine lv_ladd hx hb dJ13_bitCount_95d88_28 ?_
  refine lv_ldc2 (v := 1085102592571150095) hx hb hown (hts _ lk_J13_bitCount_95d88_318) dJ13_bitCount_95d88_29 ?_
  refine lv_land hx hb dJ13_bitCount_95d88_32 ?_
  refine lv_topl (fun v0_33 ev0_33 => ?_)
  have hw := hw v0_33 ev0_33
  refine lv_lstore_n (lv' := [(0, .long v0_33)]) hx hb dJ13_bitCount_95d88_33 rfl hl (by decide) rfl (fun ls hl => ?_)
  refine lv_lload_n hx hb dJ13_bitCount_95d88_34 rfl (lv_at hl 0 rfl) ?_
  refine lv_lload_n hx hb dJ13_bitCount_95d88_35 rfl (lv_at hl 0 rfl) ?_
  refine lv_bipush (v := 8) hx hb dJ13_bitCount_95d88_36 (by decide) ?_
  refine lv_lushr hx hb dJ13_bitCount_95d88_38 rfl ?_
  refine lv_ladd hx hb dJ13_bitCount_95d88_39 ?_
  refine lv_topl (fun v0_40 ev0_40 => ?_)
  have hw := hw v0_40 ev0_40
  refine lv_lstore_n (lv' := [(0, .long v0_40)]) hx hb dJ13_bitCount_95d88_40 rfl hl (by decide) rfl (fun ls hl => ?_)
  refine lv_lload_n hx hb dJ13_bitCount_95d88_41 rfl (lv_at hl 0 rfl) ?_
  refine lv_lload_n hx hb dJ13_bitCount_95d88_42 rfl (lv_at hl 0 rfl) ?_
  refine lv_bipush (v := 16) hx hb dJ13_bitCount_95d88_43 (by decide) ?_
  refine lv_lushr hx hb dJ13_bitCount_95d88_45 rfl ?_
  refine lv_ladd hx hb dJ13_bitCount_95d88_46 ?_
  refine lv_topl (fun v0_47 ev0_47 => ?_)
  have hw := hw v0_47 ev0_47
  refine lv_lstore_n (lv' := [(0, .long v0_47)]) hx hb dJ13_bitCount_95d88_47 rfl hl (by decide) rfl (fun ls hl => ?_)
  refine lv_lload_n hx hb dJ13_bitCount_95d88_48 rfl (lv_at hl 0 rfl) ?_
  refine lv_lload_n hx hb dJ13_bitCount_95d88_49 rfl (lv_at hl 0 rfl) ?_
  refine lv_bipush (v := 32) hx hb dJ13_bitCount_95d88_50 (by decide) ?_
  refine lv_lushr hx hb dJ13_bitCount_95d88_52 rfl ?_
  refine lv_ladd hx hb dJ13_bitCount_95d88_53 ?_
  refine lv_topl (fun v0_54 ev0_54 => ?_)
  have hw := hw v0_54 ev0_54
  refine lv_lstore_n (lv' := [(0, .long v0_54)]) hx hb dJ13_bitCount_95d88_54 rfl hl (by decide) rfl (fun ls hl => ?_)
  refine lv_lload_n hx hb dJ13_bitCount_95d88_55 rfl (lv_at hl 0 rfl) ?_
  refine lv_l2i hx hb dJ13_bitCount_95d88_56 rfl ?_
  refine lv_bipush (v := 127) hx hb dJ13_bitCount_95d88_57 (by decide) ?_
  refine lv_iand hx hb dJ13_bitCount_95d88_59 ?_
  exact W.iret (v := ((Int64.toInt32 v0_54) &&& (127 : Int32))) hx hb hr (fun t ht hW => ⟨((Int64.toInt32 v0_54) &&& (127 : Int32)), rfl, hw, ht⟩) (fun q h => absurd h List.not_mem_nil) dJ13_bitCount_95d88_60
set_option maxHeartbeats 4000000 in
set_option maxRecDepth 100000 in
theorem c_J13_bitCount_95d88 (l : Launch) (a0 : Int64) (Q : Int32 → Prop) (hw : wp_J13_bitCount_95d88_0 Q a0) : Met l yJ13_bitCount_95d88 wsJ13_bitCount_95d88 rm_J13_bitCount_95d88 (fun v _ => v = ([.long a0] : List Value).toArray) (vp_Si (fun r => Q r)) 0 0 (fun _ => False) := by
  refine Met.ofW (cc := cJ13_bitCount_95d88) (maxL := 2) (ret := (some .int)) (by decide) rfl ?_
  intro p e s m args below meth c s₁ B hml hv
  subst hv
  have hl := lv_entry ([.long a0]) (n := 2) (Nat.le_of_ble_eq_true rfl)
  rw [lg_entry_eq]
  generalize (lg_sl ([.long a0]) ++ List.replicate (2 - (lg_sl ([.long a0])).length) Slot.unset).toArray = ls at hl ⊢
  exact tb_J13_bitCount_95d88_0 (Q := Q) (p := p) ⟨B.exec, B.bytes, hml, findClass_of_methodNamed B.named, atoms_spec (ws := wsJ13_bitCount_95d88) B.pre, B.returns, B.notSynchronized⟩ a0 hw ls (lv_sub hl [0] rfl)
abbrev rm_J3_checkIndex_8e157 : Room := { frames := 0, cells := 0, slots := 0, locals := 0 }
def wp_J3_checkIndex_8e157_0 (Q : Int32 → Prop) (a0 : Int32) (a1 : Int32) : Prop :=
    ((a0 < 0 →
      (False))
     ∧ (¬ a0 < 0 →
      ((a0 < a1 →
        (Q a0))
       ∧ (¬ a0 < a1 →
        (False)))))
set_option maxHeartbeats 4000000 in
set_option maxRecDepth 100000 in
theorem tb_J3_checkIndex_8e157_0 {p : Program} {l : Launch} {e : Env} {s : State} {m : MethodId} {below : List Frame} {meth : Method} {c : Code} {args : Array Value} {Q : Int32 → Prop} (C : sCx p s m args meth c cJ3_checkIndex_8e157 3 (some .int) RJ3 wsJ3_checkIndex_8e157) : ∀ (a0 : Int32) (a1 : Int32), wp_J3_checkIndex_8e157_0 Q  a0 a1 → sAt p l e rm_J3_checkIndex_8e157 s m args below meth c (MQ below (vp_Si (fun r => Q r)) args s 0 0 (fun _ => False)) 0 3 [(0, .int a0), (1, .int a1)] [] := by
  obtain ⟨hx, hb, hml, hown, hts, hr, hlocks⟩ := id C
  intro a0 a1 hw ls hl
  rw [wp_J3_checkIndex_8e157_0] at hw
  refine lv_iload_n hx hb dJ3_checkIndex_8e157_0 rfl (lv_at hl 0 rfl) ?_
  refine lv_if_lt (tgt := 9) hx hb dJ3_checkIndex_8e157_1 (by decide) (fun c_1 => ?_) (fun c_1 => ?_)
  · have hw := hw.1 c_1
    exact hw.elim
  · have hw := hw.2 c_1
    refine lv_iload_n hx hb dJ3_checkIndex_8e157_4 rfl (lv_at hl 0 rfl) ?_
    refine lv_iload_n hx hb dJ3_checkIndex_8e157_5 rfl (lv_at hl 1 rfl) ?_
    refine lv_icmp_lt (tgt := 16) hx hb dJ3_checkIndex_8e157_6 (by decide) (fun c_6 => ?_) (fun c_6 => ?_)
    · have hw := hw.1 c_6
      refine lv_iload_n hx hb dJ3_checkIndex_8e157_16 rfl (lv_at hl 0 rfl) ?_
      exact W.iret (v := a0) hx hb hr (fun t ht hW => ⟨a0, rfl, hw, ht⟩) (fun q h => absurd h List.not_mem_nil) dJ3_checkIndex_8e157_17
    · have hw := hw.2 c_6
      exact hw.elim
set_option maxHeartbeats 4000000 in
set_option maxRecDepth 100000 in
theorem c_J3_checkIndex_8e157 (l : Launch) (a0 : Int32) (a1 : Int32) (Q : Int32 → Prop) (hw : wp_J3_checkIndex_8e157_0 Q a0 a1) : Met l yJ3_checkIndex_8e157 wsJ3_checkIndex_8e157 rm_J3_checkIndex_8e157 (fun v _ => v = ([.int a0, .int a1, .null] : List Value).toArray) (vp_Si (fun r => Q r)) 0 0 (fun _ => False) := by
  refine Met.ofW (cc := cJ3_checkIndex_8e157) (maxL := 3) (ret := (some .int)) (by decide) rfl ?_
  intro p e s m args below meth c s₁ B hml hv
  subst hv
  have hl := lv_entry ([.int a0, .int a1, .null]) (n := 3) (Nat.le_of_ble_eq_true rfl)
  rw [lg_entry_eq]
  generalize (lg_sl ([.int a0, .int a1, .null]) ++ List.replicate (3 - (lg_sl ([.int a0, .int a1, .null])).length) Slot.unset).toArray = ls at hl ⊢
  exact tb_J3_checkIndex_8e157_0 (Q := Q) (p := p) ⟨B.exec, B.bytes, hml, findClass_of_methodNamed B.named, atoms_spec (ws := wsJ3_checkIndex_8e157) B.pre, B.returns, B.notSynchronized⟩ a0 a1 hw ls (lv_sub hl [0, 1] rfl)
abbrev rm_J15_checkIndex_7cf53 : Room := { frames := 1, cells := 0, slots := 0, locals := 22 }
def wp_J15_checkIndex_7cf53_0 (Q : Int32 → Prop) (a0 : Int32) (a1 : Int32) : Prop :=
    (wp_J3_checkIndex_8e157_0 (fun r_3 =>
      (Q r_3)) a0 a1)
set_option maxHeartbeats 4000000 in
set_option maxRecDepth 100000 in
theorem tb_J15_checkIndex_7cf53_0 {p : Program} {l : Launch} {e : Env} {s : State} {m : MethodId} {below : List Frame} {meth : Method} {c : Code} {args : Array Value} {Q : Int32 → Prop} (C : sCx p s m args meth c cJ15_checkIndex_7cf53 2 (some .int) RJ15 wsJ15_checkIndex_7cf53) : ∀ (a0 : Int32) (a1 : Int32), wp_J15_checkIndex_7cf53_0 Q  a0 a1 → sAt p l e rm_J15_checkIndex_7cf53 s m args below meth c (MQ below (vp_Si (fun r => Q r)) args s 0 0 (fun _ => False)) 0 2 [(0, .int a0), (1, .int a1)] [] := by
  obtain ⟨hx, hb, hml, hown, hts, hr, hlocks⟩ := id C
  intro a0 a1 hw ls hl
  rw [wp_J15_checkIndex_7cf53_0] at hw
  refine lv_iload_n hx hb dJ15_checkIndex_7cf53_0 rfl (lv_at hl 0 rfl) ?_
  refine lv_iload_n hx hb dJ15_checkIndex_7cf53_1 rfl (lv_at hl 1 rfl) ?_
  refine lv_null hx hb dJ15_checkIndex_7cf53_2 ?_
  refine vp_callSi (W.runS (As := [.int a0, .int a1, .null]) (rest := []) ⟨hx, hb, hml, hown, hts⟩ (c_J3_checkIndex_8e157 l a0 a1 _ hw) (va_cwS 3 hts gJ15_checkIndex_7cf53_J3_checkIndex_8e157 rfl rfl rfl (by decide +kernel) ⟨by decide, by decide⟩) preEq rfl rfl hl.1 rfl (lv_room (Nat.le_of_ble_eq_true rfl)) dJ15_checkIndex_7cf53_3 ⟨by decide, by decide⟩) (fun r_3 hw => ?_)
  exact W.iret (v := r_3) hx hb hr (fun t ht hW => ⟨r_3, rfl, hw, ht⟩) (fun q h => absurd h List.not_mem_nil) dJ15_checkIndex_7cf53_6
set_option maxHeartbeats 4000000 in
set_option maxRecDepth 100000 in
theorem c_J15_checkIndex_7cf53 (l : Launch) (a0 : Int32) (a1 : Int32) (Q : Int32 → Prop) (hw : wp_J15_checkIndex_7cf53_0 Q a0 a1) : Met l yJ15_checkIndex_7cf53 wsJ15_checkIndex_7cf53 rm_J15_checkIndex_7cf53 (fun v _ => v = ([.int a0, .int a1] : List Value).toArray) (vp_Si (fun r => Q r)) 0 0 (fun _ => False) := by
  refine Met.ofW (cc := cJ15_checkIndex_7cf53) (maxL := 2) (ret := (some .int)) (by decide) rfl ?_
  intro p e s m args below meth c s₁ B hml hv
  subst hv
  have hl := lv_entry ([.int a0, .int a1]) (n := 2) (Nat.le_of_ble_eq_true rfl)
  rw [lg_entry_eq]
  generalize (lg_sl ([.int a0, .int a1]) ++ List.replicate (2 - (lg_sl ([.int a0, .int a1])).length) Slot.unset).toArray = ls at hl ⊢
  exact tb_J15_checkIndex_7cf53_0 (Q := Q) (p := p) ⟨B.exec, B.bytes, hml, findClass_of_methodNamed B.named, atoms_spec (ws := wsJ15_checkIndex_7cf53) B.pre, B.returns, B.notSynchronized⟩ a0 a1 hw ls (lv_sub hl [0, 1] rfl)
theorem lk_J8_newLength_cabcc_200 : Cond.constant RJ8 200 (2147483639) ∈ wsJ8_newLength_cabcc := by decide +kernel
theorem lm_J8_newLength_cabcc_194 : Cond.methodLink RJ8 194 Lib.Math.max.name ∈ wsJ8_newLength_cabcc := by decide +kernel
theorem lmm1_J8_newLength_cabcc_max : Cond.static Lib.Math.max.name ∈ wsJ8_newLength_cabcc := by decide +kernel
theorem lmm2_J8_newLength_cabcc_max : Cond.initialized "java/lang/Math" ∈ wsJ8_newLength_cabcc := by decide +kernel
theorem lmm3_J8_newLength_cabcc_max : Cond.code Lib.Math.max.name Lib.Math.max.code 2 (some .int) ∈ wsJ8_newLength_cabcc := by decide +kernel
abbrev rm_J8_newLength_cabcc : Room := { frames := 1, cells := 0, slots := 0, locals := 14 }
def wp_J8_newLength_cabcc_0 (Q : Int32 → Prop) (a0 : Int32) (a1 : Int32) (a2 : Int32) : Prop :=
    (∀ m_3 : Int32, m_3 = (if a1 < a2 then a2 else a1) →
      (∀ v3_7 : Int32, v3_7 = (a0 + m_3) →
        ((v3_7 ≤ (0 : Int32) →
          (False))
         ∧ (¬ v3_7 ≤ (0 : Int32) →
          (((2147483639 : Int32) < v3_7 →
            (False))
           ∧ (¬ (2147483639 : Int32) < v3_7 →
            (Q v3_7)))))))
set_option maxHeartbeats 4000000 in
set_option maxRecDepth 100000 in
theorem tb_J8_newLength_cabcc_0 {p : Program} {l : Launch} {e : Env} {s : State} {m : MethodId} {below : List Frame} {meth : Method} {c : Code} {args : Array Value} {Q : Int32 → Prop} (C : sCx p s m args meth c cJ8_newLength_cabcc 4 (some .int) RJ8 wsJ8_newLength_cabcc) : ∀ (a0 : Int32) (a1 : Int32) (a2 : Int32), wp_J8_newLength_cabcc_0 Q  a0 a1 a2 → sAt p l e rm_J8_newLength_cabcc s m args below meth c (MQ below (vp_Si (fun r => Q r)) args s 0 0 (fun _ => False)) 0 4 [(0, .int a0), (1, .int a1), (2, .int a2)] [] := by
  obtain ⟨hx, hb, hml, hown, hts, hr, hlocks⟩ := id C
  intro a0 a1 a2 hw ls hl
  rw [wp_J8_newLength_cabcc_0] at hw
  refine lv_iload_n hx hb dJ8_newLength_cabcc_0 rfl (lv_at hl 0 rfl) ?_
  refine lv_iload_n hx hb dJ8_newLength_cabcc_1 rfl (lv_at hl 1 rfl) ?_
  refine lv_iload_n hx hb dJ8_newLength_cabcc_2 rfl (lv_at hl 2 rfl) ?_
  refine va_mmax hx hb (by rw [hml]; exact hl.1.symm) hown (hts _ lm_J8_newLength_cabcc_194) (hts _ lmm1_J8_newLength_cabcc_max) (hts _ lmm2_J8_newLength_cabcc_max) (hts _ lmm3_J8_newLength_cabcc_max) (Nat.le_of_ble_eq_true rfl) (Nat.le_of_ble_eq_true rfl) (Nat.le_of_ble_eq_true rfl) (Nat.le_of_ble_eq_true rfl) dJ8_newLength_cabcc_3 ?_
  refine lv_topi (fun m_3 em_3 => ?_)
  have hw := hw m_3 em_3
  refine lv_iadd hx hb dJ8_newLength_cabcc_6 ?_
  refine lv_topi (fun v3_7 ev3_7 => ?_)
  have hw := hw v3_7 ev3_7
  refine lv_istore_n (lv' := [(3, .int v3_7), (0, .int a0), (1, .int a1), (2, .int a2)]) hx hb dJ8_newLength_cabcc_7 rfl hl (by decide) rfl (fun ls hl => ?_)
  refine lv_iconst (v := 0) hx hb dJ8_newLength_cabcc_8 (by decide) ?_
  refine lv_iload_n hx hb dJ8_newLength_cabcc_9 rfl (lv_at hl 0 rfl) ?_
  refine lv_icmp_ge (tgt := 21) hx hb dJ8_newLength_cabcc_10 (by decide) (fun c_10 => ?_) (fun c_10 => ?_)
  · have hw := hw.1 c_10
    exact hw.elim
  · have hw := hw.2 c_10
    refine lv_iload_n hx hb dJ8_newLength_cabcc_13 rfl (lv_at hl 0 rfl) ?_
    refine lv_ldc (v := 2147483639) hx hb hown (hts _ lk_J8_newLength_cabcc_200) dJ8_newLength_cabcc_14 ?_
    refine lv_icmp_gt (tgt := 21) hx hb dJ8_newLength_cabcc_16 (by decide) (fun c_16 => ?_) (fun c_16 => ?_)
    · have hw := hw.1 c_16
      exact hw.elim
    · have hw := hw.2 c_16
      refine lv_iload_n hx hb dJ8_newLength_cabcc_19 rfl (lv_at hl 0 rfl) ?_
      exact W.iret (v := v3_7) hx hb hr (fun t ht hW => ⟨v3_7, rfl, hw, ht⟩) (fun q h => absurd h List.not_mem_nil) dJ8_newLength_cabcc_20
set_option maxHeartbeats 4000000 in
set_option maxRecDepth 100000 in
theorem c_J8_newLength_cabcc (l : Launch) (a0 : Int32) (a1 : Int32) (a2 : Int32) (Q : Int32 → Prop) (hw : wp_J8_newLength_cabcc_0 Q a0 a1 a2) : Met l yJ8_newLength_cabcc wsJ8_newLength_cabcc rm_J8_newLength_cabcc (fun v _ => v = ([.int a0, .int a1, .int a2] : List Value).toArray) (vp_Si (fun r => Q r)) 0 0 (fun _ => False) := by
  refine Met.ofW (cc := cJ8_newLength_cabcc) (maxL := 4) (ret := (some .int)) (by decide) rfl ?_
  intro p e s m args below meth c s₁ B hml hv
  subst hv
  have hl := lv_entry ([.int a0, .int a1, .int a2]) (n := 4) (Nat.le_of_ble_eq_true rfl)
  rw [lg_entry_eq]
  generalize (lg_sl ([.int a0, .int a1, .int a2]) ++ List.replicate (4 - (lg_sl ([.int a0, .int a1, .int a2])).length) Slot.unset).toArray = ls at hl ⊢
  exact tb_J8_newLength_cabcc_0 (Q := Q) (p := p) ⟨B.exec, B.bytes, hml, findClass_of_methodNamed B.named, atoms_spec (ws := wsJ8_newLength_cabcc) B.pre, B.returns, B.notSynchronized⟩ a0 a1 a2 hw ls (lv_sub hl [0, 1, 2] rfl)
theorem lac1_J7_copyOf_6403c : Cond.native arraycopyName ∈ wsJ7_copyOf_6403c := by decide +kernel
theorem lac2_J7_copyOf_6403c : Cond.static arraycopyName ∈ wsJ7_copyOf_6403c := by decide +kernel
theorem lac3_J7_copyOf_6403c : Cond.initialized "java/lang/System" ∈ wsJ7_copyOf_6403c := by decide +kernel
theorem lk_J7_copyOf_6403c_110 : Cond.classLink RJ7 110 "[Ljava/lang/Object;" ∈ wsJ7_copyOf_6403c := by decide +kernel
theorem lk_J7_copyOf_6403c_2 : Cond.classLink RJ7 2 "java/lang/Object" ∈ wsJ7_copyOf_6403c := by decide +kernel
theorem lm_J7_copyOf_6403c_150 : Cond.methodLink RJ7 150 arraycopyName ∈ wsJ7_copyOf_6403c := by decide +kernel
theorem lm_J7_copyOf_6403c_304 : Cond.methodLink RJ7 304 Lib.Math.min.name ∈ wsJ7_copyOf_6403c := by decide +kernel
theorem lmm1_J7_copyOf_6403c_min : Cond.static Lib.Math.min.name ∈ wsJ7_copyOf_6403c := by decide +kernel
theorem lmm2_J7_copyOf_6403c_min : Cond.initialized "java/lang/Math" ∈ wsJ7_copyOf_6403c := by decide +kernel
theorem lmm3_J7_copyOf_6403c_min : Cond.code Lib.Math.min.name Lib.Math.min.code 2 (some .int) ∈ wsJ7_copyOf_6403c := by decide +kernel
abbrev rm_J7_copyOf_6403c : Room := { frames := 1, cells := 1, slots := 1000, locals := 60 }
def wp_J7_copyOf_6403c_24 (dA : Nat → ClassId) (zz : Nat → Nat) (Q : Nat → List Nat → pF → Prop) (L : List Nat) (f : pF) (a0 : Nat) (a1 : Int32) (k0 : Nat) : Prop :=
    ((a0 = zz 0 →
      (∀ m_32 : Int32, m_32 = (if a1 < (0 : Int32) then a1 else (0 : Int32)) →
        (cR9 L f (dA 4) (dA 4) a0 k0 (0 : Int32) (0 : Int32) m_32 (fun f_35 =>
          (Q k0 L f_35))))
    ) ∧ (¬ a0 = zz 0 →
      (aN L f (dA 4) a0 (fun g_30 =>
        (∀ m_32 : Int32, m_32 = (if a1 < g_30 then a1 else g_30) →
          (cR9 L f (dA 4) (dA 4) a0 k0 (0 : Int32) (0 : Int32) m_32 (fun f_35 =>
            (Q k0 L f_35))))))
    ))
def wp_J7_copyOf_6403c_0 (dA : Nat → ClassId) (zz : Nat → Nat) (Q : Nat → List Nat → pF → Prop) (L : List Nat) (f : pF) (a0 : Nat) (a1 : Int32) (a2 : Nat) : Prop :=
    ((¬ a2 = (zz 1) →
      (False)
    ) ∧ (a2 = (zz 1) →
      ((¬ a1 < 0 ∧ Int32.toNatClampNeg a1 ≤ 1000) ∧
        (nO zz L f (.inl (dA 4, Int32.toNatClampNeg a1, .inr (.inr (.inr (.inr (fun _ => none)))))) (fun q_7 L_7 f_7 =>
          (wp_J7_copyOf_6403c_24 dA zz Q  L_7 f_7 a0 a1 q_7))))
    ))
set_option maxHeartbeats 4000000 in
set_option maxRecDepth 100000 in
theorem tb_J7_copyOf_6403c_24 {p : Program} {l : Launch} {e : Env} {s : State} {m : MethodId} {below : List Frame} {meth : Method} {c : Code} {args : Array Value} {dC : Nat → ClassId} {dI : Nat → Nat → Nat} {dA : Nat → ClassId} {zz : Nat → Nat} {base : Nat} {A : Nat → Prop} {Q : Nat → List Nat → pF → Prop} (C : pCx p s m args meth c cJ7_copyOf_6403c 4 (some (.array (.object "java/lang/Object"))) RJ7 wsJ7_copyOf_6403c A dC dI dA zz base) : ∀ (L : List Nat) (f : pF) (a0 : Nat) (a1 : Int32) (k0 : Nat), wp_J7_copyOf_6403c_24 dA zz Q  L f a0 a1 k0 → pAt p l e rm_J7_copyOf_6403c s m args below meth c dC dI A (MQ below (va_Qr (fun (u : Nat × List Nat × pF) => Q u.1 u.2.1 u.2.2) (fun u a t => a = u.1 ∧ pB dC dI dA A u.2 t) A) args s 1 1000 A) 1 1000 24 4 [(0, .ref a0), (1, .int a1)] [.ref k0] L f := by
  obtain ⟨hx, hb, hml, hown, hts, hr, hlocks, hA, hK, hB, hz, hN, hT⟩ := id C
  intro L f a0 a1 k0 hw H locs hP hD hS ls hl
  rw [wp_J7_copyOf_6403c_24] at hw
  refine lv_astore_n (lv' := [(3, .ref k0), (0, .ref a0), (1, .int a1)]) hx hb dJ7_copyOf_6403c_24 rfl hl (by decide) rfl (fun ls hl => ?_)
  refine lv_aload_n hx hb dJ7_copyOf_6403c_25 rfl (lv_at hl 1 rfl) ?_
  refine lv_iconst (v := 0) hx hb dJ7_copyOf_6403c_26 (by decide) ?_
  refine lv_aload_n hx hb dJ7_copyOf_6403c_27 rfl (lv_at hl 0 rfl) ?_
  refine lv_iconst (v := 0) hx hb dJ7_copyOf_6403c_28 (by decide) ?_
  refine lv_aload_n hx hb dJ7_copyOf_6403c_29 rfl (lv_at hl 1 rfl) ?_
  by_cases c_30 : a0 = zz 0
  · have hw := hw.1 c_30
    refine W.eq (g2 := F0 m 30 ls (.ref (zz 0) :: [.int (0 : Int32), .ref k0, .int (0 : Int32), .ref a0])) (by rw [c_30]) ?_
    refine va_tlen (v := 0) hx hb (hT.2.2.2.narrow hB) hS rfl dJ7_copyOf_6403c_30 ?_
    refine lv_iload_n hx hb dJ7_copyOf_6403c_31 rfl (lv_at hl 2 rfl) ?_
    refine va_mmin hx hb (by rw [hml]; exact hl.1.symm) hown (hts _ lm_J7_copyOf_6403c_304) (hts _ lmm1_J7_copyOf_6403c_min) (hts _ lmm2_J7_copyOf_6403c_min) (hts _ lmm3_J7_copyOf_6403c_min) (Nat.le_of_ble_eq_true rfl) (Nat.le_of_ble_eq_true rfl) (Nat.le_of_ble_eq_true rfl) (Nat.le_of_ble_eq_true rfl) dJ7_copyOf_6403c_32 ?_
    refine lv_topi (fun m_32 em_32 => ?_)
    have hw := hw m_32 em_32
    obtain ⟨n0_35, n1_35, g_35, h_35, ⟨hL0, hf0, hL9, hf9, h1_, h2_, h3_, h4_, h5_, h6_⟩, hw⟩ := hw
    obtain ⟨kq9, hkq9⟩ := p_at hL9 hf9
    obtain ⟨kq0, hkq0⟩ := p_at hL0 hf0
    refine va_copyM hx hb (by rw [hml]; exact hl.1.symm) hown (hts _ lm_J7_copyOf_6403c_150) (hts _ lac1_J7_copyOf_6403c) (hts _ lac2_J7_copyOf_6403c) (hts _ lac3_J7_copyOf_6403c) hK hP hD hS kq0 kq9 4 4 hkq0 hkq9 rfl rfl h1_ h2_ h3_ h4_ h5_ (fun i hi y hy => p_any hN hK hP (h6_ i hi y hy)) (Nat.le_of_ble_eq_true rfl) (Nat.le_of_ble_eq_true rfl) dJ7_copyOf_6403c_35 (fun H locs hP2 hD2 hS => ?_)
    rw [p_set hD hL9 hf9 hkq9] at hP2 hD2
    obtain ⟨f_35, ef_35⟩ : ∃ y : pF, y = va_up f k0 (.inl (dA 4, n1_35, .inr (.inr (.inr (.inr (va_cpy g_35 h_35 (Int32.toNatClampNeg (0 : Int32)) (Int32.toNatClampNeg (0 : Int32)) (Int32.toNatClampNeg m_32))))))) := ⟨_, rfl⟩
    rw [← ef_35] at hP2 hD2
    have hw := hw f_35 ef_35
    have hP := hP2
    have hD := hD2
    refine lv_aload_n hx hb dJ7_copyOf_6403c_38 rfl (lv_at hl 0 rfl) ?_
    exact W.aret (v := .ref k0) hx hb hr (Or.inr ⟨_, rfl⟩) (Or.inr ⟨_, rfl⟩) (fun t ht hW => ⟨⟨(k0, L, f_35), k0, rfl, hw, rfl, by rw [ht]; exact hP, va_K.moved hW.alike hK, hD⟩, hS.F ht⟩) hS.2.2 dJ7_copyOf_6403c_39
  · have hw := hw.2 c_30
    obtain ⟨x9, ⟨hL9, hf9⟩, hw⟩ := hw
    obtain ⟨g_30, eg_30⟩ : ∃ y : Int32, y = Int32.ofNat x9.1 := ⟨_, rfl⟩
    rw [← eg_30] at hw
    refine va_alen (v := g_30) hx hb hK (p_one hP hL9 hf9) 0 4 rfl rfl eg_30.symm dJ7_copyOf_6403c_30 ?_
    refine lv_iload_n hx hb dJ7_copyOf_6403c_31 rfl (lv_at hl 2 rfl) ?_
    refine va_mmin hx hb (by rw [hml]; exact hl.1.symm) hown (hts _ lm_J7_copyOf_6403c_304) (hts _ lmm1_J7_copyOf_6403c_min) (hts _ lmm2_J7_copyOf_6403c_min) (hts _ lmm3_J7_copyOf_6403c_min) (Nat.le_of_ble_eq_true rfl) (Nat.le_of_ble_eq_true rfl) (Nat.le_of_ble_eq_true rfl) (Nat.le_of_ble_eq_true rfl) dJ7_copyOf_6403c_32 ?_
    refine lv_topi (fun m_32 em_32 => ?_)
    have hw := hw m_32 em_32
    obtain ⟨n0_35, n1_35, g_35, h_35, ⟨hL0, hf0, hL9, hf9, h1_, h2_, h3_, h4_, h5_, h6_⟩, hw⟩ := hw
    obtain ⟨kq9, hkq9⟩ := p_at hL9 hf9
    obtain ⟨kq0, hkq0⟩ := p_at hL0 hf0
    refine va_copyM hx hb (by rw [hml]; exact hl.1.symm) hown (hts _ lm_J7_copyOf_6403c_150) (hts _ lac1_J7_copyOf_6403c) (hts _ lac2_J7_copyOf_6403c) (hts _ lac3_J7_copyOf_6403c) hK hP hD hS kq0 kq9 4 4 hkq0 hkq9 rfl rfl h1_ h2_ h3_ h4_ h5_ (fun i hi y hy => p_any hN hK hP (h6_ i hi y hy)) (Nat.le_of_ble_eq_true rfl) (Nat.le_of_ble_eq_true rfl) dJ7_copyOf_6403c_35 (fun H locs hP2 hD2 hS => ?_)
    rw [p_set hD hL9 hf9 hkq9] at hP2 hD2
    obtain ⟨f_35, ef_35⟩ : ∃ y : pF, y = va_up f k0 (.inl (dA 4, n1_35, .inr (.inr (.inr (.inr (va_cpy g_35 h_35 (Int32.toNatClampNeg (0 : Int32)) (Int32.toNatClampNeg (0 : Int32)) (Int32.toNatClampNeg m_32))))))) := ⟨_, rfl⟩
    rw [← ef_35] at hP2 hD2
    have hw := hw f_35 ef_35
    have hP := hP2
    have hD := hD2
    refine lv_aload_n hx hb dJ7_copyOf_6403c_38 rfl (lv_at hl 0 rfl) ?_
    exact W.aret (v := .ref k0) hx hb hr (Or.inr ⟨_, rfl⟩) (Or.inr ⟨_, rfl⟩) (fun t ht hW => ⟨⟨(k0, L, f_35), k0, rfl, hw, rfl, by rw [ht]; exact hP, va_K.moved hW.alike hK, hD⟩, hS.F ht⟩) hS.2.2 dJ7_copyOf_6403c_39
set_option maxHeartbeats 4000000 in
set_option maxRecDepth 100000 in
theorem tb_J7_copyOf_6403c_0 {p : Program} {l : Launch} {e : Env} {s : State} {m : MethodId} {below : List Frame} {meth : Method} {c : Code} {args : Array Value} {dC : Nat → ClassId} {dI : Nat → Nat → Nat} {dA : Nat → ClassId} {zz : Nat → Nat} {base : Nat} {A : Nat → Prop} {Q : Nat → List Nat → pF → Prop} (C : pCx p s m args meth c cJ7_copyOf_6403c 4 (some (.array (.object "java/lang/Object"))) RJ7 wsJ7_copyOf_6403c A dC dI dA zz base) : ∀ (L : List Nat) (f : pF) (a0 : Nat) (a1 : Int32) (a2 : Nat), wp_J7_copyOf_6403c_0 dA zz Q  L f a0 a1 a2 → pAt p l e rm_J7_copyOf_6403c s m args below meth c dC dI A (MQ below (va_Qr (fun (u : Nat × List Nat × pF) => Q u.1 u.2.1 u.2.2) (fun u a t => a = u.1 ∧ pB dC dI dA A u.2 t) A) args s 1 1000 A) 0 0 0 4 [(0, .ref a0), (1, .int a1), (2, .ref a2)] [] L f := by
  obtain ⟨hx, hb, hml, hown, hts, hr, hlocks, hA, hK, hB, hz, hN, hT⟩ := id C
  intro L f a0 a1 a2 hw H locs hP hD hS ls hl
  rw [wp_J7_copyOf_6403c_0] at hw
  refine lv_aload_n hx hb dJ7_copyOf_6403c_0 rfl (lv_at hl 2 rfl) ?_
  refine va_ldcM hx hb hown (hts _ lk_J7_copyOf_6403c_110) hN.2.2.2.2.2.2.2.2.2.2.1 dJ7_copyOf_6403c_1 ?_
  refine lv_acmp_ne (rx := some a2) (ry := some (zz 1)) (tgt := 13) hx hb dJ7_copyOf_6403c_3 (by decide) (fun c9 => ?_) (fun c9 => ?_)
  · have hw := hw.1 (fun h => c9 (by rw [h]))
    exact hw.elim
  · have hw := hw.2 (Option.some.inj c9)
    refine lv_iload_n hx hb dJ7_copyOf_6403c_6 rfl (lv_at hl 1 rfl) ?_
    obtain ⟨⟨hn9, hc9⟩, hw⟩ := hw
    refine va_newq hx hb hown (hts _ lk_J7_copyOf_6403c_2) hN.2.2.2.2.2.2.2.2.2.1 hK hP hD hS hA hn9 rfl (by first | (show _ * 1 ≤ _; omega) | (show _ * 4 ≤ _; omega) | (show _ * 8 ≤ _; omega)) (by decide) (Nat.le_trans (Nat.add_le_add_left hc9 _) (by decide)) dJ7_copyOf_6403c_7 (fun q_7 cA9 H hK9 hP2 hD2 hS => ?_)
    have hcA : cA9 = dA 4 := p_cA hK9 (t := 4) rfl
    subst hcA
    have hq9 := p_fresh hD2
    have hz9 := p_nz hB hT hD2
    rw [va_pl_push hq9] at hP2 hD2
    obtain ⟨L_7, eL_7⟩ : ∃ y : List Nat, y = L ++ [q_7] := ⟨_, rfl⟩
    obtain ⟨f_7, ef_7⟩ : ∃ y : pF, y = va_up f q_7 (.inl (dA 4, Int32.toNatClampNeg a1, .inr (.inr (.inr (.inr (fun _ => none)))))) := ⟨_, rfl⟩
    have hw := hw q_7 hq9 hz9 L_7 f_7 eL_7 ef_7
    have hP : va_P (dC, dI) vwCl (va_pl L_7 f_7) H := by rw [eL_7, ef_7]; exact hP2
    have hD : va_D A (va_pl L_7 f_7) := by rw [eL_7, ef_7]; exact hD2
    refine W.widen (k := 1) (n := 1000) (by omega) (by omega) ?_
    refine lv_goto (tgt := 24) hx hb dJ7_copyOf_6403c_10 (by decide) ?_
    exact tb_J7_copyOf_6403c_24 C  L_7 f_7 a0 a1 q_7 hw H locs hP hD hS ls (lv_sub hl [0, 1] rfl)
set_option maxHeartbeats 4000000 in
set_option maxRecDepth 100000 in
theorem c_J7_copyOf_6403c (l : Launch) (dC : Nat → ClassId) (dI : Nat → Nat → Nat) (dA : Nat → ClassId) (zz : Nat → Nat) (base : Nat) (L : List Nat) (f : pF) (sz : Nat) (a0 : Nat) (a1 : Int32) (a2 : Nat) (Q : Nat → List Nat → pF → Prop) (hw : wp_J7_copyOf_6403c_0 dA zz Q L f a0 a1 a2) : Met l yJ7_copyOf_6403c wsJ7_copyOf_6403c rm_J7_copyOf_6403c (va_Pc [.ref a0, .int a1, .ref a2] (pPre dC dI dA zz base L f sz)) (va_Qr (fun (u : Nat × List Nat × pF) => Q u.1 u.2.1 u.2.2) (fun u a t => a = u.1 ∧ pB dC dI dA (va_A (va_pl L f) sz) u.2 t) (va_A (va_pl L f) sz)) 1 1000 (va_A (va_pl L f) sz) := by
  refine Met.ofW (cc := cJ7_copyOf_6403c) (maxL := 4) (ret := (some (.array (.object "java/lang/Object")))) (by decide) rfl ?_
  intro p e s m args below meth c s₁ B hml hv
  obtain ⟨rfl, hsz, hP, hK, hD0, hz, hN, hT⟩ := hv
  subst hsz
  have hl := lv_entry ([.ref a0, .int a1, .ref a2]) (n := 4) (Nat.le_of_ble_eq_true rfl)
  rw [lg_entry_eq]
  generalize (lg_sl ([.ref a0, .int a1, .ref a2]) ++ List.replicate (4 - (lg_sl ([.ref a0, .int a1, .ref a2])).length) Slot.unset).toArray = ls at hl ⊢
  exact tb_J7_copyOf_6403c_0 (Q := Q) (p := p) ⟨B.exec, B.bytes, hml, findClass_of_methodNamed B.named, atoms_spec (ws := wsJ7_copyOf_6403c) B.pre, B.returns, B.notSynchronized, fun q h => Or.inr h, hK, pAB hD0 hz, hz, hN, hT⟩ L f a0 a1 a2 hw s.heap [] hP (hD0.self (sz := s.heap.size)) va_S.rf ls (lv_sub hl [0, 1, 2] rfl)
theorem lgc1_J7_copyOf_1904c : Cond.methodLink RJ7 86 ⟨"java/lang/Object", "getClass", "()Ljava/lang/Class;"⟩ ∈ wsJ7_copyOf_1904c := by decide +kernel
theorem lgc2_J7_copyOf_1904c : Cond.selects "[Ljava/lang/Object;" ⟨"java/lang/Object", "getClass", "()Ljava/lang/Class;"⟩ ⟨"java/lang/Object", "getClass", "()Ljava/lang/Class;"⟩ ∈ wsJ7_copyOf_1904c := by decide +kernel
theorem lgc3_J7_copyOf_1904c : Cond.instanceMethod ⟨"java/lang/Object", "getClass", "()Ljava/lang/Class;"⟩ ∈ wsJ7_copyOf_1904c := by decide +kernel
theorem lgc4_J7_copyOf_1904c : Cond.native ⟨"java/lang/Object", "getClass", "()Ljava/lang/Class;"⟩ ∈ wsJ7_copyOf_1904c := by decide +kernel
abbrev rm_J7_copyOf_1904c : Room := { frames := 2, cells := 1, slots := 1000, locals := 83 }
def wp_J7_copyOf_1904c_0 (dA : Nat → ClassId) (zz : Nat → Nat) (Q : Nat → List Nat → pF → Prop) (L : List Nat) (f : pF) (a0 : Nat) (a1 : Int32) : Prop :=
    ((∃ x9 : vp_A, a0 ∈ L ∧ f a0 = .inl (dA 4, x9)) ∧
      (wp_J7_copyOf_6403c_0 dA zz (fun r_6 L_6 f_6 =>
        (Q r_6 L_6 f_6)) L f a0 a1 (zz 1)))
set_option maxHeartbeats 4000000 in
set_option maxRecDepth 100000 in
theorem tb_J7_copyOf_1904c_0 {p : Program} {l : Launch} {e : Env} {s : State} {m : MethodId} {below : List Frame} {meth : Method} {c : Code} {args : Array Value} {dC : Nat → ClassId} {dI : Nat → Nat → Nat} {dA : Nat → ClassId} {zz : Nat → Nat} {base : Nat} {A : Nat → Prop} {Q : Nat → List Nat → pF → Prop} (C : pCx p s m args meth c cJ7_copyOf_1904c 2 (some (.array (.object "java/lang/Object"))) RJ7 wsJ7_copyOf_1904c A dC dI dA zz base) : ∀ (L : List Nat) (f : pF) (a0 : Nat) (a1 : Int32), wp_J7_copyOf_1904c_0 dA zz Q  L f a0 a1 → pAt p l e rm_J7_copyOf_1904c s m args below meth c dC dI A (MQ below (va_Qr (fun (u : Nat × List Nat × pF) => Q u.1 u.2.1 u.2.2) (fun u a t => a = u.1 ∧ pB dC dI dA A u.2 t) A) args s 1 1000 A) 0 0 0 2 [(0, .ref a0), (1, .int a1)] [] L f := by
  obtain ⟨hx, hb, hml, hown, hts, hr, hlocks, hA, hK, hB, hz, hN, hT⟩ := id C
  intro L f a0 a1 hw H locs hP hD hS ls hl
  rw [wp_J7_copyOf_1904c_0] at hw
  refine lv_aload_n hx hb dJ7_copyOf_1904c_0 rfl (lv_at hl 0 rfl) ?_
  refine lv_iload_n hx hb dJ7_copyOf_1904c_1 rfl (lv_at hl 1 rfl) ?_
  refine lv_aload_n hx hb dJ7_copyOf_1904c_2 rfl (lv_at hl 0 rfl) ?_
  obtain ⟨⟨x9, hL9, hf9⟩, hw⟩ := hw
  refine va_getC hx hb (by rw [hml]; exact hl.1.symm) hown (hts _ lgc1_J7_copyOf_1904c) hN.2.2.2.2.2.2.2.2.2.2.2.1 (hts _ lgc2_J7_copyOf_1904c) (hts _ lgc3_J7_copyOf_1904c) (hts _ lgc4_J7_copyOf_1904c) hN.2.2.2.2.2.2.2.2.2.2.1 (p_arr hK hP hL9 hf9) (Nat.le_of_ble_eq_true rfl) (Nat.le_of_ble_eq_true rfl) dJ7_copyOf_1904c_3 ?_
  have hFc := p_free hD hS hA
  refine va_callr (va_runS (As := [.ref a0, .int a1, .ref (zz 1)]) (rest := []) ⟨hx, hb, hml, hown, hts⟩ (c_J7_copyOf_6403c l dC dI dA zz base L f H.size a0 a1 (zz 1) _ hw) (va_cwS 3 hts gJ7_copyOf_1904c_J7_copyOf_6403c rfl rfl rfl (by decide +kernel) ⟨by decide, by decide⟩) (pPreS [.ref a0, .int a1, .ref (zz 1)] hK hP hD hS hB hz hN hT) rfl rfl hl.1 rfl (lv_room (Nat.le_of_ble_eq_true rfl)) dJ7_copyOf_1904c_6 ⟨by decide, by decide⟩) hS (fun q _ h => hFc q h) hFc (fun u ra t H1 locs ht hvm hw hB1 hz1 hk1 hS => ?_)
  obtain ⟨r_6, L_6, f_6⟩ := u
  obtain ⟨hra, hP, -, hD1⟩ := hB1
  rw [show ra = r_6 from hra]
  rw [ht] at hP
  have hw := id hw
  have hP : va_P (dC, dI) vwCl (va_pl L_6 f_6) H1 := hP
  have hD : va_D A (va_pl L_6 f_6) := p_gain hD1 hFc
  generalize H1 = H at hP hS ⊢
  refine W.eq (g2 := F0 m 9 ls (.ref r_6 :: [])) rfl ?_
  refine W.widen (k := 1) (n := 1000) (by decide) (by decide) ?_
  exact W.aret (v := .ref r_6) hx hb hr (Or.inr ⟨_, rfl⟩) (Or.inr ⟨_, rfl⟩) (fun t ht hW => ⟨⟨(r_6, L_6, f_6), r_6, rfl, hw, rfl, by rw [ht]; exact hP, va_K.moved hW.alike hK, hD⟩, hS.F ht⟩) hS.2.2 dJ7_copyOf_1904c_9
set_option maxHeartbeats 4000000 in
set_option maxRecDepth 100000 in
theorem c_J7_copyOf_1904c (l : Launch) (dC : Nat → ClassId) (dI : Nat → Nat → Nat) (dA : Nat → ClassId) (zz : Nat → Nat) (base : Nat) (L : List Nat) (f : pF) (sz : Nat) (a0 : Nat) (a1 : Int32) (Q : Nat → List Nat → pF → Prop) (hw : wp_J7_copyOf_1904c_0 dA zz Q L f a0 a1) : Met l yJ7_copyOf_1904c wsJ7_copyOf_1904c rm_J7_copyOf_1904c (va_Pc [.ref a0, .int a1] (pPre dC dI dA zz base L f sz)) (va_Qr (fun (u : Nat × List Nat × pF) => Q u.1 u.2.1 u.2.2) (fun u a t => a = u.1 ∧ pB dC dI dA (va_A (va_pl L f) sz) u.2 t) (va_A (va_pl L f) sz)) 1 1000 (va_A (va_pl L f) sz) := by
  refine Met.ofW (cc := cJ7_copyOf_1904c) (maxL := 2) (ret := (some (.array (.object "java/lang/Object")))) (by decide) rfl ?_
  intro p e s m args below meth c s₁ B hml hv
  obtain ⟨rfl, hsz, hP, hK, hD0, hz, hN, hT⟩ := hv
  subst hsz
  have hl := lv_entry ([.ref a0, .int a1]) (n := 2) (Nat.le_of_ble_eq_true rfl)
  rw [lg_entry_eq]
  generalize (lg_sl ([.ref a0, .int a1]) ++ List.replicate (2 - (lg_sl ([.ref a0, .int a1])).length) Slot.unset).toArray = ls at hl ⊢
  exact tb_J7_copyOf_1904c_0 (Q := Q) (p := p) ⟨B.exec, B.bytes, hml, findClass_of_methodNamed B.named, atoms_spec (ws := wsJ7_copyOf_1904c) B.pre, B.returns, B.notSynchronized, fun q h => Or.inr h, hK, pAB hD0 hz, hz, hN, hT⟩ L f a0 a1 hw s.heap [] hP (hD0.self (sz := s.heap.size)) va_S.rf ls (lv_sub hl [0, 1] rfl)
theorem lo1_Jxa1e45_init_da8c8 : Cond.instanceMethod objectInit ∈ wsJxa1e45_init_da8c8 := by decide +kernel
theorem lo2_Jxa1e45_init_da8c8 : Cond.code objectInit ⟨#[0xb1]⟩ 1 none ∈ wsJxa1e45_init_da8c8 := by decide +kernel
theorem lm_Jxa1e45_init_da8c8_1 : Cond.methodLink RJxa1e45 1 objectInit ∈ wsJxa1e45_init_da8c8 := by decide +kernel
abbrev rm_Jxa1e45_init_da8c8 : Room := { frames := 1, cells := 0, slots := 0, locals := 12 }
def wp_Jxa1e45_init_da8c8_0 (dA : Nat → ClassId) (zz : Nat → Nat) (Q : List Nat → pF → Prop) (L : List Nat) (f : pF) (a0 : Nat) : Prop :=
    (Q L f)
set_option maxHeartbeats 4000000 in
set_option maxRecDepth 100000 in
theorem tb_Jxa1e45_init_da8c8_0 {p : Program} {l : Launch} {e : Env} {s : State} {m : MethodId} {below : List Frame} {meth : Method} {c : Code} {args : Array Value} {dC : Nat → ClassId} {dI : Nat → Nat → Nat} {dA : Nat → ClassId} {zz : Nat → Nat} {base : Nat} {A : Nat → Prop} {Q : List Nat → pF → Prop} (C : pCx p s m args meth c cJxa1e45_init_da8c8 1 none RJxa1e45 wsJxa1e45_init_da8c8 A dC dI dA zz base ∧ meth.name = "<init>") : ∀ (L : List Nat) (f : pF) (a0 : Nat), wp_Jxa1e45_init_da8c8_0 dA zz Q  L f a0 → pAt p l e rm_Jxa1e45_init_da8c8 s m args below meth c dC dI A (MQ below (va_Qv (fun (u : List Nat × pF) => Q u.1 u.2) (pB dC dI dA A) A) args s 0 0 A) 0 0 0 1 [(0, .ref a0)] [] L f := by
  obtain ⟨⟨hx, hb, hml, hown, hts, hr, hlocks, hA, hK, hB, hz, hN, hT⟩, hin⟩ := id C
  intro L f a0 hw H locs hP hD hS ls hl
  rw [wp_Jxa1e45_init_da8c8_0] at hw
  refine lv_aload_n hx hb dJxa1e45_init_da8c8_0 rfl (lv_at hl 0 rfl) ?_
  refine W.objInit hx hb hown (hts _ lm_Jxa1e45_init_da8c8_1) (hts _ lo1_Jxa1e45_init_da8c8) (hts _ lo2_Jxa1e45_init_da8c8) rfl (by rw [hml]; exact hl.1) rfl dJxa1e45_init_da8c8_1 (Nat.le_of_ble_eq_true rfl) (Nat.le_of_ble_eq_true rfl) ?_
  refine W.eq (g2 := F0 m 4 ls []) rfl ?_
  exact W.vret hx hb hr (fun t ht hW => ⟨⟨(L, f), rfl, hw, by rw [ht]; exact hP, va_K.moved hW.alike hK, hD⟩, hS.F ht⟩) hS.2.2 dJxa1e45_init_da8c8_4
set_option maxHeartbeats 4000000 in
set_option maxRecDepth 100000 in
theorem c_Jxa1e45_init_da8c8 (l : Launch) (dC : Nat → ClassId) (dI : Nat → Nat → Nat) (dA : Nat → ClassId) (zz : Nat → Nat) (base : Nat) (L : List Nat) (f : pF) (sz : Nat) (a0 : Nat) (Q : List Nat → pF → Prop) (hw : wp_Jxa1e45_init_da8c8_0 dA zz Q L f a0) : Met l yJxa1e45_init_da8c8 wsJxa1e45_init_da8c8 rm_Jxa1e45_init_da8c8 (va_Pc [.ref a0] (pPre dC dI dA zz base L f sz)) (va_Qv (fun (u : List Nat × pF) => Q u.1 u.2) (pB dC dI dA (va_A (va_pl L f) sz)) (va_A (va_pl L f) sz)) 0 0 (va_A (va_pl L f) sz) := by
  refine Met.ofW (cc := cJxa1e45_init_da8c8) (maxL := 1) (ret := none) (by decide) rfl ?_
  intro p e s m args below meth c s₁ B hml hv
  obtain ⟨rfl, hsz, hP, hK, hD0, hz, hN, hT⟩ := hv
  subst hsz
  have hl := lv_entry ([.ref a0]) (n := 1) (Nat.le_of_ble_eq_true rfl)
  rw [lg_entry_eq]
  generalize (lg_sl ([.ref a0]) ++ List.replicate (1 - (lg_sl ([.ref a0])).length) Slot.unset).toArray = ls at hl ⊢
  exact tb_Jxa1e45_init_da8c8_0 (Q := Q) (p := p) ⟨⟨B.exec, B.bytes, hml, findClass_of_methodNamed B.named, atoms_spec (ws := wsJxa1e45_init_da8c8) B.pre, B.returns, B.notSynchronized, fun q h => Or.inr h, hK, pAB hD0 hz, hz, hN, hT⟩, (name_of_methodNamed B.named B.method).1⟩ L f a0 hw s.heap [] hP (hD0.self (sz := s.heap.size)) va_S.rf ls (lv_sub hl [0] rfl)
theorem iw_Jxc12de_init_da8c8_RJx4a65c : ∀ w ∈ u_ws RJx4a65c TJx4a65c 3, w ∈ wsJxc12de_init_da8c8 := by decide +kernel
theorem lk_Jxc12de_init_da8c8_7 : Cond.fieldLink RJxc12de 7 "java/util/AbstractList" "modCount" "I" ∈ wsJxc12de_init_da8c8 := by decide +kernel
theorem lim_Jxc12de_init_da8c8_Jxa1e45_init_da8c8 : Cond.instanceMethod yJxa1e45_init_da8c8 ∈ wsJxc12de_init_da8c8 := by decide +kernel
theorem lm_Jxc12de_init_da8c8_1 : Cond.methodLink RJxc12de 1 yJxa1e45_init_da8c8 ∈ wsJxc12de_init_da8c8 := by decide +kernel
theorem lz_Jxc12de_init_da8c8_RJxa1e45 : Cond.initialized RJxa1e45 ∈ wsJxc12de_init_da8c8 := by decide +kernel
abbrev rm_Jxc12de_init_da8c8 : Room := { frames := 2, cells := 0, slots := 0, locals := 32 }
def wp_Jxc12de_init_da8c8_0 (dA : Nat → ClassId) (zz : Nat → Nat) (Q : List Nat → pF → Prop) (L : List Nat) (f : pF) (a0 : Nat) : Prop :=
    (wp_Jxa1e45_init_da8c8_0 dA zz (fun L_1 f_1 =>
      (gP L_1 f_1 0 a0 0 (.int (0 : Int32)) (fun f_6 =>
        (Q L_1 f_6)))) L f a0 )
set_option maxHeartbeats 4000000 in
set_option maxRecDepth 100000 in
theorem tb_Jxc12de_init_da8c8_0 {p : Program} {l : Launch} {e : Env} {s : State} {m : MethodId} {below : List Frame} {meth : Method} {c : Code} {args : Array Value} {dC : Nat → ClassId} {dI : Nat → Nat → Nat} {dA : Nat → ClassId} {zz : Nat → Nat} {base : Nat} {A : Nat → Prop} {Q : List Nat → pF → Prop} (C : pCx p s m args meth c cJxc12de_init_da8c8 1 none RJxc12de wsJxc12de_init_da8c8 A dC dI dA zz base ∧ meth.name = "<init>") : ∀ (L : List Nat) (f : pF) (a0 : Nat), wp_Jxc12de_init_da8c8_0 dA zz Q  L f a0 → pAt p l e rm_Jxc12de_init_da8c8 s m args below meth c dC dI A (MQ below (va_Qv (fun (u : List Nat × pF) => Q u.1 u.2) (pB dC dI dA A) A) args s 0 0 A) 0 0 0 1 [(0, .ref a0)] [] L f := by
  obtain ⟨⟨hx, hb, hml, hown, hts, hr, hlocks, hA, hK, hB, hz, hN, hT⟩, hin⟩ := id C
  intro L f a0 hw H locs hP hD hS ls hl
  rw [wp_Jxc12de_init_da8c8_0] at hw
  refine lv_aload_n hx hb dJxc12de_init_da8c8_0 rfl (lv_at hl 0 rfl) ?_
  have hFc := p_free hD hS hA
  refine va_callv (va_runI (As := []) (rest := []) ⟨hx, hb, hml, hown, hts⟩ (c_Jxa1e45_init_da8c8 l dC dI dA zz base L f H.size a0  _ hw) (cwI 0 hts gJxc12de_init_da8c8_Jxa1e45_init_da8c8 rfl rfl rfl (hts _ lz_Jxc12de_init_da8c8_RJxa1e45) (hts _ lm_Jxc12de_init_da8c8_1) (hts _ lim_Jxc12de_init_da8c8_Jxa1e45_init_da8c8) rfl (by decide +kernel) ⟨by decide, by decide⟩) (pPreS [.ref a0] hK hP hD hS hB hz hN hT) rfl rfl hl.1 rfl (lv_room (Nat.le_of_ble_eq_true rfl)) dJxc12de_init_da8c8_1 ⟨by decide, by decide⟩) hS (fun q _ h => hFc q h) hFc (fun u t H1 locs ht hvm hw hB1 hz1 hk1 hS => ?_)
  obtain ⟨L_1, f_1⟩ := u
  obtain ⟨hP, -, hD1⟩ := hB1
  rw [ht] at hP
  have hw := id hw
  have hP : va_P (dC, dI) vwCl (va_pl L_1 f_1) H1 := hP
  have hD : va_D A (va_pl L_1 f_1) := p_gain hD1 hFc
  generalize H1 = H at hP hS ⊢
  refine lv_aload_n hx hb dJxc12de_init_da8c8_4 rfl (lv_at hl 0 rfl) ?_
  refine lv_iconst (v := 0) hx hb dJxc12de_init_da8c8_5 (by decide) ?_
  obtain ⟨fs_6, ⟨hL9, hf9, hn9⟩, hw⟩ := hw
  obtain ⟨kq9, hkq9⟩ := p_at hL9 hf9
  refine va_put (D := (dC, dI)) (ci := 0) (v := .int (0 : Int32)) (C := RJx4a65c) (T := TJx4a65c) (N := 3) hx hb hts iw_Jxc12de_init_da8c8_RJx4a65c tyJx4a65c tyJx4a65c_ok nmJx4a65c hown hK hP hD hS kq9 hkq9 rfl 0 (by decide) (hts _ lk_Jxc12de_init_da8c8_7) (fun _ h9 => h9) rfl (tyJx4a65c_ok 0 (by decide)) rfl rfl hn9 dJxc12de_init_da8c8_6 (fun H locs hP2 hD2 hS => ?_)
  rw [p_set hD hL9 hf9 hkq9] at hP2 hD2
  obtain ⟨f_6, ef_6⟩ : ∃ y : pF, y = va_up f_1 a0 (.inr (0, fs_6.set 0 (.int (0 : Int32)))) := ⟨_, rfl⟩
  rw [← ef_6] at hP2 hD2
  have hw := hw f_6 ef_6
  have hP := hP2
  have hD := hD2
  exact W.vret hx hb hr (fun t ht hW => ⟨⟨(L_1, f_6), rfl, hw, by rw [ht]; exact hP, va_K.moved hW.alike hK, hD⟩, hS.F ht⟩) hS.2.2 dJxc12de_init_da8c8_9
set_option maxHeartbeats 4000000 in
set_option maxRecDepth 100000 in
theorem c_Jxc12de_init_da8c8 (l : Launch) (dC : Nat → ClassId) (dI : Nat → Nat → Nat) (dA : Nat → ClassId) (zz : Nat → Nat) (base : Nat) (L : List Nat) (f : pF) (sz : Nat) (a0 : Nat) (Q : List Nat → pF → Prop) (hw : wp_Jxc12de_init_da8c8_0 dA zz Q L f a0) : Met l yJxc12de_init_da8c8 wsJxc12de_init_da8c8 rm_Jxc12de_init_da8c8 (va_Pc [.ref a0] (pPre dC dI dA zz base L f sz)) (va_Qv (fun (u : List Nat × pF) => Q u.1 u.2) (pB dC dI dA (va_A (va_pl L f) sz)) (va_A (va_pl L f) sz)) 0 0 (va_A (va_pl L f) sz) := by
  refine Met.ofW (cc := cJxc12de_init_da8c8) (maxL := 1) (ret := none) (by decide) rfl ?_
  intro p e s m args below meth c s₁ B hml hv
  obtain ⟨rfl, hsz, hP, hK, hD0, hz, hN, hT⟩ := hv
  subst hsz
  have hl := lv_entry ([.ref a0]) (n := 1) (Nat.le_of_ble_eq_true rfl)
  rw [lg_entry_eq]
  generalize (lg_sl ([.ref a0]) ++ List.replicate (1 - (lg_sl ([.ref a0])).length) Slot.unset).toArray = ls at hl ⊢
  exact tb_Jxc12de_init_da8c8_0 (Q := Q) (p := p) ⟨⟨B.exec, B.bytes, hml, findClass_of_methodNamed B.named, atoms_spec (ws := wsJxc12de_init_da8c8) B.pre, B.returns, B.notSynchronized, fun q h => Or.inr h, hK, pAB hD0 hz, hz, hN, hT⟩, (name_of_methodNamed B.named B.method).1⟩ L f a0 hw s.heap [] hP (hD0.self (sz := s.heap.size)) va_S.rf ls (lv_sub hl [0] rfl)
theorem iw_Jx4a65c_init_da8c8_RJx4a65c : ∀ w ∈ u_ws RJx4a65c TJx4a65c 3, w ∈ wsJx4a65c_init_da8c8 := by decide +kernel
theorem lk_Jx4a65c_init_da8c8_39 : Cond.fieldLink RJx4a65c 39 "java/util/ArrayList" "DEFAULTCAPACITY_EMPTY_ELEMENTDATA" "[Ljava/lang/Object;" ∈ wsJx4a65c_init_da8c8 := by decide +kernel
theorem lk_Jx4a65c_init_da8c8_9 : Cond.fieldLink RJx4a65c 9 "java/util/ArrayList" "elementData" "[Ljava/lang/Object;" ∈ wsJx4a65c_init_da8c8 := by decide +kernel
theorem lim_Jx4a65c_init_da8c8_Jxc12de_init_da8c8 : Cond.instanceMethod yJxc12de_init_da8c8 ∈ wsJx4a65c_init_da8c8 := by decide +kernel
theorem lm_Jx4a65c_init_da8c8_1 : Cond.methodLink RJx4a65c 1 yJxc12de_init_da8c8 ∈ wsJx4a65c_init_da8c8 := by decide +kernel
theorem lz_Jx4a65c_init_da8c8_RJxc12de : Cond.initialized RJxc12de ∈ wsJx4a65c_init_da8c8 := by decide +kernel
abbrev rm_Jx4a65c_init_da8c8 : Room := { frames := 3, cells := 0, slots := 0, locals := 52 }
def wp_Jx4a65c_init_da8c8_0 (dA : Nat → ClassId) (zz : Nat → Nat) (Q : List Nat → pF → Prop) (L : List Nat) (f : pF) (a0 : Nat) : Prop :=
    (wp_Jxc12de_init_da8c8_0 dA zz (fun L_1 f_1 =>
      (gP L_1 f_1 0 a0 1 (.ref (zz 0)) (fun f_8 =>
        (Q L_1 f_8)))) L f a0 )
set_option maxHeartbeats 4000000 in
set_option maxRecDepth 100000 in
theorem tb_Jx4a65c_init_da8c8_0 {p : Program} {l : Launch} {e : Env} {s : State} {m : MethodId} {below : List Frame} {meth : Method} {c : Code} {args : Array Value} {dC : Nat → ClassId} {dI : Nat → Nat → Nat} {dA : Nat → ClassId} {zz : Nat → Nat} {base : Nat} {A : Nat → Prop} {Q : List Nat → pF → Prop} (C : pCx p s m args meth c cJx4a65c_init_da8c8 1 none RJx4a65c wsJx4a65c_init_da8c8 A dC dI dA zz base ∧ meth.name = "<init>") : ∀ (L : List Nat) (f : pF) (a0 : Nat), wp_Jx4a65c_init_da8c8_0 dA zz Q  L f a0 → pAt p l e rm_Jx4a65c_init_da8c8 s m args below meth c dC dI A (MQ below (va_Qv (fun (u : List Nat × pF) => Q u.1 u.2) (pB dC dI dA A) A) args s 0 0 A) 0 0 0 1 [(0, .ref a0)] [] L f := by
  obtain ⟨⟨hx, hb, hml, hown, hts, hr, hlocks, hA, hK, hB, hz, hN, hT⟩, hin⟩ := id C
  intro L f a0 hw H locs hP hD hS ls hl
  rw [wp_Jx4a65c_init_da8c8_0] at hw
  refine lv_aload_n hx hb dJx4a65c_init_da8c8_0 rfl (lv_at hl 0 rfl) ?_
  have hFc := p_free hD hS hA
  refine va_callv (va_runI (As := []) (rest := []) ⟨hx, hb, hml, hown, hts⟩ (c_Jxc12de_init_da8c8 l dC dI dA zz base L f H.size a0  _ hw) (cwI 0 hts gJx4a65c_init_da8c8_Jxc12de_init_da8c8 rfl rfl rfl (hts _ lz_Jx4a65c_init_da8c8_RJxc12de) (hts _ lm_Jx4a65c_init_da8c8_1) (hts _ lim_Jx4a65c_init_da8c8_Jxc12de_init_da8c8) rfl (by decide +kernel) ⟨by decide, by decide⟩) (pPreS [.ref a0] hK hP hD hS hB hz hN hT) rfl rfl hl.1 rfl (lv_room (Nat.le_of_ble_eq_true rfl)) dJx4a65c_init_da8c8_1 ⟨by decide, by decide⟩) hS (fun q _ h => hFc q h) hFc (fun u t H1 locs ht hvm hw hB1 hz1 hk1 hS => ?_)
  obtain ⟨L_1, f_1⟩ := u
  obtain ⟨hP, -, hD1⟩ := hB1
  rw [ht] at hP
  have hw := id hw
  have hP : va_P (dC, dI) vwCl (va_pl L_1 f_1) H1 := hP
  have hD : va_D A (va_pl L_1 f_1) := p_gain hD1 hFc
  generalize H1 = H at hP hS ⊢
  refine lv_aload_n hx hb dJx4a65c_init_da8c8_4 rfl (lv_at hl 0 rfl) ?_
  refine va_gets hx hb (hT.2.2.1.narrow hB) hS hown (hts _ lk_Jx4a65c_init_da8c8_39) (fun _ h9 => h9) dJx4a65c_init_da8c8_5 ?_
  obtain ⟨fs_8, ⟨hL9, hf9, hn9⟩, hw⟩ := hw
  obtain ⟨kq9, hkq9⟩ := p_at hL9 hf9
  refine va_put (D := (dC, dI)) (ci := 0) (v := .ref (zz 0)) (C := RJx4a65c) (T := TJx4a65c) (N := 3) hx hb hts iw_Jx4a65c_init_da8c8_RJx4a65c tyJx4a65c tyJx4a65c_ok nmJx4a65c hown hK hP hD hS kq9 hkq9 rfl 1 (by decide) (hts _ lk_Jx4a65c_init_da8c8_9) (fun _ h9 => h9) rfl (tyJx4a65c_ok 1 (by decide)) rfl rfl hn9 dJx4a65c_init_da8c8_8 (fun H locs hP2 hD2 hS => ?_)
  rw [p_set hD hL9 hf9 hkq9] at hP2 hD2
  obtain ⟨f_8, ef_8⟩ : ∃ y : pF, y = va_up f_1 a0 (.inr (0, fs_8.set 1 (.ref (zz 0)))) := ⟨_, rfl⟩
  rw [← ef_8] at hP2 hD2
  have hw := hw f_8 ef_8
  have hP := hP2
  have hD := hD2
  exact W.vret hx hb hr (fun t ht hW => ⟨⟨(L_1, f_8), rfl, hw, by rw [ht]; exact hP, va_K.moved hW.alike hK, hD⟩, hS.F ht⟩) hS.2.2 dJx4a65c_init_da8c8_11
set_option maxHeartbeats 4000000 in
set_option maxRecDepth 100000 in
theorem c_Jx4a65c_init_da8c8 (l : Launch) (dC : Nat → ClassId) (dI : Nat → Nat → Nat) (dA : Nat → ClassId) (zz : Nat → Nat) (base : Nat) (L : List Nat) (f : pF) (sz : Nat) (a0 : Nat) (Q : List Nat → pF → Prop) (hw : wp_Jx4a65c_init_da8c8_0 dA zz Q L f a0) : Met l yJx4a65c_init_da8c8 wsJx4a65c_init_da8c8 rm_Jx4a65c_init_da8c8 (va_Pc [.ref a0] (pPre dC dI dA zz base L f sz)) (va_Qv (fun (u : List Nat × pF) => Q u.1 u.2) (pB dC dI dA (va_A (va_pl L f) sz)) (va_A (va_pl L f) sz)) 0 0 (va_A (va_pl L f) sz) := by
  refine Met.ofW (cc := cJx4a65c_init_da8c8) (maxL := 1) (ret := none) (by decide) rfl ?_
  intro p e s m args below meth c s₁ B hml hv
  obtain ⟨rfl, hsz, hP, hK, hD0, hz, hN, hT⟩ := hv
  subst hsz
  have hl := lv_entry ([.ref a0]) (n := 1) (Nat.le_of_ble_eq_true rfl)
  rw [lg_entry_eq]
  generalize (lg_sl ([.ref a0]) ++ List.replicate (1 - (lg_sl ([.ref a0])).length) Slot.unset).toArray = ls at hl ⊢
  exact tb_Jx4a65c_init_da8c8_0 (Q := Q) (p := p) ⟨⟨B.exec, B.bytes, hml, findClass_of_methodNamed B.named, atoms_spec (ws := wsJx4a65c_init_da8c8) B.pre, B.returns, B.notSynchronized, fun q h => Or.inr h, hK, pAB hD0 hz, hz, hN, hT⟩, (name_of_methodNamed B.named B.method).1⟩ L f a0 hw s.heap [] hP (hD0.self (sz := s.heap.size)) va_S.rf ls (lv_sub hl [0] rfl)
theorem iw_Jx4a65c_size_8abf5_RJx4a65c : ∀ w ∈ u_ws RJx4a65c TJx4a65c 3, w ∈ wsJx4a65c_size_8abf5 := by decide +kernel
theorem lk_Jx4a65c_size_8abf5_48 : Cond.fieldLink RJx4a65c 48 "java/util/ArrayList" "size" "I" ∈ wsJx4a65c_size_8abf5 := by decide +kernel
abbrev rm_Jx4a65c_size_8abf5 : Room := { frames := 0, cells := 0, slots := 0, locals := 0 }
def wp_Jx4a65c_size_8abf5_0 (dA : Nat → ClassId) (zz : Nat → Nat) (Q : Int32 → List Nat → pF → Prop) (L : List Nat) (f : pF) (a0 : Nat) : Prop :=
    (gI L f 0 a0 2 (fun g_1 =>
      (Q g_1 L f)))
set_option maxHeartbeats 4000000 in
set_option maxRecDepth 100000 in
theorem tb_Jx4a65c_size_8abf5_0 {p : Program} {l : Launch} {e : Env} {s : State} {m : MethodId} {below : List Frame} {meth : Method} {c : Code} {args : Array Value} {dC : Nat → ClassId} {dI : Nat → Nat → Nat} {dA : Nat → ClassId} {zz : Nat → Nat} {base : Nat} {A : Nat → Prop} {Q : Int32 → List Nat → pF → Prop} (C : pCx p s m args meth c cJx4a65c_size_8abf5 1 (some .int) RJx4a65c wsJx4a65c_size_8abf5 A dC dI dA zz base) : ∀ (L : List Nat) (f : pF) (a0 : Nat), wp_Jx4a65c_size_8abf5_0 dA zz Q  L f a0 → pAt p l e rm_Jx4a65c_size_8abf5 s m args below meth c dC dI A (MQ below (va_Qi (fun r (u : List Nat × pF) => Q r u.1 u.2) (pB dC dI dA A) A) args s 0 0 A) 0 0 0 1 [(0, .ref a0)] [] L f := by
  obtain ⟨hx, hb, hml, hown, hts, hr, hlocks, hA, hK, hB, hz, hN, hT⟩ := id C
  intro L f a0 hw H locs hP hD hS ls hl
  rw [wp_Jx4a65c_size_8abf5_0] at hw
  refine lv_aload_n hx hb dJx4a65c_size_8abf5_0 rfl (lv_at hl 0 rfl) ?_
  obtain ⟨fs_1, g_1, ⟨hL9, hf9, hn9⟩, hw⟩ := hw
  refine va_get (D := (dC, dI)) (ci := 0) (v := .int g_1) (C := RJx4a65c) (T := TJx4a65c) (N := 3) hx hb hts iw_Jx4a65c_size_8abf5_RJx4a65c hown hK (p_one hP hL9 hf9) 0 rfl rfl 2 (by decide) (hts _ lk_Jx4a65c_size_8abf5_48) (fun _ h9 => h9) hn9 dJx4a65c_size_8abf5_1 ?_
  exact W.iret (v := g_1) hx hb hr (fun t ht hW => ⟨⟨g_1, (L, f), rfl, hw, by rw [ht]; exact hP, va_K.moved hW.alike hK, hD⟩, hS.F ht⟩) hS.2.2 dJx4a65c_size_8abf5_4
set_option maxHeartbeats 4000000 in
set_option maxRecDepth 100000 in
theorem c_Jx4a65c_size_8abf5 (l : Launch) (dC : Nat → ClassId) (dI : Nat → Nat → Nat) (dA : Nat → ClassId) (zz : Nat → Nat) (base : Nat) (L : List Nat) (f : pF) (sz : Nat) (a0 : Nat) (Q : Int32 → List Nat → pF → Prop) (hw : wp_Jx4a65c_size_8abf5_0 dA zz Q L f a0) : Met l yJx4a65c_size_8abf5 wsJx4a65c_size_8abf5 rm_Jx4a65c_size_8abf5 (va_Pc [.ref a0] (pPre dC dI dA zz base L f sz)) (va_Qi (fun r (u : List Nat × pF) => Q r u.1 u.2) (pB dC dI dA (va_A (va_pl L f) sz)) (va_A (va_pl L f) sz)) 0 0 (va_A (va_pl L f) sz) := by
  refine Met.ofW (cc := cJx4a65c_size_8abf5) (maxL := 1) (ret := (some .int)) (by decide) rfl ?_
  intro p e s m args below meth c s₁ B hml hv
  obtain ⟨rfl, hsz, hP, hK, hD0, hz, hN, hT⟩ := hv
  subst hsz
  have hl := lv_entry ([.ref a0]) (n := 1) (Nat.le_of_ble_eq_true rfl)
  rw [lg_entry_eq]
  generalize (lg_sl ([.ref a0]) ++ List.replicate (1 - (lg_sl ([.ref a0])).length) Slot.unset).toArray = ls at hl ⊢
  exact tb_Jx4a65c_size_8abf5_0 (Q := Q) (p := p) ⟨B.exec, B.bytes, hml, findClass_of_methodNamed B.named, atoms_spec (ws := wsJx4a65c_size_8abf5) B.pre, B.returns, B.notSynchronized, fun q h => Or.inr h, hK, pAB hD0 hz, hz, hN, hT⟩ L f a0 hw s.heap [] hP (hD0.self (sz := s.heap.size)) va_S.rf ls (lv_sub hl [0] rfl)
theorem iw_Jx4a65c_elementData_915e3_RJx4a65c : ∀ w ∈ u_ws RJx4a65c TJx4a65c 3, w ∈ wsJx4a65c_elementData_915e3 := by decide +kernel
theorem lk_Jx4a65c_elementData_915e3_9 : Cond.fieldLink RJx4a65c 9 "java/util/ArrayList" "elementData" "[Ljava/lang/Object;" ∈ wsJx4a65c_elementData_915e3 := by decide +kernel
abbrev rm_Jx4a65c_elementData_915e3 : Room := { frames := 0, cells := 0, slots := 0, locals := 0 }
def wp_Jx4a65c_elementData_915e3_0 (dA : Nat → ClassId) (zz : Nat → Nat) (Q : Nat → List Nat → pF → Prop) (L : List Nat) (f : pF) (a0 : Nat) (a1 : Int32) : Prop :=
    (gR L f 0 a0 1 (fun g_1 =>
      (aR L f (dA 4) g_1 a1 (fun g_5 =>
        (Q g_5 L f)))))
set_option maxHeartbeats 4000000 in
set_option maxRecDepth 100000 in
theorem tb_Jx4a65c_elementData_915e3_0 {p : Program} {l : Launch} {e : Env} {s : State} {m : MethodId} {below : List Frame} {meth : Method} {c : Code} {args : Array Value} {dC : Nat → ClassId} {dI : Nat → Nat → Nat} {dA : Nat → ClassId} {zz : Nat → Nat} {base : Nat} {A : Nat → Prop} {Q : Nat → List Nat → pF → Prop} (C : pCx p s m args meth c cJx4a65c_elementData_915e3 2 (some (.object "java/lang/Object")) RJx4a65c wsJx4a65c_elementData_915e3 A dC dI dA zz base) : ∀ (L : List Nat) (f : pF) (a0 : Nat) (a1 : Int32), wp_Jx4a65c_elementData_915e3_0 dA zz Q  L f a0 a1 → pAt p l e rm_Jx4a65c_elementData_915e3 s m args below meth c dC dI A (MQ below (va_Qr (fun (u : Nat × List Nat × pF) => Q u.1 u.2.1 u.2.2) (fun u a t => a = u.1 ∧ pB dC dI dA A u.2 t) A) args s 0 0 A) 0 0 0 2 [(0, .ref a0), (1, .int a1)] [] L f := by
  obtain ⟨hx, hb, hml, hown, hts, hr, hlocks, hA, hK, hB, hz, hN, hT⟩ := id C
  intro L f a0 a1 hw H locs hP hD hS ls hl
  rw [wp_Jx4a65c_elementData_915e3_0] at hw
  refine lv_aload_n hx hb dJx4a65c_elementData_915e3_0 rfl (lv_at hl 0 rfl) ?_
  obtain ⟨fs_1, g_1, ⟨hL9, hf9, hn9⟩, hw⟩ := hw
  refine va_get (D := (dC, dI)) (ci := 0) (v := .ref g_1) (C := RJx4a65c) (T := TJx4a65c) (N := 3) hx hb hts iw_Jx4a65c_elementData_915e3_RJx4a65c hown hK (p_one hP hL9 hf9) 0 rfl rfl 1 (by decide) (hts _ lk_Jx4a65c_elementData_915e3_9) (fun _ h9 => h9) hn9 dJx4a65c_elementData_915e3_1 ?_
  refine lv_iload_n hx hb dJx4a65c_elementData_915e3_4 rfl (lv_at hl 1 rfl) ?_
  obtain ⟨n_5, h_5, g_5, ⟨hL9, hf9, hn9, hy9⟩, hw⟩ := hw
  refine va_aldq hx hb hK (p_one hP hL9 hf9) 0 4 rfl rfl hn9 dJx4a65c_elementData_915e3_5 ?_
  rw [hy9]
  refine W.eq (g2 := F0 m 6 ls (.ref g_5 :: [])) rfl ?_
  exact W.aret (v := .ref g_5) hx hb hr (Or.inl ⟨_, rfl⟩) (Or.inr ⟨_, rfl⟩) (fun t ht hW => ⟨⟨(g_5, L, f), g_5, rfl, hw, rfl, by rw [ht]; exact hP, va_K.moved hW.alike hK, hD⟩, hS.F ht⟩) hS.2.2 dJx4a65c_elementData_915e3_6
set_option maxHeartbeats 4000000 in
set_option maxRecDepth 100000 in
theorem c_Jx4a65c_elementData_915e3 (l : Launch) (dC : Nat → ClassId) (dI : Nat → Nat → Nat) (dA : Nat → ClassId) (zz : Nat → Nat) (base : Nat) (L : List Nat) (f : pF) (sz : Nat) (a0 : Nat) (a1 : Int32) (Q : Nat → List Nat → pF → Prop) (hw : wp_Jx4a65c_elementData_915e3_0 dA zz Q L f a0 a1) : Met l yJx4a65c_elementData_915e3 wsJx4a65c_elementData_915e3 rm_Jx4a65c_elementData_915e3 (va_Pc [.ref a0, .int a1] (pPre dC dI dA zz base L f sz)) (va_Qr (fun (u : Nat × List Nat × pF) => Q u.1 u.2.1 u.2.2) (fun u a t => a = u.1 ∧ pB dC dI dA (va_A (va_pl L f) sz) u.2 t) (va_A (va_pl L f) sz)) 0 0 (va_A (va_pl L f) sz) := by
  refine Met.ofW (cc := cJx4a65c_elementData_915e3) (maxL := 2) (ret := (some (.object "java/lang/Object"))) (by decide) rfl ?_
  intro p e s m args below meth c s₁ B hml hv
  obtain ⟨rfl, hsz, hP, hK, hD0, hz, hN, hT⟩ := hv
  subst hsz
  have hl := lv_entry ([.ref a0, .int a1]) (n := 2) (Nat.le_of_ble_eq_true rfl)
  rw [lg_entry_eq]
  generalize (lg_sl ([.ref a0, .int a1]) ++ List.replicate (2 - (lg_sl ([.ref a0, .int a1])).length) Slot.unset).toArray = ls at hl ⊢
  exact tb_Jx4a65c_elementData_915e3_0 (Q := Q) (p := p) ⟨B.exec, B.bytes, hml, findClass_of_methodNamed B.named, atoms_spec (ws := wsJx4a65c_elementData_915e3) B.pre, B.returns, B.notSynchronized, fun q h => Or.inr h, hK, pAB hD0 hz, hz, hN, hT⟩ L f a0 a1 hw s.heap [] hP (hD0.self (sz := s.heap.size)) va_S.rf ls (lv_sub hl [0, 1] rfl)
theorem iw_Jx4a65c_get_915e3_RJx4a65c : ∀ w ∈ u_ws RJx4a65c TJx4a65c 3, w ∈ wsJx4a65c_get_915e3 := by decide +kernel
theorem lk_Jx4a65c_get_915e3_48 : Cond.fieldLink RJx4a65c 48 "java/util/ArrayList" "size" "I" ∈ wsJx4a65c_get_915e3 := by decide +kernel
abbrev rm_Jx4a65c_get_915e3 : Room := { frames := 2, cells := 0, slots := 0, locals := 43 }
def wp_Jx4a65c_get_915e3_0 (dA : Nat → ClassId) (zz : Nat → Nat) (Q : Nat → List Nat → pF → Prop) (L : List Nat) (f : pF) (a0 : Nat) (a1 : Int32) : Prop :=
    (gI L f 0 a0 2 (fun g_2 =>
      (wp_J15_checkIndex_7cf53_0 (fun r_5 =>
        (isO L f 0 a0 ∧
          (wp_Jx4a65c_elementData_915e3_0 dA zz (fun r_11 L_11 f_11 =>
            (Q r_11 L_11 f_11)) L f a0 a1))) a1 g_2)))
set_option maxHeartbeats 4000000 in
set_option maxRecDepth 100000 in
theorem tb_Jx4a65c_get_915e3_0 {p : Program} {l : Launch} {e : Env} {s : State} {m : MethodId} {below : List Frame} {meth : Method} {c : Code} {args : Array Value} {dC : Nat → ClassId} {dI : Nat → Nat → Nat} {dA : Nat → ClassId} {zz : Nat → Nat} {base : Nat} {A : Nat → Prop} {Q : Nat → List Nat → pF → Prop} (C : pCx p s m args meth c cJx4a65c_get_915e3 2 (some (.object "java/lang/Object")) RJx4a65c wsJx4a65c_get_915e3 A dC dI dA zz base) : ∀ (L : List Nat) (f : pF) (a0 : Nat) (a1 : Int32), wp_Jx4a65c_get_915e3_0 dA zz Q  L f a0 a1 → pAt p l e rm_Jx4a65c_get_915e3 s m args below meth c dC dI A (MQ below (va_Qr (fun (u : Nat × List Nat × pF) => Q u.1 u.2.1 u.2.2) (fun u a t => a = u.1 ∧ pB dC dI dA A u.2 t) A) args s 0 0 A) 0 0 0 2 [(0, .ref a0), (1, .int a1)] [] L f := by
  obtain ⟨hx, hb, hml, hown, hts, hr, hlocks, hA, hK, hB, hz, hN, hT⟩ := id C
  intro L f a0 a1 hw H locs hP hD hS ls hl
  rw [wp_Jx4a65c_get_915e3_0] at hw
  refine lv_iload_n hx hb dJx4a65c_get_915e3_0 rfl (lv_at hl 1 rfl) ?_
  refine lv_aload_n hx hb dJx4a65c_get_915e3_1 rfl (lv_at hl 0 rfl) ?_
  obtain ⟨fs_2, g_2, ⟨hL9, hf9, hn9⟩, hw⟩ := hw
  refine va_get (D := (dC, dI)) (ci := 0) (v := .int g_2) (C := RJx4a65c) (T := TJx4a65c) (N := 3) hx hb hts iw_Jx4a65c_get_915e3_RJx4a65c hown hK (p_one hP hL9 hf9) 0 rfl rfl 2 (by decide) (hts _ lk_Jx4a65c_get_915e3_48) (fun _ h9 => h9) hn9 dJx4a65c_get_915e3_2 ?_
  refine vp_callSi (W.runS (As := [.int a1, .int g_2]) (rest := []) ⟨hx, hb, hml, hown, hts⟩ (c_J15_checkIndex_7cf53 l a1 g_2 _ hw) (va_cwS 2 hts gJx4a65c_get_915e3_J15_checkIndex_7cf53 rfl rfl rfl (by decide +kernel) ⟨by decide, by decide⟩) preEq rfl rfl hl.1 rfl (lv_room (Nat.le_of_ble_eq_true rfl)) dJx4a65c_get_915e3_5 ⟨by decide, by decide⟩) (fun r_5 hw => ?_)
  refine lv_pop hx hb dJx4a65c_get_915e3_8 rfl ?_
  refine lv_aload_n hx hb dJx4a65c_get_915e3_9 rfl (lv_at hl 0 rfl) ?_
  refine lv_iload_n hx hb dJx4a65c_get_915e3_10 rfl (lv_at hl 1 rfl) ?_
  obtain ⟨hO9, hw⟩ := hw
  have hFc := p_free hD hS hA
  refine va_callr (va_runV (As := [.int a1]) (rest := []) ⟨hx, hb, hml, hown, hts⟩ (c_Jx4a65c_elementData_915e3 l dC dI dA zz base L f H.size a0 a1 _ hw) (cwV 1 hts gJx4a65c_get_915e3_Jx4a65c_elementData_915e3 rfl rfl rfl (by decide +kernel) ⟨by decide, by decide⟩) (pPreV [.int a1] (ci := 0) rfl hO9 hK hP hD hS hB hz hN hT) rfl rfl hl.1 rfl (lv_room (Nat.le_of_ble_eq_true rfl)) dJx4a65c_get_915e3_11 ⟨by decide, by decide⟩) hS (fun q _ h => hFc q h) hFc (fun u ra t H1 locs ht hvm hw hB1 hz1 hk1 hS => ?_)
  obtain ⟨r_11, L_11, f_11⟩ := u
  obtain ⟨hra, hP, -, hD1⟩ := hB1
  rw [show ra = r_11 from hra]
  rw [ht] at hP
  have hw := id hw
  have hP : va_P (dC, dI) vwCl (va_pl L_11 f_11) H1 := hP
  have hD : va_D A (va_pl L_11 f_11) := p_gain hD1 hFc
  generalize H1 = H at hP hS ⊢
  refine W.eq (g2 := F0 m 14 ls (.ref r_11 :: [])) rfl ?_
  exact W.aret (v := .ref r_11) hx hb hr (Or.inl ⟨_, rfl⟩) (Or.inr ⟨_, rfl⟩) (fun t ht hW => ⟨⟨(r_11, L_11, f_11), r_11, rfl, hw, rfl, by rw [ht]; exact hP, va_K.moved hW.alike hK, hD⟩, hS.F ht⟩) hS.2.2 dJx4a65c_get_915e3_14
set_option maxHeartbeats 4000000 in
set_option maxRecDepth 100000 in
theorem c_Jx4a65c_get_915e3 (l : Launch) (dC : Nat → ClassId) (dI : Nat → Nat → Nat) (dA : Nat → ClassId) (zz : Nat → Nat) (base : Nat) (L : List Nat) (f : pF) (sz : Nat) (a0 : Nat) (a1 : Int32) (Q : Nat → List Nat → pF → Prop) (hw : wp_Jx4a65c_get_915e3_0 dA zz Q L f a0 a1) : Met l yJx4a65c_get_915e3 wsJx4a65c_get_915e3 rm_Jx4a65c_get_915e3 (va_Pc [.ref a0, .int a1] (pPre dC dI dA zz base L f sz)) (va_Qr (fun (u : Nat × List Nat × pF) => Q u.1 u.2.1 u.2.2) (fun u a t => a = u.1 ∧ pB dC dI dA (va_A (va_pl L f) sz) u.2 t) (va_A (va_pl L f) sz)) 0 0 (va_A (va_pl L f) sz) := by
  refine Met.ofW (cc := cJx4a65c_get_915e3) (maxL := 2) (ret := (some (.object "java/lang/Object"))) (by decide) rfl ?_
  intro p e s m args below meth c s₁ B hml hv
  obtain ⟨rfl, hsz, hP, hK, hD0, hz, hN, hT⟩ := hv
  subst hsz
  have hl := lv_entry ([.ref a0, .int a1]) (n := 2) (Nat.le_of_ble_eq_true rfl)
  rw [lg_entry_eq]
  generalize (lg_sl ([.ref a0, .int a1]) ++ List.replicate (2 - (lg_sl ([.ref a0, .int a1])).length) Slot.unset).toArray = ls at hl ⊢
  exact tb_Jx4a65c_get_915e3_0 (Q := Q) (p := p) ⟨B.exec, B.bytes, hml, findClass_of_methodNamed B.named, atoms_spec (ws := wsJx4a65c_get_915e3) B.pre, B.returns, B.notSynchronized, fun q h => Or.inr h, hK, pAB hD0 hz, hz, hN, hT⟩ L f a0 a1 hw s.heap [] hP (hD0.self (sz := s.heap.size)) va_S.rf ls (lv_sub hl [0, 1] rfl)
theorem iw_Jx4a65c_grow_92f84_RJx4a65c : ∀ w ∈ u_ws RJx4a65c TJx4a65c 3, w ∈ wsJx4a65c_grow_92f84 := by decide +kernel
theorem lk_Jx4a65c_grow_92f84_7 : Cond.classLink RJx4a65c 7 "java/lang/Object" ∈ wsJx4a65c_grow_92f84 := by decide +kernel
theorem lk_Jx4a65c_grow_92f84_39 : Cond.fieldLink RJx4a65c 39 "java/util/ArrayList" "DEFAULTCAPACITY_EMPTY_ELEMENTDATA" "[Ljava/lang/Object;" ∈ wsJx4a65c_grow_92f84 := by decide +kernel
theorem lk_Jx4a65c_grow_92f84_9 : Cond.fieldLink RJx4a65c 9 "java/util/ArrayList" "elementData" "[Ljava/lang/Object;" ∈ wsJx4a65c_grow_92f84 := by decide +kernel
theorem lm_Jx4a65c_grow_92f84_79 : Cond.methodLink RJx4a65c 79 Lib.Math.max.name ∈ wsJx4a65c_grow_92f84 := by decide +kernel
theorem lmm1_Jx4a65c_grow_92f84_max : Cond.static Lib.Math.max.name ∈ wsJx4a65c_grow_92f84 := by decide +kernel
theorem lmm2_Jx4a65c_grow_92f84_max : Cond.initialized "java/lang/Math" ∈ wsJx4a65c_grow_92f84 := by decide +kernel
theorem lmm3_Jx4a65c_grow_92f84_max : Cond.code Lib.Math.max.name Lib.Math.max.code 2 (some .int) ∈ wsJx4a65c_grow_92f84 := by decide +kernel
abbrev rm_Jx4a65c_grow_92f84 : Room := { frames := 3, cells := 1, slots := 1000, locals := 104 }
def wp_Jx4a65c_grow_92f84_20 (dA : Nat → ClassId) (zz : Nat → Nat) (Q : Nat → List Nat → pF → Prop) (L : List Nat) (f : pF) (a0 : Nat) (a1 : Int32) (a2 : Int32) : Prop :=
    (wp_J8_newLength_cabcc_0 (fun r_27 =>
      (gR L f 0 a0 1 (fun g_33 =>
        (wp_J7_copyOf_1904c_0 dA zz (fun r_37 L_37 f_37 =>
          (gP L_37 f_37 0 a0 1 (.ref r_37) (fun f_41 =>
            (Q r_37 L_37 f_41)))) L f g_33 r_27)))) a2 (a1 - a2) (a2 >>> ((1 : Int32) &&& 31)))
def wp_Jx4a65c_grow_92f84_0 (dA : Nat → ClassId) (zz : Nat → Nat) (Q : Nat → List Nat → pF → Prop) (L : List Nat) (f : pF) (a0 : Nat) (a1 : Int32) : Prop :=
    (gR L f 0 a0 1 (fun g_1 =>
      ((g_1 = zz 0 →
        ((0 < (0 : Int32) →
          (wp_Jx4a65c_grow_92f84_20 dA zz Q  L f a0 a1 (0 : Int32)))
         ∧ (¬ 0 < (0 : Int32) →
          (gR L f 0 a0 1 (fun g_11 =>
            ((g_11 = (zz 0) →
              (∀ m_49 : Int32, m_49 = (if (10 : Int32) < a1 then a1 else (10 : Int32)) →
                ((¬ m_49 < 0 ∧ Int32.toNatClampNeg m_49 ≤ 1000) ∧
                  (nO zz L f (.inl (dA 4, Int32.toNatClampNeg m_49, .inr (.inr (.inr (.inr (fun _ => none)))))) (fun q_52 L_52 f_52 =>
                    (gP L_52 f_52 0 a0 1 (.ref q_52) (fun f_56 =>
                      (Q q_52 L_52 f_56)))))))
            ) ∧ (¬ g_11 = (zz 0) →
              (wp_Jx4a65c_grow_92f84_20 dA zz Q  L f a0 a1 (0 : Int32))
            ))))))
      ) ∧ (¬ g_1 = zz 0 →
        (aN L f (dA 4) g_1 (fun g_4 =>
          ((0 < g_4 →
            (wp_Jx4a65c_grow_92f84_20 dA zz Q  L f a0 a1 g_4))
           ∧ (¬ 0 < g_4 →
            (gR L f 0 a0 1 (fun g_11 =>
              ((g_11 = (zz 0) →
                (∀ m_49 : Int32, m_49 = (if (10 : Int32) < a1 then a1 else (10 : Int32)) →
                  ((¬ m_49 < 0 ∧ Int32.toNatClampNeg m_49 ≤ 1000) ∧
                    (nO zz L f (.inl (dA 4, Int32.toNatClampNeg m_49, .inr (.inr (.inr (.inr (fun _ => none)))))) (fun q_52 L_52 f_52 =>
                      (gP L_52 f_52 0 a0 1 (.ref q_52) (fun f_56 =>
                        (Q q_52 L_52 f_56)))))))
              ) ∧ (¬ g_11 = (zz 0) →
                (wp_Jx4a65c_grow_92f84_20 dA zz Q  L f a0 a1 g_4)
              ))))))))
      ))))
set_option maxHeartbeats 4000000 in
set_option maxRecDepth 100000 in
theorem tb_Jx4a65c_grow_92f84_20 {p : Program} {l : Launch} {e : Env} {s : State} {m : MethodId} {below : List Frame} {meth : Method} {c : Code} {args : Array Value} {dC : Nat → ClassId} {dI : Nat → Nat → Nat} {dA : Nat → ClassId} {zz : Nat → Nat} {base : Nat} {A : Nat → Prop} {Q : Nat → List Nat → pF → Prop} (C : pCx p s m args meth c cJx4a65c_grow_92f84 4 (some (.array (.object "java/lang/Object"))) RJx4a65c wsJx4a65c_grow_92f84 A dC dI dA zz base) : ∀ (L : List Nat) (f : pF) (a0 : Nat) (a1 : Int32) (a2 : Int32), wp_Jx4a65c_grow_92f84_20 dA zz Q  L f a0 a1 a2 → pAt p l e rm_Jx4a65c_grow_92f84 s m args below meth c dC dI A (MQ below (va_Qr (fun (u : Nat × List Nat × pF) => Q u.1 u.2.1 u.2.2) (fun u a t => a = u.1 ∧ pB dC dI dA A u.2 t) A) args s 1 1000 A) 0 0 20 4 [(0, .ref a0), (1, .int a1), (2, .int a2)] [] L f := by
  obtain ⟨hx, hb, hml, hown, hts, hr, hlocks, hA, hK, hB, hz, hN, hT⟩ := id C
  intro L f a0 a1 a2 hw H locs hP hD hS ls hl
  rw [wp_Jx4a65c_grow_92f84_20] at hw
  refine lv_iload_n hx hb dJx4a65c_grow_92f84_20 rfl (lv_at hl 2 rfl) ?_
  refine lv_iload_n hx hb dJx4a65c_grow_92f84_21 rfl (lv_at hl 1 rfl) ?_
  refine lv_iload_n hx hb dJx4a65c_grow_92f84_22 rfl (lv_at hl 2 rfl) ?_
  refine lv_isub hx hb dJx4a65c_grow_92f84_23 ?_
  refine lv_iload_n hx hb dJx4a65c_grow_92f84_24 rfl (lv_at hl 2 rfl) ?_
  refine lv_iconst (v := 1) hx hb dJx4a65c_grow_92f84_25 (by decide) ?_
  refine lv_ishr hx hb dJx4a65c_grow_92f84_26 ?_
  refine vp_callSi (W.runS (As := [.int a2, .int (a1 - a2), .int (a2 >>> ((1 : Int32) &&& 31))]) (rest := []) ⟨hx, hb, hml, hown, hts⟩ (c_J8_newLength_cabcc l a2 (a1 - a2) (a2 >>> ((1 : Int32) &&& 31)) _ hw) (va_cwS 3 hts gJx4a65c_grow_92f84_J8_newLength_cabcc rfl rfl rfl (by decide +kernel) ⟨by decide, by decide⟩) preEq rfl rfl hl.1 rfl (lv_room (Nat.le_of_ble_eq_true rfl)) dJx4a65c_grow_92f84_27 ⟨by decide, by decide⟩) (fun r_27 hw => ?_)
  refine lv_istore_n (lv' := [(3, .int r_27), (0, .ref a0), (1, .int a1), (2, .int a2)]) hx hb dJx4a65c_grow_92f84_30 rfl hl (by decide) rfl (fun ls hl => ?_)
  refine lv_aload_n hx hb dJx4a65c_grow_92f84_31 rfl (lv_at hl 1 rfl) ?_
  refine lv_aload_n hx hb dJx4a65c_grow_92f84_32 rfl (lv_at hl 1 rfl) ?_
  obtain ⟨fs_33, g_33, ⟨hL9, hf9, hn9⟩, hw⟩ := hw
  refine va_get (D := (dC, dI)) (ci := 0) (v := .ref g_33) (C := RJx4a65c) (T := TJx4a65c) (N := 3) hx hb hts iw_Jx4a65c_grow_92f84_RJx4a65c hown hK (p_one hP hL9 hf9) 0 rfl rfl 1 (by decide) (hts _ lk_Jx4a65c_grow_92f84_9) (fun _ h9 => h9) hn9 dJx4a65c_grow_92f84_33 ?_
  refine lv_iload_n hx hb dJx4a65c_grow_92f84_36 rfl (lv_at hl 0 rfl) ?_
  have hFc := p_free hD hS hA
  refine va_callr (va_runS (As := [.ref g_33, .int r_27]) (rest := [.ref a0]) ⟨hx, hb, hml, hown, hts⟩ (c_J7_copyOf_1904c l dC dI dA zz base L f H.size g_33 r_27 _ hw) (va_cwS 2 hts gJx4a65c_grow_92f84_J7_copyOf_1904c rfl rfl rfl (by decide +kernel) ⟨by decide, by decide⟩) (pPreS [.ref g_33, .int r_27] hK hP hD hS hB hz hN hT) rfl rfl hl.1 rfl (lv_room (Nat.le_of_ble_eq_true rfl)) dJx4a65c_grow_92f84_37 ⟨by decide, by decide⟩) hS (fun q _ h => hFc q h) hFc (fun u ra t H1 locs ht hvm hw hB1 hz1 hk1 hS => ?_)
  obtain ⟨r_37, L_37, f_37⟩ := u
  obtain ⟨hra, hP, -, hD1⟩ := hB1
  rw [show ra = r_37 from hra]
  rw [ht] at hP
  have hw := id hw
  have hP : va_P (dC, dI) vwCl (va_pl L_37 f_37) H1 := hP
  have hD : va_D A (va_pl L_37 f_37) := p_gain hD1 hFc
  generalize H1 = H at hP hS ⊢
  refine W.eq (g2 := F0 m 40 ls (.ref r_37 :: [.ref a0])) rfl ?_
  refine W.widen (k := 1) (n := 1000) (by decide) (by decide) ?_
  refine lv_dup_x1 hx hb dJx4a65c_grow_92f84_40 rfl rfl ?_
  obtain ⟨fs_41, ⟨hL9, hf9, hn9⟩, hw⟩ := hw
  obtain ⟨kq9, hkq9⟩ := p_at hL9 hf9
  refine va_put (D := (dC, dI)) (ci := 0) (v := .ref r_37) (C := RJx4a65c) (T := TJx4a65c) (N := 3) hx hb hts iw_Jx4a65c_grow_92f84_RJx4a65c tyJx4a65c tyJx4a65c_ok nmJx4a65c hown hK hP hD hS kq9 hkq9 rfl 1 (by decide) (hts _ lk_Jx4a65c_grow_92f84_9) (fun _ h9 => h9) rfl (tyJx4a65c_ok 1 (by decide)) rfl rfl hn9 dJx4a65c_grow_92f84_41 (fun H locs hP2 hD2 hS => ?_)
  rw [p_set hD hL9 hf9 hkq9] at hP2 hD2
  obtain ⟨f_41, ef_41⟩ : ∃ y : pF, y = va_up f_37 a0 (.inr (0, fs_41.set 1 (.ref r_37))) := ⟨_, rfl⟩
  rw [← ef_41] at hP2 hD2
  have hw := hw f_41 ef_41
  have hP := hP2
  have hD := hD2
  exact W.aret (v := .ref r_37) hx hb hr (Or.inr ⟨_, rfl⟩) (Or.inr ⟨_, rfl⟩) (fun t ht hW => ⟨⟨(r_37, L_37, f_41), r_37, rfl, hw, rfl, by rw [ht]; exact hP, va_K.moved hW.alike hK, hD⟩, hS.F ht⟩) hS.2.2 dJx4a65c_grow_92f84_44
set_option maxHeartbeats 4000000 in
set_option maxRecDepth 100000 in
theorem tb_Jx4a65c_grow_92f84_0 {p : Program} {l : Launch} {e : Env} {s : State} {m : MethodId} {below : List Frame} {meth : Method} {c : Code} {args : Array Value} {dC : Nat → ClassId} {dI : Nat → Nat → Nat} {dA : Nat → ClassId} {zz : Nat → Nat} {base : Nat} {A : Nat → Prop} {Q : Nat → List Nat → pF → Prop} (C : pCx p s m args meth c cJx4a65c_grow_92f84 4 (some (.array (.object "java/lang/Object"))) RJx4a65c wsJx4a65c_grow_92f84 A dC dI dA zz base) : ∀ (L : List Nat) (f : pF) (a0 : Nat) (a1 : Int32), wp_Jx4a65c_grow_92f84_0 dA zz Q  L f a0 a1 → pAt p l e rm_Jx4a65c_grow_92f84 s m args below meth c dC dI A (MQ below (va_Qr (fun (u : Nat × List Nat × pF) => Q u.1 u.2.1 u.2.2) (fun u a t => a = u.1 ∧ pB dC dI dA A u.2 t) A) args s 1 1000 A) 0 0 0 4 [(0, .ref a0), (1, .int a1)] [] L f := by
  obtain ⟨hx, hb, hml, hown, hts, hr, hlocks, hA, hK, hB, hz, hN, hT⟩ := id C
  intro L f a0 a1 hw H locs hP hD hS ls hl
  rw [wp_Jx4a65c_grow_92f84_0] at hw
  refine lv_aload_n hx hb dJx4a65c_grow_92f84_0 rfl (lv_at hl 0 rfl) ?_
  obtain ⟨fs_1, g_1, ⟨hL9, hf9, hn9⟩, hw⟩ := hw
  refine va_get (D := (dC, dI)) (ci := 0) (v := .ref g_1) (C := RJx4a65c) (T := TJx4a65c) (N := 3) hx hb hts iw_Jx4a65c_grow_92f84_RJx4a65c hown hK (p_one hP hL9 hf9) 0 rfl rfl 1 (by decide) (hts _ lk_Jx4a65c_grow_92f84_9) (fun _ h9 => h9) hn9 dJx4a65c_grow_92f84_1 ?_
  by_cases c_4 : g_1 = zz 0
  · have hw := hw.1 c_4
    refine W.eq (g2 := F0 m 4 ls (.ref (zz 0) :: [])) (by rw [c_4]) ?_
    refine va_tlen (v := 0) hx hb (hT.2.2.2.narrow hB) hS rfl dJx4a65c_grow_92f84_4 ?_
    refine lv_istore_n (lv' := [(2, .int (0 : Int32)), (0, .ref a0), (1, .int a1)]) hx hb dJx4a65c_grow_92f84_5 rfl hl (by decide) rfl (fun ls hl => ?_)
    refine lv_iload_n hx hb dJx4a65c_grow_92f84_6 rfl (lv_at hl 0 rfl) ?_
    refine lv_if_gt (tgt := 20) hx hb dJx4a65c_grow_92f84_7 (by decide) (fun c_7 => ?_) (fun c_7 => ?_)
    · have hw := hw.1 c_7
      exact tb_Jx4a65c_grow_92f84_20 C  L f a0 a1 (0 : Int32) hw H locs hP hD hS ls (lv_sub hl [1, 2, 0] rfl)
    · have hw := hw.2 c_7
      refine lv_aload_n hx hb dJx4a65c_grow_92f84_10 rfl (lv_at hl 1 rfl) ?_
      obtain ⟨fs_11, g_11, ⟨hL9, hf9, hn9⟩, hw⟩ := hw
      refine va_get (D := (dC, dI)) (ci := 0) (v := .ref g_11) (C := RJx4a65c) (T := TJx4a65c) (N := 3) hx hb hts iw_Jx4a65c_grow_92f84_RJx4a65c hown hK (p_one hP hL9 hf9) 0 rfl rfl 1 (by decide) (hts _ lk_Jx4a65c_grow_92f84_9) (fun _ h9 => h9) hn9 dJx4a65c_grow_92f84_11 ?_
      refine va_gets hx hb (hT.2.2.1.narrow hB) hS hown (hts _ lk_Jx4a65c_grow_92f84_39) (fun _ h9 => h9) dJx4a65c_grow_92f84_14 ?_
      refine lv_acmp_eq (rx := some g_11) (ry := some (zz 0)) (tgt := 45) hx hb dJx4a65c_grow_92f84_17 (by decide) (fun c9 => ?_) (fun c9 => ?_)
      · have hw := hw.1 (Option.some.inj c9)
        refine lv_aload_n hx hb dJx4a65c_grow_92f84_45 rfl (lv_at hl 1 rfl) ?_
        refine lv_bipush (v := 10) hx hb dJx4a65c_grow_92f84_46 (by decide) ?_
        refine lv_iload_n hx hb dJx4a65c_grow_92f84_48 rfl (lv_at hl 2 rfl) ?_
        refine va_mmax hx hb (by rw [hml]; exact hl.1.symm) hown (hts _ lm_Jx4a65c_grow_92f84_79) (hts _ lmm1_Jx4a65c_grow_92f84_max) (hts _ lmm2_Jx4a65c_grow_92f84_max) (hts _ lmm3_Jx4a65c_grow_92f84_max) (Nat.le_of_ble_eq_true rfl) (Nat.le_of_ble_eq_true rfl) (Nat.le_of_ble_eq_true rfl) (Nat.le_of_ble_eq_true rfl) dJx4a65c_grow_92f84_49 ?_
        refine lv_topi (fun m_49 em_49 => ?_)
        have hw := hw m_49 em_49
        obtain ⟨⟨hn9, hc9⟩, hw⟩ := hw
        refine va_newq hx hb hown (hts _ lk_Jx4a65c_grow_92f84_7) hN.2.2.2.2.2.2.2.2.2.1 hK hP hD hS hA hn9 rfl (by first | (show _ * 1 ≤ _; omega) | (show _ * 4 ≤ _; omega) | (show _ * 8 ≤ _; omega)) (by decide) (Nat.le_trans (Nat.add_le_add_left hc9 _) (by decide)) dJx4a65c_grow_92f84_52 (fun q_52 cA9 H hK9 hP2 hD2 hS => ?_)
        have hcA : cA9 = dA 4 := p_cA hK9 (t := 4) rfl
        subst hcA
        have hq9 := p_fresh hD2
        have hz9 := p_nz hB hT hD2
        rw [va_pl_push hq9] at hP2 hD2
        obtain ⟨L_52, eL_52⟩ : ∃ y : List Nat, y = L ++ [q_52] := ⟨_, rfl⟩
        obtain ⟨f_52, ef_52⟩ : ∃ y : pF, y = va_up f q_52 (.inl (dA 4, Int32.toNatClampNeg m_49, .inr (.inr (.inr (.inr (fun _ => none)))))) := ⟨_, rfl⟩
        have hw := hw q_52 hq9 hz9 L_52 f_52 eL_52 ef_52
        have hP : va_P (dC, dI) vwCl (va_pl L_52 f_52) H := by rw [eL_52, ef_52]; exact hP2
        have hD : va_D A (va_pl L_52 f_52) := by rw [eL_52, ef_52]; exact hD2
        refine W.widen (k := 1) (n := 1000) (by omega) (by omega) ?_
        refine lv_dup_x1 hx hb dJx4a65c_grow_92f84_55 rfl rfl ?_
        obtain ⟨fs_56, ⟨hL9, hf9, hn9⟩, hw⟩ := hw
        obtain ⟨kq9, hkq9⟩ := p_at hL9 hf9
        refine va_put (D := (dC, dI)) (ci := 0) (v := .ref q_52) (C := RJx4a65c) (T := TJx4a65c) (N := 3) hx hb hts iw_Jx4a65c_grow_92f84_RJx4a65c tyJx4a65c tyJx4a65c_ok nmJx4a65c hown hK hP hD hS kq9 hkq9 rfl 1 (by decide) (hts _ lk_Jx4a65c_grow_92f84_9) (fun _ h9 => h9) rfl (tyJx4a65c_ok 1 (by decide)) rfl rfl hn9 dJx4a65c_grow_92f84_56 (fun H locs hP2 hD2 hS => ?_)
        rw [p_set hD hL9 hf9 hkq9] at hP2 hD2
        obtain ⟨f_56, ef_56⟩ : ∃ y : pF, y = va_up f_52 a0 (.inr (0, fs_56.set 1 (.ref q_52))) := ⟨_, rfl⟩
        rw [← ef_56] at hP2 hD2
        have hw := hw f_56 ef_56
        have hP := hP2
        have hD := hD2
        exact W.aret (v := .ref q_52) hx hb hr (Or.inr ⟨_, rfl⟩) (Or.inr ⟨_, rfl⟩) (fun t ht hW => ⟨⟨(q_52, L_52, f_56), q_52, rfl, hw, rfl, by rw [ht]; exact hP, va_K.moved hW.alike hK, hD⟩, hS.F ht⟩) hS.2.2 dJx4a65c_grow_92f84_59
      · have hw := hw.2 (fun h => c9 (by rw [h]))
        exact tb_Jx4a65c_grow_92f84_20 C  L f a0 a1 (0 : Int32) hw H locs hP hD hS ls (lv_sub hl [1, 2, 0] rfl)
  · have hw := hw.2 c_4
    obtain ⟨x9, ⟨hL9, hf9⟩, hw⟩ := hw
    obtain ⟨g_4, eg_4⟩ : ∃ y : Int32, y = Int32.ofNat x9.1 := ⟨_, rfl⟩
    rw [← eg_4] at hw
    refine va_alen (v := g_4) hx hb hK (p_one hP hL9 hf9) 0 4 rfl rfl eg_4.symm dJx4a65c_grow_92f84_4 ?_
    refine lv_istore_n (lv' := [(2, .int g_4), (0, .ref a0), (1, .int a1)]) hx hb dJx4a65c_grow_92f84_5 rfl hl (by decide) rfl (fun ls hl => ?_)
    refine lv_iload_n hx hb dJx4a65c_grow_92f84_6 rfl (lv_at hl 0 rfl) ?_
    refine lv_if_gt (tgt := 20) hx hb dJx4a65c_grow_92f84_7 (by decide) (fun c_7 => ?_) (fun c_7 => ?_)
    · have hw := hw.1 c_7
      exact tb_Jx4a65c_grow_92f84_20 C  L f a0 a1 g_4 hw H locs hP hD hS ls (lv_sub hl [1, 2, 0] rfl)
    · have hw := hw.2 c_7
      refine lv_aload_n hx hb dJx4a65c_grow_92f84_10 rfl (lv_at hl 1 rfl) ?_
      obtain ⟨fs_11, g_11, ⟨hL9, hf9, hn9⟩, hw⟩ := hw
      refine va_get (D := (dC, dI)) (ci := 0) (v := .ref g_11) (C := RJx4a65c) (T := TJx4a65c) (N := 3) hx hb hts iw_Jx4a65c_grow_92f84_RJx4a65c hown hK (p_one hP hL9 hf9) 0 rfl rfl 1 (by decide) (hts _ lk_Jx4a65c_grow_92f84_9) (fun _ h9 => h9) hn9 dJx4a65c_grow_92f84_11 ?_
      refine va_gets hx hb (hT.2.2.1.narrow hB) hS hown (hts _ lk_Jx4a65c_grow_92f84_39) (fun _ h9 => h9) dJx4a65c_grow_92f84_14 ?_
      refine lv_acmp_eq (rx := some g_11) (ry := some (zz 0)) (tgt := 45) hx hb dJx4a65c_grow_92f84_17 (by decide) (fun c9 => ?_) (fun c9 => ?_)
      · have hw := hw.1 (Option.some.inj c9)
        refine lv_aload_n hx hb dJx4a65c_grow_92f84_45 rfl (lv_at hl 1 rfl) ?_
        refine lv_bipush (v := 10) hx hb dJx4a65c_grow_92f84_46 (by decide) ?_
        refine lv_iload_n hx hb dJx4a65c_grow_92f84_48 rfl (lv_at hl 2 rfl) ?_
        refine va_mmax hx hb (by rw [hml]; exact hl.1.symm) hown (hts _ lm_Jx4a65c_grow_92f84_79) (hts _ lmm1_Jx4a65c_grow_92f84_max) (hts _ lmm2_Jx4a65c_grow_92f84_max) (hts _ lmm3_Jx4a65c_grow_92f84_max) (Nat.le_of_ble_eq_true rfl) (Nat.le_of_ble_eq_true rfl) (Nat.le_of_ble_eq_true rfl) (Nat.le_of_ble_eq_true rfl) dJx4a65c_grow_92f84_49 ?_
        refine lv_topi (fun m_49 em_49 => ?_)
        have hw := hw m_49 em_49
        obtain ⟨⟨hn9, hc9⟩, hw⟩ := hw
        refine va_newq hx hb hown (hts _ lk_Jx4a65c_grow_92f84_7) hN.2.2.2.2.2.2.2.2.2.1 hK hP hD hS hA hn9 rfl (by first | (show _ * 1 ≤ _; omega) | (show _ * 4 ≤ _; omega) | (show _ * 8 ≤ _; omega)) (by decide) (Nat.le_trans (Nat.add_le_add_left hc9 _) (by decide)) dJx4a65c_grow_92f84_52 (fun q_52 cA9 H hK9 hP2 hD2 hS => ?_)
        have hcA : cA9 = dA 4 := p_cA hK9 (t := 4) rfl
        subst hcA
        have hq9 := p_fresh hD2
        have hz9 := p_nz hB hT hD2
        rw [va_pl_push hq9] at hP2 hD2
        obtain ⟨L_52, eL_52⟩ : ∃ y : List Nat, y = L ++ [q_52] := ⟨_, rfl⟩
        obtain ⟨f_52, ef_52⟩ : ∃ y : pF, y = va_up f q_52 (.inl (dA 4, Int32.toNatClampNeg m_49, .inr (.inr (.inr (.inr (fun _ => none)))))) := ⟨_, rfl⟩
        have hw := hw q_52 hq9 hz9 L_52 f_52 eL_52 ef_52
        have hP : va_P (dC, dI) vwCl (va_pl L_52 f_52) H := by rw [eL_52, ef_52]; exact hP2
        have hD : va_D A (va_pl L_52 f_52) := by rw [eL_52, ef_52]; exact hD2
        refine W.widen (k := 1) (n := 1000) (by omega) (by omega) ?_
        refine lv_dup_x1 hx hb dJx4a65c_grow_92f84_55 rfl rfl ?_
        obtain ⟨fs_56, ⟨hL9, hf9, hn9⟩, hw⟩ := hw
        obtain ⟨kq9, hkq9⟩ := p_at hL9 hf9
        refine va_put (D := (dC, dI)) (ci := 0) (v := .ref q_52) (C := RJx4a65c) (T := TJx4a65c) (N := 3) hx hb hts iw_Jx4a65c_grow_92f84_RJx4a65c tyJx4a65c tyJx4a65c_ok nmJx4a65c hown hK hP hD hS kq9 hkq9 rfl 1 (by decide) (hts _ lk_Jx4a65c_grow_92f84_9) (fun _ h9 => h9) rfl (tyJx4a65c_ok 1 (by decide)) rfl rfl hn9 dJx4a65c_grow_92f84_56 (fun H locs hP2 hD2 hS => ?_)
        rw [p_set hD hL9 hf9 hkq9] at hP2 hD2
        obtain ⟨f_56, ef_56⟩ : ∃ y : pF, y = va_up f_52 a0 (.inr (0, fs_56.set 1 (.ref q_52))) := ⟨_, rfl⟩
        rw [← ef_56] at hP2 hD2
        have hw := hw f_56 ef_56
        have hP := hP2
        have hD := hD2
        exact W.aret (v := .ref q_52) hx hb hr (Or.inr ⟨_, rfl⟩) (Or.inr ⟨_, rfl⟩) (fun t ht hW => ⟨⟨(q_52, L_52, f_56), q_52, rfl, hw, rfl, by rw [ht]; exact hP, va_K.moved hW.alike hK, hD⟩, hS.F ht⟩) hS.2.2 dJx4a65c_grow_92f84_59
      · have hw := hw.2 (fun h => c9 (by rw [h]))
        exact tb_Jx4a65c_grow_92f84_20 C  L f a0 a1 g_4 hw H locs hP hD hS ls (lv_sub hl [1, 2, 0] rfl)
set_option maxHeartbeats 4000000 in
set_option maxRecDepth 100000 in
theorem c_Jx4a65c_grow_92f84 (l : Launch) (dC : Nat → ClassId) (dI : Nat → Nat → Nat) (dA : Nat → ClassId) (zz : Nat → Nat) (base : Nat) (L : List Nat) (f : pF) (sz : Nat) (a0 : Nat) (a1 : Int32) (Q : Nat → List Nat → pF → Prop) (hw : wp_Jx4a65c_grow_92f84_0 dA zz Q L f a0 a1) : Met l yJx4a65c_grow_92f84 wsJx4a65c_grow_92f84 rm_Jx4a65c_grow_92f84 (va_Pc [.ref a0, .int a1] (pPre dC dI dA zz base L f sz)) (va_Qr (fun (u : Nat × List Nat × pF) => Q u.1 u.2.1 u.2.2) (fun u a t => a = u.1 ∧ pB dC dI dA (va_A (va_pl L f) sz) u.2 t) (va_A (va_pl L f) sz)) 1 1000 (va_A (va_pl L f) sz) := by
  refine Met.ofW (cc := cJx4a65c_grow_92f84) (maxL := 4) (ret := (some (.array (.object "java/lang/Object")))) (by decide) rfl ?_
  intro p e s m args below meth c s₁ B hml hv
  obtain ⟨rfl, hsz, hP, hK, hD0, hz, hN, hT⟩ := hv
  subst hsz
  have hl := lv_entry ([.ref a0, .int a1]) (n := 4) (Nat.le_of_ble_eq_true rfl)
  rw [lg_entry_eq]
  generalize (lg_sl ([.ref a0, .int a1]) ++ List.replicate (4 - (lg_sl ([.ref a0, .int a1])).length) Slot.unset).toArray = ls at hl ⊢
  exact tb_Jx4a65c_grow_92f84_0 (Q := Q) (p := p) ⟨B.exec, B.bytes, hml, findClass_of_methodNamed B.named, atoms_spec (ws := wsJx4a65c_grow_92f84) B.pre, B.returns, B.notSynchronized, fun q h => Or.inr h, hK, pAB hD0 hz, hz, hN, hT⟩ L f a0 a1 hw s.heap [] hP (hD0.self (sz := s.heap.size)) va_S.rf ls (lv_sub hl [0, 1] rfl)
theorem iw_Jx4a65c_grow_d5877_RJx4a65c : ∀ w ∈ u_ws RJx4a65c TJx4a65c 3, w ∈ wsJx4a65c_grow_d5877 := by decide +kernel
theorem lk_Jx4a65c_grow_d5877_48 : Cond.fieldLink RJx4a65c 48 "java/util/ArrayList" "size" "I" ∈ wsJx4a65c_grow_d5877 := by decide +kernel
abbrev rm_Jx4a65c_grow_d5877 : Room := { frames := 4, cells := 1, slots := 1000, locals := 127 }
def wp_Jx4a65c_grow_d5877_0 (dA : Nat → ClassId) (zz : Nat → Nat) (Q : Nat → List Nat → pF → Prop) (L : List Nat) (f : pF) (a0 : Nat) : Prop :=
    (gI L f 0 a0 2 (fun g_2 =>
      (isO L f 0 a0 ∧
        (wp_Jx4a65c_grow_92f84_0 dA zz (fun r_7 L_7 f_7 =>
          (Q r_7 L_7 f_7)) L f a0 (g_2 + (1 : Int32))))))
set_option maxHeartbeats 4000000 in
set_option maxRecDepth 100000 in
theorem tb_Jx4a65c_grow_d5877_0 {p : Program} {l : Launch} {e : Env} {s : State} {m : MethodId} {below : List Frame} {meth : Method} {c : Code} {args : Array Value} {dC : Nat → ClassId} {dI : Nat → Nat → Nat} {dA : Nat → ClassId} {zz : Nat → Nat} {base : Nat} {A : Nat → Prop} {Q : Nat → List Nat → pF → Prop} (C : pCx p s m args meth c cJx4a65c_grow_d5877 1 (some (.array (.object "java/lang/Object"))) RJx4a65c wsJx4a65c_grow_d5877 A dC dI dA zz base) : ∀ (L : List Nat) (f : pF) (a0 : Nat), wp_Jx4a65c_grow_d5877_0 dA zz Q  L f a0 → pAt p l e rm_Jx4a65c_grow_d5877 s m args below meth c dC dI A (MQ below (va_Qr (fun (u : Nat × List Nat × pF) => Q u.1 u.2.1 u.2.2) (fun u a t => a = u.1 ∧ pB dC dI dA A u.2 t) A) args s 1 1000 A) 0 0 0 1 [(0, .ref a0)] [] L f := by
  obtain ⟨hx, hb, hml, hown, hts, hr, hlocks, hA, hK, hB, hz, hN, hT⟩ := id C
  intro L f a0 hw H locs hP hD hS ls hl
  rw [wp_Jx4a65c_grow_d5877_0] at hw
  refine lv_aload_n hx hb dJx4a65c_grow_d5877_0 rfl (lv_at hl 0 rfl) ?_
  refine lv_aload_n hx hb dJx4a65c_grow_d5877_1 rfl (lv_at hl 0 rfl) ?_
  obtain ⟨fs_2, g_2, ⟨hL9, hf9, hn9⟩, hw⟩ := hw
  refine va_get (D := (dC, dI)) (ci := 0) (v := .int g_2) (C := RJx4a65c) (T := TJx4a65c) (N := 3) hx hb hts iw_Jx4a65c_grow_d5877_RJx4a65c hown hK (p_one hP hL9 hf9) 0 rfl rfl 2 (by decide) (hts _ lk_Jx4a65c_grow_d5877_48) (fun _ h9 => h9) hn9 dJx4a65c_grow_d5877_2 ?_
  refine lv_iconst (v := 1) hx hb dJx4a65c_grow_d5877_5 (by decide) ?_
  refine lv_iadd hx hb dJx4a65c_grow_d5877_6 ?_
  obtain ⟨hO9, hw⟩ := hw
  have hFc := p_free hD hS hA
  refine va_callr (va_runV (As := [.int (g_2 + (1 : Int32))]) (rest := []) ⟨hx, hb, hml, hown, hts⟩ (c_Jx4a65c_grow_92f84 l dC dI dA zz base L f H.size a0 (g_2 + (1 : Int32)) _ hw) (cwV 1 hts gJx4a65c_grow_d5877_Jx4a65c_grow_92f84 rfl rfl rfl (by decide +kernel) ⟨by decide, by decide⟩) (pPreV [.int (g_2 + (1 : Int32))] (ci := 0) rfl hO9 hK hP hD hS hB hz hN hT) rfl rfl hl.1 rfl (lv_room (Nat.le_of_ble_eq_true rfl)) dJx4a65c_grow_d5877_7 ⟨by decide, by decide⟩) hS (fun q _ h => hFc q h) hFc (fun u ra t H1 locs ht hvm hw hB1 hz1 hk1 hS => ?_)
  obtain ⟨r_7, L_7, f_7⟩ := u
  obtain ⟨hra, hP, -, hD1⟩ := hB1
  rw [show ra = r_7 from hra]
  rw [ht] at hP
  have hw := id hw
  have hP : va_P (dC, dI) vwCl (va_pl L_7 f_7) H1 := hP
  have hD : va_D A (va_pl L_7 f_7) := p_gain hD1 hFc
  generalize H1 = H at hP hS ⊢
  refine W.eq (g2 := F0 m 10 ls (.ref r_7 :: [])) rfl ?_
  refine W.widen (k := 1) (n := 1000) (by decide) (by decide) ?_
  exact W.aret (v := .ref r_7) hx hb hr (Or.inr ⟨_, rfl⟩) (Or.inr ⟨_, rfl⟩) (fun t ht hW => ⟨⟨(r_7, L_7, f_7), r_7, rfl, hw, rfl, by rw [ht]; exact hP, va_K.moved hW.alike hK, hD⟩, hS.F ht⟩) hS.2.2 dJx4a65c_grow_d5877_10
set_option maxHeartbeats 4000000 in
set_option maxRecDepth 100000 in
theorem c_Jx4a65c_grow_d5877 (l : Launch) (dC : Nat → ClassId) (dI : Nat → Nat → Nat) (dA : Nat → ClassId) (zz : Nat → Nat) (base : Nat) (L : List Nat) (f : pF) (sz : Nat) (a0 : Nat) (Q : Nat → List Nat → pF → Prop) (hw : wp_Jx4a65c_grow_d5877_0 dA zz Q L f a0) : Met l yJx4a65c_grow_d5877 wsJx4a65c_grow_d5877 rm_Jx4a65c_grow_d5877 (va_Pc [.ref a0] (pPre dC dI dA zz base L f sz)) (va_Qr (fun (u : Nat × List Nat × pF) => Q u.1 u.2.1 u.2.2) (fun u a t => a = u.1 ∧ pB dC dI dA (va_A (va_pl L f) sz) u.2 t) (va_A (va_pl L f) sz)) 1 1000 (va_A (va_pl L f) sz) := by
  refine Met.ofW (cc := cJx4a65c_grow_d5877) (maxL := 1) (ret := (some (.array (.object "java/lang/Object")))) (by decide) rfl ?_
  intro p e s m args below meth c s₁ B hml hv
  obtain ⟨rfl, hsz, hP, hK, hD0, hz, hN, hT⟩ := hv
  subst hsz
  have hl := lv_entry ([.ref a0]) (n := 1) (Nat.le_of_ble_eq_true rfl)
  rw [lg_entry_eq]
  generalize (lg_sl ([.ref a0]) ++ List.replicate (1 - (lg_sl ([.ref a0])).length) Slot.unset).toArray = ls at hl ⊢
  exact tb_Jx4a65c_grow_d5877_0 (Q := Q) (p := p) ⟨B.exec, B.bytes, hml, findClass_of_methodNamed B.named, atoms_spec (ws := wsJx4a65c_grow_d5877) B.pre, B.returns, B.notSynchronized, fun q h => Or.inr h, hK, pAB hD0 hz, hz, hN, hT⟩ L f a0 hw s.heap [] hP (hD0.self (sz := s.heap.size)) va_S.rf ls (lv_sub hl [0] rfl)
theorem iw_Jx4a65c_add_72be8_RJx4a65c : ∀ w ∈ u_ws RJx4a65c TJx4a65c 3, w ∈ wsJx4a65c_add_72be8 := by decide +kernel
theorem lk_Jx4a65c_add_72be8_48 : Cond.fieldLink RJx4a65c 48 "java/util/ArrayList" "size" "I" ∈ wsJx4a65c_add_72be8 := by decide +kernel
abbrev rm_Jx4a65c_add_72be8 : Room := { frames := 5, cells := 1, slots := 1000, locals := 147 }
def wp_Jx4a65c_add_72be8_11 (dA : Nat → ClassId) (zz : Nat → Nat) (Q : List Nat → pF → Prop) (L : List Nat) (f : pF) (a0 : Nat) (a1 : Nat) (a2 : Nat) (a3 : Int32) : Prop :=
    (isE L f a1 ∧
      (aRs L f (dA 4) a2 a3 a1 (fun f_14 =>
        (gP L f_14 0 a0 2 (.int (a3 + (1 : Int32))) (fun f_19 =>
          (Q L f_19))))))
def wp_Jx4a65c_add_72be8_0 (dA : Nat → ClassId) (zz : Nat → Nat) (Q : List Nat → pF → Prop) (L : List Nat) (f : pF) (a0 : Nat) (a1 : Nat) (a2 : Nat) (a3 : Int32) : Prop :=
    ((a2 = zz 0 →
      ((¬ a3 = (0 : Int32) →
        (wp_Jx4a65c_add_72be8_11 dA zz Q  L f a0 a1 a2 a3))
       ∧ (a3 = (0 : Int32) →
        (isO L f 0 a0 ∧
          (wp_Jx4a65c_grow_d5877_0 dA zz (fun r_7 L_7 f_7 =>
            (wp_Jx4a65c_add_72be8_11 dA zz Q  L_7 f_7 a0 a1 r_7 a3)) L f a0 ))))
    ) ∧ (¬ a2 = zz 0 →
      (aN L f (dA 4) a2 (fun g_2 =>
        ((¬ a3 = g_2 →
          (wp_Jx4a65c_add_72be8_11 dA zz Q  L f a0 a1 a2 a3))
         ∧ (a3 = g_2 →
          (isO L f 0 a0 ∧
            (wp_Jx4a65c_grow_d5877_0 dA zz (fun r_7 L_7 f_7 =>
              (wp_Jx4a65c_add_72be8_11 dA zz Q  L_7 f_7 a0 a1 r_7 a3)) L f a0 ))))))
    ))
set_option maxHeartbeats 4000000 in
set_option maxRecDepth 100000 in
theorem tb_Jx4a65c_add_72be8_11 {p : Program} {l : Launch} {e : Env} {s : State} {m : MethodId} {below : List Frame} {meth : Method} {c : Code} {args : Array Value} {dC : Nat → ClassId} {dI : Nat → Nat → Nat} {dA : Nat → ClassId} {zz : Nat → Nat} {base : Nat} {A : Nat → Prop} {Q : List Nat → pF → Prop} (C : pCx p s m args meth c cJx4a65c_add_72be8 4 none RJx4a65c wsJx4a65c_add_72be8 A dC dI dA zz base) : ∀ (L : List Nat) (f : pF) (a0 : Nat) (a1 : Nat) (a2 : Nat) (a3 : Int32), wp_Jx4a65c_add_72be8_11 dA zz Q  L f a0 a1 a2 a3 → pAt p l e rm_Jx4a65c_add_72be8 s m args below meth c dC dI A (MQ below (va_Qv (fun (u : List Nat × pF) => Q u.1 u.2) (pB dC dI dA A) A) args s 1 1000 A) 1 1000 11 4 [(0, .ref a0), (1, .ref a1), (2, .ref a2), (3, .int a3)] [] L f := by
  obtain ⟨hx, hb, hml, hown, hts, hr, hlocks, hA, hK, hB, hz, hN, hT⟩ := id C
  intro L f a0 a1 a2 a3 hw H locs hP hD hS ls hl
  rw [wp_Jx4a65c_add_72be8_11] at hw
  refine lv_aload_n hx hb dJx4a65c_add_72be8_11 rfl (lv_at hl 2 rfl) ?_
  refine lv_iload_n hx hb dJx4a65c_add_72be8_12 rfl (lv_at hl 3 rfl) ?_
  refine lv_aload_n hx hb dJx4a65c_add_72be8_13 rfl (lv_at hl 1 rfl) ?_
  obtain ⟨hO9, hw⟩ := hw
  obtain ⟨n_14, h_14, ⟨hL9, hf9, hn9⟩, hw⟩ := hw
  obtain ⟨kq9, hkq9⟩ := p_at hL9 hf9
  refine va_astqM hx hb hK hP hD hS kq9 4 hkq9 rfl (p_any hN hK hP hO9) hn9 dJx4a65c_add_72be8_14 (fun H locs hP2 hD2 hS => ?_)
  rw [p_set hD hL9 hf9 hkq9] at hP2 hD2
  obtain ⟨f_14, ef_14⟩ : ∃ y : pF, y = va_up f a2 (.inl (dA 4, n_14, .inr (.inr (.inr (.inr (va_up h_14 (Int32.toNatClampNeg a3) (some a1))))))) := ⟨_, rfl⟩
  rw [← ef_14] at hP2 hD2
  have hw := hw f_14 ef_14
  have hP := hP2
  have hD := hD2
  refine lv_aload_n hx hb dJx4a65c_add_72be8_15 rfl (lv_at hl 0 rfl) ?_
  refine lv_iload_n hx hb dJx4a65c_add_72be8_16 rfl (lv_at hl 3 rfl) ?_
  refine lv_iconst (v := 1) hx hb dJx4a65c_add_72be8_17 (by decide) ?_
  refine lv_iadd hx hb dJx4a65c_add_72be8_18 ?_
  obtain ⟨fs_19, ⟨hL9, hf9, hn9⟩, hw⟩ := hw
  obtain ⟨kq9, hkq9⟩ := p_at hL9 hf9
  refine va_put (D := (dC, dI)) (ci := 0) (v := .int (a3 + (1 : Int32))) (C := RJx4a65c) (T := TJx4a65c) (N := 3) hx hb hts iw_Jx4a65c_add_72be8_RJx4a65c tyJx4a65c tyJx4a65c_ok nmJx4a65c hown hK hP hD hS kq9 hkq9 rfl 2 (by decide) (hts _ lk_Jx4a65c_add_72be8_48) (fun _ h9 => h9) rfl (tyJx4a65c_ok 2 (by decide)) rfl rfl hn9 dJx4a65c_add_72be8_19 (fun H locs hP2 hD2 hS => ?_)
  rw [p_set hD hL9 hf9 hkq9] at hP2 hD2
  obtain ⟨f_19, ef_19⟩ : ∃ y : pF, y = va_up f_14 a0 (.inr (0, fs_19.set 2 (.int (a3 + (1 : Int32))))) := ⟨_, rfl⟩
  rw [← ef_19] at hP2 hD2
  have hw := hw f_19 ef_19
  have hP := hP2
  have hD := hD2
  exact W.vret hx hb hr (fun t ht hW => ⟨⟨(L, f_19), rfl, hw, by rw [ht]; exact hP, va_K.moved hW.alike hK, hD⟩, hS.F ht⟩) hS.2.2 dJx4a65c_add_72be8_22
set_option maxHeartbeats 4000000 in
set_option maxRecDepth 100000 in
theorem tb_Jx4a65c_add_72be8_0 {p : Program} {l : Launch} {e : Env} {s : State} {m : MethodId} {below : List Frame} {meth : Method} {c : Code} {args : Array Value} {dC : Nat → ClassId} {dI : Nat → Nat → Nat} {dA : Nat → ClassId} {zz : Nat → Nat} {base : Nat} {A : Nat → Prop} {Q : List Nat → pF → Prop} (C : pCx p s m args meth c cJx4a65c_add_72be8 4 none RJx4a65c wsJx4a65c_add_72be8 A dC dI dA zz base) : ∀ (L : List Nat) (f : pF) (a0 : Nat) (a1 : Nat) (a2 : Nat) (a3 : Int32), wp_Jx4a65c_add_72be8_0 dA zz Q  L f a0 a1 a2 a3 → pAt p l e rm_Jx4a65c_add_72be8 s m args below meth c dC dI A (MQ below (va_Qv (fun (u : List Nat × pF) => Q u.1 u.2) (pB dC dI dA A) A) args s 1 1000 A) 0 0 0 4 [(0, .ref a0), (1, .ref a1), (2, .ref a2), (3, .int a3)] [] L f := by
  obtain ⟨hx, hb, hml, hown, hts, hr, hlocks, hA, hK, hB, hz, hN, hT⟩ := id C
  intro L f a0 a1 a2 a3 hw H locs hP hD hS ls hl
  rw [wp_Jx4a65c_add_72be8_0] at hw
  refine lv_iload_n hx hb dJx4a65c_add_72be8_0 rfl (lv_at hl 3 rfl) ?_
  refine lv_aload_n hx hb dJx4a65c_add_72be8_1 rfl (lv_at hl 2 rfl) ?_
  by_cases c_2 : a2 = zz 0
  · have hw := hw.1 c_2
    refine W.eq (g2 := F0 m 2 ls (.ref (zz 0) :: [.int a3])) (by rw [c_2]) ?_
    refine va_tlen (v := 0) hx hb (hT.2.2.2.narrow hB) hS rfl dJx4a65c_add_72be8_2 ?_
    refine lv_icmp_ne (tgt := 11) hx hb dJx4a65c_add_72be8_3 (by decide) (fun c_3 => ?_) (fun c_3 => ?_)
    · have hw := hw.1 c_3
      refine W.widen (k := 1) (n := 1000) (by decide) (by decide) ?_
      exact tb_Jx4a65c_add_72be8_11 C  L f a0 a1 a2 a3 hw H locs hP hD hS ls (lv_sub hl [0, 1, 2, 3] rfl)
    · have hw := hw.2 c_3
      refine lv_aload_n hx hb dJx4a65c_add_72be8_6 rfl (lv_at hl 0 rfl) ?_
      obtain ⟨hO9, hw⟩ := hw
      have hFc := p_free hD hS hA
      refine va_callr (va_runV (As := []) (rest := []) ⟨hx, hb, hml, hown, hts⟩ (c_Jx4a65c_grow_d5877 l dC dI dA zz base L f H.size a0  _ hw) (cwV 0 hts gJx4a65c_add_72be8_Jx4a65c_grow_d5877 rfl rfl rfl (by decide +kernel) ⟨by decide, by decide⟩) (pPreV [] (ci := 0) rfl hO9 hK hP hD hS hB hz hN hT) rfl rfl hl.1 rfl (lv_room (Nat.le_of_ble_eq_true rfl)) dJx4a65c_add_72be8_7 ⟨by decide, by decide⟩) hS (fun q _ h => hFc q h) hFc (fun u ra t H1 locs ht hvm hw hB1 hz1 hk1 hS => ?_)
      obtain ⟨r_7, L_7, f_7⟩ := u
      obtain ⟨hra, hP, -, hD1⟩ := hB1
      rw [show ra = r_7 from hra]
      rw [ht] at hP
      have hw := id hw
      have hP : va_P (dC, dI) vwCl (va_pl L_7 f_7) H1 := hP
      have hD : va_D A (va_pl L_7 f_7) := p_gain hD1 hFc
      generalize H1 = H at hP hS ⊢
      refine W.eq (g2 := F0 m 10 ls (.ref r_7 :: [])) rfl ?_
      refine W.widen (k := 1) (n := 1000) (by decide) (by decide) ?_
      refine lv_astore_n (lv' := [(2, .ref r_7), (0, .ref a0), (1, .ref a1), (3, .int a3)]) hx hb dJx4a65c_add_72be8_10 rfl hl (by decide) rfl (fun ls hl => ?_)
      exact tb_Jx4a65c_add_72be8_11 C  L_7 f_7 a0 a1 r_7 a3 hw H locs hP hD hS ls (lv_sub hl [1, 2, 0, 3] rfl)
  · have hw := hw.2 c_2
    obtain ⟨x9, ⟨hL9, hf9⟩, hw⟩ := hw
    obtain ⟨g_2, eg_2⟩ : ∃ y : Int32, y = Int32.ofNat x9.1 := ⟨_, rfl⟩
    rw [← eg_2] at hw
    refine va_alen (v := g_2) hx hb hK (p_one hP hL9 hf9) 0 4 rfl rfl eg_2.symm dJx4a65c_add_72be8_2 ?_
    refine lv_icmp_ne (tgt := 11) hx hb dJx4a65c_add_72be8_3 (by decide) (fun c_3 => ?_) (fun c_3 => ?_)
    · have hw := hw.1 c_3
      refine W.widen (k := 1) (n := 1000) (by decide) (by decide) ?_
      exact tb_Jx4a65c_add_72be8_11 C  L f a0 a1 a2 a3 hw H locs hP hD hS ls (lv_sub hl [0, 1, 2, 3] rfl)
    · have hw := hw.2 c_3
      refine lv_aload_n hx hb dJx4a65c_add_72be8_6 rfl (lv_at hl 0 rfl) ?_
      obtain ⟨hO9, hw⟩ := hw
      have hFc := p_free hD hS hA
      refine va_callr (va_runV (As := []) (rest := []) ⟨hx, hb, hml, hown, hts⟩ (c_Jx4a65c_grow_d5877 l dC dI dA zz base L f H.size a0  _ hw) (cwV 0 hts gJx4a65c_add_72be8_Jx4a65c_grow_d5877 rfl rfl rfl (by decide +kernel) ⟨by decide, by decide⟩) (pPreV [] (ci := 0) rfl hO9 hK hP hD hS hB hz hN hT) rfl rfl hl.1 rfl (lv_room (Nat.le_of_ble_eq_true rfl)) dJx4a65c_add_72be8_7 ⟨by decide, by decide⟩) hS (fun q _ h => hFc q h) hFc (fun u ra t H1 locs ht hvm hw hB1 hz1 hk1 hS => ?_)
      obtain ⟨r_7, L_7, f_7⟩ := u
      obtain ⟨hra, hP, -, hD1⟩ := hB1
      rw [show ra = r_7 from hra]
      rw [ht] at hP
      have hw := id hw
      have hP : va_P (dC, dI) vwCl (va_pl L_7 f_7) H1 := hP
      have hD : va_D A (va_pl L_7 f_7) := p_gain hD1 hFc
      generalize H1 = H at hP hS ⊢
      refine W.eq (g2 := F0 m 10 ls (.ref r_7 :: [])) rfl ?_
      refine W.widen (k := 1) (n := 1000) (by decide) (by decide) ?_
      refine lv_astore_n (lv' := [(2, .ref r_7), (0, .ref a0), (1, .ref a1), (3, .int a3)]) hx hb dJx4a65c_add_72be8_10 rfl hl (by decide) rfl (fun ls hl => ?_)
      exact tb_Jx4a65c_add_72be8_11 C  L_7 f_7 a0 a1 r_7 a3 hw H locs hP hD hS ls (lv_sub hl [1, 2, 0, 3] rfl)
set_option maxHeartbeats 4000000 in
set_option maxRecDepth 100000 in
theorem c_Jx4a65c_add_72be8 (l : Launch) (dC : Nat → ClassId) (dI : Nat → Nat → Nat) (dA : Nat → ClassId) (zz : Nat → Nat) (base : Nat) (L : List Nat) (f : pF) (sz : Nat) (a0 : Nat) (a1 : Nat) (a2 : Nat) (a3 : Int32) (Q : List Nat → pF → Prop) (hw : wp_Jx4a65c_add_72be8_0 dA zz Q L f a0 a1 a2 a3) : Met l yJx4a65c_add_72be8 wsJx4a65c_add_72be8 rm_Jx4a65c_add_72be8 (va_Pc [.ref a0, .ref a1, .ref a2, .int a3] (pPre dC dI dA zz base L f sz)) (va_Qv (fun (u : List Nat × pF) => Q u.1 u.2) (pB dC dI dA (va_A (va_pl L f) sz)) (va_A (va_pl L f) sz)) 1 1000 (va_A (va_pl L f) sz) := by
  refine Met.ofW (cc := cJx4a65c_add_72be8) (maxL := 4) (ret := none) (by decide) rfl ?_
  intro p e s m args below meth c s₁ B hml hv
  obtain ⟨rfl, hsz, hP, hK, hD0, hz, hN, hT⟩ := hv
  subst hsz
  have hl := lv_entry ([.ref a0, .ref a1, .ref a2, .int a3]) (n := 4) (Nat.le_of_ble_eq_true rfl)
  rw [lg_entry_eq]
  generalize (lg_sl ([.ref a0, .ref a1, .ref a2, .int a3]) ++ List.replicate (4 - (lg_sl ([.ref a0, .ref a1, .ref a2, .int a3])).length) Slot.unset).toArray = ls at hl ⊢
  exact tb_Jx4a65c_add_72be8_0 (Q := Q) (p := p) ⟨B.exec, B.bytes, hml, findClass_of_methodNamed B.named, atoms_spec (ws := wsJx4a65c_add_72be8) B.pre, B.returns, B.notSynchronized, fun q h => Or.inr h, hK, pAB hD0 hz, hz, hN, hT⟩ L f a0 a1 a2 a3 hw s.heap [] hP (hD0.self (sz := s.heap.size)) va_S.rf ls (lv_sub hl [0, 1, 2, 3] rfl)
theorem iw_Jx4a65c_add_9ea2d_RJx4a65c : ∀ w ∈ u_ws RJx4a65c TJx4a65c 3, w ∈ wsJx4a65c_add_9ea2d := by decide +kernel
theorem lk_Jx4a65c_add_9ea2d_48 : Cond.fieldLink RJx4a65c 48 "java/util/ArrayList" "size" "I" ∈ wsJx4a65c_add_9ea2d := by decide +kernel
theorem lk_Jx4a65c_add_9ea2d_63 : Cond.fieldLink RJx4a65c 63 "java/util/ArrayList" "modCount" "I" ∈ wsJx4a65c_add_9ea2d := by decide +kernel
theorem lk_Jx4a65c_add_9ea2d_9 : Cond.fieldLink RJx4a65c 9 "java/util/ArrayList" "elementData" "[Ljava/lang/Object;" ∈ wsJx4a65c_add_9ea2d := by decide +kernel
theorem lks_Jx4a65c_add_9ea2d : Cond.sameField "java/util/ArrayList" "java/util/AbstractList" "modCount" "I" ∈ wsJx4a65c_add_9ea2d := by decide +kernel
abbrev rm_Jx4a65c_add_9ea2d : Room := { frames := 6, cells := 1, slots := 1000, locals := 170 }
def wp_Jx4a65c_add_9ea2d_0 (dA : Nat → ClassId) (zz : Nat → Nat) (Q : Int32 → List Nat → pF → Prop) (L : List Nat) (f : pF) (a0 : Nat) (a1 : Nat) : Prop :=
    (gI L f 0 a0 0 (fun g_2 =>
      (gP L f 0 a0 0 (.int (g_2 + (1 : Int32))) (fun f_7 =>
        (gR L f_7 0 a0 1 (fun g_13 =>
          (gI L f_7 0 a0 2 (fun g_17 =>
            (isO L f_7 0 a0 ∧
              (wp_Jx4a65c_add_72be8_0 dA zz (fun L_20 f_20 =>
                (Q (1 : Int32) L_20 f_20)) L f_7 a0 a1 g_13 g_17))))))))))
set_option maxHeartbeats 4000000 in
set_option maxRecDepth 100000 in
theorem tb_Jx4a65c_add_9ea2d_0 {p : Program} {l : Launch} {e : Env} {s : State} {m : MethodId} {below : List Frame} {meth : Method} {c : Code} {args : Array Value} {dC : Nat → ClassId} {dI : Nat → Nat → Nat} {dA : Nat → ClassId} {zz : Nat → Nat} {base : Nat} {A : Nat → Prop} {Q : Int32 → List Nat → pF → Prop} (C : pCx p s m args meth c cJx4a65c_add_9ea2d 2 (some .boolean) RJx4a65c wsJx4a65c_add_9ea2d A dC dI dA zz base) : ∀ (L : List Nat) (f : pF) (a0 : Nat) (a1 : Nat), wp_Jx4a65c_add_9ea2d_0 dA zz Q  L f a0 a1 → pAt p l e rm_Jx4a65c_add_9ea2d s m args below meth c dC dI A (MQ below (va_Qi (fun r (u : List Nat × pF) => Q r u.1 u.2) (pB dC dI dA A) A) args s 1 1000 A) 0 0 0 2 [(0, .ref a0), (1, .ref a1)] [] L f := by
  obtain ⟨hx, hb, hml, hown, hts, hr, hlocks, hA, hK, hB, hz, hN, hT⟩ := id C
  intro L f a0 a1 hw H locs hP hD hS ls hl
  rw [wp_Jx4a65c_add_9ea2d_0] at hw
  refine lv_aload_n hx hb dJx4a65c_add_9ea2d_0 rfl (lv_at hl 0 rfl) ?_
  refine lv_dup hx hb dJx4a65c_add_9ea2d_1 rfl ?_
  obtain ⟨fs_2, g_2, ⟨hL9, hf9, hn9⟩, hw⟩ := hw
  refine va_get (D := (dC, dI)) (ci := 0) (v := .int g_2) (C := RJx4a65c) (T := TJx4a65c) (N := 3) hx hb hts iw_Jx4a65c_add_9ea2d_RJx4a65c hown hK (p_one hP hL9 hf9) 0 rfl rfl 0 (by decide) (hts _ lk_Jx4a65c_add_9ea2d_63) (fun x9 h9 => u_same (hts _ lks_Jx4a65c_add_9ea2d) x9 h9) hn9 dJx4a65c_add_9ea2d_2 ?_
  refine lv_iconst (v := 1) hx hb dJx4a65c_add_9ea2d_5 (by decide) ?_
  refine lv_iadd hx hb dJx4a65c_add_9ea2d_6 ?_
  obtain ⟨fs_7, ⟨hL9, hf9, hn9⟩, hw⟩ := hw
  obtain ⟨kq9, hkq9⟩ := p_at hL9 hf9
  refine va_put (D := (dC, dI)) (ci := 0) (v := .int (g_2 + (1 : Int32))) (C := RJx4a65c) (T := TJx4a65c) (N := 3) hx hb hts iw_Jx4a65c_add_9ea2d_RJx4a65c tyJx4a65c tyJx4a65c_ok nmJx4a65c hown hK hP hD hS kq9 hkq9 rfl 0 (by decide) (hts _ lk_Jx4a65c_add_9ea2d_63) (fun x9 h9 => u_same (hts _ lks_Jx4a65c_add_9ea2d) x9 h9) rfl (tyJx4a65c_ok 0 (by decide)) rfl rfl hn9 dJx4a65c_add_9ea2d_7 (fun H locs hP2 hD2 hS => ?_)
  rw [p_set hD hL9 hf9 hkq9] at hP2 hD2
  obtain ⟨f_7, ef_7⟩ : ∃ y : pF, y = va_up f a0 (.inr (0, fs_7.set 0 (.int (g_2 + (1 : Int32))))) := ⟨_, rfl⟩
  rw [← ef_7] at hP2 hD2
  have hw := hw f_7 ef_7
  have hP := hP2
  have hD := hD2
  refine lv_aload_n hx hb dJx4a65c_add_9ea2d_10 rfl (lv_at hl 0 rfl) ?_
  refine lv_aload_n hx hb dJx4a65c_add_9ea2d_11 rfl (lv_at hl 1 rfl) ?_
  refine lv_aload_n hx hb dJx4a65c_add_9ea2d_12 rfl (lv_at hl 0 rfl) ?_
  obtain ⟨fs_13, g_13, ⟨hL9, hf9, hn9⟩, hw⟩ := hw
  refine va_get (D := (dC, dI)) (ci := 0) (v := .ref g_13) (C := RJx4a65c) (T := TJx4a65c) (N := 3) hx hb hts iw_Jx4a65c_add_9ea2d_RJx4a65c hown hK (p_one hP hL9 hf9) 0 rfl rfl 1 (by decide) (hts _ lk_Jx4a65c_add_9ea2d_9) (fun _ h9 => h9) hn9 dJx4a65c_add_9ea2d_13 ?_
  refine lv_aload_n hx hb dJx4a65c_add_9ea2d_16 rfl (lv_at hl 0 rfl) ?_
  obtain ⟨fs_17, g_17, ⟨hL9, hf9, hn9⟩, hw⟩ := hw
  refine va_get (D := (dC, dI)) (ci := 0) (v := .int g_17) (C := RJx4a65c) (T := TJx4a65c) (N := 3) hx hb hts iw_Jx4a65c_add_9ea2d_RJx4a65c hown hK (p_one hP hL9 hf9) 0 rfl rfl 2 (by decide) (hts _ lk_Jx4a65c_add_9ea2d_48) (fun _ h9 => h9) hn9 dJx4a65c_add_9ea2d_17 ?_
  obtain ⟨hO9, hw⟩ := hw
  have hFc := p_free hD hS hA
  refine va_callv (va_runV (As := [.ref a1, .ref g_13, .int g_17]) (rest := []) ⟨hx, hb, hml, hown, hts⟩ (c_Jx4a65c_add_72be8 l dC dI dA zz base L f_7 H.size a0 a1 g_13 g_17 _ hw) (cwV 3 hts gJx4a65c_add_9ea2d_Jx4a65c_add_72be8 rfl rfl rfl (by decide +kernel) ⟨by decide, by decide⟩) (pPreV [.ref a1, .ref g_13, .int g_17] (ci := 0) rfl hO9 hK hP hD hS hB hz hN hT) rfl rfl hl.1 rfl (lv_room (Nat.le_of_ble_eq_true rfl)) dJx4a65c_add_9ea2d_20 ⟨by decide, by decide⟩) hS (fun q _ h => hFc q h) hFc (fun u t H1 locs ht hvm hw hB1 hz1 hk1 hS => ?_)
  obtain ⟨L_20, f_20⟩ := u
  obtain ⟨hP, -, hD1⟩ := hB1
  rw [ht] at hP
  have hw := id hw
  have hP : va_P (dC, dI) vwCl (va_pl L_20 f_20) H1 := hP
  have hD : va_D A (va_pl L_20 f_20) := p_gain hD1 hFc
  generalize H1 = H at hP hS ⊢
  refine W.widen (k := 1) (n := 1000) (by decide) (by decide) ?_
  refine lv_iconst (v := 1) hx hb dJx4a65c_add_9ea2d_23 (by decide) ?_
  exact W.zret (v := (1 : Int32)) hx hb hr rfl (fun t ht hW => ⟨⟨(1 : Int32), (L_20, f_20), rfl, hw, by rw [ht]; exact hP, va_K.moved hW.alike hK, hD⟩, hS.F ht⟩) hS.2.2 dJx4a65c_add_9ea2d_24
set_option maxHeartbeats 4000000 in
set_option maxRecDepth 100000 in
theorem c_Jx4a65c_add_9ea2d (l : Launch) (dC : Nat → ClassId) (dI : Nat → Nat → Nat) (dA : Nat → ClassId) (zz : Nat → Nat) (base : Nat) (L : List Nat) (f : pF) (sz : Nat) (a0 : Nat) (a1 : Nat) (Q : Int32 → List Nat → pF → Prop) (hw : wp_Jx4a65c_add_9ea2d_0 dA zz Q L f a0 a1) : Met l yJx4a65c_add_9ea2d wsJx4a65c_add_9ea2d rm_Jx4a65c_add_9ea2d (va_Pc [.ref a0, .ref a1] (pPre dC dI dA zz base L f sz)) (va_Qi (fun r (u : List Nat × pF) => Q r u.1 u.2) (pB dC dI dA (va_A (va_pl L f) sz)) (va_A (va_pl L f) sz)) 1 1000 (va_A (va_pl L f) sz) := by
  refine Met.ofW (cc := cJx4a65c_add_9ea2d) (maxL := 2) (ret := (some .boolean)) (by decide) rfl ?_
  intro p e s m args below meth c s₁ B hml hv
  obtain ⟨rfl, hsz, hP, hK, hD0, hz, hN, hT⟩ := hv
  subst hsz
  have hl := lv_entry ([.ref a0, .ref a1]) (n := 2) (Nat.le_of_ble_eq_true rfl)
  rw [lg_entry_eq]
  generalize (lg_sl ([.ref a0, .ref a1]) ++ List.replicate (2 - (lg_sl ([.ref a0, .ref a1])).length) Slot.unset).toArray = ls at hl ⊢
  exact tb_Jx4a65c_add_9ea2d_0 (Q := Q) (p := p) ⟨B.exec, B.bytes, hml, findClass_of_methodNamed B.named, atoms_spec (ws := wsJx4a65c_add_9ea2d) B.pre, B.returns, B.notSynchronized, fun q h => Or.inr h, hK, pAB hD0 hz, hz, hN, hT⟩ L f a0 a1 hw s.heap [] hP (hD0.self (sz := s.heap.size)) va_S.rf ls (lv_sub hl [0, 1] rfl)
