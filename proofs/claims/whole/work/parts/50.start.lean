set_option maxHeartbeats 4000000 in
set_option maxRecDepth 100000 in
theorem law_K {s : State} {b : Nat} (hts0 : ∀ w ∈ lw_tbl, w.before #[Value.ref b] s = true) : ∃ (dC : Nat → ClassId) (dI : Nat → Nat → Nat) (dA : Nat → ClassId), va_K (dC, dI) vwCl (pTy dA) s := by
  obtain ⟨c0, i0, n0⟩ := u_known (C := RJx4a65c) (T := TJx4a65c) (N := 3) (n := 3) hts0 inJx4a65c (hts0 (.instantiable RJx4a65c 3) (by decide +kernel))
  obtain ⟨c1, i1, n1⟩ := u_known (C := RX0) (T := TX0) (N := 8) (n := 8) hts0 inX0 (hts0 (.instantiable RX0 8) (by decide +kernel))
  obtain ⟨c2, i2, n2⟩ := u_known (C := RX1) (T := TX1) (N := 3) (n := 3) hts0 inX1 (hts0 (.instantiable RX1 3) (by decide +kernel))
  obtain ⟨c3, i3, n3⟩ := u_known (C := RX2) (T := TX2) (N := 3) (n := 3) hts0 inX2 (hts0 (.instantiable RX2 3) (by decide +kernel))
  obtain ⟨c4, i4, n4⟩ := u_known (C := RX3) (T := TX3) (N := 2) (n := 2) hts0 inX3 (hts0 (.instantiable RX3 2) (by decide +kernel))
  obtain ⟨c5, i5, n5⟩ := u_known (C := RX4) (T := TX4) (N := 2) (n := 2) hts0 inX4 (hts0 (.instantiable RX4 2) (by decide +kernel))
  obtain ⟨c6, i6, n6⟩ := u_known (C := RX5) (T := TX5) (N := 5) (n := 5) hts0 inX5 (hts0 (.instantiable RX5 5) (by decide +kernel))
  obtain ⟨c7, i7, n7⟩ := u_known (C := RX6) (T := TX6) (N := 13) (n := 13) hts0 inX6 (hts0 (.instantiable RX6 13) (by decide +kernel))
  obtain ⟨c8, i8, n8⟩ := u_known (C := RX7) (T := TX7) (N := 8) (n := 8) hts0 inX7 (hts0 (.instantiable RX7 8) (by decide +kernel))
  obtain ⟨c9, i9, n9⟩ := u_known (C := RX8) (T := TX8) (N := 6) (n := 6) hts0 inX8 (hts0 (.instantiable RX8 6) (by decide +kernel))
  obtain ⟨c10, i10, n10⟩ := u_known (C := RX9) (T := TX9) (N := 38) (n := 38) hts0 inX9 (hts0 (.instantiable RX9 38) (by decide +kernel))
  obtain ⟨d0, e0, g0, f0, q0, r0⟩ := Cond.arrayClass_spec (hts0 (.arrayClass .byte) (by decide +kernel))
  obtain ⟨d1, e1, g1, f1, q1, r1⟩ := Cond.arrayClass_spec (hts0 (.arrayClass .int) (by decide +kernel))
  obtain ⟨d2, e2, g2, f2, q2, r2⟩ := Cond.arrayClass_spec (hts0 (.arrayClass .long) (by decide +kernel))
  obtain ⟨d5, e5, g5, f5, q5, r5⟩ := Cond.arrayClass_spec (hts0 (.arrayClass .boolean) (by decide +kernel))
  obtain ⟨g3, d3, e3, x3, -, q3, r3, f3⟩ := Cond.arrayOver_spec (hts0 (.arrayOver (.object "TermKeeper$Row")) (by decide +kernel))
  obtain ⟨g4, d4, e4, x4, -, q4, r4, f4⟩ := Cond.arrayOver_spec (hts0 (.arrayOver (.object "java/lang/Object")) (by decide +kernel))
  refine ⟨fun k => match k with | 0 => c0 | 1 => c1 | 2 => c2 | 3 => c3 | 4 => c4 | 5 => c5 | 6 => c6 | 7 => c7 | 8 => c8 | 9 => c9 | _ => c10, fun k => match k with | 0 => i0 | 1 => i1 | 2 => i2 | 3 => i3 | 4 => i4 | 5 => i5 | 6 => i6 | 7 => i7 | 8 => i8 | 9 => i9 | _ => i10, fun k => match k with | 0 => d0 | 1 => d1 | 2 => d2 | 3 => d3 | 4 => d4 | _ => d5, ?_, ?_⟩
  · intro k q hq
    match k, hq with
    | 0, hq => cases hq; exact n0
    | 1, hq => cases hq; exact n1
    | 2, hq => cases hq; exact n2
    | 3, hq => cases hq; exact n3
    | 4, hq => cases hq; exact n4
    | 5, hq => cases hq; exact n5
    | 6, hq => cases hq; exact n6
    | 7, hq => cases hq; exact n7
    | 8, hq => cases hq; exact n8
    | 9, hq => cases hq; exact n9
    | 10, hq => cases hq; exact n10
    | k + 11, hq => simp [vwCl] at hq
  · intro k q hq
    match k, hq with
    | 0, hq => cases hq; exact ⟨fun _ _ => ⟨(fun _ h => by cases h), e0, q0, g0, r0⟩, f0⟩
    | 1, hq => cases hq; exact ⟨fun _ _ => ⟨(fun _ h => by cases h), e1, q1, g1, r1⟩, f1⟩
    | 2, hq => cases hq; exact ⟨fun _ _ => ⟨(fun _ h => by cases h), e2, q2, g2, r2⟩, f2⟩
    | 3, hq => cases hq; exact ⟨fun _ _ => ⟨(fun _ h => by cases h), e3, q3, g3, r3⟩, e3, g3, q3, r3, x3, f3⟩
    | 4, hq => cases hq; exact ⟨fun _ _ => ⟨(fun _ h => by cases h), e4, q4, g4, r4⟩, e4, g4, q4, r4, x4, f4⟩
    | 5, hq => cases hq; exact ⟨fun _ _ => ⟨(fun _ h => by cases h), e5, q5, g5, r5⟩, f5⟩
    | k + 6, hq => simp [pTy] at hq
set_option maxHeartbeats 4000000 in
set_option maxRecDepth 100000 in
theorem law_str {s : State} {b : Nat} (hts0 : ∀ w ∈ lw_tbl, w.before #[Value.ref b] s = true) (hgv : (Jvm.Cond.and given_1 narrow_1).before #[Value.ref b] s = true) : ∀ q ∈ pStr, ∃ sa : Nat, vk_R RX8 q.1 q.2 sa s := by
  have hf := flat_of_before _ hgv
  have key : ∀ {k : Nat} {tx : String}, (Cond.stringRef RX8 k tx).before #[Value.ref b] s = true → (Cond.exactly (.string RX8 k) "java/lang/String").before #[Value.ref b] s = true → ∃ sa : Nat, vk_R RX8 k tx sa s := by
    intro k tx h1 h2
    obtain ⟨a, _, _, _, he, -⟩ := Cond.exactly_spec h2
    exact ⟨a, vk_R.of h1 he⟩
  intro q hq
  simp only [pStr, List.mem_cons, List.not_mem_nil, or_false] at hq
  rcases hq with rfl | rfl | rfl | rfl | rfl | rfl | rfl | rfl | rfl | rfl | rfl | rfl
  · exact key (hts0 (.stringRef RX8 77 "no such classes") (by decide +kernel)) (hf (.exactly (.string RX8 77) "java/lang/String") (by decide +kernel))
  · exact key (hts0 (.stringRef RX8 92 "bits of no thing") (by decide +kernel)) (hf (.exactly (.string RX8 92) "java/lang/String") (by decide +kernel))
  · exact key (hts0 (.stringRef RX8 126 "nothing such is told of a term") (by decide +kernel)) (hf (.exactly (.string RX8 126) "java/lang/String") (by decide +kernel))
  · exact key (hts0 (.stringRef RX8 137 "no such byte") (by decide +kernel)) (hf (.exactly (.string RX8 137) "java/lang/String") (by decide +kernel))
  · exact key (hts0 (.stringRef RX8 148 "no such use") (by decide +kernel)) (hf (.exactly (.string RX8 148) "java/lang/String") (by decide +kernel))
  · exact key (hts0 (.stringRef RX8 165 "nothing such is told of a use") (by decide +kernel)) (hf (.exactly (.string RX8 165) "java/lang/String") (by decide +kernel))
  · exact key (hts0 (.stringRef RX8 184 "no such thing of the ring") (by decide +kernel)) (hf (.exactly (.string RX8 184) "java/lang/String") (by decide +kernel))
  · exact key (hts0 (.stringRef RX8 220 "no such total") (by decide +kernel)) (hf (.exactly (.string RX8 220) "java/lang/String") (by decide +kernel))
  · exact key (hts0 (.stringRef RX8 222 "no such thing") (by decide +kernel)) (hf (.exactly (.string RX8 222) "java/lang/String") (by decide +kernel))
  · exact key (hts0 (.stringRef RX8 224 "no such kind") (by decide +kernel)) (hf (.exactly (.string RX8 224) "java/lang/String") (by decide +kernel))
  · exact key (hts0 (.stringRef RX8 229 "no such term") (by decide +kernel)) (hf (.exactly (.string RX8 229) "java/lang/String") (by decide +kernel))
  · exact key (hts0 (.stringRef RX8 234 "no such text") (by decide +kernel)) (hf (.exactly (.string RX8 234) "java/lang/String") (by decide +kernel))
set_option maxHeartbeats 4000000 in
set_option maxRecDepth 100000 in
theorem law_cx {p : Program} {l : Launch} {s : State} {m : MethodId} {meth : Method} {c : Code} {b L : Nat} {xs : Nat → Int32} (C0 : lw_At p s m meth c b L xs) (hlt : l.stackTraces = false) : ∃ (dC : Nat → ClassId) (dI : Nat → Nat → Nat) (dA : Nat → ClassId) (zz : Nat → Nat), lCx p l s m meth c dC dI dA zz b L xs := by
  obtain ⟨hx, hb, hr, hml, hown, hts0, hX, hbl, hlocks, hgv⟩ := id C0
  have hts : ∀ w ∈ wsL_law, w.before #[Value.ref b] s = true := fun w h => hts0 w (wsL_law_in w h)
  have hf := flat_of_before _ hgv
  obtain ⟨dC, dI, dA, hK⟩ := law_K hts0
  obtain ⟨mi, hmi⟩ := va_Mi.of (hf (.isRef (.mirror "[Ljava/lang/Object;")) (by decide +kernel))
  have hAA : ∀ a : Nat, a < s.heap.size → ¬ (fun q => s.heap.size ≤ q) a := fun a h => Nat.not_le.mpr h
  obtain ⟨z0, hz1, hz2⟩ := va_Tof (N := 0) (f := fun _ => .null) (A := fun q => s.heap.size ≤ q) (by decide) (hf (.arrayOf (.static "java/util/ArrayList" "DEFAULTCAPACITY_EMPTY_ELEMENTDATA" "[Ljava/lang/Object;") (.object "java/lang/Object")) (by decide +kernel)) (va_eqt (z := 0) (hf (.eq (.length (.static "java/util/ArrayList" "DEFAULTCAPACITY_EMPTY_ELEMENTDATA" "[Ljava/lang/Object;")) (.int 0)) (by decide +kernel))) (fun j h => absurd h (Nat.not_lt_zero j)) hAA
  have hz3 := va_Zref (hts0 (.laysStatic "java/util/ArrayList" "DEFAULTCAPACITY_EMPTY_ELEMENTDATA" "[Ljava/lang/Object;") (by decide +kernel)) (hts0 (.initialized "java/util/ArrayList") (by decide +kernel)) hz1 hAA
  refine ⟨dC, dI, dA, fun k => match k with | 0 => z0 | _ => mi, hx, hb, hml, hown, hts, hr, hlocks, hK, ?_, ?_, hlt, hX, hbl⟩
  · exact ⟨(va_Nw.of rfl (hts0 (.methodLinkNest RX2 99 yX8_isGreat RX8) (by decide +kernel))), (va_Nw.of rfl (hts0 (.methodLinkNest RX4 29 yX8_isGreat RX8) (by decide +kernel))), (va_Nw.of rfl (hts0 (.methodLinkNest RX4 33 yX8_isLetter RX8) (by decide +kernel))), (va_Nw.of rfl (hts0 (.methodLinkNest RX7 56 yX8_endsSentence RX8) (by decide +kernel))), (va_Nw.of rfl (hts0 (.methodLinkNest RX8 24 yX1_init RX8) (by decide +kernel))), (va_Nw.of rfl (hts0 (.methodLinkNest RX8 31 yX0_init RX8) (by decide +kernel))),
      ⟨(va_Nw.of rfl (hts0 (.castable RX3 "java/lang/Object") (by decide +kernel))), (va_Nw.of rfl (hts0 (.castable RX4 "java/lang/Object") (by decide +kernel))), (va_Nw.of rfl (hts0 (.castable RX5 "java/lang/Object") (by decide +kernel)))⟩, law_str hts0 hgv, va_AO.of (hts0 (.arrayOver (.object "TermKeeper$Row")) (by decide +kernel)), va_AO.of (hts0 (.arrayOver (.object "java/lang/Object")) (by decide +kernel)), hmi, va_Dc.of (hts0 (.declares ⟨"java/lang/Object", "getClass", "()Ljava/lang/Class;"⟩) (by decide +kernel)),
      ⟨(va_Nw.of rfl (hts0 (.declares (Bundle.initS "java/lang/RuntimeException")) (by decide +kernel))), (va_Nw.of rfl (hts0 (.declares (Bundle.initS "java/lang/Exception")) (by decide +kernel))), (va_Nw.of rfl (hts0 (.declares (Bundle.initS Bundle.tN)) (by decide +kernel)))⟩, (va_Nw.of rfl (hts0 (.castable "java/lang/IllegalArgumentException" "java/lang/IllegalArgumentException") (by decide +kernel))), (va_Nw.of rfl (hts0 (.castable "java/util/NoSuchElementException" "java/util/NoSuchElementException") (by decide +kernel))),
      va_Nc.of (hf (.not (.castable "java/lang/IllegalArgumentException" "java/util/NoSuchElementException")) (by decide +kernel)), va_Nc.of (hf (.not (.castable "java/util/NoSuchElementException" "java/lang/IllegalArgumentException")) (by decide +kernel))⟩
  · exact ⟨vx_Zqof (hts0 (.laysStatic Bundle.tN "UNASSIGNED_STACK" Bundle.steD) (by decide +kernel)) (hts0 (.initialized Bundle.tN) (by decide +kernel)) (hf (.isRef (.static Bundle.tN "UNASSIGNED_STACK" Bundle.steD)) (by decide +kernel)) hAA, vx_Zqof (hts0 (.laysStatic Bundle.tN "SUPPRESSED_SENTINEL" Bundle.listD) (by decide +kernel)) (hts0 (.initialized Bundle.tN) (by decide +kernel)) (hf (.isRef (.static Bundle.tN "SUPPRESSED_SENTINEL" Bundle.listD)) (by decide +kernel)) hAA, hz3, hz2⟩

