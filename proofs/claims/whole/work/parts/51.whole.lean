/-- where the loop begins: the reference's cells and the rest of the pool, and the loop's own predicate -/
def lStart (dA : Nat → ClassId) (zz : Nat → Nat) (Ln : Nat) (xs : Nat → Int32) (L : List Nat) (f : pF) (x0 o ou : Nat) : Prop :=
  ∃ (ad : Nat → Nat) (S : mS) (G : mG) (L' : List Nat) (f' : pF), (∀ q ∈ mW (dA 1) (dA 2) (dA 5) o ad S G ++ va_pl L' f', q.1 ∈ L ∧ f q.1 = q.2) ∧ ((mW (dA 1) (dA 2) (dA 5) o ad S G ++ va_pl L' f').map (fun q => q.1)).Nodup ∧ ∃ n : Nat, wp_law_23 dA zz x0 ou Ln xs n S G L' f' 0 0
theorem l_conv {D : va_G} {cl : List vw_C} {A : Nat → Prop} {L : List Nat} {f : pF} {H : Heap} {ws : va_W} (hP : va_P D cl (va_pl L f) H) (hD : va_D A (va_pl L f)) (hin : ∀ q ∈ ws, q.1 ∈ L ∧ f q.1 = q.2) (hn : (ws.map (fun q => q.1)).Nodup) : va_P D cl ws H ∧ va_D A ws := by
  refine ⟨fun k q h => ?_, fun i j p q hi hj e => ?_, fun k q h => ?_⟩
  · obtain ⟨h1, h2⟩ := hin q (List.mem_of_getElem? h)
    exact p_one hP h1 h2 0 (q.1, q.2) rfl
  · have hlt : i < (ws.map (fun q => q.1)).length := by rw [List.length_map]; exact (List.getElem?_eq_some_iff.mp hi).1
    refine (List.getElem?_inj hlt hn).mp ?_
    rw [List.getElem?_map, List.getElem?_map, hi, hj]
    simp [e]
  · obtain ⟨h1, h2⟩ := hin q (List.mem_of_getElem? h)
    obtain ⟨j, hj⟩ := p_at h1 h2
    exact hD.2 j _ hj
set_option maxHeartbeats 4000000 in
set_option maxRecDepth 100000 in
theorem whole_start_open (pure_main : ∀ (dA : Nat → ClassId) (zz : Nat → Nat) (Ln : Nat) (xs : Nat → Int32), Ln ≤ 3584 → wp_law_0 dA zz (lStart dA zz Ln xs) [] (fun _ => .inr (0, []))) {p : Program} {e : Env} {s : State} {m : MethodId} {below : List Frame} {meth : Method} {c : Code} (l : Launch) (hlt : l.stackTraces = false) {b L : Nat} {xs : Nat → Int32} (hL : L ≤ 3584) (C0 : lw_At p s m meth c b L xs) : W p l e room_1 s m #[Value.ref b] below meth c s.heap [] 0 0 (lw_Z below #[Value.ref b] s) (entryFrame m ([Value.ref b] : List Value).toArray 8) := by
  obtain ⟨dC, dI, dA, zz, C⟩ := law_cx C0 hlt
  have hl := lv_entry ([.ref b]) (n := 8) (Nat.le_of_ble_eq_true rfl)
  rw [lg_entry_eq]
  generalize (lg_sl ([.ref b]) ++ List.replicate (8 - (lg_sl ([.ref b])).length) Slot.unset).toArray = ls at hl ⊢
  refine tb_law_0 C (K := lStart dA zz L xs) ?_ [] _ (pure_main dA zz L xs hL) s.heap [] (fun k q h => by simp [va_pl] at h) ⟨fun i j p q h => by simp [va_pl] at h, fun k q h => by simp [va_pl] at h⟩ va_S.rf ls hl
  intro L' f' x0 o ou hk H locs hP hD hS ls hl
  obtain ⟨ad, S, G, L2, f2, hin, hnd, n, hw⟩ := hk
  obtain ⟨hP2, hD2⟩ := l_conv hP hD hin hnd
  refine W.widen (k := 100 + 16 * 0) (n := 26000 + 2048 * 0) (by decide) (by decide) ?_
  exact tb_law_23 C n S G L2 f2 0 0 hw H locs hP2 hD2 hS ls hl
