/-! pure: the law's loop -/
section LLP
variable {dA : Nat → ClassId} {zz : Nat → Nat} {x0 ou Ln : Nat} {xs : Nat → Int32}
theorem ln_iff (hL : Ln ≤ 3584) {k : Nat} (hk : k ≤ 512) : (Int32.ofNat Ln) - (7 : Int32) < nI (7 * k) ↔ Ln < 7 * k + 7 := by
  have e1 : (Int32.ofNat Ln).toInt = Ln := nI_toInt (n := Ln) (by omega)
  have e7 : (7 : Int32).toInt = 7 := by decide
  rw [fa_lt, fb_subI (by omega) (by omega), e1, e7, nI_toInt (by omega)]
  omega
theorem law_loop (hL : Ln ≤ 3584) : ∀ (j k : Nat) (S : mS) (G : mG) (L : List Nat) (f : pF) (M : mN) (D : Nat → Int64) (mn : Int32), k + j = 512 → CI dA zz x0 ou M D mn L f → RI M D mn S G → wp_law_23 dA zz x0 ou Ln xs (j + 1) S G L f k (nI (7 * k)) := by
  intro j
  induction j with
  | zero =>
    intro k S G L f M D mn hk hc hr
    unfold wp_law_23
    refine ⟨by omega, bt1 ((ln_iff hL (by omega)).mpr (by omega)) ?_⟩
    unfold wp_law_1412
    exact ⟨by omega, trivial⟩
  | succ j ih =>
    intro k S G L f M D mn hk hc hr
    unfold wp_law_23
    refine ⟨by omega, bq (ln_iff hL (by omega)) (fun hl => ?_) (fun hl => ⟨n_in (by omega) (by omega), fun g hg => ?_⟩)⟩
    · unfold wp_law_1412
      exact ⟨by omega, trivial⟩
    · have H : LH dA zz x0 ou Ln (wp_law_23 dA zz x0 ou Ln xs (j + 1)) S G L f k (nI (7 * k)) M D mn := by
        refine ⟨hc, hr, by omega, fun i hi => ?_, fun M' D' mn' S' G' L' f' c r => ?_⟩
        · rw [nI_add]
          exact n_in (by omega) (by omega)
        · have e : nI (7 * k) + 7 = nI (7 * (k + 1)) := nI_add (7 * k) 7
          rw [e]
          exact ih (k + 1) S' G' L' f' M' D' mn' (by omega) c r
      exact ⟨fun _ => law_letter H, fun _ => law_ending H, fun _ => law_term H, fun _ => law_neighbour H, fun _ => law_define H, fun _ => law_know H, fun _ => law_kind H, fun _ => law_about H, fun _ => law_write H, fun _ => law_cut H, fun _ => law_byteAt H, fun _ => law_uses H, fun _ => law_use H, fun _ => law_mend H, fun _ => law_mendAll H, fun _ => law_count H, fun _ => law_ring H, fun _ => law_fewest H, fun _ => law_crossing H, fun _ => law_total H, fun _ _ _ _ _ _ _ _ _ _ _ _ _ _ _ _ _ _ _ _ => l1406 H hc hr⟩
end LLP
