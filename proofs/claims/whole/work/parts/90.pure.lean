theorem pure_main : ∀ (dA : Nat → ClassId) (zz : Nat → Nat) (Ln : Nat) (xs : Nat → Int32), Ln ≤ 3584 → wp_law_0 dA zz (lStart dA zz Ln xs) [] (fun _ => .inr (0, [])) := by
  sorry
