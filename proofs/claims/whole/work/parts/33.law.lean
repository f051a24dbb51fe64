theorem lk_L_law_98 : Cond.constantLong RL 98 (4294967295) ∈ wsL_law := by decide +kernel
def wp_law_1406 (dA : Nat → ClassId) (zz : Nat → Nat) (x0 ou Ln : Nat) (xs : Nat → Int32) (k23_ : mS → mG → List Nat → pF → Nat → Int32 → Prop) (S : mS) (G : mG) (L : List Nat) (f : pF) (k : Nat) (a4 : Int32) : Prop :=
    (k ≤ 512 ∧
      (∀ v4_1406 : Int32, v4_1406 = a4 + (7 : Int32) →
        (k23_ S G L f (k + 1) v4_1406)))
def wp_law_136 (dA : Nat → ClassId) (zz : Nat → Nat) (x0 ou Ln : Nat) (xs : Nat → Int32) (k23_ : mS → mG → List Nat → pF → Nat → Int32 → Prop) (S : mS) (G : mG) (L : List Nat) (f : pF) (k : Nat) (a4 : Int32) : Prop :=
    (k ≤ 512 ∧
      (vp_in (a4 + (1 : Int32)) Ln ∧ ∀ g_142 : Int32, g_142 = xs (Int32.toNatClampNeg (a4 + (1 : Int32))) →
        (isO L f 9 x0 ∧
          (wp_X8_letter_0 dA zz (fun r_143 L_143 f_143 =>
            (vp_in (a4 + (1 : Int32)) Ln ∧ ∀ g_152 : Int32, g_152 = xs (Int32.toNatClampNeg (a4 + (1 : Int32))) →
              (wp_X9_letter_0 (fun r_153 S_153 G_153 =>
                ((r_143 = r_153 →
                  (wp_law_1406 dA zz x0 ou Ln xs k23_ S_153 G_153 L_143 f_143 k a4))
                 ∧ (¬ r_143 = r_153 →
                  (False)))) S G g_152))) L f x0 g_142))))
def wp_law_161 (dA : Nat → ClassId) (zz : Nat → Nat) (x0 ou Ln : Nat) (xs : Nat → Int32) (k23_ : mS → mG → List Nat → pF → Nat → Int32 → Prop) (S : mS) (G : mG) (L : List Nat) (f : pF) (k : Nat) (a4 : Int32) : Prop :=
    (k ≤ 512 ∧
      (isO L f 9 x0 ∧
        (wp_X8_ending_0 dA zz (fun r_162 L_162 f_162 =>
          (wp_X9_ending_0 (fun r_166 S_166 G_166 =>
            ((r_162 = r_166 →
              (wp_law_1406 dA zz x0 ou Ln xs k23_ S_166 G_166 L_162 f_162 k a4))
             ∧ (¬ r_162 = r_166 →
              (False)))) S G )) L f x0 )))
def wp_law_174 (dA : Nat → ClassId) (zz : Nat → Nat) (x0 ou Ln : Nat) (xs : Nat → Int32) (k23_ : mS → mG → List Nat → pF → Nat → Int32 → Prop) (S : mS) (G : mG) (L : List Nat) (f : pF) (k : Nat) (a4 : Int32) : Prop :=
    (k ≤ 512 ∧
      (vp_in (a4 + (1 : Int32)) Ln ∧ ∀ g_180 : Int32, g_180 = xs (Int32.toNatClampNeg (a4 + (1 : Int32))) →
        (vp_in (a4 + (2 : Int32)) Ln ∧ ∀ g_186 : Int32, g_186 = xs (Int32.toNatClampNeg (a4 + (2 : Int32))) →
          (vp_in (a4 + (3 : Int32)) Ln ∧ ∀ g_192 : Int32, g_192 = xs (Int32.toNatClampNeg (a4 + (3 : Int32))) →
            (wp_L_term_0 dA zz (fun r_194 L_194 f_194 =>
              (vp_in (a4 + (1 : Int32)) Ln ∧ ∀ g_205 : Int32, g_205 = xs (Int32.toNatClampNeg (a4 + (1 : Int32))) →
                (vp_in (a4 + (2 : Int32)) Ln ∧ ∀ g_211 : Int32, g_211 = xs (Int32.toNatClampNeg (a4 + (2 : Int32))) →
                  (vp_in (a4 + (3 : Int32)) Ln ∧ ∀ g_217 : Int32, g_217 = xs (Int32.toNatClampNeg (a4 + (3 : Int32))) →
                    (wp_X9_term_0 (fun r_218 S_218 G_218 =>
                      (wp_X9_thrown_0 (fun r_224 S_224 G_224 =>
                        ((r_224 = r_194 →
                          ((¬ r_194 = 0 →
                            (wp_law_1406 dA zz x0 ou Ln xs k23_ S_224 G_224 L_194 f_194 k a4))
                           ∧ (r_194 = 0 →
                            (aJ L_194 f_194 (dA 2) ou (0 : Int32) (fun g_241 =>
                              (((lg_cmp g_241 (Int32.toInt64 r_218)) = 0 →
                                (wp_law_1406 dA zz x0 ou Ln xs k23_ S_224 G_224 L_194 f_194 k a4))
                               ∧ (¬ (lg_cmp g_241 (Int32.toInt64 r_218)) = 0 →
                                (False))))))))
                         ∧ (¬ r_224 = r_194 →
                          (False)))) S_218 G_218 )) S G g_205 g_211 g_217))))) L f x0 g_180 g_186 g_192 ou)))))
def wp_law_254 (dA : Nat → ClassId) (zz : Nat → Nat) (x0 ou Ln : Nat) (xs : Nat → Int32) (k23_ : mS → mG → List Nat → pF → Nat → Int32 → Prop) (S : mS) (G : mG) (L : List Nat) (f : pF) (k : Nat) (a4 : Int32) : Prop :=
    (k ≤ 512 ∧
      (vp_in (a4 + (1 : Int32)) Ln ∧ ∀ g_260 : Int32, g_260 = xs (Int32.toNatClampNeg (a4 + (1 : Int32))) →
        (wp_L_neighbour_0 dA zz (fun r_262 L_262 f_262 =>
          (vp_in (a4 + (1 : Int32)) Ln ∧ ∀ g_273 : Int32, g_273 = xs (Int32.toNatClampNeg (a4 + (1 : Int32))) →
            (wp_X9_neighbour_0 (fun r_274 S_274 G_274 =>
              (wp_X9_thrown_0 (fun r_280 S_280 G_280 =>
                ((r_280 = r_262 →
                  ((¬ r_262 = 0 →
                    (wp_law_1406 dA zz x0 ou Ln xs k23_ S_280 G_280 L_262 f_262 k a4))
                   ∧ (r_262 = 0 →
                    (aJ L_262 f_262 (dA 2) ou (0 : Int32) (fun g_297 =>
                      (((lg_cmp g_297 (Int32.toInt64 r_274)) = 0 →
                        (wp_law_1406 dA zz x0 ou Ln xs k23_ S_280 G_280 L_262 f_262 k a4))
                       ∧ (¬ (lg_cmp g_297 (Int32.toInt64 r_274)) = 0 →
                        (False))))))))
                 ∧ (¬ r_280 = r_262 →
                  (False)))) S_274 G_274 )) S G g_273))) L f x0 g_260 ou)))
def wp_law_310 (dA : Nat → ClassId) (zz : Nat → Nat) (x0 ou Ln : Nat) (xs : Nat → Int32) (k23_ : mS → mG → List Nat → pF → Nat → Int32 → Prop) (S : mS) (G : mG) (L : List Nat) (f : pF) (k : Nat) (a4 : Int32) : Prop :=
    (k ≤ 512 ∧
      (vp_in (a4 + (1 : Int32)) Ln ∧ ∀ g_316 : Int32, g_316 = xs (Int32.toNatClampNeg (a4 + (1 : Int32))) →
        (vp_in (a4 + (2 : Int32)) Ln ∧ ∀ g_322 : Int32, g_322 = xs (Int32.toNatClampNeg (a4 + (2 : Int32))) →
          (vp_in (a4 + (3 : Int32)) Ln ∧ ∀ g_332 : Int32, g_332 = xs (Int32.toNatClampNeg (a4 + (3 : Int32))) →
            (wp_L_define_0 dA zz (fun r_340 L_340 f_340 =>
              (vp_in (a4 + (1 : Int32)) Ln ∧ ∀ g_351 : Int32, g_351 = xs (Int32.toNatClampNeg (a4 + (1 : Int32))) →
                (vp_in (a4 + (2 : Int32)) Ln ∧ ∀ g_357 : Int32, g_357 = xs (Int32.toNatClampNeg (a4 + (2 : Int32))) →
                  (vp_in (a4 + (3 : Int32)) Ln ∧ ∀ g_367 : Int32, g_367 = xs (Int32.toNatClampNeg (a4 + (3 : Int32))) →
                    (wp_X9_define_0 (fun r_374 S_374 G_374 =>
                      (wp_X9_thrown_0 (fun r_380 S_380 G_380 =>
                        ((r_380 = r_340 →
                          ((¬ r_340 = 0 →
                            (wp_law_1406 dA zz x0 ou Ln xs k23_ S_380 G_380 L_340 f_340 k a4))
                           ∧ (r_340 = 0 →
                            (aJ L_340 f_340 (dA 2) ou (0 : Int32) (fun g_397 =>
                              (((lg_cmp g_397 r_374) = 0 →
                                (wp_law_1406 dA zz x0 ou Ln xs k23_ S_380 G_380 L_340 f_340 k a4))
                               ∧ (¬ (lg_cmp g_397 r_374) = 0 →
                                (False))))))))
                         ∧ (¬ r_380 = r_340 →
                          (False)))) S_374 G_374 )) S G g_351 (((Int32.toInt64 g_357) <<< (Int32.toInt64 (32 : Int32) &&& 63)) ||| ((Int32.toInt64 g_367) &&& (4294967295 : Int64)))))))) L f x0 g_316 (((Int32.toInt64 g_322) <<< (Int32.toInt64 (32 : Int32) &&& 63)) ||| ((Int32.toInt64 g_332) &&& (4294967295 : Int64))) ou)))))
def wp_law_409 (dA : Nat → ClassId) (zz : Nat → Nat) (x0 ou Ln : Nat) (xs : Nat → Int32) (k23_ : mS → mG → List Nat → pF → Nat → Int32 → Prop) (S : mS) (G : mG) (L : List Nat) (f : pF) (k : Nat) (a4 : Int32) : Prop :=
    (k ≤ 512 ∧
      (vp_in (a4 + (1 : Int32)) Ln ∧ ∀ g_415 : Int32, g_415 = xs (Int32.toNatClampNeg (a4 + (1 : Int32))) →
        (vp_in (a4 + (2 : Int32)) Ln ∧ ∀ g_421 : Int32, g_421 = xs (Int32.toNatClampNeg (a4 + (2 : Int32))) →
          ((g_421 = 0 →
            (wp_L_know_0 dA zz (fun r_431 L_431 f_431 =>
              (vp_in (a4 + (1 : Int32)) Ln ∧ ∀ g_442 : Int32, g_442 = xs (Int32.toNatClampNeg (a4 + (1 : Int32))) →
                (vp_in (a4 + (2 : Int32)) Ln ∧ ∀ g_448 : Int32, g_448 = xs (Int32.toNatClampNeg (a4 + (2 : Int32))) →
                  ((g_448 = 0 →
                    (wp_X9_know_0 (fun r_457 S_457 G_457 =>
                      (wp_X9_thrown_0 (fun r_463 S_463 G_463 =>
                        ((r_463 = r_431 →
                          ((¬ r_431 = 0 →
                            (wp_law_1406 dA zz x0 ou Ln xs k23_ S_463 G_463 L_431 f_431 k a4))
                           ∧ (r_431 = 0 →
                            (aJ L_431 f_431 (dA 2) ou (0 : Int32) (fun g_480 =>
                              ((r_457 = 0 →
                                (((lg_cmp g_480 (0 : Int64)) = 0 →
                                  (wp_law_1406 dA zz x0 ou Ln xs k23_ S_463 G_463 L_431 f_431 k a4))
                                 ∧ (¬ (lg_cmp g_480 (0 : Int64)) = 0 →
                                  (False))))
                               ∧ (¬ r_457 = 0 →
                                (((lg_cmp g_480 (1 : Int64)) = 0 →
                                  (wp_law_1406 dA zz x0 ou Ln xs k23_ S_463 G_463 L_431 f_431 k a4))
                                 ∧ (¬ (lg_cmp g_480 (1 : Int64)) = 0 →
                                  (False))))))))))
                         ∧ (¬ r_463 = r_431 →
                          (False)))) S_457 G_457 )) S G g_442 (0 : Int32)))
                   ∧ (¬ g_448 = 0 →
                    (wp_X9_know_0 (fun r_457 S_457 G_457 =>
                      (wp_X9_thrown_0 (fun r_463 S_463 G_463 =>
                        ((r_463 = r_431 →
                          ((¬ r_431 = 0 →
                            (wp_law_1406 dA zz x0 ou Ln xs k23_ S_463 G_463 L_431 f_431 k a4))
                           ∧ (r_431 = 0 →
                            (aJ L_431 f_431 (dA 2) ou (0 : Int32) (fun g_480 =>
                              ((r_457 = 0 →
                                (((lg_cmp g_480 (0 : Int64)) = 0 →
                                  (wp_law_1406 dA zz x0 ou Ln xs k23_ S_463 G_463 L_431 f_431 k a4))
                                 ∧ (¬ (lg_cmp g_480 (0 : Int64)) = 0 →
                                  (False))))
                               ∧ (¬ r_457 = 0 →
                                (((lg_cmp g_480 (1 : Int64)) = 0 →
                                  (wp_law_1406 dA zz x0 ou Ln xs k23_ S_463 G_463 L_431 f_431 k a4))
                                 ∧ (¬ (lg_cmp g_480 (1 : Int64)) = 0 →
                                  (False))))))))))
                         ∧ (¬ r_463 = r_431 →
                          (False)))) S_457 G_457 )) S G g_442 (1 : Int32))))))) L f x0 g_415 (0 : Int32) ou))
           ∧ (¬ g_421 = 0 →
            (wp_L_know_0 dA zz (fun r_431 L_431 f_431 =>
              (vp_in (a4 + (1 : Int32)) Ln ∧ ∀ g_442 : Int32, g_442 = xs (Int32.toNatClampNeg (a4 + (1 : Int32))) →
                (vp_in (a4 + (2 : Int32)) Ln ∧ ∀ g_448 : Int32, g_448 = xs (Int32.toNatClampNeg (a4 + (2 : Int32))) →
                  ((g_448 = 0 →
                    (wp_X9_know_0 (fun r_457 S_457 G_457 =>
                      (wp_X9_thrown_0 (fun r_463 S_463 G_463 =>
                        ((r_463 = r_431 →
                          ((¬ r_431 = 0 →
                            (wp_law_1406 dA zz x0 ou Ln xs k23_ S_463 G_463 L_431 f_431 k a4))
                           ∧ (r_431 = 0 →
                            (aJ L_431 f_431 (dA 2) ou (0 : Int32) (fun g_480 =>
                              ((r_457 = 0 →
                                (((lg_cmp g_480 (0 : Int64)) = 0 →
                                  (wp_law_1406 dA zz x0 ou Ln xs k23_ S_463 G_463 L_431 f_431 k a4))
                                 ∧ (¬ (lg_cmp g_480 (0 : Int64)) = 0 →
                                  (False))))
                               ∧ (¬ r_457 = 0 →
                                (((lg_cmp g_480 (1 : Int64)) = 0 →
                                  (wp_law_1406 dA zz x0 ou Ln xs k23_ S_463 G_463 L_431 f_431 k a4))
                                 ∧ (¬ (lg_cmp g_480 (1 : Int64)) = 0 →
                                  (False))))))))))
                         ∧ (¬ r_463 = r_431 →
                          (False)))) S_457 G_457 )) S G g_442 (0 : Int32)))
                   ∧ (¬ g_448 = 0 →
                    (wp_X9_know_0 (fun r_457 S_457 G_457 =>
                      (wp_X9_thrown_0 (fun r_463 S_463 G_463 =>
                        ((r_463 = r_431 →
                          ((¬ r_431 = 0 →
                            (wp_law_1406 dA zz x0 ou Ln xs k23_ S_463 G_463 L_431 f_431 k a4))
                           ∧ (r_431 = 0 →
                            (aJ L_431 f_431 (dA 2) ou (0 : Int32) (fun g_480 =>
                              ((r_457 = 0 →
                                (((lg_cmp g_480 (0 : Int64)) = 0 →
                                  (wp_law_1406 dA zz x0 ou Ln xs k23_ S_463 G_463 L_431 f_431 k a4))
                                 ∧ (¬ (lg_cmp g_480 (0 : Int64)) = 0 →
                                  (False))))
                               ∧ (¬ r_457 = 0 →
                                (((lg_cmp g_480 (1 : Int64)) = 0 →
                                  (wp_law_1406 dA zz x0 ou Ln xs k23_ S_463 G_463 L_431 f_431 k a4))
                                 ∧ (¬ (lg_cmp g_480 (1 : Int64)) = 0 →
                                  (False))))))))))
                         ∧ (¬ r_463 = r_431 →
                          (False)))) S_457 G_457 )) S G g_442 (1 : Int32))))))) L f x0 g_415 (1 : Int32) ou))))))
def wp_law_500 (dA : Nat → ClassId) (zz : Nat → Nat) (x0 ou Ln : Nat) (xs : Nat → Int32) (k23_ : mS → mG → List Nat → pF → Nat → Int32 → Prop) (S : mS) (G : mG) (L : List Nat) (f : pF) (k : Nat) (a4 : Int32) : Prop :=
    (k ≤ 512 ∧
      (vp_in (a4 + (1 : Int32)) Ln ∧ ∀ g_506 : Int32, g_506 = xs (Int32.toNatClampNeg (a4 + (1 : Int32))) →
        (vp_in (a4 + (2 : Int32)) Ln ∧ ∀ g_512 : Int32, g_512 = xs (Int32.toNatClampNeg (a4 + (2 : Int32))) →
          (wp_L_kind_0 dA zz (fun r_514 L_514 f_514 =>
            (vp_in (a4 + (1 : Int32)) Ln ∧ ∀ g_525 : Int32, g_525 = xs (Int32.toNatClampNeg (a4 + (1 : Int32))) →
              (vp_in (a4 + (2 : Int32)) Ln ∧ ∀ g_531 : Int32, g_531 = xs (Int32.toNatClampNeg (a4 + (2 : Int32))) →
                (wp_X9_kind_0 (fun r_532 S_532 G_532 =>
                  (wp_X9_thrown_0 (fun r_538 S_538 G_538 =>
                    ((r_538 = r_514 →
                      ((¬ r_514 = 0 →
                        (wp_law_1406 dA zz x0 ou Ln xs k23_ S_538 G_538 L_514 f_514 k a4))
                       ∧ (r_514 = 0 →
                        (aJ L_514 f_514 (dA 2) ou (0 : Int32) (fun g_555 =>
                          (((lg_cmp g_555 (Int32.toInt64 r_532)) = 0 →
                            (wp_law_1406 dA zz x0 ou Ln xs k23_ S_538 G_538 L_514 f_514 k a4))
                           ∧ (¬ (lg_cmp g_555 (Int32.toInt64 r_532)) = 0 →
                            (False))))))))
                     ∧ (¬ r_538 = r_514 →
                      (False)))) S_532 G_532 )) S G g_525 g_531)))) L f x0 g_506 g_512 ou))))
def wp_law_568 (dA : Nat → ClassId) (zz : Nat → Nat) (x0 ou Ln : Nat) (xs : Nat → Int32) (k23_ : mS → mG → List Nat → pF → Nat → Int32 → Prop) (S : mS) (G : mG) (L : List Nat) (f : pF) (k : Nat) (a4 : Int32) : Prop :=
    (k ≤ 512 ∧
      (vp_in (a4 + (1 : Int32)) Ln ∧ ∀ g_574 : Int32, g_574 = xs (Int32.toNatClampNeg (a4 + (1 : Int32))) →
        (vp_in (a4 + (2 : Int32)) Ln ∧ ∀ g_580 : Int32, g_580 = xs (Int32.toNatClampNeg (a4 + (2 : Int32))) →
          (wp_L_about_0 dA zz (fun r_582 L_582 f_582 =>
            (vp_in (a4 + (1 : Int32)) Ln ∧ ∀ g_593 : Int32, g_593 = xs (Int32.toNatClampNeg (a4 + (1 : Int32))) →
              (vp_in (a4 + (2 : Int32)) Ln ∧ ∀ g_599 : Int32, g_599 = xs (Int32.toNatClampNeg (a4 + (2 : Int32))) →
                (wp_X9_about_0 (fun r_600 S_600 G_600 =>
                  (wp_X9_thrown_0 (fun r_606 S_606 G_606 =>
                    ((r_606 = r_582 →
                      ((¬ r_582 = 0 →
                        (wp_law_1406 dA zz x0 ou Ln xs k23_ S_606 G_606 L_582 f_582 k a4))
                       ∧ (r_582 = 0 →
                        (aJ L_582 f_582 (dA 2) ou (0 : Int32) (fun g_623 =>
                          (((lg_cmp g_623 (Int32.toInt64 r_600)) = 0 →
                            (wp_law_1406 dA zz x0 ou Ln xs k23_ S_606 G_606 L_582 f_582 k a4))
                           ∧ (¬ (lg_cmp g_623 (Int32.toInt64 r_600)) = 0 →
                            (False))))))))
                     ∧ (¬ r_606 = r_582 →
                      (False)))) S_600 G_600 )) S G g_593 g_599)))) L f x0 g_574 g_580 ou))))
def wp_law_636 (dA : Nat → ClassId) (zz : Nat → Nat) (x0 ou Ln : Nat) (xs : Nat → Int32) (k23_ : mS → mG → List Nat → pF → Nat → Int32 → Prop) (S : mS) (G : mG) (L : List Nat) (f : pF) (k : Nat) (a4 : Int32) : Prop :=
    (k ≤ 512 ∧
      (vp_in (a4 + (1 : Int32)) Ln ∧ ∀ g_642 : Int32, g_642 = xs (Int32.toNatClampNeg (a4 + (1 : Int32))) →
        (vp_in (a4 + (2 : Int32)) Ln ∧ ∀ g_648 : Int32, g_648 = xs (Int32.toNatClampNeg (a4 + (2 : Int32))) →
          (vp_in (a4 + (3 : Int32)) Ln ∧ ∀ g_654 : Int32, g_654 = xs (Int32.toNatClampNeg (a4 + (3 : Int32))) →
            (vp_in (a4 + (4 : Int32)) Ln ∧ ∀ g_660 : Int32, g_660 = xs (Int32.toNatClampNeg (a4 + (4 : Int32))) →
              (vp_in (a4 + (5 : Int32)) Ln ∧ ∀ g_666 : Int32, g_666 = xs (Int32.toNatClampNeg (a4 + (5 : Int32))) →
                (vp_in (a4 + (6 : Int32)) Ln ∧ ∀ g_673 : Int32, g_673 = xs (Int32.toNatClampNeg (a4 + (6 : Int32))) →
                  (wp_L_write_0 dA zz (fun r_675 L_675 f_675 =>
                    (vp_in (a4 + (1 : Int32)) Ln ∧ ∀ g_686 : Int32, g_686 = xs (Int32.toNatClampNeg (a4 + (1 : Int32))) →
                      (vp_in (a4 + (2 : Int32)) Ln ∧ ∀ g_692 : Int32, g_692 = xs (Int32.toNatClampNeg (a4 + (2 : Int32))) →
                        (vp_in (a4 + (3 : Int32)) Ln ∧ ∀ g_698 : Int32, g_698 = xs (Int32.toNatClampNeg (a4 + (3 : Int32))) →
                          (vp_in (a4 + (4 : Int32)) Ln ∧ ∀ g_704 : Int32, g_704 = xs (Int32.toNatClampNeg (a4 + (4 : Int32))) →
                            (vp_in (a4 + (5 : Int32)) Ln ∧ ∀ g_710 : Int32, g_710 = xs (Int32.toNatClampNeg (a4 + (5 : Int32))) →
                              (vp_in (a4 + (6 : Int32)) Ln ∧ ∀ g_717 : Int32, g_717 = xs (Int32.toNatClampNeg (a4 + (6 : Int32))) →
                                (wp_X9_write_0 (fun r_718 S_718 G_718 =>
                                  (wp_X9_thrown_0 (fun r_724 S_724 G_724 =>
                                    ((r_724 = r_675 →
                                      ((¬ r_675 = 0 →
                                        (wp_law_1406 dA zz x0 ou Ln xs k23_ S_724 G_724 L_675 f_675 k a4))
                                       ∧ (r_675 = 0 →
                                        (aJ L_675 f_675 (dA 2) ou (0 : Int32) (fun g_741 =>
                                          (((lg_cmp g_741 (Int32.toInt64 r_718)) = 0 →
                                            (wp_law_1406 dA zz x0 ou Ln xs k23_ S_724 G_724 L_675 f_675 k a4))
                                           ∧ (¬ (lg_cmp g_741 (Int32.toInt64 r_718)) = 0 →
                                            (False))))))))
                                     ∧ (¬ r_724 = r_675 →
                                      (False)))) S_718 G_718 )) S G g_686 g_692 g_698 g_704 g_710 g_717)))))))) L f x0 g_642 g_648 g_654 g_660 g_666 g_673 ou))))))))
def wp_law_754 (dA : Nat → ClassId) (zz : Nat → Nat) (x0 ou Ln : Nat) (xs : Nat → Int32) (k23_ : mS → mG → List Nat → pF → Nat → Int32 → Prop) (S : mS) (G : mG) (L : List Nat) (f : pF) (k : Nat) (a4 : Int32) : Prop :=
    (k ≤ 512 ∧
      (vp_in (a4 + (1 : Int32)) Ln ∧ ∀ g_760 : Int32, g_760 = xs (Int32.toNatClampNeg (a4 + (1 : Int32))) →
        (vp_in (a4 + (2 : Int32)) Ln ∧ ∀ g_766 : Int32, g_766 = xs (Int32.toNatClampNeg (a4 + (2 : Int32))) →
          (wp_L_cut_0 dA zz (fun r_768 L_768 f_768 =>
            (vp_in (a4 + (1 : Int32)) Ln ∧ ∀ g_779 : Int32, g_779 = xs (Int32.toNatClampNeg (a4 + (1 : Int32))) →
              (vp_in (a4 + (2 : Int32)) Ln ∧ ∀ g_785 : Int32, g_785 = xs (Int32.toNatClampNeg (a4 + (2 : Int32))) →
                (wp_X9_cut_0 (fun r_786 S_786 G_786 =>
                  (wp_X9_thrown_0 (fun r_792 S_792 G_792 =>
                    ((r_792 = r_768 →
                      ((¬ r_768 = 0 →
                        (wp_law_1406 dA zz x0 ou Ln xs k23_ S_792 G_792 L_768 f_768 k a4))
                       ∧ (r_768 = 0 →
                        (aJ L_768 f_768 (dA 2) ou (0 : Int32) (fun g_809 =>
                          (((lg_cmp g_809 (Int32.toInt64 r_786)) = 0 →
                            (wp_law_1406 dA zz x0 ou Ln xs k23_ S_792 G_792 L_768 f_768 k a4))
                           ∧ (¬ (lg_cmp g_809 (Int32.toInt64 r_786)) = 0 →
                            (False))))))))
                     ∧ (¬ r_792 = r_768 →
                      (False)))) S_786 G_786 )) S G g_779 g_785)))) L f x0 g_760 g_766 ou))))
def wp_law_822 (dA : Nat → ClassId) (zz : Nat → Nat) (x0 ou Ln : Nat) (xs : Nat → Int32) (k23_ : mS → mG → List Nat → pF → Nat → Int32 → Prop) (S : mS) (G : mG) (L : List Nat) (f : pF) (k : Nat) (a4 : Int32) : Prop :=
    (k ≤ 512 ∧
      (vp_in (a4 + (1 : Int32)) Ln ∧ ∀ g_828 : Int32, g_828 = xs (Int32.toNatClampNeg (a4 + (1 : Int32))) →
        (vp_in (a4 + (2 : Int32)) Ln ∧ ∀ g_834 : Int32, g_834 = xs (Int32.toNatClampNeg (a4 + (2 : Int32))) →
          (wp_L_byteAt_0 dA zz (fun r_836 L_836 f_836 =>
            (vp_in (a4 + (1 : Int32)) Ln ∧ ∀ g_847 : Int32, g_847 = xs (Int32.toNatClampNeg (a4 + (1 : Int32))) →
              (vp_in (a4 + (2 : Int32)) Ln ∧ ∀ g_853 : Int32, g_853 = xs (Int32.toNatClampNeg (a4 + (2 : Int32))) →
                (wp_X9_byteAt_0 (fun r_854 S_854 G_854 =>
                  (wp_X9_thrown_0 (fun r_860 S_860 G_860 =>
                    ((r_860 = r_836 →
                      ((¬ r_836 = 0 →
                        (wp_law_1406 dA zz x0 ou Ln xs k23_ S_860 G_860 L_836 f_836 k a4))
                       ∧ (r_836 = 0 →
                        (aJ L_836 f_836 (dA 2) ou (0 : Int32) (fun g_877 =>
                          (((lg_cmp g_877 (Int32.toInt64 r_854)) = 0 →
                            (wp_law_1406 dA zz x0 ou Ln xs k23_ S_860 G_860 L_836 f_836 k a4))
                           ∧ (¬ (lg_cmp g_877 (Int32.toInt64 r_854)) = 0 →
                            (False))))))))
                     ∧ (¬ r_860 = r_836 →
                      (False)))) S_854 G_854 )) S G g_847 g_853)))) L f x0 g_828 g_834 ou))))
def wp_law_890 (dA : Nat → ClassId) (zz : Nat → Nat) (x0 ou Ln : Nat) (xs : Nat → Int32) (k23_ : mS → mG → List Nat → pF → Nat → Int32 → Prop) (S : mS) (G : mG) (L : List Nat) (f : pF) (k : Nat) (a4 : Int32) : Prop :=
    (k ≤ 512 ∧
      (vp_in (a4 + (1 : Int32)) Ln ∧ ∀ g_896 : Int32, g_896 = xs (Int32.toNatClampNeg (a4 + (1 : Int32))) →
        (wp_L_uses_0 dA zz (fun r_898 L_898 f_898 =>
          (vp_in (a4 + (1 : Int32)) Ln ∧ ∀ g_909 : Int32, g_909 = xs (Int32.toNatClampNeg (a4 + (1 : Int32))) →
            (wp_X9_uses_0 (fun r_910 S_910 G_910 =>
              (wp_X9_thrown_0 (fun r_916 S_916 G_916 =>
                ((r_916 = r_898 →
                  ((¬ r_898 = 0 →
                    (wp_law_1406 dA zz x0 ou Ln xs k23_ S_916 G_916 L_898 f_898 k a4))
                   ∧ (r_898 = 0 →
                    (aJ L_898 f_898 (dA 2) ou (0 : Int32) (fun g_933 =>
                      (((lg_cmp g_933 (Int32.toInt64 r_910)) = 0 →
                        (wp_law_1406 dA zz x0 ou Ln xs k23_ S_916 G_916 L_898 f_898 k a4))
                       ∧ (¬ (lg_cmp g_933 (Int32.toInt64 r_910)) = 0 →
                        (False))))))))
                 ∧ (¬ r_916 = r_898 →
                  (False)))) S_910 G_910 )) S G g_909))) L f x0 g_896 ou)))
def wp_law_946 (dA : Nat → ClassId) (zz : Nat → Nat) (x0 ou Ln : Nat) (xs : Nat → Int32) (k23_ : mS → mG → List Nat → pF → Nat → Int32 → Prop) (S : mS) (G : mG) (L : List Nat) (f : pF) (k : Nat) (a4 : Int32) : Prop :=
    (k ≤ 512 ∧
      (vp_in (a4 + (1 : Int32)) Ln ∧ ∀ g_952 : Int32, g_952 = xs (Int32.toNatClampNeg (a4 + (1 : Int32))) →
        (vp_in (a4 + (2 : Int32)) Ln ∧ ∀ g_958 : Int32, g_958 = xs (Int32.toNatClampNeg (a4 + (2 : Int32))) →
          (vp_in (a4 + (3 : Int32)) Ln ∧ ∀ g_964 : Int32, g_964 = xs (Int32.toNatClampNeg (a4 + (3 : Int32))) →
            (wp_L_use_0 dA zz (fun r_966 L_966 f_966 =>
              (vp_in (a4 + (1 : Int32)) Ln ∧ ∀ g_977 : Int32, g_977 = xs (Int32.toNatClampNeg (a4 + (1 : Int32))) →
                (vp_in (a4 + (2 : Int32)) Ln ∧ ∀ g_983 : Int32, g_983 = xs (Int32.toNatClampNeg (a4 + (2 : Int32))) →
                  (vp_in (a4 + (3 : Int32)) Ln ∧ ∀ g_989 : Int32, g_989 = xs (Int32.toNatClampNeg (a4 + (3 : Int32))) →
                    (wp_X9_use_0 (fun r_990 S_990 G_990 =>
                      (wp_X9_thrown_0 (fun r_996 S_996 G_996 =>
                        ((r_996 = r_966 →
                          ((¬ r_966 = 0 →
                            (wp_law_1406 dA zz x0 ou Ln xs k23_ S_996 G_996 L_966 f_966 k a4))
                           ∧ (r_966 = 0 →
                            (aJ L_966 f_966 (dA 2) ou (0 : Int32) (fun g_1013 =>
                              (((lg_cmp g_1013 (Int32.toInt64 r_990)) = 0 →
                                (wp_law_1406 dA zz x0 ou Ln xs k23_ S_996 G_996 L_966 f_966 k a4))
                               ∧ (¬ (lg_cmp g_1013 (Int32.toInt64 r_990)) = 0 →
                                (False))))))))
                         ∧ (¬ r_996 = r_966 →
                          (False)))) S_990 G_990 )) S G g_977 g_983 g_989))))) L f x0 g_952 g_958 g_964 ou)))))
def wp_law_1026 (dA : Nat → ClassId) (zz : Nat → Nat) (x0 ou Ln : Nat) (xs : Nat → Int32) (k23_ : mS → mG → List Nat → pF → Nat → Int32 → Prop) (S : mS) (G : mG) (L : List Nat) (f : pF) (k : Nat) (a4 : Int32) : Prop :=
    (k ≤ 512 ∧
      (vp_in (a4 + (1 : Int32)) Ln ∧ ∀ g_1032 : Int32, g_1032 = xs (Int32.toNatClampNeg (a4 + (1 : Int32))) →
        (vp_in (a4 + (2 : Int32)) Ln ∧ ∀ g_1038 : Int32, g_1038 = xs (Int32.toNatClampNeg (a4 + (2 : Int32))) →
          (wp_L_mend_0 dA zz (fun r_1040 L_1040 f_1040 =>
            (vp_in (a4 + (1 : Int32)) Ln ∧ ∀ g_1051 : Int32, g_1051 = xs (Int32.toNatClampNeg (a4 + (1 : Int32))) →
              (vp_in (a4 + (2 : Int32)) Ln ∧ ∀ g_1057 : Int32, g_1057 = xs (Int32.toNatClampNeg (a4 + (2 : Int32))) →
                (wp_X9_mend_0 (fun r_1058 S_1058 G_1058 =>
                  (wp_X9_thrown_0 (fun r_1064 S_1064 G_1064 =>
                    ((r_1064 = r_1040 →
                      ((¬ r_1040 = 0 →
                        (wp_law_1406 dA zz x0 ou Ln xs k23_ S_1064 G_1064 L_1040 f_1040 k a4))
                       ∧ (r_1040 = 0 →
                        (aJ L_1040 f_1040 (dA 2) ou (0 : Int32) (fun g_1081 =>
                          ((r_1058 = 0 →
                            (((lg_cmp g_1081 (0 : Int64)) = 0 →
                              (wp_law_1406 dA zz x0 ou Ln xs k23_ S_1064 G_1064 L_1040 f_1040 k a4))
                             ∧ (¬ (lg_cmp g_1081 (0 : Int64)) = 0 →
                              (False))))
                           ∧ (¬ r_1058 = 0 →
                            (((lg_cmp g_1081 (1 : Int64)) = 0 →
                              (wp_law_1406 dA zz x0 ou Ln xs k23_ S_1064 G_1064 L_1040 f_1040 k a4))
                             ∧ (¬ (lg_cmp g_1081 (1 : Int64)) = 0 →
                              (False))))))))))
                     ∧ (¬ r_1064 = r_1040 →
                      (False)))) S_1058 G_1058 )) S G g_1051 g_1057)))) L f x0 g_1032 g_1038 ou))))
def wp_law_1101 (dA : Nat → ClassId) (zz : Nat → Nat) (x0 ou Ln : Nat) (xs : Nat → Int32) (k23_ : mS → mG → List Nat → pF → Nat → Int32 → Prop) (S : mS) (G : mG) (L : List Nat) (f : pF) (k : Nat) (a4 : Int32) : Prop :=
    (k ≤ 512 ∧
      (vp_in (a4 + (1 : Int32)) Ln ∧ ∀ g_1107 : Int32, g_1107 = xs (Int32.toNatClampNeg (a4 + (1 : Int32))) →
        (wp_L_mendAll_0 dA zz (fun r_1109 L_1109 f_1109 =>
          (vp_in (a4 + (1 : Int32)) Ln ∧ ∀ g_1120 : Int32, g_1120 = xs (Int32.toNatClampNeg (a4 + (1 : Int32))) →
            (wp_X9_mendAll_0 (fun r_1121 S_1121 G_1121 =>
              (wp_X9_thrown_0 (fun r_1127 S_1127 G_1127 =>
                ((r_1127 = r_1109 →
                  ((¬ r_1109 = 0 →
                    (wp_law_1406 dA zz x0 ou Ln xs k23_ S_1127 G_1127 L_1109 f_1109 k a4))
                   ∧ (r_1109 = 0 →
                    (aJ L_1109 f_1109 (dA 2) ou (0 : Int32) (fun g_1144 =>
                      (((lg_cmp g_1144 (Int32.toInt64 r_1121)) = 0 →
                        (wp_law_1406 dA zz x0 ou Ln xs k23_ S_1127 G_1127 L_1109 f_1109 k a4))
                       ∧ (¬ (lg_cmp g_1144 (Int32.toInt64 r_1121)) = 0 →
                        (False))))))))
                 ∧ (¬ r_1127 = r_1109 →
                  (False)))) S_1121 G_1121 )) S G g_1120))) L f x0 g_1107 ou)))
def wp_law_1157 (dA : Nat → ClassId) (zz : Nat → Nat) (x0 ou Ln : Nat) (xs : Nat → Int32) (k23_ : mS → mG → List Nat → pF → Nat → Int32 → Prop) (S : mS) (G : mG) (L : List Nat) (f : pF) (k : Nat) (a4 : Int32) : Prop :=
    (k ≤ 512 ∧
      (vp_in (a4 + (1 : Int32)) Ln ∧ ∀ g_1163 : Int32, g_1163 = xs (Int32.toNatClampNeg (a4 + (1 : Int32))) →
        (wp_L_count_0 dA zz (fun r_1165 L_1165 f_1165 =>
          (vp_in (a4 + (1 : Int32)) Ln ∧ ∀ g_1176 : Int32, g_1176 = xs (Int32.toNatClampNeg (a4 + (1 : Int32))) →
            (wp_X9_count_0 (fun r_1177 S_1177 G_1177 =>
              (wp_X9_thrown_0 (fun r_1183 S_1183 G_1183 =>
                ((r_1183 = r_1165 →
                  ((¬ r_1165 = 0 →
                    (wp_law_1406 dA zz x0 ou Ln xs k23_ S_1183 G_1183 L_1165 f_1165 k a4))
                   ∧ (r_1165 = 0 →
                    (aJ L_1165 f_1165 (dA 2) ou (0 : Int32) (fun g_1200 =>
                      (((lg_cmp g_1200 (Int32.toInt64 r_1177)) = 0 →
                        (wp_law_1406 dA zz x0 ou Ln xs k23_ S_1183 G_1183 L_1165 f_1165 k a4))
                       ∧ (¬ (lg_cmp g_1200 (Int32.toInt64 r_1177)) = 0 →
                        (False))))))))
                 ∧ (¬ r_1183 = r_1165 →
                  (False)))) S_1177 G_1177 )) S G g_1176))) L f x0 g_1163 ou)))
def wp_law_1213 (dA : Nat → ClassId) (zz : Nat → Nat) (x0 ou Ln : Nat) (xs : Nat → Int32) (k23_ : mS → mG → List Nat → pF → Nat → Int32 → Prop) (S : mS) (G : mG) (L : List Nat) (f : pF) (k : Nat) (a4 : Int32) : Prop :=
    (k ≤ 512 ∧
      (vp_in (a4 + (1 : Int32)) Ln ∧ ∀ g_1219 : Int32, g_1219 = xs (Int32.toNatClampNeg (a4 + (1 : Int32))) →
        (wp_L_ring_0 dA zz (fun r_1221 L_1221 f_1221 =>
          (vp_in (a4 + (1 : Int32)) Ln ∧ ∀ g_1232 : Int32, g_1232 = xs (Int32.toNatClampNeg (a4 + (1 : Int32))) →
            (wp_X9_ring_0 (fun r_1233 S_1233 G_1233 =>
              (wp_X9_thrown_0 (fun r_1239 S_1239 G_1239 =>
                ((r_1239 = r_1221 →
                  ((¬ r_1221 = 0 →
                    (wp_law_1406 dA zz x0 ou Ln xs k23_ S_1239 G_1239 L_1221 f_1221 k a4))
                   ∧ (r_1221 = 0 →
                    (aJ L_1221 f_1221 (dA 2) ou (0 : Int32) (fun g_1256 =>
                      (((lg_cmp g_1256 (Int32.toInt64 r_1233)) = 0 →
                        (wp_law_1406 dA zz x0 ou Ln xs k23_ S_1239 G_1239 L_1221 f_1221 k a4))
                       ∧ (¬ (lg_cmp g_1256 (Int32.toInt64 r_1233)) = 0 →
                        (False))))))))
                 ∧ (¬ r_1239 = r_1221 →
                  (False)))) S_1233 G_1233 )) S G g_1232))) L f x0 g_1219 ou)))
def wp_law_1269 (dA : Nat → ClassId) (zz : Nat → Nat) (x0 ou Ln : Nat) (xs : Nat → Int32) (k23_ : mS → mG → List Nat → pF → Nat → Int32 → Prop) (S : mS) (G : mG) (L : List Nat) (f : pF) (k : Nat) (a4 : Int32) : Prop :=
    (k ≤ 512 ∧
      (isO L f 9 x0 ∧
        (wp_X8_fewest_0 dA zz (fun r_1270 L_1270 f_1270 =>
          (wp_X9_fewest_0 (fun r_1274 S_1274 G_1274 =>
            (((lg_cmp r_1270 r_1274) = 0 →
              (wp_law_1406 dA zz x0 ou Ln xs k23_ S_1274 G_1274 L_1270 f_1270 k a4))
             ∧ (¬ (lg_cmp r_1270 r_1274) = 0 →
              (False)))) S G )) L f x0 )))
def wp_law_1283 (dA : Nat → ClassId) (zz : Nat → Nat) (x0 ou Ln : Nat) (xs : Nat → Int32) (k23_ : mS → mG → List Nat → pF → Nat → Int32 → Prop) (S : mS) (G : mG) (L : List Nat) (f : pF) (k : Nat) (a4 : Int32) : Prop :=
    (k ≤ 512 ∧
      (vp_in (a4 + (1 : Int32)) Ln ∧ ∀ g_1289 : Int32, g_1289 = xs (Int32.toNatClampNeg (a4 + (1 : Int32))) →
        (vp_in (a4 + (2 : Int32)) Ln ∧ ∀ g_1295 : Int32, g_1295 = xs (Int32.toNatClampNeg (a4 + (2 : Int32))) →
          (wp_L_crossing_0 dA zz (fun r_1297 L_1297 f_1297 =>
            (vp_in (a4 + (1 : Int32)) Ln ∧ ∀ g_1308 : Int32, g_1308 = xs (Int32.toNatClampNeg (a4 + (1 : Int32))) →
              (vp_in (a4 + (2 : Int32)) Ln ∧ ∀ g_1314 : Int32, g_1314 = xs (Int32.toNatClampNeg (a4 + (2 : Int32))) →
                (wp_X9_crossing_0 (fun r_1315 S_1315 G_1315 =>
                  (wp_X9_thrown_0 (fun r_1321 S_1321 G_1321 =>
                    ((r_1321 = r_1297 →
                      ((¬ r_1297 = 0 →
                        (wp_law_1406 dA zz x0 ou Ln xs k23_ S_1321 G_1321 L_1297 f_1297 k a4))
                       ∧ (r_1297 = 0 →
                        (aJ L_1297 f_1297 (dA 2) ou (0 : Int32) (fun g_1338 =>
                          (((lg_cmp g_1338 r_1315) = 0 →
                            (wp_law_1406 dA zz x0 ou Ln xs k23_ S_1321 G_1321 L_1297 f_1297 k a4))
                           ∧ (¬ (lg_cmp g_1338 r_1315) = 0 →
                            (False))))))))
                     ∧ (¬ r_1321 = r_1297 →
                      (False)))) S_1315 G_1315 )) S G g_1308 g_1314)))) L f x0 g_1289 g_1295 ou))))
def wp_law_1350 (dA : Nat → ClassId) (zz : Nat → Nat) (x0 ou Ln : Nat) (xs : Nat → Int32) (k23_ : mS → mG → List Nat → pF → Nat → Int32 → Prop) (S : mS) (G : mG) (L : List Nat) (f : pF) (k : Nat) (a4 : Int32) : Prop :=
    (k ≤ 512 ∧
      (vp_in (a4 + (1 : Int32)) Ln ∧ ∀ g_1356 : Int32, g_1356 = xs (Int32.toNatClampNeg (a4 + (1 : Int32))) →
        (wp_L_total_0 dA zz (fun r_1358 L_1358 f_1358 =>
          (vp_in (a4 + (1 : Int32)) Ln ∧ ∀ g_1369 : Int32, g_1369 = xs (Int32.toNatClampNeg (a4 + (1 : Int32))) →
            (wp_X9_total_0 (fun r_1370 S_1370 G_1370 =>
              (wp_X9_thrown_0 (fun r_1376 S_1376 G_1376 =>
                ((r_1376 = r_1358 →
                  ((¬ r_1358 = 0 →
                    (wp_law_1406 dA zz x0 ou Ln xs k23_ S_1376 G_1376 L_1358 f_1358 k a4))
                   ∧ (r_1358 = 0 →
                    (aJ L_1358 f_1358 (dA 2) ou (0 : Int32) (fun g_1393 =>
                      (((lg_cmp g_1393 (Int32.toInt64 r_1370)) = 0 →
                        (wp_law_1406 dA zz x0 ou Ln xs k23_ S_1376 G_1376 L_1358 f_1358 k a4))
                       ∧ (¬ (lg_cmp g_1393 (Int32.toInt64 r_1370)) = 0 →
                        (False))))))))
                 ∧ (¬ r_1376 = r_1358 →
                  (False)))) S_1370 G_1370 )) S G g_1369))) L f x0 g_1356 ou)))
def wp_law_1412 (dA : Nat → ClassId) (zz : Nat → Nat) (x0 ou Ln : Nat) (xs : Nat → Int32) (S : mS) (G : mG) (L : List Nat) (f : pF) (k : Nat) : Prop :=
    (k ≤ 512 ∧
      (True))
def wp_law_23 (dA : Nat → ClassId) (zz : Nat → Nat) (x0 ou Ln : Nat) (xs : Nat → Int32) : Nat → mS → mG → List Nat → pF → Nat → Int32 → Prop
  | 0, _, _, _, _, _, _ => False
  | n + 1, S, G, L, f, k, a4 =>
    (k ≤ 512 ∧
      ((((Int32.ofNat Ln) - (7 : Int32)) < a4 →
        (wp_law_1412 dA zz x0 ou Ln xs  S G L f k ))
       ∧ (¬ ((Int32.ofNat Ln) - (7 : Int32)) < a4 →
        (vp_in a4 Ln ∧ ∀ g_36 : Int32, g_36 = xs (Int32.toNatClampNeg a4) →
          (
           ((g_36 &&& (31 : Int32)) = 0 →
            (wp_law_136 dA zz x0 ou Ln xs (wp_law_23 dA zz x0 ou Ln xs n) S G L f k a4)) ∧
           ((g_36 &&& (31 : Int32)) = 1 →
            (wp_law_161 dA zz x0 ou Ln xs (wp_law_23 dA zz x0 ou Ln xs n) S G L f k a4)) ∧
           ((g_36 &&& (31 : Int32)) = 2 →
            (wp_law_174 dA zz x0 ou Ln xs (wp_law_23 dA zz x0 ou Ln xs n) S G L f k a4)) ∧
           ((g_36 &&& (31 : Int32)) = 3 →
            (wp_law_254 dA zz x0 ou Ln xs (wp_law_23 dA zz x0 ou Ln xs n) S G L f k a4)) ∧
           ((g_36 &&& (31 : Int32)) = 4 →
            (wp_law_310 dA zz x0 ou Ln xs (wp_law_23 dA zz x0 ou Ln xs n) S G L f k a4)) ∧
           ((g_36 &&& (31 : Int32)) = 5 →
            (wp_law_409 dA zz x0 ou Ln xs (wp_law_23 dA zz x0 ou Ln xs n) S G L f k a4)) ∧
           ((g_36 &&& (31 : Int32)) = 6 →
            (wp_law_500 dA zz x0 ou Ln xs (wp_law_23 dA zz x0 ou Ln xs n) S G L f k a4)) ∧
           ((g_36 &&& (31 : Int32)) = 7 →
            (wp_law_568 dA zz x0 ou Ln xs (wp_law_23 dA zz x0 ou Ln xs n) S G L f k a4)) ∧
           ((g_36 &&& (31 : Int32)) = 8 →
            (wp_law_636 dA zz x0 ou Ln xs (wp_law_23 dA zz x0 ou Ln xs n) S G L f k a4)) ∧
           ((g_36 &&& (31 : Int32)) = 9 →
            (wp_law_754 dA zz x0 ou Ln xs (wp_law_23 dA zz x0 ou Ln xs n) S G L f k a4)) ∧
           ((g_36 &&& (31 : Int32)) = 10 →
            (wp_law_822 dA zz x0 ou Ln xs (wp_law_23 dA zz x0 ou Ln xs n) S G L f k a4)) ∧
           ((g_36 &&& (31 : Int32)) = 11 →
            (wp_law_890 dA zz x0 ou Ln xs (wp_law_23 dA zz x0 ou Ln xs n) S G L f k a4)) ∧
           ((g_36 &&& (31 : Int32)) = 12 →
            (wp_law_946 dA zz x0 ou Ln xs (wp_law_23 dA zz x0 ou Ln xs n) S G L f k a4)) ∧
           ((g_36 &&& (31 : Int32)) = 13 →
            (wp_law_1026 dA zz x0 ou Ln xs (wp_law_23 dA zz x0 ou Ln xs n) S G L f k a4)) ∧
           ((g_36 &&& (31 : Int32)) = 14 →
            (wp_law_1101 dA zz x0 ou Ln xs (wp_law_23 dA zz x0 ou Ln xs n) S G L f k a4)) ∧
           ((g_36 &&& (31 : Int32)) = 15 →
            (wp_law_1157 dA zz x0 ou Ln xs (wp_law_23 dA zz x0 ou Ln xs n) S G L f k a4)) ∧
           ((g_36 &&& (31 : Int32)) = 16 →
            (wp_law_1213 dA zz x0 ou Ln xs (wp_law_23 dA zz x0 ou Ln xs n) S G L f k a4)) ∧
           ((g_36 &&& (31 : Int32)) = 17 →
            (wp_law_1269 dA zz x0 ou Ln xs (wp_law_23 dA zz x0 ou Ln xs n) S G L f k a4)) ∧
           ((g_36 &&& (31 : Int32)) = 18 →
            (wp_law_1283 dA zz x0 ou Ln xs (wp_law_23 dA zz x0 ou Ln xs n) S G L f k a4)) ∧
           ((g_36 &&& (31 : Int32)) = 19 →
            (wp_law_1350 dA zz x0 ou Ln xs (wp_law_23 dA zz x0 ou Ln xs n) S G L f k a4)) ∧
           (¬ (g_36 &&& (31 : Int32)) = 0 → ¬ (g_36 &&& (31 : Int32)) = 1 → ¬ (g_36 &&& (31 : Int32)) = 2 → ¬ (g_36 &&& (31 : Int32)) = 3 → ¬ (g_36 &&& (31 : Int32)) = 4 → ¬ (g_36 &&& (31 : Int32)) = 5 → ¬ (g_36 &&& (31 : Int32)) = 6 → ¬ (g_36 &&& (31 : Int32)) = 7 → ¬ (g_36 &&& (31 : Int32)) = 8 → ¬ (g_36 &&& (31 : Int32)) = 9 → ¬ (g_36 &&& (31 : Int32)) = 10 → ¬ (g_36 &&& (31 : Int32)) = 11 → ¬ (g_36 &&& (31 : Int32)) = 12 → ¬ (g_36 &&& (31 : Int32)) = 13 → ¬ (g_36 &&& (31 : Int32)) = 14 → ¬ (g_36 &&& (31 : Int32)) = 15 → ¬ (g_36 &&& (31 : Int32)) = 16 → ¬ (g_36 &&& (31 : Int32)) = 17 → ¬ (g_36 &&& (31 : Int32)) = 18 → ¬ (g_36 &&& (31 : Int32)) = 19 →
            (wp_law_1406 dA zz x0 ou Ln xs (wp_law_23 dA zz x0 ou Ln xs n) S G L f k a4)))))))
set_option maxHeartbeats 4000000 in
set_option maxRecDepth 100000 in
theorem tb_law_1406 {p : Program} {l : Launch} {e : Env} {s : State} {m : MethodId} {below : List Frame} {meth : Method} {c : Code} {dC : Nat → ClassId} {dI : Nat → Nat → Nat} {dA : Nat → ClassId} {zz : Nat → Nat} {o : Nat} {ad : Nat → Nat} {b x0 ou Ln : Nat} {xs : Nat → Int32} (C : lCx p l s m meth c dC dI dA zz b Ln xs) {k23_ : mS → mG → List Nat → pF → Nat → Int32 → Prop} (h23_ : ∀ (S : mS) (G : mG) (L : List Nat) (f : pF) (k : Nat) (a4 : Int32), k23_ S G L f k a4 → lAt p l e s m below meth c dC dI dA o ad b (100 + 16 * k) (26000 + 2048 * k) 23 [(0, .ref b), (1, .ref x0), (2, .ref o), (3, .ref ou), (4, .int a4)] [] S G L f) : ∀ (S : mS) (G : mG) (L : List Nat) (f : pF) (k : Nat) (a4 : Int32), wp_law_1406 dA zz x0 ou Ln xs k23_ S G L f k a4 → lAt p l e s m below meth c dC dI dA o ad b (100 + 16 * k + 16) (26000 + 2048 * k + 2048) 1406 [(0, .ref b), (1, .ref x0), (2, .ref o), (3, .ref ou), (4, .int a4)] [] S G L f := by
  obtain ⟨hx, hb, hml, hown, hts, hr, hlocks, hA, hK, hB, hz, hN, hT, hlt, hX, hbl, hbA⟩ := lCx_use C
  intro S G L f k a4 hw H locs hP hD hS ls hl
  rw [wp_law_1406] at hw
  obtain ⟨hk9, hw⟩ := hw
  obtain ⟨v4_1406, ev4_1406⟩ : ∃ y : Int32, y = a4 + (7 : Int32) := ⟨_, rfl⟩
  have hw := hw v4_1406 ev4_1406
  refine lv_iinc (v := v4_1406) (lv' := [(4, .int v4_1406), (0, .ref b), (1, .ref x0), (2, .ref o), (3, .ref ou)]) hx hb dL_law_1406 hl (k := 4) rfl (by rw [ev4_1406]; rfl) (by decide) rfl (fun ls hl => ?_)
  refine lv_goto (tgt := 23) hx hb dL_law_1409 (by decide) ?_
  refine W.widen (k := 100 + 16 * (k + 1)) (n := 26000 + 2048 * (k + 1)) (by omega) (by omega) ?_
  exact h23_ S G L f (k + 1) v4_1406 hw H locs hP hD hS ls (lv_sub hl [1, 2, 3, 4, 0] rfl)
set_option maxHeartbeats 4000000 in
set_option maxRecDepth 100000 in
theorem tb_law_136 {p : Program} {l : Launch} {e : Env} {s : State} {m : MethodId} {below : List Frame} {meth : Method} {c : Code} {dC : Nat → ClassId} {dI : Nat → Nat → Nat} {dA : Nat → ClassId} {zz : Nat → Nat} {o : Nat} {ad : Nat → Nat} {b x0 ou Ln : Nat} {xs : Nat → Int32} (C : lCx p l s m meth c dC dI dA zz b Ln xs) {k23_ : mS → mG → List Nat → pF → Nat → Int32 → Prop} (h23_ : ∀ (S : mS) (G : mG) (L : List Nat) (f : pF) (k : Nat) (a4 : Int32), k23_ S G L f k a4 → lAt p l e s m below meth c dC dI dA o ad b (100 + 16 * k) (26000 + 2048 * k) 23 [(0, .ref b), (1, .ref x0), (2, .ref o), (3, .ref ou), (4, .int a4)] [] S G L f) : ∀ (S : mS) (G : mG) (L : List Nat) (f : pF) (k : Nat) (a4 : Int32), wp_law_136 dA zz x0 ou Ln xs k23_ S G L f k a4 → lAt p l e s m below meth c dC dI dA o ad b (100 + 16 * k + 0) (26000 + 2048 * k + 0) 136 [(0, .ref b), (1, .ref x0), (2, .ref o), (3, .ref ou), (4, .int a4)] [] S G L f := by
  obtain ⟨hx, hb, hml, hown, hts, hr, hlocks, hA, hK, hB, hz, hN, hT, hlt, hX, hbl, hbA⟩ := lCx_use C
  intro S G L f k a4 hw H locs hP hD hS ls hl
  rw [wp_law_136] at hw
  obtain ⟨hk9, hw⟩ := hw
  refine lv_aload_n hx hb dL_law_136 rfl (lv_at hl 1 rfl) ?_
  refine lv_aload_n hx hb dL_law_137 rfl (lv_at hl 0 rfl) ?_
  refine lv_iload hx hb dL_law_138 (lv_at hl 4 rfl) ?_
  refine lv_iconst (v := 1) hx hb dL_law_140 (by decide) ?_
  refine lv_iadd hx hb dL_law_141 ?_
  refine va_sld hx hb hX hbl hbA hS hw.1 dL_law_142 ?_
  refine lv_topi (fun g_142 eg_142 => ?_)
  have hw := hw.2 g_142 eg_142
  obtain ⟨hO9, hw⟩ := hw
  have hFc := p_free (lPoolD hD) hS hA
  refine va_calli (va_runV (As := [.int g_142]) (rest := []) ⟨hx, hb, hml, hown, hts⟩ (c_X8_letter l dC dI dA zz s.heap.size L f H.size x0 g_142 _ hw) (cwV 1 hts gL_law_X8_letter rfl rfl rfl (by decide +kernel) ⟨by decide, by decide⟩) (pPreV [.int g_142] (ci := 9) rfl hO9 hK (lPool hP) (lPoolD hD) hS hB hz hN hT) rfl rfl hl.1 rfl (lv_room (Nat.le_of_ble_eq_true rfl)) dL_law_143 ⟨by show _ ≤ 601024; omega, by show _ ≤ 7293034; omega⟩) hS (fun q _ h => hFc q h) hFc (fun r_143 u t H1 locs ht hvm hw hB1 hz1 hk1 hS => ?_)
  obtain ⟨L_143, f_143⟩ := u
  obtain ⟨hP1, -, hD1⟩ := hB1
  rw [ht] at hP1
  have hw := id hw
  obtain ⟨hP, hD⟩ := lJoinP hP hD hk1 hFc hP1 hD1
  generalize H1 = H at hP hS ⊢
  refine W.widen (k := 100 + 16 * k + 0) (n := 26000 + 2048 * k + 0) (by omega) (by omega) ?_
  refine lv_aload_n hx hb dL_law_146 rfl (lv_at hl 2 rfl) ?_
  refine lv_aload_n hx hb dL_law_147 rfl (lv_at hl 0 rfl) ?_
  refine lv_iload hx hb dL_law_148 (lv_at hl 4 rfl) ?_
  refine lv_iconst (v := 1) hx hb dL_law_150 (by decide) ?_
  refine lv_iadd hx hb dL_law_151 ?_
  refine va_sld hx hb hX hbl hbA hS hw.1 dL_law_152 ?_
  refine lv_topi (fun g_152 eg_152 => ?_)
  have hw := hw.2 g_152 eg_152
  have hFc := mFree (lModD hD) hS hA
  refine va_calli (va_runV (As := [.int g_152]) (rest := [.int r_143]) ⟨hx, hb, hml, hown, hts⟩ (c_X9_letter l dC dI (dA 1) (dA 2) (dA 5) o ad S G H.size g_152 _ hw) (cwV 1 hts gL_law_X9_letter rfl rfl rfl (by decide +kernel) ⟨by decide, by decide⟩) (mPreV [.int g_152] (lKm hK) (lMod hP) (lModD hD)) rfl rfl hl.1 rfl (lv_room (Nat.le_of_ble_eq_true rfl)) dL_law_153 ⟨by show _ ≤ 601024; omega, by show _ ≤ 7293034; omega⟩) hS (fun q _ h => hFc q h) hFc (fun r_153 u t H1 locs ht hvm hw hB1 hz1 hk1 hS => ?_)
  obtain ⟨S_153, G_153⟩ := u
  obtain ⟨hP1, -, hD1⟩ := hB1
  rw [ht] at hP1
  have hw := id hw
  obtain ⟨hP, hD⟩ := lJoinM hP hD hk1 hFc hP1 hD1
  generalize H1 = H at hP hS ⊢
  refine W.cs (Nat.add_zero _) (Nat.add_zero _) ?_
  refine lv_icmp_eq (tgt := 1406) hx hb dL_law_156 (by decide) (fun c_156 => ?_) (fun c_156 => ?_)
  · have hw := hw.1 c_156
    refine W.widen (k := 100 + 16 * k + 16) (n := 26000 + 2048 * k + 2048) (by omega) (by omega) ?_
    exact tb_law_1406 C h23_ S_153 G_153 L_143 f_143 k a4 hw H locs hP hD hS ls (lv_sub hl [0, 1, 2, 3, 4] rfl)
  · have hw := hw.2 c_156
    refine lv_iconst (v := 0) hx hb dL_law_159 (by decide) ?_
    exact hw.elim
set_option maxHeartbeats 4000000 in
set_option maxRecDepth 100000 in
theorem tb_law_161 {p : Program} {l : Launch} {e : Env} {s : State} {m : MethodId} {below : List Frame} {meth : Method} {c : Code} {dC : Nat → ClassId} {dI : Nat → Nat → Nat} {dA : Nat → ClassId} {zz : Nat → Nat} {o : Nat} {ad : Nat → Nat} {b x0 ou Ln : Nat} {xs : Nat → Int32} (C : lCx p l s m meth c dC dI dA zz b Ln xs) {k23_ : mS → mG → List Nat → pF → Nat → Int32 → Prop} (h23_ : ∀ (S : mS) (G : mG) (L : List Nat) (f : pF) (k : Nat) (a4 : Int32), k23_ S G L f k a4 → lAt p l e s m below meth c dC dI dA o ad b (100 + 16 * k) (26000 + 2048 * k) 23 [(0, .ref b), (1, .ref x0), (2, .ref o), (3, .ref ou), (4, .int a4)] [] S G L f) : ∀ (S : mS) (G : mG) (L : List Nat) (f : pF) (k : Nat) (a4 : Int32), wp_law_161 dA zz x0 ou Ln xs k23_ S G L f k a4 → lAt p l e s m below meth c dC dI dA o ad b (100 + 16 * k + 0) (26000 + 2048 * k + 0) 161 [(0, .ref b), (1, .ref x0), (2, .ref o), (3, .ref ou), (4, .int a4)] [] S G L f := by
  obtain ⟨hx, hb, hml, hown, hts, hr, hlocks, hA, hK, hB, hz, hN, hT, hlt, hX, hbl, hbA⟩ := lCx_use C
  intro S G L f k a4 hw H locs hP hD hS ls hl
  rw [wp_law_161] at hw
  obtain ⟨hk9, hw⟩ := hw
  refine lv_aload_n hx hb dL_law_161 rfl (lv_at hl 1 rfl) ?_
  obtain ⟨hO9, hw⟩ := hw
  have hFc := p_free (lPoolD hD) hS hA
  refine va_calli (va_runV (As := []) (rest := []) ⟨hx, hb, hml, hown, hts⟩ (c_X8_ending l dC dI dA zz s.heap.size L f H.size x0  _ hw) (cwV 0 hts gL_law_X8_ending rfl rfl rfl (by decide +kernel) ⟨by decide, by decide⟩) (pPreV [] (ci := 9) rfl hO9 hK (lPool hP) (lPoolD hD) hS hB hz hN hT) rfl rfl hl.1 rfl (lv_room (Nat.le_of_ble_eq_true rfl)) dL_law_162 ⟨by show _ ≤ 601024; omega, by show _ ≤ 7293034; omega⟩) hS (fun q _ h => hFc q h) hFc (fun r_162 u t H1 locs ht hvm hw hB1 hz1 hk1 hS => ?_)
  obtain ⟨L_162, f_162⟩ := u
  obtain ⟨hP1, -, hD1⟩ := hB1
  rw [ht] at hP1
  have hw := id hw
  obtain ⟨hP, hD⟩ := lJoinP hP hD hk1 hFc hP1 hD1
  generalize H1 = H at hP hS ⊢
  refine W.widen (k := 100 + 16 * k + 3) (n := 26000 + 2048 * k + 1602) (by omega) (by omega) ?_
  refine lv_aload_n hx hb dL_law_165 rfl (lv_at hl 2 rfl) ?_
  have hFc := mFree (lModD hD) hS hA
  refine va_calli (va_runV (As := []) (rest := [.int r_162]) ⟨hx, hb, hml, hown, hts⟩ (c_X9_ending l dC dI (dA 1) (dA 2) (dA 5) o ad S G H.size  _ hw) (cwV 0 hts gL_law_X9_ending rfl rfl rfl (by decide +kernel) ⟨by decide, by decide⟩) (mPreV [] (lKm hK) (lMod hP) (lModD hD)) rfl rfl hl.1 rfl (lv_room (Nat.le_of_ble_eq_true rfl)) dL_law_166 ⟨by show _ ≤ 601024; omega, by show _ ≤ 7293034; omega⟩) hS (fun q _ h => hFc q h) hFc (fun r_166 u t H1 locs ht hvm hw hB1 hz1 hk1 hS => ?_)
  obtain ⟨S_166, G_166⟩ := u
  obtain ⟨hP1, -, hD1⟩ := hB1
  rw [ht] at hP1
  have hw := id hw
  obtain ⟨hP, hD⟩ := lJoinM hP hD hk1 hFc hP1 hD1
  generalize H1 = H at hP hS ⊢
  refine W.cs (Nat.add_zero _) (Nat.add_zero _) ?_
  refine lv_icmp_eq (tgt := 1406) hx hb dL_law_169 (by decide) (fun c_169 => ?_) (fun c_169 => ?_)
  · have hw := hw.1 c_169
    refine W.widen (k := 100 + 16 * k + 16) (n := 26000 + 2048 * k + 2048) (by omega) (by omega) ?_
    exact tb_law_1406 C h23_ S_166 G_166 L_162 f_162 k a4 hw H locs hP hD hS ls (lv_sub hl [0, 1, 2, 3, 4] rfl)
  · have hw := hw.2 c_169
    refine lv_iconst (v := 0) hx hb dL_law_172 (by decide) ?_
    exact hw.elim
set_option maxHeartbeats 4000000 in
set_option maxRecDepth 100000 in
theorem tb_law_174 {p : Program} {l : Launch} {e : Env} {s : State} {m : MethodId} {below : List Frame} {meth : Method} {c : Code} {dC : Nat → ClassId} {dI : Nat → Nat → Nat} {dA : Nat → ClassId} {zz : Nat → Nat} {o : Nat} {ad : Nat → Nat} {b x0 ou Ln : Nat} {xs : Nat → Int32} (C : lCx p l s m meth c dC dI dA zz b Ln xs) {k23_ : mS → mG → List Nat → pF → Nat → Int32 → Prop} (h23_ : ∀ (S : mS) (G : mG) (L : List Nat) (f : pF) (k : Nat) (a4 : Int32), k23_ S G L f k a4 → lAt p l e s m below meth c dC dI dA o ad b (100 + 16 * k) (26000 + 2048 * k) 23 [(0, .ref b), (1, .ref x0), (2, .ref o), (3, .ref ou), (4, .int a4)] [] S G L f) : ∀ (S : mS) (G : mG) (L : List Nat) (f : pF) (k : Nat) (a4 : Int32), wp_law_174 dA zz x0 ou Ln xs k23_ S G L f k a4 → lAt p l e s m below meth c dC dI dA o ad b (100 + 16 * k + 0) (26000 + 2048 * k + 0) 174 [(0, .ref b), (1, .ref x0), (2, .ref o), (3, .ref ou), (4, .int a4)] [] S G L f := by
  obtain ⟨hx, hb, hml, hown, hts, hr, hlocks, hA, hK, hB, hz, hN, hT, hlt, hX, hbl, hbA⟩ := lCx_use C
  intro S G L f k a4 hw H locs hP hD hS ls hl
  rw [wp_law_174] at hw
  obtain ⟨hk9, hw⟩ := hw
  refine lv_aload_n hx hb dL_law_174 rfl (lv_at hl 1 rfl) ?_
  refine lv_aload_n hx hb dL_law_175 rfl (lv_at hl 0 rfl) ?_
  refine lv_iload hx hb dL_law_176 (lv_at hl 4 rfl) ?_
  refine lv_iconst (v := 1) hx hb dL_law_178 (by decide) ?_
  refine lv_iadd hx hb dL_law_179 ?_
  refine va_sld hx hb hX hbl hbA hS hw.1 dL_law_180 ?_
  refine lv_topi (fun g_180 eg_180 => ?_)
  have hw := hw.2 g_180 eg_180
  refine lv_aload_n hx hb dL_law_181 rfl (lv_at hl 0 rfl) ?_
  refine lv_iload hx hb dL_law_182 (lv_at hl 4 rfl) ?_
  refine lv_iconst (v := 2) hx hb dL_law_184 (by decide) ?_
  refine lv_iadd hx hb dL_law_185 ?_
  refine va_sld hx hb hX hbl hbA hS hw.1 dL_law_186 ?_
  refine lv_topi (fun g_186 eg_186 => ?_)
  have hw := hw.2 g_186 eg_186
  refine lv_aload_n hx hb dL_law_187 rfl (lv_at hl 0 rfl) ?_
  refine lv_iload hx hb dL_law_188 (lv_at hl 4 rfl) ?_
  refine lv_iconst (v := 3) hx hb dL_law_190 (by decide) ?_
  refine lv_iadd hx hb dL_law_191 ?_
  refine va_sld hx hb hX hbl hbA hS hw.1 dL_law_192 ?_
  refine lv_topi (fun g_192 eg_192 => ?_)
  have hw := hw.2 g_192 eg_192
  refine lv_aload_n hx hb dL_law_193 rfl (lv_at hl 3 rfl) ?_
  have hFc := p_free (lPoolD hD) hS hA
  refine va_calli (vx_runSW (As := [.ref x0, .int g_180, .int g_186, .int g_192, .ref ou]) (rest := []) ⟨hx, hb, hml, hown, hts⟩ (c_L_term l hlt dC dI dA zz s.heap.size L f H.size x0 g_180 g_186 g_192 ou _ hw) (vx_cwSW 5 hts gL_law_L_term rfl rfl rfl (by decide +kernel) ⟨by decide, by decide⟩) (pPreS [.ref x0, .int g_180, .int g_186, .int g_192, .ref ou] hK (lPool hP) (lPoolD hD) hS hB hz hN hT) rfl rfl hl.1 rfl (lv_room (Nat.le_of_ble_eq_true rfl)) dL_law_194 ⟨by show _ ≤ 601024; omega, by show _ ≤ 7293034; omega⟩) hS (fun q _ h => hFc q h) hFc (fun r_194 u t H1 locs ht hvm hw hB1 hz1 hk1 hS => ?_)
  obtain ⟨L_194, f_194⟩ := u
  obtain ⟨hP1, -, hD1⟩ := hB1
  rw [ht] at hP1
  have hw := id hw
  obtain ⟨hP, hD⟩ := lJoinP hP hD hk1 hFc hP1 hD1
  generalize H1 = H at hP hS ⊢
  refine W.widen (k := 100 + 16 * k + 6) (n := 26000 + 2048 * k + 1619) (by omega) (by omega) ?_
  refine lv_istore (lv' := [(5, .int r_194), (0, .ref b), (1, .ref x0), (2, .ref o), (3, .ref ou), (4, .int a4)]) hx hb dL_law_197 hl (by decide) rfl (fun ls hl => ?_)
  refine lv_aload_n hx hb dL_law_199 rfl (lv_at hl 3 rfl) ?_
  refine lv_aload_n hx hb dL_law_200 rfl (lv_at hl 1 rfl) ?_
  refine lv_iload hx hb dL_law_201 (lv_at hl 5 rfl) ?_
  refine lv_iconst (v := 1) hx hb dL_law_203 (by decide) ?_
  refine lv_iadd hx hb dL_law_204 ?_
  refine va_sld hx hb hX hbl hbA hS hw.1 dL_law_205 ?_
  refine lv_topi (fun g_205 eg_205 => ?_)
  have hw := hw.2 g_205 eg_205
  refine lv_aload_n hx hb dL_law_206 rfl (lv_at hl 1 rfl) ?_
  refine lv_iload hx hb dL_law_207 (lv_at hl 5 rfl) ?_
  refine lv_iconst (v := 2) hx hb dL_law_209 (by decide) ?_
  refine lv_iadd hx hb dL_law_210 ?_
  refine va_sld hx hb hX hbl hbA hS hw.1 dL_law_211 ?_
  refine lv_topi (fun g_211 eg_211 => ?_)
  have hw := hw.2 g_211 eg_211
  refine lv_aload_n hx hb dL_law_212 rfl (lv_at hl 1 rfl) ?_
  refine lv_iload hx hb dL_law_213 (lv_at hl 5 rfl) ?_
  refine lv_iconst (v := 3) hx hb dL_law_215 (by decide) ?_
  refine lv_iadd hx hb dL_law_216 ?_
  refine va_sld hx hb hX hbl hbA hS hw.1 dL_law_217 ?_
  refine lv_topi (fun g_217 eg_217 => ?_)
  have hw := hw.2 g_217 eg_217
  have hFc := mFree (lModD hD) hS hA
  refine va_calli (va_runV (As := [.int g_205, .int g_211, .int g_217]) (rest := []) ⟨hx, hb, hml, hown, hts⟩ (c_X9_term l dC dI (dA 1) (dA 2) (dA 5) o ad S G H.size g_205 g_211 g_217 _ hw) (cwV 3 hts gL_law_X9_term rfl rfl rfl (by decide +kernel) ⟨by decide, by decide⟩) (mPreV [.int g_205, .int g_211, .int g_217] (lKm hK) (lMod hP) (lModD hD)) rfl rfl hl.1 rfl (lv_room (Nat.le_of_ble_eq_true rfl)) dL_law_218 ⟨by show _ ≤ 601024; omega, by show _ ≤ 7293034; omega⟩) hS (fun q _ h => hFc q h) hFc (fun r_218 u t H1 locs ht hvm hw hB1 hz1 hk1 hS => ?_)
  obtain ⟨S_218, G_218⟩ := u
  obtain ⟨hP1, -, hD1⟩ := hB1
  rw [ht] at hP1
  have hw := id hw
  obtain ⟨hP, hD⟩ := lJoinM hP hD hk1 hFc hP1 hD1
  generalize H1 = H at hP hS ⊢
  refine W.cs (Nat.add_zero _) (Nat.add_zero _) ?_
  refine lv_istore (lv' := [(6, .int r_218), (5, .int r_194), (0, .ref b), (1, .ref x0), (2, .ref o), (3, .ref ou), (4, .int a4)]) hx hb dL_law_221 hl (by decide) rfl (fun ls hl => ?_)
  refine lv_aload_n hx hb dL_law_223 rfl (lv_at hl 4 rfl) ?_
  have hFc := mFree (lModD hD) hS hA
  refine va_calli (va_runV (As := []) (rest := []) ⟨hx, hb, hml, hown, hts⟩ (c_X9_thrown l dC dI (dA 1) (dA 2) (dA 5) o ad S_218 G_218 H.size  _ hw) (cwV 0 hts gL_law_X9_thrown rfl rfl rfl (by decide +kernel) ⟨by decide, by decide⟩) (mPreV [] (lKm hK) (lMod hP) (lModD hD)) rfl rfl hl.1 rfl (lv_room (Nat.le_of_ble_eq_true rfl)) dL_law_224 ⟨by show _ ≤ 601024; omega, by show _ ≤ 7293034; omega⟩) hS (fun q _ h => hFc q h) hFc (fun r_224 u t H1 locs ht hvm hw hB1 hz1 hk1 hS => ?_)
  obtain ⟨S_224, G_224⟩ := u
  obtain ⟨hP1, -, hD1⟩ := hB1
  rw [ht] at hP1
  have hw := id hw
  obtain ⟨hP, hD⟩ := lJoinM hP hD hk1 hFc hP1 hD1
  generalize H1 = H at hP hS ⊢
  refine W.cs (Nat.add_zero _) (Nat.add_zero _) ?_
  refine lv_iload hx hb dL_law_227 (lv_at hl 1 rfl) ?_
  refine lv_icmp_eq (tgt := 234) hx hb dL_law_229 (by decide) (fun c_229 => ?_) (fun c_229 => ?_)
  · have hw := hw.1 c_229
    refine lv_iload hx hb dL_law_234 (lv_at hl 1 rfl) ?_
    refine lv_if_ne (tgt := 251) hx hb dL_law_236 (by decide) (fun c_236 => ?_) (fun c_236 => ?_)
    · have hw := hw.1 c_236
      refine lv_goto (tgt := 1406) hx hb dL_law_251 (by decide) ?_
      refine W.widen (k := 100 + 16 * k + 16) (n := 26000 + 2048 * k + 2048) (by omega) (by omega) ?_
      exact tb_law_1406 C h23_ S_224 G_224 L_194 f_194 k a4 hw H locs hP hD hS ls (lv_sub hl [2, 3, 4, 5, 6] rfl)
    · have hw := hw.2 c_236
      refine lv_aload_n hx hb dL_law_239 rfl (lv_at hl 5 rfl) ?_
      refine lv_iconst (v := 0) hx hb dL_law_240 (by decide) ?_
      obtain ⟨n_241, h_241, ⟨hL9, hf9, hn9⟩, hw⟩ := hw
      refine va_lald hx hb hK (p_one (lPool hP) hL9 hf9) 0 2 rfl rfl hn9 dL_law_241 ?_
      refine lv_topl (fun g_241 eg_241 => ?_)
      rw [← eg_241] at hw
      refine lv_iload hx hb dL_law_242 (lv_at hl 0 rfl) ?_
      refine lv_i2l hx hb dL_law_244 rfl ?_
      refine W.lcmp hx hb dL_law_245 ?_
      refine lv_if_eq (tgt := 251) hx hb dL_law_246 (by decide) (fun c_246 => ?_) (fun c_246 => ?_)
      · have hw := hw.1 c_246
        refine lv_goto (tgt := 1406) hx hb dL_law_251 (by decide) ?_
        refine W.widen (k := 100 + 16 * k + 16) (n := 26000 + 2048 * k + 2048) (by omega) (by omega) ?_
        exact tb_law_1406 C h23_ S_224 G_224 L_194 f_194 k a4 hw H locs hP hD hS ls (lv_sub hl [2, 3, 4, 5, 6] rfl)
      · have hw := hw.2 c_246
        refine lv_iconst (v := 0) hx hb dL_law_249 (by decide) ?_
        exact hw.elim
  · have hw := hw.2 c_229
    refine lv_iconst (v := 0) hx hb dL_law_232 (by decide) ?_
    exact hw.elim
set_option maxHeartbeats 4000000 in
set_option maxRecDepth 100000 in
theorem tb_law_254 {p : Program} {l : Launch} {e : Env} {s : State} {m : MethodId} {below : List Frame} {meth : Method} {c : Code} {dC : Nat → ClassId} {dI : Nat → Nat → Nat} {dA : Nat → ClassId} {zz : Nat → Nat} {o : Nat} {ad : Nat → Nat} {b x0 ou Ln : Nat} {xs : Nat → Int32} (C : lCx p l s m meth c dC dI dA zz b Ln xs) {k23_ : mS → mG → List Nat → pF → Nat → Int32 → Prop} (h23_ : ∀ (S : mS) (G : mG) (L : List Nat) (f : pF) (k : Nat) (a4 : Int32), k23_ S G L f k a4 → lAt p l e s m below meth c dC dI dA o ad b (100 + 16 * k) (26000 + 2048 * k) 23 [(0, .ref b), (1, .ref x0), (2, .ref o), (3, .ref ou), (4, .int a4)] [] S G L f) : ∀ (S : mS) (G : mG) (L : List Nat) (f : pF) (k : Nat) (a4 : Int32), wp_law_254 dA zz x0 ou Ln xs k23_ S G L f k a4 → lAt p l e s m below meth c dC dI dA o ad b (100 + 16 * k + 0) (26000 + 2048 * k + 0) 254 [(0, .ref b), (1, .ref x0), (2, .ref o), (3, .ref ou), (4, .int a4)] [] S G L f := by
  obtain ⟨hx, hb, hml, hown, hts, hr, hlocks, hA, hK, hB, hz, hN, hT, hlt, hX, hbl, hbA⟩ := lCx_use C
  intro S G L f k a4 hw H locs hP hD hS ls hl
  rw [wp_law_254] at hw
  obtain ⟨hk9, hw⟩ := hw
  refine lv_aload_n hx hb dL_law_254 rfl (lv_at hl 1 rfl) ?_
  refine lv_aload_n hx hb dL_law_255 rfl (lv_at hl 0 rfl) ?_
  refine lv_iload hx hb dL_law_256 (lv_at hl 4 rfl) ?_
  refine lv_iconst (v := 1) hx hb dL_law_258 (by decide) ?_
  refine lv_iadd hx hb dL_law_259 ?_
  refine va_sld hx hb hX hbl hbA hS hw.1 dL_law_260 ?_
  refine lv_topi (fun g_260 eg_260 => ?_)
  have hw := hw.2 g_260 eg_260
  refine lv_aload_n hx hb dL_law_261 rfl (lv_at hl 3 rfl) ?_
  have hFc := p_free (lPoolD hD) hS hA
  refine va_calli (vx_runSW (As := [.ref x0, .int g_260, .ref ou]) (rest := []) ⟨hx, hb, hml, hown, hts⟩ (c_L_neighbour l hlt dC dI dA zz s.heap.size L f H.size x0 g_260 ou _ hw) (vx_cwSW 3 hts gL_law_L_neighbour rfl rfl rfl (by decide +kernel) ⟨by decide, by decide⟩) (pPreS [.ref x0, .int g_260, .ref ou] hK (lPool hP) (lPoolD hD) hS hB hz hN hT) rfl rfl hl.1 rfl (lv_room (Nat.le_of_ble_eq_true rfl)) dL_law_262 ⟨by show _ ≤ 601024; omega, by show _ ≤ 7293034; omega⟩) hS (fun q _ h => hFc q h) hFc (fun r_262 u t H1 locs ht hvm hw hB1 hz1 hk1 hS => ?_)
  obtain ⟨L_262, f_262⟩ := u
  obtain ⟨hP1, -, hD1⟩ := hB1
  rw [ht] at hP1
  have hw := id hw
  obtain ⟨hP, hD⟩ := lJoinP hP hD hk1 hFc hP1 hD1
  generalize H1 = H at hP hS ⊢
  refine W.widen (k := 100 + 16 * k + 5) (n := 26000 + 2048 * k + 1610) (by omega) (by omega) ?_
  refine lv_istore (lv' := [(5, .int r_262), (0, .ref b), (1, .ref x0), (2, .ref o), (3, .ref ou), (4, .int a4)]) hx hb dL_law_265 hl (by decide) rfl (fun ls hl => ?_)
  refine lv_aload_n hx hb dL_law_267 rfl (lv_at hl 3 rfl) ?_
  refine lv_aload_n hx hb dL_law_268 rfl (lv_at hl 1 rfl) ?_
  refine lv_iload hx hb dL_law_269 (lv_at hl 5 rfl) ?_
  refine lv_iconst (v := 1) hx hb dL_law_271 (by decide) ?_
  refine lv_iadd hx hb dL_law_272 ?_
  refine va_sld hx hb hX hbl hbA hS hw.1 dL_law_273 ?_
  refine lv_topi (fun g_273 eg_273 => ?_)
  have hw := hw.2 g_273 eg_273
  have hFc := mFree (lModD hD) hS hA
  refine va_calli (va_runV (As := [.int g_273]) (rest := []) ⟨hx, hb, hml, hown, hts⟩ (c_X9_neighbour l dC dI (dA 1) (dA 2) (dA 5) o ad S G H.size g_273 _ hw) (cwV 1 hts gL_law_X9_neighbour rfl rfl rfl (by decide +kernel) ⟨by decide, by decide⟩) (mPreV [.int g_273] (lKm hK) (lMod hP) (lModD hD)) rfl rfl hl.1 rfl (lv_room (Nat.le_of_ble_eq_true rfl)) dL_law_274 ⟨by show _ ≤ 601024; omega, by show _ ≤ 7293034; omega⟩) hS (fun q _ h => hFc q h) hFc (fun r_274 u t H1 locs ht hvm hw hB1 hz1 hk1 hS => ?_)
  obtain ⟨S_274, G_274⟩ := u
  obtain ⟨hP1, -, hD1⟩ := hB1
  rw [ht] at hP1
  have hw := id hw
  obtain ⟨hP, hD⟩ := lJoinM hP hD hk1 hFc hP1 hD1
  generalize H1 = H at hP hS ⊢
  refine W.cs (Nat.add_zero _) (Nat.add_zero _) ?_
  refine lv_istore (lv' := [(6, .int r_274), (5, .int r_262), (0, .ref b), (1, .ref x0), (2, .ref o), (3, .ref ou), (4, .int a4)]) hx hb dL_law_277 hl (by decide) rfl (fun ls hl => ?_)
  refine lv_aload_n hx hb dL_law_279 rfl (lv_at hl 4 rfl) ?_
  have hFc := mFree (lModD hD) hS hA
  refine va_calli (va_runV (As := []) (rest := []) ⟨hx, hb, hml, hown, hts⟩ (c_X9_thrown l dC dI (dA 1) (dA 2) (dA 5) o ad S_274 G_274 H.size  _ hw) (cwV 0 hts gL_law_X9_thrown rfl rfl rfl (by decide +kernel) ⟨by decide, by decide⟩) (mPreV [] (lKm hK) (lMod hP) (lModD hD)) rfl rfl hl.1 rfl (lv_room (Nat.le_of_ble_eq_true rfl)) dL_law_280 ⟨by show _ ≤ 601024; omega, by show _ ≤ 7293034; omega⟩) hS (fun q _ h => hFc q h) hFc (fun r_280 u t H1 locs ht hvm hw hB1 hz1 hk1 hS => ?_)
  obtain ⟨S_280, G_280⟩ := u
  obtain ⟨hP1, -, hD1⟩ := hB1
  rw [ht] at hP1
  have hw := id hw
  obtain ⟨hP, hD⟩ := lJoinM hP hD hk1 hFc hP1 hD1
  generalize H1 = H at hP hS ⊢
  refine W.cs (Nat.add_zero _) (Nat.add_zero _) ?_
  refine lv_iload hx hb dL_law_283 (lv_at hl 1 rfl) ?_
  refine lv_icmp_eq (tgt := 290) hx hb dL_law_285 (by decide) (fun c_285 => ?_) (fun c_285 => ?_)
  · have hw := hw.1 c_285
    refine lv_iload hx hb dL_law_290 (lv_at hl 1 rfl) ?_
    refine lv_if_ne (tgt := 307) hx hb dL_law_292 (by decide) (fun c_292 => ?_) (fun c_292 => ?_)
    · have hw := hw.1 c_292
      refine lv_goto (tgt := 1406) hx hb dL_law_307 (by decide) ?_
      refine W.widen (k := 100 + 16 * k + 16) (n := 26000 + 2048 * k + 2048) (by omega) (by omega) ?_
      exact tb_law_1406 C h23_ S_280 G_280 L_262 f_262 k a4 hw H locs hP hD hS ls (lv_sub hl [2, 3, 4, 5, 6] rfl)
    · have hw := hw.2 c_292
      refine lv_aload_n hx hb dL_law_295 rfl (lv_at hl 5 rfl) ?_
      refine lv_iconst (v := 0) hx hb dL_law_296 (by decide) ?_
      obtain ⟨n_297, h_297, ⟨hL9, hf9, hn9⟩, hw⟩ := hw
      refine va_lald hx hb hK (p_one (lPool hP) hL9 hf9) 0 2 rfl rfl hn9 dL_law_297 ?_
      refine lv_topl (fun g_297 eg_297 => ?_)
      rw [← eg_297] at hw
      refine lv_iload hx hb dL_law_298 (lv_at hl 0 rfl) ?_
      refine lv_i2l hx hb dL_law_300 rfl ?_
      refine W.lcmp hx hb dL_law_301 ?_
      refine lv_if_eq (tgt := 307) hx hb dL_law_302 (by decide) (fun c_302 => ?_) (fun c_302 => ?_)
      · have hw := hw.1 c_302
        refine lv_goto (tgt := 1406) hx hb dL_law_307 (by decide) ?_
        refine W.widen (k := 100 + 16 * k + 16) (n := 26000 + 2048 * k + 2048) (by omega) (by omega) ?_
        exact tb_law_1406 C h23_ S_280 G_280 L_262 f_262 k a4 hw H locs hP hD hS ls (lv_sub hl [2, 3, 4, 5, 6] rfl)
      · have hw := hw.2 c_302
        refine lv_iconst (v := 0) hx hb dL_law_305 (by decide) ?_
        exact hw.elim
  · have hw := hw.2 c_285
    refine lv_iconst (v := 0) hx hb dL_law_288 (by decide) ?_
    exact hw.elim
set_option maxHeartbeats 4000000 in
set_option maxRecDepth 100000 in
theorem tb_law_310 {p : Program} {l : Launch} {e : Env} {s : State} {m : MethodId} {below : List Frame} {meth : Method} {c : Code} {dC : Nat → ClassId} {dI : Nat → Nat → Nat} {dA : Nat → ClassId} {zz : Nat → Nat} {o : Nat} {ad : Nat → Nat} {b x0 ou Ln : Nat} {xs : Nat → Int32} (C : lCx p l s m meth c dC dI dA zz b Ln xs) {k23_ : mS → mG → List Nat → pF → Nat → Int32 → Prop} (h23_ : ∀ (S : mS) (G : mG) (L : List Nat) (f : pF) (k : Nat) (a4 : Int32), k23_ S G L f k a4 → lAt p l e s m below meth c dC dI dA o ad b (100 + 16 * k) (26000 + 2048 * k) 23 [(0, .ref b), (1, .ref x0), (2, .ref o), (3, .ref ou), (4, .int a4)] [] S G L f) : ∀ (S : mS) (G : mG) (L : List Nat) (f : pF) (k : Nat) (a4 : Int32), wp_law_310 dA zz x0 ou Ln xs k23_ S G L f k a4 → lAt p l e s m below meth c dC dI dA o ad b (100 + 16 * k + 0) (26000 + 2048 * k + 0) 310 [(0, .ref b), (1, .ref x0), (2, .ref o), (3, .ref ou), (4, .int a4)] [] S G L f := by
  obtain ⟨hx, hb, hml, hown, hts, hr, hlocks, hA, hK, hB, hz, hN, hT, hlt, hX, hbl, hbA⟩ := lCx_use C
  intro S G L f k a4 hw H locs hP hD hS ls hl
  rw [wp_law_310] at hw
  obtain ⟨hk9, hw⟩ := hw
  refine lv_aload_n hx hb dL_law_310 rfl (lv_at hl 1 rfl) ?_
  refine lv_aload_n hx hb dL_law_311 rfl (lv_at hl 0 rfl) ?_
  refine lv_iload hx hb dL_law_312 (lv_at hl 4 rfl) ?_
  refine lv_iconst (v := 1) hx hb dL_law_314 (by decide) ?_
  refine lv_iadd hx hb dL_law_315 ?_
  refine va_sld hx hb hX hbl hbA hS hw.1 dL_law_316 ?_
  refine lv_topi (fun g_316 eg_316 => ?_)
  have hw := hw.2 g_316 eg_316
  refine lv_aload_n hx hb dL_law_317 rfl (lv_at hl 0 rfl) ?_
  refine lv_iload hx hb dL_law_318 (lv_at hl 4 rfl) ?_
  refine lv_iconst (v := 2) hx hb dL_law_320 (by decide) ?_
  refine lv_iadd hx hb dL_law_321 ?_
  refine va_sld hx hb hX hbl hbA hS hw.1 dL_law_322 ?_
  refine lv_topi (fun g_322 eg_322 => ?_)
  have hw := hw.2 g_322 eg_322
  refine lv_i2l hx hb dL_law_323 rfl ?_
  refine lv_bipush (v := 32) hx hb dL_law_324 (by decide) ?_
  refine lv_lshl hx hb dL_law_326 rfl ?_
  refine lv_aload_n hx hb dL_law_327 rfl (lv_at hl 0 rfl) ?_
  refine lv_iload hx hb dL_law_328 (lv_at hl 4 rfl) ?_
  refine lv_iconst (v := 3) hx hb dL_law_330 (by decide) ?_
  refine lv_iadd hx hb dL_law_331 ?_
  refine va_sld hx hb hX hbl hbA hS hw.1 dL_law_332 ?_
  refine lv_topi (fun g_332 eg_332 => ?_)
  have hw := hw.2 g_332 eg_332
  refine lv_i2l hx hb dL_law_333 rfl ?_
  refine lv_ldc2 (v := 4294967295) hx hb hown (hts _ lk_L_law_98) dL_law_334 ?_
  refine lv_land hx hb dL_law_337 ?_
  refine lv_lor hx hb dL_law_338 ?_
  refine lv_aload_n hx hb dL_law_339 rfl (lv_at hl 3 rfl) ?_
  have hFc := p_free (lPoolD hD) hS hA
  refine va_calli (vx_runSW (As := [.ref x0, .int g_316, .long (((Int32.toInt64 g_322) <<< (Int32.toInt64 (32 : Int32) &&& 63)) ||| ((Int32.toInt64 g_332) &&& (4294967295 : Int64))), .ref ou]) (rest := []) ⟨hx, hb, hml, hown, hts⟩ (c_L_define l hlt dC dI dA zz s.heap.size L f H.size x0 g_316 (((Int32.toInt64 g_322) <<< (Int32.toInt64 (32 : Int32) &&& 63)) ||| ((Int32.toInt64 g_332) &&& (4294967295 : Int64))) ou _ hw) (vx_cwSW 4 hts gL_law_L_define rfl rfl rfl (by decide +kernel) ⟨by decide, by decide⟩) (pPreS [.ref x0, .int g_316, .long (((Int32.toInt64 g_322) <<< (Int32.toInt64 (32 : Int32) &&& 63)) ||| ((Int32.toInt64 g_332) &&& (4294967295 : Int64))), .ref ou] hK (lPool hP) (lPoolD hD) hS hB hz hN hT) rfl rfl hl.1 rfl (lv_room (Nat.le_of_ble_eq_true rfl)) dL_law_340 ⟨by show _ ≤ 601024; omega, by show _ ≤ 7293034; omega⟩) hS (fun q _ h => hFc q h) hFc (fun r_340 u t H1 locs ht hvm hw hB1 hz1 hk1 hS => ?_)
  obtain ⟨L_340, f_340⟩ := u
  obtain ⟨hP1, -, hD1⟩ := hB1
  rw [ht] at hP1
  have hw := id hw
  obtain ⟨hP, hD⟩ := lJoinP hP hD hk1 hFc hP1 hD1
  generalize H1 = H at hP hS ⊢
  refine W.widen (k := 100 + 16 * k + 2) (n := 26000 + 2048 * k + 12) (by omega) (by omega) ?_
  refine lv_istore (lv' := [(5, .int r_340), (0, .ref b), (1, .ref x0), (2, .ref o), (3, .ref ou), (4, .int a4)]) hx hb dL_law_343 hl (by decide) rfl (fun ls hl => ?_)
  refine lv_aload_n hx hb dL_law_345 rfl (lv_at hl 3 rfl) ?_
  refine lv_aload_n hx hb dL_law_346 rfl (lv_at hl 1 rfl) ?_
  refine lv_iload hx hb dL_law_347 (lv_at hl 5 rfl) ?_
  refine lv_iconst (v := 1) hx hb dL_law_349 (by decide) ?_
  refine lv_iadd hx hb dL_law_350 ?_
  refine va_sld hx hb hX hbl hbA hS hw.1 dL_law_351 ?_
  refine lv_topi (fun g_351 eg_351 => ?_)
  have hw := hw.2 g_351 eg_351
  refine lv_aload_n hx hb dL_law_352 rfl (lv_at hl 1 rfl) ?_
  refine lv_iload hx hb dL_law_353 (lv_at hl 5 rfl) ?_
  refine lv_iconst (v := 2) hx hb dL_law_355 (by decide) ?_
  refine lv_iadd hx hb dL_law_356 ?_
  refine va_sld hx hb hX hbl hbA hS hw.1 dL_law_357 ?_
  refine lv_topi (fun g_357 eg_357 => ?_)
  have hw := hw.2 g_357 eg_357
  refine lv_i2l hx hb dL_law_358 rfl ?_
  refine lv_bipush (v := 32) hx hb dL_law_359 (by decide) ?_
  refine lv_lshl hx hb dL_law_361 rfl ?_
  refine lv_aload_n hx hb dL_law_362 rfl (lv_at hl 1 rfl) ?_
  refine lv_iload hx hb dL_law_363 (lv_at hl 5 rfl) ?_
  refine lv_iconst (v := 3) hx hb dL_law_365 (by decide) ?_
  refine lv_iadd hx hb dL_law_366 ?_
  refine va_sld hx hb hX hbl hbA hS hw.1 dL_law_367 ?_
  refine lv_topi (fun g_367 eg_367 => ?_)
  have hw := hw.2 g_367 eg_367
  refine lv_i2l hx hb dL_law_368 rfl ?_
  refine lv_ldc2 (v := 4294967295) hx hb hown (hts _ lk_L_law_98) dL_law_369 ?_
  refine lv_land hx hb dL_law_372 ?_
  refine lv_lor hx hb dL_law_373 ?_
  have hFc := mFree (lModD hD) hS hA
  refine va_calll (va_runV (As := [.int g_351, .long (((Int32.toInt64 g_357) <<< (Int32.toInt64 (32 : Int32) &&& 63)) ||| ((Int32.toInt64 g_367) &&& (4294967295 : Int64)))]) (rest := []) ⟨hx, hb, hml, hown, hts⟩ (c_X9_define l dC dI (dA 1) (dA 2) (dA 5) o ad S G H.size g_351 (((Int32.toInt64 g_357) <<< (Int32.toInt64 (32 : Int32) &&& 63)) ||| ((Int32.toInt64 g_367) &&& (4294967295 : Int64))) _ hw) (cwV 2 hts gL_law_X9_define rfl rfl rfl (by decide +kernel) ⟨by decide, by decide⟩) (mPreV [.int g_351, .long (((Int32.toInt64 g_357) <<< (Int32.toInt64 (32 : Int32) &&& 63)) ||| ((Int32.toInt64 g_367) &&& (4294967295 : Int64)))] (lKm hK) (lMod hP) (lModD hD)) rfl rfl hl.1 rfl (lv_room (Nat.le_of_ble_eq_true rfl)) dL_law_374 ⟨by show _ ≤ 601024; omega, by show _ ≤ 7293034; omega⟩) hS (fun q _ h => hFc q h) hFc (fun r_374 u t H1 locs ht hvm hw hB1 hz1 hk1 hS => ?_)
  obtain ⟨S_374, G_374⟩ := u
  obtain ⟨hP1, -, hD1⟩ := hB1
  rw [ht] at hP1
  have hw := id hw
  obtain ⟨hP, hD⟩ := lJoinM hP hD hk1 hFc hP1 hD1
  generalize H1 = H at hP hS ⊢
  refine W.cs (Nat.add_zero _) (Nat.add_zero _) ?_
  refine lv_lstore (lv' := [(6, .long r_374), (5, .int r_340), (0, .ref b), (1, .ref x0), (2, .ref o), (3, .ref ou), (4, .int a4)]) hx hb dL_law_377 hl (by decide) rfl (fun ls hl => ?_)
  refine lv_aload_n hx hb dL_law_379 rfl (lv_at hl 4 rfl) ?_
  have hFc := mFree (lModD hD) hS hA
  refine va_calli (va_runV (As := []) (rest := []) ⟨hx, hb, hml, hown, hts⟩ (c_X9_thrown l dC dI (dA 1) (dA 2) (dA 5) o ad S_374 G_374 H.size  _ hw) (cwV 0 hts gL_law_X9_thrown rfl rfl rfl (by decide +kernel) ⟨by decide, by decide⟩) (mPreV [] (lKm hK) (lMod hP) (lModD hD)) rfl rfl hl.1 rfl (lv_room (Nat.le_of_ble_eq_true rfl)) dL_law_380 ⟨by show _ ≤ 601024; omega, by show _ ≤ 7293034; omega⟩) hS (fun q _ h => hFc q h) hFc (fun r_380 u t H1 locs ht hvm hw hB1 hz1 hk1 hS => ?_)
  obtain ⟨S_380, G_380⟩ := u
  obtain ⟨hP1, -, hD1⟩ := hB1
  rw [ht] at hP1
  have hw := id hw
  obtain ⟨hP, hD⟩ := lJoinM hP hD hk1 hFc hP1 hD1
  generalize H1 = H at hP hS ⊢
  refine W.cs (Nat.add_zero _) (Nat.add_zero _) ?_
  refine lv_iload hx hb dL_law_383 (lv_at hl 1 rfl) ?_
  refine lv_icmp_eq (tgt := 390) hx hb dL_law_385 (by decide) (fun c_385 => ?_) (fun c_385 => ?_)
  · have hw := hw.1 c_385
    refine lv_iload hx hb dL_law_390 (lv_at hl 1 rfl) ?_
    refine lv_if_ne (tgt := 406) hx hb dL_law_392 (by decide) (fun c_392 => ?_) (fun c_392 => ?_)
    · have hw := hw.1 c_392
      refine lv_goto (tgt := 1406) hx hb dL_law_406 (by decide) ?_
      refine W.widen (k := 100 + 16 * k + 16) (n := 26000 + 2048 * k + 2048) (by omega) (by omega) ?_
      exact tb_law_1406 C h23_ S_380 G_380 L_340 f_340 k a4 hw H locs hP hD hS ls (lv_sub hl [2, 3, 4, 5, 6] rfl)
    · have hw := hw.2 c_392
      refine lv_aload_n hx hb dL_law_395 rfl (lv_at hl 5 rfl) ?_
      refine lv_iconst (v := 0) hx hb dL_law_396 (by decide) ?_
      obtain ⟨n_397, h_397, ⟨hL9, hf9, hn9⟩, hw⟩ := hw
      refine va_lald hx hb hK (p_one (lPool hP) hL9 hf9) 0 2 rfl rfl hn9 dL_law_397 ?_
      refine lv_topl (fun g_397 eg_397 => ?_)
      rw [← eg_397] at hw
      refine lv_lload hx hb dL_law_398 (lv_at hl 0 rfl) ?_
      refine W.lcmp hx hb dL_law_400 ?_
      refine lv_if_eq (tgt := 406) hx hb dL_law_401 (by decide) (fun c_401 => ?_) (fun c_401 => ?_)
      · have hw := hw.1 c_401
        refine lv_goto (tgt := 1406) hx hb dL_law_406 (by decide) ?_
        refine W.widen (k := 100 + 16 * k + 16) (n := 26000 + 2048 * k + 2048) (by omega) (by omega) ?_
        exact tb_law_1406 C h23_ S_380 G_380 L_340 f_340 k a4 hw H locs hP hD hS ls (lv_sub hl [2, 3, 4, 5, 6] rfl)
      · have hw := hw.2 c_401
        refine lv_iconst (v := 0) hx hb dL_law_404 (by decide) ?_
        exact hw.elim
  · have hw := hw.2 c_385
    refine lv_iconst (v := 0) hx hb dL_law_388 (by decide) ?_
    exact hw.elim
set_option maxHeartbeats 4000000 in
set_option maxRecDepth 100000 in
theorem tb_law_409 {p : Program} {l : Launch} {e : Env} {s : State} {m : MethodId} {below : List Frame} {meth : Method} {c : Code} {dC : Nat → ClassId} {dI : Nat → Nat → Nat} {dA : Nat → ClassId} {zz : Nat → Nat} {o : Nat} {ad : Nat → Nat} {b x0 ou Ln : Nat} {xs : Nat → Int32} (C : lCx p l s m meth c dC dI dA zz b Ln xs) {k23_ : mS → mG → List Nat → pF → Nat → Int32 → Prop} (h23_ : ∀ (S : mS) (G : mG) (L : List Nat) (f : pF) (k : Nat) (a4 : Int32), k23_ S G L f k a4 → lAt p l e s m below meth c dC dI dA o ad b (100 + 16 * k) (26000 + 2048 * k) 23 [(0, .ref b), (1, .ref x0), (2, .ref o), (3, .ref ou), (4, .int a4)] [] S G L f) : ∀ (S : mS) (G : mG) (L : List Nat) (f : pF) (k : Nat) (a4 : Int32), wp_law_409 dA zz x0 ou Ln xs k23_ S G L f k a4 → lAt p l e s m below meth c dC dI dA o ad b (100 + 16 * k + 0) (26000 + 2048 * k + 0) 409 [(0, .ref b), (1, .ref x0), (2, .ref o), (3, .ref ou), (4, .int a4)] [] S G L f := by
  obtain ⟨hx, hb, hml, hown, hts, hr, hlocks, hA, hK, hB, hz, hN, hT, hlt, hX, hbl, hbA⟩ := lCx_use C
  intro S G L f k a4 hw H locs hP hD hS ls hl
  rw [wp_law_409] at hw
  obtain ⟨hk9, hw⟩ := hw
  refine lv_aload_n hx hb dL_law_409 rfl (lv_at hl 1 rfl) ?_
  refine lv_aload_n hx hb dL_law_410 rfl (lv_at hl 0 rfl) ?_
  refine lv_iload hx hb dL_law_411 (lv_at hl 4 rfl) ?_
  refine lv_iconst (v := 1) hx hb dL_law_413 (by decide) ?_
  refine lv_iadd hx hb dL_law_414 ?_
  refine va_sld hx hb hX hbl hbA hS hw.1 dL_law_415 ?_
  refine lv_topi (fun g_415 eg_415 => ?_)
  have hw := hw.2 g_415 eg_415
  refine lv_aload_n hx hb dL_law_416 rfl (lv_at hl 0 rfl) ?_
  refine lv_iload hx hb dL_law_417 (lv_at hl 4 rfl) ?_
  refine lv_iconst (v := 2) hx hb dL_law_419 (by decide) ?_
  refine lv_iadd hx hb dL_law_420 ?_
  refine va_sld hx hb hX hbl hbA hS hw.1 dL_law_421 ?_
  refine lv_topi (fun g_421 eg_421 => ?_)
  have hw := hw.2 g_421 eg_421
  refine lv_if_eq (tgt := 429) hx hb dL_law_422 (by decide) (fun c_422 => ?_) (fun c_422 => ?_)
  · have hw := hw.1 c_422
    refine lv_iconst (v := 0) hx hb dL_law_429 (by decide) ?_
    refine lv_aload_n hx hb dL_law_430 rfl (lv_at hl 3 rfl) ?_
    have hFc := p_free (lPoolD hD) hS hA
    refine va_calli (vx_runSW (As := [.ref x0, .int g_415, .int (0 : Int32), .ref ou]) (rest := []) ⟨hx, hb, hml, hown, hts⟩ (c_L_know l hlt dC dI dA zz s.heap.size L f H.size x0 g_415 (0 : Int32) ou _ hw) (vx_cwSW 4 hts gL_law_L_know rfl rfl rfl (by decide +kernel) ⟨by decide, by decide⟩) (pPreS [.ref x0, .int g_415, .int (0 : Int32), .ref ou] hK (lPool hP) (lPoolD hD) hS hB hz hN hT) rfl rfl hl.1 rfl (lv_room (Nat.le_of_ble_eq_true rfl)) dL_law_431 ⟨by show _ ≤ 601024; omega, by show _ ≤ 7293034; omega⟩) hS (fun q _ h => hFc q h) hFc (fun r_431 u t H1 locs ht hvm hw hB1 hz1 hk1 hS => ?_)
    obtain ⟨L_431, f_431⟩ := u
    obtain ⟨hP1, -, hD1⟩ := hB1
    rw [ht] at hP1
    have hw := id hw
    obtain ⟨hP, hD⟩ := lJoinP hP hD hk1 hFc hP1 hD1
    generalize H1 = H at hP hS ⊢
    refine W.widen (k := 100 + 16 * k + 1) (n := 26000 + 2048 * k + 6) (by omega) (by omega) ?_
    refine lv_istore (lv' := [(5, .int r_431), (0, .ref b), (1, .ref x0), (2, .ref o), (3, .ref ou), (4, .int a4)]) hx hb dL_law_434 hl (by decide) rfl (fun ls hl => ?_)
    refine lv_aload_n hx hb dL_law_436 rfl (lv_at hl 3 rfl) ?_
    refine lv_aload_n hx hb dL_law_437 rfl (lv_at hl 1 rfl) ?_
    refine lv_iload hx hb dL_law_438 (lv_at hl 5 rfl) ?_
    refine lv_iconst (v := 1) hx hb dL_law_440 (by decide) ?_
    refine lv_iadd hx hb dL_law_441 ?_
    refine va_sld hx hb hX hbl hbA hS hw.1 dL_law_442 ?_
    refine lv_topi (fun g_442 eg_442 => ?_)
    have hw := hw.2 g_442 eg_442
    refine lv_aload_n hx hb dL_law_443 rfl (lv_at hl 1 rfl) ?_
    refine lv_iload hx hb dL_law_444 (lv_at hl 5 rfl) ?_
    refine lv_iconst (v := 2) hx hb dL_law_446 (by decide) ?_
    refine lv_iadd hx hb dL_law_447 ?_
    refine va_sld hx hb hX hbl hbA hS hw.1 dL_law_448 ?_
    refine lv_topi (fun g_448 eg_448 => ?_)
    have hw := hw.2 g_448 eg_448
    refine lv_if_eq (tgt := 456) hx hb dL_law_449 (by decide) (fun c_449 => ?_) (fun c_449 => ?_)
    · have hw := hw.1 c_449
      refine lv_iconst (v := 0) hx hb dL_law_456 (by decide) ?_
      have hFc := mFree (lModD hD) hS hA
      refine va_calli (va_runV (As := [.int g_442, .int (0 : Int32)]) (rest := []) ⟨hx, hb, hml, hown, hts⟩ (c_X9_know l dC dI (dA 1) (dA 2) (dA 5) o ad S G H.size g_442 (0 : Int32) _ hw) (cwV 2 hts gL_law_X9_know rfl rfl rfl (by decide +kernel) ⟨by decide, by decide⟩) (mPreV [.int g_442, .int (0 : Int32)] (lKm hK) (lMod hP) (lModD hD)) rfl rfl hl.1 rfl (lv_room (Nat.le_of_ble_eq_true rfl)) dL_law_457 ⟨by show _ ≤ 601024; omega, by show _ ≤ 7293034; omega⟩) hS (fun q _ h => hFc q h) hFc (fun r_457 u t H1 locs ht hvm hw hB1 hz1 hk1 hS => ?_)
      obtain ⟨S_457, G_457⟩ := u
      obtain ⟨hP1, -, hD1⟩ := hB1
      rw [ht] at hP1
      have hw := id hw
      obtain ⟨hP, hD⟩ := lJoinM hP hD hk1 hFc hP1 hD1
      generalize H1 = H at hP hS ⊢
      refine W.cs (Nat.add_zero _) (Nat.add_zero _) ?_
      refine lv_istore (lv' := [(6, .int r_457), (5, .int r_431), (0, .ref b), (1, .ref x0), (2, .ref o), (3, .ref ou), (4, .int a4)]) hx hb dL_law_460 hl (by decide) rfl (fun ls hl => ?_)
      refine lv_aload_n hx hb dL_law_462 rfl (lv_at hl 4 rfl) ?_
      have hFc := mFree (lModD hD) hS hA
      refine va_calli (va_runV (As := []) (rest := []) ⟨hx, hb, hml, hown, hts⟩ (c_X9_thrown l dC dI (dA 1) (dA 2) (dA 5) o ad S_457 G_457 H.size  _ hw) (cwV 0 hts gL_law_X9_thrown rfl rfl rfl (by decide +kernel) ⟨by decide, by decide⟩) (mPreV [] (lKm hK) (lMod hP) (lModD hD)) rfl rfl hl.1 rfl (lv_room (Nat.le_of_ble_eq_true rfl)) dL_law_463 ⟨by show _ ≤ 601024; omega, by show _ ≤ 7293034; omega⟩) hS (fun q _ h => hFc q h) hFc (fun r_463 u t H1 locs ht hvm hw hB1 hz1 hk1 hS => ?_)
      obtain ⟨S_463, G_463⟩ := u
      obtain ⟨hP1, -, hD1⟩ := hB1
      rw [ht] at hP1
      have hw := id hw
      obtain ⟨hP, hD⟩ := lJoinM hP hD hk1 hFc hP1 hD1
      generalize H1 = H at hP hS ⊢
      refine W.cs (Nat.add_zero _) (Nat.add_zero _) ?_
      refine lv_iload hx hb dL_law_466 (lv_at hl 1 rfl) ?_
      refine lv_icmp_eq (tgt := 473) hx hb dL_law_468 (by decide) (fun c_468 => ?_) (fun c_468 => ?_)
      · have hw := hw.1 c_468
        refine lv_iload hx hb dL_law_473 (lv_at hl 1 rfl) ?_
        refine lv_if_ne (tgt := 497) hx hb dL_law_475 (by decide) (fun c_475 => ?_) (fun c_475 => ?_)
        · have hw := hw.1 c_475
          refine lv_goto (tgt := 1406) hx hb dL_law_497 (by decide) ?_
          refine W.widen (k := 100 + 16 * k + 16) (n := 26000 + 2048 * k + 2048) (by omega) (by omega) ?_
          exact tb_law_1406 C h23_ S_463 G_463 L_431 f_431 k a4 hw H locs hP hD hS ls (lv_sub hl [2, 3, 4, 5, 6] rfl)
        · have hw := hw.2 c_475
          refine lv_aload_n hx hb dL_law_478 rfl (lv_at hl 5 rfl) ?_
          refine lv_iconst (v := 0) hx hb dL_law_479 (by decide) ?_
          obtain ⟨n_480, h_480, ⟨hL9, hf9, hn9⟩, hw⟩ := hw
          refine va_lald hx hb hK (p_one (lPool hP) hL9 hf9) 0 2 rfl rfl hn9 dL_law_480 ?_
          refine lv_topl (fun g_480 eg_480 => ?_)
          rw [← eg_480] at hw
          refine lv_iload hx hb dL_law_481 (lv_at hl 0 rfl) ?_
          refine lv_if_eq (tgt := 490) hx hb dL_law_483 (by decide) (fun c_483 => ?_) (fun c_483 => ?_)
          · have hw := hw.1 c_483
            refine lv_lconst (v := 0) hx hb dL_law_490 (by decide) ?_
            refine W.lcmp hx hb dL_law_491 ?_
            refine lv_if_eq (tgt := 497) hx hb dL_law_492 (by decide) (fun c_492 => ?_) (fun c_492 => ?_)
            · have hw := hw.1 c_492
              refine lv_goto (tgt := 1406) hx hb dL_law_497 (by decide) ?_
              refine W.widen (k := 100 + 16 * k + 16) (n := 26000 + 2048 * k + 2048) (by omega) (by omega) ?_
              exact tb_law_1406 C h23_ S_463 G_463 L_431 f_431 k a4 hw H locs hP hD hS ls (lv_sub hl [2, 3, 4, 5, 6] rfl)
            · have hw := hw.2 c_492
              refine lv_iconst (v := 0) hx hb dL_law_495 (by decide) ?_
              exact hw.elim
          · have hw := hw.2 c_483
            refine lv_lconst (v := 1) hx hb dL_law_486 (by decide) ?_
            refine lv_goto (tgt := 491) hx hb dL_law_487 (by decide) ?_
            refine W.lcmp hx hb dL_law_491 ?_
            refine lv_if_eq (tgt := 497) hx hb dL_law_492 (by decide) (fun c_492 => ?_) (fun c_492 => ?_)
            · have hw := hw.1 c_492
              refine lv_goto (tgt := 1406) hx hb dL_law_497 (by decide) ?_
              refine W.widen (k := 100 + 16 * k + 16) (n := 26000 + 2048 * k + 2048) (by omega) (by omega) ?_
              exact tb_law_1406 C h23_ S_463 G_463 L_431 f_431 k a4 hw H locs hP hD hS ls (lv_sub hl [2, 3, 4, 5, 6] rfl)
            · have hw := hw.2 c_492
              refine lv_iconst (v := 0) hx hb dL_law_495 (by decide) ?_
              exact hw.elim
      · have hw := hw.2 c_468
        refine lv_iconst (v := 0) hx hb dL_law_471 (by decide) ?_
        exact hw.elim
    · have hw := hw.2 c_449
      refine lv_iconst (v := 1) hx hb dL_law_452 (by decide) ?_
      refine lv_goto (tgt := 457) hx hb dL_law_453 (by decide) ?_
      have hFc := mFree (lModD hD) hS hA
      refine va_calli (va_runV (As := [.int g_442, .int (1 : Int32)]) (rest := []) ⟨hx, hb, hml, hown, hts⟩ (c_X9_know l dC dI (dA 1) (dA 2) (dA 5) o ad S G H.size g_442 (1 : Int32) _ hw) (cwV 2 hts gL_law_X9_know rfl rfl rfl (by decide +kernel) ⟨by decide, by decide⟩) (mPreV [.int g_442, .int (1 : Int32)] (lKm hK) (lMod hP) (lModD hD)) rfl rfl hl.1 rfl (lv_room (Nat.le_of_ble_eq_true rfl)) dL_law_457 ⟨by show _ ≤ 601024; omega, by show _ ≤ 7293034; omega⟩) hS (fun q _ h => hFc q h) hFc (fun r_457 u t H1 locs ht hvm hw hB1 hz1 hk1 hS => ?_)
      obtain ⟨S_457, G_457⟩ := u
      obtain ⟨hP1, -, hD1⟩ := hB1
      rw [ht] at hP1
      have hw := id hw
      obtain ⟨hP, hD⟩ := lJoinM hP hD hk1 hFc hP1 hD1
      generalize H1 = H at hP hS ⊢
      refine W.cs (Nat.add_zero _) (Nat.add_zero _) ?_
      refine lv_istore (lv' := [(6, .int r_457), (5, .int r_431), (0, .ref b), (1, .ref x0), (2, .ref o), (3, .ref ou), (4, .int a4)]) hx hb dL_law_460 hl (by decide) rfl (fun ls hl => ?_)
      refine lv_aload_n hx hb dL_law_462 rfl (lv_at hl 4 rfl) ?_
      have hFc := mFree (lModD hD) hS hA
      refine va_calli (va_runV (As := []) (rest := []) ⟨hx, hb, hml, hown, hts⟩ (c_X9_thrown l dC dI (dA 1) (dA 2) (dA 5) o ad S_457 G_457 H.size  _ hw) (cwV 0 hts gL_law_X9_thrown rfl rfl rfl (by decide +kernel) ⟨by decide, by decide⟩) (mPreV [] (lKm hK) (lMod hP) (lModD hD)) rfl rfl hl.1 rfl (lv_room (Nat.le_of_ble_eq_true rfl)) dL_law_463 ⟨by show _ ≤ 601024; omega, by show _ ≤ 7293034; omega⟩) hS (fun q _ h => hFc q h) hFc (fun r_463 u t H1 locs ht hvm hw hB1 hz1 hk1 hS => ?_)
      obtain ⟨S_463, G_463⟩ := u
      obtain ⟨hP1, -, hD1⟩ := hB1
      rw [ht] at hP1
      have hw := id hw
      obtain ⟨hP, hD⟩ := lJoinM hP hD hk1 hFc hP1 hD1
      generalize H1 = H at hP hS ⊢
      refine W.cs (Nat.add_zero _) (Nat.add_zero _) ?_
      refine lv_iload hx hb dL_law_466 (lv_at hl 1 rfl) ?_
      refine lv_icmp_eq (tgt := 473) hx hb dL_law_468 (by decide) (fun c_468 => ?_) (fun c_468 => ?_)
      · have hw := hw.1 c_468
        refine lv_iload hx hb dL_law_473 (lv_at hl 1 rfl) ?_
        refine lv_if_ne (tgt := 497) hx hb dL_law_475 (by decide) (fun c_475 => ?_) (fun c_475 => ?_)
        · have hw := hw.1 c_475
          refine lv_goto (tgt := 1406) hx hb dL_law_497 (by decide) ?_
          refine W.widen (k := 100 + 16 * k + 16) (n := 26000 + 2048 * k + 2048) (by omega) (by omega) ?_
          exact tb_law_1406 C h23_ S_463 G_463 L_431 f_431 k a4 hw H locs hP hD hS ls (lv_sub hl [2, 3, 4, 5, 6] rfl)
        · have hw := hw.2 c_475
          refine lv_aload_n hx hb dL_law_478 rfl (lv_at hl 5 rfl) ?_
          refine lv_iconst (v := 0) hx hb dL_law_479 (by decide) ?_
          obtain ⟨n_480, h_480, ⟨hL9, hf9, hn9⟩, hw⟩ := hw
          refine va_lald hx hb hK (p_one (lPool hP) hL9 hf9) 0 2 rfl rfl hn9 dL_law_480 ?_
          refine lv_topl (fun g_480 eg_480 => ?_)
          rw [← eg_480] at hw
          refine lv_iload hx hb dL_law_481 (lv_at hl 0 rfl) ?_
          refine lv_if_eq (tgt := 490) hx hb dL_law_483 (by decide) (fun c_483 => ?_) (fun c_483 => ?_)
          · have hw := hw.1 c_483
            refine lv_lconst (v := 0) hx hb dL_law_490 (by decide) ?_
            refine W.lcmp hx hb dL_law_491 ?_
            refine lv_if_eq (tgt := 497) hx hb dL_law_492 (by decide) (fun c_492 => ?_) (fun c_492 => ?_)
            · have hw := hw.1 c_492
              refine lv_goto (tgt := 1406) hx hb dL_law_497 (by decide) ?_
              refine W.widen (k := 100 + 16 * k + 16) (n := 26000 + 2048 * k + 2048) (by omega) (by omega) ?_
              exact tb_law_1406 C h23_ S_463 G_463 L_431 f_431 k a4 hw H locs hP hD hS ls (lv_sub hl [2, 3, 4, 5, 6] rfl)
            · have hw := hw.2 c_492
              refine lv_iconst (v := 0) hx hb dL_law_495 (by decide) ?_
              exact hw.elim
          · have hw := hw.2 c_483
            refine lv_lconst (v := 1) hx hb dL_law_486 (by decide) ?_
            refine lv_goto (tgt := 491) hx hb dL_law_487 (by decide) ?_
            refine W.lcmp hx hb dL_law_491 ?_
            refine lv_if_eq (tgt := 497) hx hb dL_law_492 (by decide) (fun c_492 => ?_) (fun c_492 => ?_)
            · have hw := hw.1 c_492
              refine lv_goto (tgt := 1406) hx hb dL_law_497 (by decide) ?_
              refine W.widen (k := 100 + 16 * k + 16) (n := 26000 + 2048 * k + 2048) (by omega) (by omega) ?_
              exact tb_law_1406 C h23_ S_463 G_463 L_431 f_431 k a4 hw H locs hP hD hS ls (lv_sub hl [2, 3, 4, 5, 6] rfl)
            · have hw := hw.2 c_492
              refine lv_iconst (v := 0) hx hb dL_law_495 (by decide) ?_
              exact hw.elim
      · have hw := hw.2 c_468
        refine lv_iconst (v := 0) hx hb dL_law_471 (by decide) ?_
        exact hw.elim
  · have hw := hw.2 c_422
    refine lv_iconst (v := 1) hx hb dL_law_425 (by decide) ?_
    refine lv_goto (tgt := 430) hx hb dL_law_426 (by decide) ?_
    refine lv_aload_n hx hb dL_law_430 rfl (lv_at hl 3 rfl) ?_
    have hFc := p_free (lPoolD hD) hS hA
    refine va_calli (vx_runSW (As := [.ref x0, .int g_415, .int (1 : Int32), .ref ou]) (rest := []) ⟨hx, hb, hml, hown, hts⟩ (c_L_know l hlt dC dI dA zz s.heap.size L f H.size x0 g_415 (1 : Int32) ou _ hw) (vx_cwSW 4 hts gL_law_L_know rfl rfl rfl (by decide +kernel) ⟨by decide, by decide⟩) (pPreS [.ref x0, .int g_415, .int (1 : Int32), .ref ou] hK (lPool hP) (lPoolD hD) hS hB hz hN hT) rfl rfl hl.1 rfl (lv_room (Nat.le_of_ble_eq_true rfl)) dL_law_431 ⟨by show _ ≤ 601024; omega, by show _ ≤ 7293034; omega⟩) hS (fun q _ h => hFc q h) hFc (fun r_431 u t H1 locs ht hvm hw hB1 hz1 hk1 hS => ?_)
    obtain ⟨L_431, f_431⟩ := u
    obtain ⟨hP1, -, hD1⟩ := hB1
    rw [ht] at hP1
    have hw := id hw
    obtain ⟨hP, hD⟩ := lJoinP hP hD hk1 hFc hP1 hD1
    generalize H1 = H at hP hS ⊢
    refine W.widen (k := 100 + 16 * k + 1) (n := 26000 + 2048 * k + 6) (by omega) (by omega) ?_
    refine lv_istore (lv' := [(5, .int r_431), (0, .ref b), (1, .ref x0), (2, .ref o), (3, .ref ou), (4, .int a4)]) hx hb dL_law_434 hl (by decide) rfl (fun ls hl => ?_)
    refine lv_aload_n hx hb dL_law_436 rfl (lv_at hl 3 rfl) ?_
    refine lv_aload_n hx hb dL_law_437 rfl (lv_at hl 1 rfl) ?_
    refine lv_iload hx hb dL_law_438 (lv_at hl 5 rfl) ?_
    refine lv_iconst (v := 1) hx hb dL_law_440 (by decide) ?_
    refine lv_iadd hx hb dL_law_441 ?_
    refine va_sld hx hb hX hbl hbA hS hw.1 dL_law_442 ?_
    refine lv_topi (fun g_442 eg_442 => ?_)
    have hw := hw.2 g_442 eg_442
    refine lv_aload_n hx hb dL_law_443 rfl (lv_at hl 1 rfl) ?_
    refine lv_iload hx hb dL_law_444 (lv_at hl 5 rfl) ?_
    refine lv_iconst (v := 2) hx hb dL_law_446 (by decide) ?_
    refine lv_iadd hx hb dL_law_447 ?_
    refine va_sld hx hb hX hbl hbA hS hw.1 dL_law_448 ?_
    refine lv_topi (fun g_448 eg_448 => ?_)
    have hw := hw.2 g_448 eg_448
    refine lv_if_eq (tgt := 456) hx hb dL_law_449 (by decide) (fun c_449 => ?_) (fun c_449 => ?_)
    · have hw := hw.1 c_449
      refine lv_iconst (v := 0) hx hb dL_law_456 (by decide) ?_
      have hFc := mFree (lModD hD) hS hA
      refine va_calli (va_runV (As := [.int g_442, .int (0 : Int32)]) (rest := []) ⟨hx, hb, hml, hown, hts⟩ (c_X9_know l dC dI (dA 1) (dA 2) (dA 5) o ad S G H.size g_442 (0 : Int32) _ hw) (cwV 2 hts gL_law_X9_know rfl rfl rfl (by decide +kernel) ⟨by decide, by decide⟩) (mPreV [.int g_442, .int (0 : Int32)] (lKm hK) (lMod hP) (lModD hD)) rfl rfl hl.1 rfl (lv_room (Nat.le_of_ble_eq_true rfl)) dL_law_457 ⟨by show _ ≤ 601024; omega, by show _ ≤ 7293034; omega⟩) hS (fun q _ h => hFc q h) hFc (fun r_457 u t H1 locs ht hvm hw hB1 hz1 hk1 hS => ?_)
      obtain ⟨S_457, G_457⟩ := u
      obtain ⟨hP1, -, hD1⟩ := hB1
      rw [ht] at hP1
      have hw := id hw
      obtain ⟨hP, hD⟩ := lJoinM hP hD hk1 hFc hP1 hD1
      generalize H1 = H at hP hS ⊢
      refine W.cs (Nat.add_zero _) (Nat.add_zero _) ?_
      refine lv_istore (lv' := [(6, .int r_457), (5, .int r_431), (0, .ref b), (1, .ref x0), (2, .ref o), (3, .ref ou), (4, .int a4)]) hx hb dL_law_460 hl (by decide) rfl (fun ls hl => ?_)
      refine lv_aload_n hx hb dL_law_462 rfl (lv_at hl 4 rfl) ?_
      have hFc := mFree (lModD hD) hS hA
      refine va_calli (va_runV (As := []) (rest := []) ⟨hx, hb, hml, hown, hts⟩ (c_X9_thrown l dC dI (dA 1) (dA 2) (dA 5) o ad S_457 G_457 H.size  _ hw) (cwV 0 hts gL_law_X9_thrown rfl rfl rfl (by decide +kernel) ⟨by decide, by decide⟩) (mPreV [] (lKm hK) (lMod hP) (lModD hD)) rfl rfl hl.1 rfl (lv_room (Nat.le_of_ble_eq_true rfl)) dL_law_463 ⟨by show _ ≤ 601024; omega, by show _ ≤ 7293034; omega⟩) hS (fun q _ h => hFc q h) hFc (fun r_463 u t H1 locs ht hvm hw hB1 hz1 hk1 hS => ?_)
      obtain ⟨S_463, G_463⟩ := u
      obtain ⟨hP1, -, hD1⟩ := hB1
      rw [ht] at hP1
      have hw := id hw
      obtain ⟨hP, hD⟩ := lJoinM hP hD hk1 hFc hP1 hD1
      generalize H1 = H at hP hS ⊢
      refine W.cs (Nat.add_zero _) (Nat.add_zero _) ?_
      refine lv_iload hx hb dL_law_466 (lv_at hl 1 rfl) ?_
      refine lv_icmp_eq (tgt := 473) hx hb dL_law_468 (by decide) (fun c_468 => ?_) (fun c_468 => ?_)
      · have hw := hw.1 c_468
        refine lv_iload hx hb dL_law_473 (lv_at hl 1 rfl) ?_
        refine lv_if_ne (tgt := 497) hx hb dL_law_475 (by decide) (fun c_475 => ?_) (fun c_475 => ?_)
        · have hw := hw.1 c_475
          refine lv_goto (tgt := 1406) hx hb dL_law_497 (by decide) ?_
          refine W.widen (k := 100 + 16 * k + 16) (n := 26000 + 2048 * k + 2048) (by omega) (by omega) ?_
          exact tb_law_1406 C h23_ S_463 G_463 L_431 f_431 k a4 hw H locs hP hD hS ls (lv_sub hl [2, 3, 4, 5, 6] rfl)
        · have hw := hw.2 c_475
          refine lv_aload_n hx hb dL_law_478 rfl (lv_at hl 5 rfl) ?_
          refine lv_iconst (v := 0) hx hb dL_law_479 (by decide) ?_
          obtain ⟨n_480, h_480, ⟨hL9, hf9, hn9⟩, hw⟩ := hw
          refine va_lald hx hb hK (p_one (lPool hP) hL9 hf9) 0 2 rfl rfl hn9 dL_law_480 ?_
          refine lv_topl (fun g_480 eg_480 => ?_)
          rw [← eg_480] at hw
          refine lv_iload hx hb dL_law_481 (lv_at hl 0 rfl) ?_
          refine lv_if_eq (tgt := 490) hx hb dL_law_483 (by decide) (fun c_483 => ?_) (fun c_483 => ?_)
          · have hw := hw.1 c_483
            refine lv_lconst (v := 0) hx hb dL_law_490 (by decide) ?_
            refine W.lcmp hx hb dL_law_491 ?_
            refine lv_if_eq (tgt := 497) hx hb dL_law_492 (by decide) (fun c_492 => ?_) (fun c_492 => ?_)
            · have hw := hw.1 c_492
              refine lv_goto (tgt := 1406) hx hb dL_law_497 (by decide) ?_
              refine W.widen (k := 100 + 16 * k + 16) (n := 26000 + 2048 * k + 2048) (by omega) (by omega) ?_
              exact tb_law_1406 C h23_ S_463 G_463 L_431 f_431 k a4 hw H locs hP hD hS ls (lv_sub hl [2, 3, 4, 5, 6] rfl)
            · have hw := hw.2 c_492
              refine lv_iconst (v := 0) hx hb dL_law_495 (by decide) ?_
              exact hw.elim
          · have hw := hw.2 c_483
            refine lv_lconst (v := 1) hx hb dL_law_486 (by decide) ?_
            refine lv_goto (tgt := 491) hx hb dL_law_487 (by decide) ?_
            refine W.lcmp hx hb dL_law_491 ?_
            refine lv_if_eq (tgt := 497) hx hb dL_law_492 (by decide) (fun c_492 => ?_) (fun c_492 => ?_)
            · have hw := hw.1 c_492
              refine lv_goto (tgt := 1406) hx hb dL_law_497 (by decide) ?_
              refine W.widen (k := 100 + 16 * k + 16) (n := 26000 + 2048 * k + 2048) (by omega) (by omega) ?_
              exact tb_law_1406 C h23_ S_463 G_463 L_431 f_431 k a4 hw H locs hP hD hS ls (lv_sub hl [2, 3, 4, 5, 6] rfl)
            · have hw := hw.2 c_492
              refine lv_iconst (v := 0) hx hb dL_law_495 (by decide) ?_
              exact hw.elim
      · have hw := hw.2 c_468
        refine lv_iconst (v := 0) hx hb dL_law_471 (by decide) ?_
        exact hw.elim
    · have hw := hw.2 c_449
      refine lv_iconst (v := 1) hx hb dL_law_452 (by decide) ?_
      refine lv_goto (tgt := 457) hx hb dL_law_453 (by decide) ?_
      have hFc := mFree (lModD hD) hS hA
      refine va_calli (va_runV (As := [.int g_442, .int (1 : Int32)]) (rest := []) ⟨hx, hb, hml, hown, hts⟩ (c_X9_know l dC dI (dA 1) (dA 2) (dA 5) o ad S G H.size g_442 (1 : Int32) _ hw) (cwV 2 hts gL_law_X9_know rfl rfl rfl (by decide +kernel) ⟨by decide, by decide⟩) (mPreV [.int g_442, .int (1 : Int32)] (lKm hK) (lMod hP) (lModD hD)) rfl rfl hl.1 rfl (lv_room (Nat.le_of_ble_eq_true rfl)) dL_law_457 ⟨by show _ ≤ 601024; omega, by show _ ≤ 7293034; omega⟩) hS (fun q _ h => hFc q h) hFc (fun r_457 u t H1 locs ht hvm hw hB1 hz1 hk1 hS => ?_)
      obtain ⟨S_457, G_457⟩ := u
      obtain ⟨hP1, -, hD1⟩ := hB1
      rw [ht] at hP1
      have hw := id hw
      obtain ⟨hP, hD⟩ := lJoinM hP hD hk1 hFc hP1 hD1
      generalize H1 = H at hP hS ⊢
      refine W.cs (Nat.add_zero _) (Nat.add_zero _) ?_
      refine lv_istore (lv' := [(6, .int r_457), (5, .int r_431), (0, .ref b), (1, .ref x0), (2, .ref o), (3, .ref ou), (4, .int a4)]) hx hb dL_law_460 hl (by decide) rfl (fun ls hl => ?_)
      refine lv_aload_n hx hb dL_law_462 rfl (lv_at hl 4 rfl) ?_
      have hFc := mFree (lModD hD) hS hA
      refine va_calli (va_runV (As := []) (rest := []) ⟨hx, hb, hml, hown, hts⟩ (c_X9_thrown l dC dI (dA 1) (dA 2) (dA 5) o ad S_457 G_457 H.size  _ hw) (cwV 0 hts gL_law_X9_thrown rfl rfl rfl (by decide +kernel) ⟨by decide, by decide⟩) (mPreV [] (lKm hK) (lMod hP) (lModD hD)) rfl rfl hl.1 rfl (lv_room (Nat.le_of_ble_eq_true rfl)) dL_law_463 ⟨by show _ ≤ 601024; omega, by show _ ≤ 7293034; omega⟩) hS (fun q _ h => hFc q h) hFc (fun r_463 u t H1 locs ht hvm hw hB1 hz1 hk1 hS => ?_)
      obtain ⟨S_463, G_463⟩ := u
      obtain ⟨hP1, -, hD1⟩ := hB1
      rw [ht] at hP1
      have hw := id hw
      obtain ⟨hP, hD⟩ := lJoinM hP hD hk1 hFc hP1 hD1
      generalize H1 = H at hP hS ⊢
      refine W.cs (Nat.add_zero _) (Nat.add_zero _) ?_
      refine lv_iload hx hb dL_law_466 (lv_at hl 1 rfl) ?_
      refine lv_icmp_eq (tgt := 473) hx hb dL_law_468 (by decide) (fun c_468 => ?_) (fun c_468 => ?_)
      · have hw := hw.1 c_468
        refine lv_iload hx hb dL_law_473 (lv_at hl 1 rfl) ?_
        refine lv_if_ne (tgt := 497) hx hb dL_law_475 (by decide) (fun c_475 => ?_) (fun c_475 => ?_)
        · have hw := hw.1 c_475
          refine lv_goto (tgt := 1406) hx hb dL_law_497 (by decide) ?_
          refine W.widen (k := 100 + 16 * k + 16) (n := 26000 + 2048 * k + 2048) (by omega) (by omega) ?_
          exact tb_law_1406 C h23_ S_463 G_463 L_431 f_431 k a4 hw H locs hP hD hS ls (lv_sub hl [2, 3, 4, 5, 6] rfl)
        · have hw := hw.2 c_475
          refine lv_aload_n hx hb dL_law_478 rfl (lv_at hl 5 rfl) ?_
          refine lv_iconst (v := 0) hx hb dL_law_479 (by decide) ?_
          obtain ⟨n_480, h_480, ⟨hL9, hf9, hn9⟩, hw⟩ := hw
          refine va_lald hx hb hK (p_one (lPool hP) hL9 hf9) 0 2 rfl rfl hn9 dL_law_480 ?_
          refine lv_topl (fun g_480 eg_480 => ?_)
          rw [← eg_480] at hw
          refine lv_iload hx hb dL_law_481 (lv_at hl 0 rfl) ?_
          refine lv_if_eq (tgt := 490) hx hb dL_law_483 (by decide) (fun c_483 => ?_) (fun c_483 => ?_)
          · have hw := hw.1 c_483
            refine lv_lconst (v := 0) hx hb dL_law_490 (by decide) ?_
            refine W.lcmp hx hb dL_law_491 ?_
            refine lv_if_eq (tgt := 497) hx hb dL_law_492 (by decide) (fun c_492 => ?_) (fun c_492 => ?_)
            · have hw := hw.1 c_492
              refine lv_goto (tgt := 1406) hx hb dL_law_497 (by decide) ?_
              refine W.widen (k := 100 + 16 * k + 16) (n := 26000 + 2048 * k + 2048) (by omega) (by omega) ?_
              exact tb_law_1406 C h23_ S_463 G_463 L_431 f_431 k a4 hw H locs hP hD hS ls (lv_sub hl [2, 3, 4, 5, 6] rfl)
            · have hw := hw.2 c_492
              refine lv_iconst (v := 0) hx hb dL_law_495 (by decide) ?_
              exact hw.elim
          · have hw := hw.2 c_483
            refine lv_lconst (v := 1) hx hb dL_law_486 (by decide) ?_
            refine lv_goto (tgt := 491) hx hb dL_law_487 (by decide) ?_
            refine W.lcmp hx hb dL_law_491 ?_
            refine lv_if_eq (tgt := 497) hx hb dL_law_492 (by decide) (fun c_492 => ?_) (fun c_492 => ?_)
            · have hw := hw.1 c_492
              refine lv_goto (tgt := 1406) hx hb dL_law_497 (by decide) ?_
              refine W.widen (k := 100 + 16 * k + 16) (n := 26000 + 2048 * k + 2048) (by omega) (by omega) ?_
              exact tb_law_1406 C h23_ S_463 G_463 L_431 f_431 k a4 hw H locs hP hD hS ls (lv_sub hl [2, 3, 4, 5, 6] rfl)
            · have hw := hw.2 c_492
              refine lv_iconst (v := 0) hx hb dL_law_495 (by decide) ?_
              exact hw.elim
      · have hw := hw.2 c_468
        refine lv_iconst (v := 0) hx hb dL_law_471 (by decide) ?_
        exact hw.elim
set_option maxHeartbeats 4000000 in
set_option maxRecDepth 100000 in
theorem tb_law_500 {p : Program} {l : Launch} {e : Env} {s : State} {m : MethodId} {below : List Frame} {meth : Method} {c : Code} {dC : Nat → ClassId} {dI : Nat → Nat → Nat} {dA : Nat → ClassId} {zz : Nat → Nat} {o : Nat} {ad : Nat → Nat} {b x0 ou Ln : Nat} {xs : Nat → Int32} (C : lCx p l s m meth c dC dI dA zz b Ln xs) {k23_ : mS → mG → List Nat → pF → Nat → Int32 → Prop} (h23_ : ∀ (S : mS) (G : mG) (L : List Nat) (f : pF) (k : Nat) (a4 : Int32), k23_ S G L f k a4 → lAt p l e s m below meth c dC dI dA o ad b (100 + 16 * k) (26000 + 2048 * k) 23 [(0, .ref b), (1, .ref x0), (2, .ref o), (3, .ref ou), (4, .int a4)] [] S G L f) : ∀ (S : mS) (G : mG) (L : List Nat) (f : pF) (k : Nat) (a4 : Int32), wp_law_500 dA zz x0 ou Ln xs k23_ S G L f k a4 → lAt p l e s m below meth c dC dI dA o ad b (100 + 16 * k + 0) (26000 + 2048 * k + 0) 500 [(0, .ref b), (1, .ref x0), (2, .ref o), (3, .ref ou), (4, .int a4)] [] S G L f := by
  obtain ⟨hx, hb, hml, hown, hts, hr, hlocks, hA, hK, hB, hz, hN, hT, hlt, hX, hbl, hbA⟩ := lCx_use C
  intro S G L f k a4 hw H locs hP hD hS ls hl
  rw [wp_law_500] at hw
  obtain ⟨hk9, hw⟩ := hw
  refine lv_aload_n hx hb dL_law_500 rfl (lv_at hl 1 rfl) ?_
  refine lv_aload_n hx hb dL_law_501 rfl (lv_at hl 0 rfl) ?_
  refine lv_iload hx hb dL_law_502 (lv_at hl 4 rfl) ?_
  refine lv_iconst (v := 1) hx hb dL_law_504 (by decide) ?_
  refine lv_iadd hx hb dL_law_505 ?_
  refine va_sld hx hb hX hbl hbA hS hw.1 dL_law_506 ?_
  refine lv_topi (fun g_506 eg_506 => ?_)
  have hw := hw.2 g_506 eg_506
  refine lv_aload_n hx hb dL_law_507 rfl (lv_at hl 0 rfl) ?_
  refine lv_iload hx hb dL_law_508 (lv_at hl 4 rfl) ?_
  refine lv_iconst (v := 2) hx hb dL_law_510 (by decide) ?_
  refine lv_iadd hx hb dL_law_511 ?_
  refine va_sld hx hb hX hbl hbA hS hw.1 dL_law_512 ?_
  refine lv_topi (fun g_512 eg_512 => ?_)
  have hw := hw.2 g_512 eg_512
  refine lv_aload_n hx hb dL_law_513 rfl (lv_at hl 3 rfl) ?_
  have hFc := p_free (lPoolD hD) hS hA
  refine va_calli (vx_runSW (As := [.ref x0, .int g_506, .int g_512, .ref ou]) (rest := []) ⟨hx, hb, hml, hown, hts⟩ (c_L_kind l hlt dC dI dA zz s.heap.size L f H.size x0 g_506 g_512 ou _ hw) (vx_cwSW 4 hts gL_law_L_kind rfl rfl rfl (by decide +kernel) ⟨by decide, by decide⟩) (pPreS [.ref x0, .int g_506, .int g_512, .ref ou] hK (lPool hP) (lPoolD hD) hS hB hz hN hT) rfl rfl hl.1 rfl (lv_room (Nat.le_of_ble_eq_true rfl)) dL_law_514 ⟨by show _ ≤ 601024; omega, by show _ ≤ 7293034; omega⟩) hS (fun q _ h => hFc q h) hFc (fun r_514 u t H1 locs ht hvm hw hB1 hz1 hk1 hS => ?_)
  obtain ⟨L_514, f_514⟩ := u
  obtain ⟨hP1, -, hD1⟩ := hB1
  rw [ht] at hP1
  have hw := id hw
  obtain ⟨hP, hD⟩ := lJoinP hP hD hk1 hFc hP1 hD1
  generalize H1 = H at hP hS ⊢
  refine W.widen (k := 100 + 16 * k + 2) (n := 26000 + 2048 * k + 12) (by omega) (by omega) ?_
  refine lv_istore (lv' := [(5, .int r_514), (0, .ref b), (1, .ref x0), (2, .ref o), (3, .ref ou), (4, .int a4)]) hx hb dL_law_517 hl (by decide) rfl (fun ls hl => ?_)
  refine lv_aload_n hx hb dL_law_519 rfl (lv_at hl 3 rfl) ?_
  refine lv_aload_n hx hb dL_law_520 rfl (lv_at hl 1 rfl) ?_
  refine lv_iload hx hb dL_law_521 (lv_at hl 5 rfl) ?_
  refine lv_iconst (v := 1) hx hb dL_law_523 (by decide) ?_
  refine lv_iadd hx hb dL_law_524 ?_
  refine va_sld hx hb hX hbl hbA hS hw.1 dL_law_525 ?_
  refine lv_topi (fun g_525 eg_525 => ?_)
  have hw := hw.2 g_525 eg_525
  refine lv_aload_n hx hb dL_law_526 rfl (lv_at hl 1 rfl) ?_
  refine lv_iload hx hb dL_law_527 (lv_at hl 5 rfl) ?_
  refine lv_iconst (v := 2) hx hb dL_law_529 (by decide) ?_
  refine lv_iadd hx hb dL_law_530 ?_
  refine va_sld hx hb hX hbl hbA hS hw.1 dL_law_531 ?_
  refine lv_topi (fun g_531 eg_531 => ?_)
  have hw := hw.2 g_531 eg_531
  have hFc := mFree (lModD hD) hS hA
  refine va_calli (va_runV (As := [.int g_525, .int g_531]) (rest := []) ⟨hx, hb, hml, hown, hts⟩ (c_X9_kind l dC dI (dA 1) (dA 2) (dA 5) o ad S G H.size g_525 g_531 _ hw) (cwV 2 hts gL_law_X9_kind rfl rfl rfl (by decide +kernel) ⟨by decide, by decide⟩) (mPreV [.int g_525, .int g_531] (lKm hK) (lMod hP) (lModD hD)) rfl rfl hl.1 rfl (lv_room (Nat.le_of_ble_eq_true rfl)) dL_law_532 ⟨by show _ ≤ 601024; omega, by show _ ≤ 7293034; omega⟩) hS (fun q _ h => hFc q h) hFc (fun r_532 u t H1 locs ht hvm hw hB1 hz1 hk1 hS => ?_)
  obtain ⟨S_532, G_532⟩ := u
  obtain ⟨hP1, -, hD1⟩ := hB1
  rw [ht] at hP1
  have hw := id hw
  obtain ⟨hP, hD⟩ := lJoinM hP hD hk1 hFc hP1 hD1
  generalize H1 = H at hP hS ⊢
  refine W.cs (Nat.add_zero _) (Nat.add_zero _) ?_
  refine lv_istore (lv' := [(6, .int r_532), (5, .int r_514), (0, .ref b), (1, .ref x0), (2, .ref o), (3, .ref ou), (4, .int a4)]) hx hb dL_law_535 hl (by decide) rfl (fun ls hl => ?_)
  refine lv_aload_n hx hb dL_law_537 rfl (lv_at hl 4 rfl) ?_
  have hFc := mFree (lModD hD) hS hA
  refine va_calli (va_runV (As := []) (rest := []) ⟨hx, hb, hml, hown, hts⟩ (c_X9_thrown l dC dI (dA 1) (dA 2) (dA 5) o ad S_532 G_532 H.size  _ hw) (cwV 0 hts gL_law_X9_thrown rfl rfl rfl (by decide +kernel) ⟨by decide, by decide⟩) (mPreV [] (lKm hK) (lMod hP) (lModD hD)) rfl rfl hl.1 rfl (lv_room (Nat.le_of_ble_eq_true rfl)) dL_law_538 ⟨by show _ ≤ 601024; omega, by show _ ≤ 7293034; omega⟩) hS (fun q _ h => hFc q h) hFc (fun r_538 u t H1 locs ht hvm hw hB1 hz1 hk1 hS => ?_)
  obtain ⟨S_538, G_538⟩ := u
  obtain ⟨hP1, -, hD1⟩ := hB1
  rw [ht] at hP1
  have hw := id hw
  obtain ⟨hP, hD⟩ := lJoinM hP hD hk1 hFc hP1 hD1
  generalize H1 = H at hP hS ⊢
  refine W.cs (Nat.add_zero _) (Nat.add_zero _) ?_
  refine lv_iload hx hb dL_law_541 (lv_at hl 1 rfl) ?_
  refine lv_icmp_eq (tgt := 548) hx hb dL_law_543 (by decide) (fun c_543 => ?_) (fun c_543 => ?_)
  · have hw := hw.1 c_543
    refine lv_iload hx hb dL_law_548 (lv_at hl 1 rfl) ?_
    refine lv_if_ne (tgt := 565) hx hb dL_law_550 (by decide) (fun c_550 => ?_) (fun c_550 => ?_)
    · have hw := hw.1 c_550
      refine lv_goto (tgt := 1406) hx hb dL_law_565 (by decide) ?_
      refine W.widen (k := 100 + 16 * k + 16) (n := 26000 + 2048 * k + 2048) (by omega) (by omega) ?_
      exact tb_law_1406 C h23_ S_538 G_538 L_514 f_514 k a4 hw H locs hP hD hS ls (lv_sub hl [2, 3, 4, 5, 6] rfl)
    · have hw := hw.2 c_550
      refine lv_aload_n hx hb dL_law_553 rfl (lv_at hl 5 rfl) ?_
      refine lv_iconst (v := 0) hx hb dL_law_554 (by decide) ?_
      obtain ⟨n_555, h_555, ⟨hL9, hf9, hn9⟩, hw⟩ := hw
      refine va_lald hx hb hK (p_one (lPool hP) hL9 hf9) 0 2 rfl rfl hn9 dL_law_555 ?_
      refine lv_topl (fun g_555 eg_555 => ?_)
      rw [← eg_555] at hw
      refine lv_iload hx hb dL_law_556 (lv_at hl 0 rfl) ?_
      refine lv_i2l hx hb dL_law_558 rfl ?_
      refine W.lcmp hx hb dL_law_559 ?_
      refine lv_if_eq (tgt := 565) hx hb dL_law_560 (by decide) (fun c_560 => ?_) (fun c_560 => ?_)
      · have hw := hw.1 c_560
        refine lv_goto (tgt := 1406) hx hb dL_law_565 (by decide) ?_
        refine W.widen (k := 100 + 16 * k + 16) (n := 26000 + 2048 * k + 2048) (by omega) (by omega) ?_
        exact tb_law_1406 C h23_ S_538 G_538 L_514 f_514 k a4 hw H locs hP hD hS ls (lv_sub hl [2, 3, 4, 5, 6] rfl)
      · have hw := hw.2 c_560
        refine lv_iconst (v := 0) hx hb dL_law_563 (by decide) ?_
        exact hw.elim
  · have hw := hw.2 c_543
    refine lv_iconst (v := 0) hx hb dL_law_546 (by decide) ?_
    exact hw.elim
set_option maxHeartbeats 4000000 in
set_option maxRecDepth 100000 in
theorem tb_law_568 {p : Program} {l : Launch} {e : Env} {s : State} {m : MethodId} {below : List Frame} {meth : Method} {c : Code} {dC : Nat → ClassId} {dI : Nat → Nat → Nat} {dA : Nat → ClassId} {zz : Nat → Nat} {o : Nat} {ad : Nat → Nat} {b x0 ou Ln : Nat} {xs : Nat → Int32} (C : lCx p l s m meth c dC dI dA zz b Ln xs) {k23_ : mS → mG → List Nat → pF → Nat → Int32 → Prop} (h23_ : ∀ (S : mS) (G : mG) (L : List Nat) (f : pF) (k : Nat) (a4 : Int32), k23_ S G L f k a4 → lAt p l e s m below meth c dC dI dA o ad b (100 + 16 * k) (26000 + 2048 * k) 23 [(0, .ref b), (1, .ref x0), (2, .ref o), (3, .ref ou), (4, .int a4)] [] S G L f) : ∀ (S : mS) (G : mG) (L : List Nat) (f : pF) (k : Nat) (a4 : Int32), wp_law_568 dA zz x0 ou Ln xs k23_ S G L f k a4 → lAt p l e s m below meth c dC dI dA o ad b (100 + 16 * k + 0) (26000 + 2048 * k + 0) 568 [(0, .ref b), (1, .ref x0), (2, .ref o), (3, .ref ou), (4, .int a4)] [] S G L f := by
  obtain ⟨hx, hb, hml, hown, hts, hr, hlocks, hA, hK, hB, hz, hN, hT, hlt, hX, hbl, hbA⟩ := lCx_use C
  intro S G L f k a4 hw H locs hP hD hS ls hl
  rw [wp_law_568] at hw
  obtain ⟨hk9, hw⟩ := hw
  refine lv_aload_n hx hb dL_law_568 rfl (lv_at hl 1 rfl) ?_
  refine lv_aload_n hx hb dL_law_569 rfl (lv_at hl 0 rfl) ?_
  refine lv_iload hx hb dL_law_570 (lv_at hl 4 rfl) ?_
  refine lv_iconst (v := 1) hx hb dL_law_572 (by decide) ?_
  refine lv_iadd hx hb dL_law_573 ?_
  refine va_sld hx hb hX hbl hbA hS hw.1 dL_law_574 ?_
  refine lv_topi (fun g_574 eg_574 => ?_)
  have hw := hw.2 g_574 eg_574
  refine lv_aload_n hx hb dL_law_575 rfl (lv_at hl 0 rfl) ?_
  refine lv_iload hx hb dL_law_576 (lv_at hl 4 rfl) ?_
  refine lv_iconst (v := 2) hx hb dL_law_578 (by decide) ?_
  refine lv_iadd hx hb dL_law_579 ?_
  refine va_sld hx hb hX hbl hbA hS hw.1 dL_law_580 ?_
  refine lv_topi (fun g_580 eg_580 => ?_)
  have hw := hw.2 g_580 eg_580
  refine lv_aload_n hx hb dL_law_581 rfl (lv_at hl 3 rfl) ?_
  have hFc := p_free (lPoolD hD) hS hA
  refine va_calli (vx_runSW (As := [.ref x0, .int g_574, .int g_580, .ref ou]) (rest := []) ⟨hx, hb, hml, hown, hts⟩ (c_L_about l hlt dC dI dA zz s.heap.size L f H.size x0 g_574 g_580 ou _ hw) (vx_cwSW 4 hts gL_law_L_about rfl rfl rfl (by decide +kernel) ⟨by decide, by decide⟩) (pPreS [.ref x0, .int g_574, .int g_580, .ref ou] hK (lPool hP) (lPoolD hD) hS hB hz hN hT) rfl rfl hl.1 rfl (lv_room (Nat.le_of_ble_eq_true rfl)) dL_law_582 ⟨by show _ ≤ 601024; omega, by show _ ≤ 7293034; omega⟩) hS (fun q _ h => hFc q h) hFc (fun r_582 u t H1 locs ht hvm hw hB1 hz1 hk1 hS => ?_)
  obtain ⟨L_582, f_582⟩ := u
  obtain ⟨hP1, -, hD1⟩ := hB1
  rw [ht] at hP1
  have hw := id hw
  obtain ⟨hP, hD⟩ := lJoinP hP hD hk1 hFc hP1 hD1
  generalize H1 = H at hP hS ⊢
  refine W.widen (k := 100 + 16 * k + 2) (n := 26000 + 2048 * k + 12) (by omega) (by omega) ?_
  refine lv_istore (lv' := [(5, .int r_582), (0, .ref b), (1, .ref x0), (2, .ref o), (3, .ref ou), (4, .int a4)]) hx hb dL_law_585 hl (by decide) rfl (fun ls hl => ?_)
  refine lv_aload_n hx hb dL_law_587 rfl (lv_at hl 3 rfl) ?_
  refine lv_aload_n hx hb dL_law_588 rfl (lv_at hl 1 rfl) ?_
  refine lv_iload hx hb dL_law_589 (lv_at hl 5 rfl) ?_
  refine lv_iconst (v := 1) hx hb dL_law_591 (by decide) ?_
  refine lv_iadd hx hb dL_law_592 ?_
  refine va_sld hx hb hX hbl hbA hS hw.1 dL_law_593 ?_
  refine lv_topi (fun g_593 eg_593 => ?_)
  have hw := hw.2 g_593 eg_593
  refine lv_aload_n hx hb dL_law_594 rfl (lv_at hl 1 rfl) ?_
  refine lv_iload hx hb dL_law_595 (lv_at hl 5 rfl) ?_
  refine lv_iconst (v := 2) hx hb dL_law_597 (by decide) ?_
  refine lv_iadd hx hb dL_law_598 ?_
  refine va_sld hx hb hX hbl hbA hS hw.1 dL_law_599 ?_
  refine lv_topi (fun g_599 eg_599 => ?_)
  have hw := hw.2 g_599 eg_599
  have hFc := mFree (lModD hD) hS hA
  refine va_calli (va_runV (As := [.int g_593, .int g_599]) (rest := []) ⟨hx, hb, hml, hown, hts⟩ (c_X9_about l dC dI (dA 1) (dA 2) (dA 5) o ad S G H.size g_593 g_599 _ hw) (cwV 2 hts gL_law_X9_about rfl rfl rfl (by decide +kernel) ⟨by decide, by decide⟩) (mPreV [.int g_593, .int g_599] (lKm hK) (lMod hP) (lModD hD)) rfl rfl hl.1 rfl (lv_room (Nat.le_of_ble_eq_true rfl)) dL_law_600 ⟨by show _ ≤ 601024; omega, by show _ ≤ 7293034; omega⟩) hS (fun q _ h => hFc q h) hFc (fun r_600 u t H1 locs ht hvm hw hB1 hz1 hk1 hS => ?_)
  obtain ⟨S_600, G_600⟩ := u
  obtain ⟨hP1, -, hD1⟩ := hB1
  rw [ht] at hP1
  have hw := id hw
  obtain ⟨hP, hD⟩ := lJoinM hP hD hk1 hFc hP1 hD1
  generalize H1 = H at hP hS ⊢
  refine W.cs (Nat.add_zero _) (Nat.add_zero _) ?_
  refine lv_istore (lv' := [(6, .int r_600), (5, .int r_582), (0, .ref b), (1, .ref x0), (2, .ref o), (3, .ref ou), (4, .int a4)]) hx hb dL_law_603 hl (by decide) rfl (fun ls hl => ?_)
  refine lv_aload_n hx hb dL_law_605 rfl (lv_at hl 4 rfl) ?_
  have hFc := mFree (lModD hD) hS hA
  refine va_calli (va_runV (As := []) (rest := []) ⟨hx, hb, hml, hown, hts⟩ (c_X9_thrown l dC dI (dA 1) (dA 2) (dA 5) o ad S_600 G_600 H.size  _ hw) (cwV 0 hts gL_law_X9_thrown rfl rfl rfl (by decide +kernel) ⟨by decide, by decide⟩) (mPreV [] (lKm hK) (lMod hP) (lModD hD)) rfl rfl hl.1 rfl (lv_room (Nat.le_of_ble_eq_true rfl)) dL_law_606 ⟨by show _ ≤ 601024; omega, by show _ ≤ 7293034; omega⟩) hS (fun q _ h => hFc q h) hFc (fun r_606 u t H1 locs ht hvm hw hB1 hz1 hk1 hS => ?_)
  obtain ⟨S_606, G_606⟩ := u
  obtain ⟨hP1, -, hD1⟩ := hB1
  rw [ht] at hP1
  have hw := id hw
  obtain ⟨hP, hD⟩ := lJoinM hP hD hk1 hFc hP1 hD1
  generalize H1 = H at hP hS ⊢
  refine W.cs (Nat.add_zero _) (Nat.add_zero _) ?_
  refine lv_iload hx hb dL_law_609 (lv_at hl 1 rfl) ?_
  refine lv_icmp_eq (tgt := 616) hx hb dL_law_611 (by decide) (fun c_611 => ?_) (fun c_611 => ?_)
  · have hw := hw.1 c_611
    refine lv_iload hx hb dL_law_616 (lv_at hl 1 rfl) ?_
    refine lv_if_ne (tgt := 633) hx hb dL_law_618 (by decide) (fun c_618 => ?_) (fun c_618 => ?_)
    · have hw := hw.1 c_618
      refine lv_goto (tgt := 1406) hx hb dL_law_633 (by decide) ?_
      refine W.widen (k := 100 + 16 * k + 16) (n := 26000 + 2048 * k + 2048) (by omega) (by omega) ?_
      exact tb_law_1406 C h23_ S_606 G_606 L_582 f_582 k a4 hw H locs hP hD hS ls (lv_sub hl [2, 3, 4, 5, 6] rfl)
    · have hw := hw.2 c_618
      refine lv_aload_n hx hb dL_law_621 rfl (lv_at hl 5 rfl) ?_
      refine lv_iconst (v := 0) hx hb dL_law_622 (by decide) ?_
      obtain ⟨n_623, h_623, ⟨hL9, hf9, hn9⟩, hw⟩ := hw
      refine va_lald hx hb hK (p_one (lPool hP) hL9 hf9) 0 2 rfl rfl hn9 dL_law_623 ?_
      refine lv_topl (fun g_623 eg_623 => ?_)
      rw [← eg_623] at hw
      refine lv_iload hx hb dL_law_624 (lv_at hl 0 rfl) ?_
      refine lv_i2l hx hb dL_law_626 rfl ?_
      refine W.lcmp hx hb dL_law_627 ?_
      refine lv_if_eq (tgt := 633) hx hb dL_law_628 (by decide) (fun c_628 => ?_) (fun c_628 => ?_)
      · have hw := hw.1 c_628
        refine lv_goto (tgt := 1406) hx hb dL_law_633 (by decide) ?_
        refine W.widen (k := 100 + 16 * k + 16) (n := 26000 + 2048 * k + 2048) (by omega) (by omega) ?_
        exact tb_law_1406 C h23_ S_606 G_606 L_582 f_582 k a4 hw H locs hP hD hS ls (lv_sub hl [2, 3, 4, 5, 6] rfl)
      · have hw := hw.2 c_628
        refine lv_iconst (v := 0) hx hb dL_law_631 (by decide) ?_
        exact hw.elim
  · have hw := hw.2 c_611
    refine lv_iconst (v := 0) hx hb dL_law_614 (by decide) ?_
    exact hw.elim
set_option maxHeartbeats 4000000 in
set_option maxRecDepth 100000 in
theorem tb_law_636 {p : Program} {l : Launch} {e : Env} {s : State} {m : MethodId} {below : List Frame} {meth : Method} {c : Code} {dC : Nat → ClassId} {dI : Nat → Nat → Nat} {dA : Nat → ClassId} {zz : Nat → Nat} {o : Nat} {ad : Nat → Nat} {b x0 ou Ln : Nat} {xs : Nat → Int32} (C : lCx p l s m meth c dC dI dA zz b Ln xs) {k23_ : mS → mG → List Nat → pF → Nat → Int32 → Prop} (h23_ : ∀ (S : mS) (G : mG) (L : List Nat) (f : pF) (k : Nat) (a4 : Int32), k23_ S G L f k a4 → lAt p l e s m below meth c dC dI dA o ad b (100 + 16 * k) (26000 + 2048 * k) 23 [(0, .ref b), (1, .ref x0), (2, .ref o), (3, .ref ou), (4, .int a4)] [] S G L f) : ∀ (S : mS) (G : mG) (L : List Nat) (f : pF) (k : Nat) (a4 : Int32), wp_law_636 dA zz x0 ou Ln xs k23_ S G L f k a4 → lAt p l e s m below meth c dC dI dA o ad b (100 + 16 * k + 0) (26000 + 2048 * k + 0) 636 [(0, .ref b), (1, .ref x0), (2, .ref o), (3, .ref ou), (4, .int a4)] [] S G L f := by
  obtain ⟨hx, hb, hml, hown, hts, hr, hlocks, hA, hK, hB, hz, hN, hT, hlt, hX, hbl, hbA⟩ := lCx_use C
  intro S G L f k a4 hw H locs hP hD hS ls hl
  rw [wp_law_636] at hw
  obtain ⟨hk9, hw⟩ := hw
  refine lv_aload_n hx hb dL_law_636 rfl (lv_at hl 1 rfl) ?_
  refine lv_aload_n hx hb dL_law_637 rfl (lv_at hl 0 rfl) ?_
  refine lv_iload hx hb dL_law_638 (lv_at hl 4 rfl) ?_
  refine lv_iconst (v := 1) hx hb dL_law_640 (by decide) ?_
  refine lv_iadd hx hb dL_law_641 ?_
  refine va_sld hx hb hX hbl hbA hS hw.1 dL_law_642 ?_
  refine lv_topi (fun g_642 eg_642 => ?_)
  have hw := hw.2 g_642 eg_642
  refine lv_aload_n hx hb dL_law_643 rfl (lv_at hl 0 rfl) ?_
  refine lv_iload hx hb dL_law_644 (lv_at hl 4 rfl) ?_
  refine lv_iconst (v := 2) hx hb dL_law_646 (by decide) ?_
  refine lv_iadd hx hb dL_law_647 ?_
  refine va_sld hx hb hX hbl hbA hS hw.1 dL_law_648 ?_
  refine lv_topi (fun g_648 eg_648 => ?_)
  have hw := hw.2 g_648 eg_648
  refine lv_aload_n hx hb dL_law_649 rfl (lv_at hl 0 rfl) ?_
  refine lv_iload hx hb dL_law_650 (lv_at hl 4 rfl) ?_
  refine lv_iconst (v := 3) hx hb dL_law_652 (by decide) ?_
  refine lv_iadd hx hb dL_law_653 ?_
  refine va_sld hx hb hX hbl hbA hS hw.1 dL_law_654 ?_
  refine lv_topi (fun g_654 eg_654 => ?_)
  have hw := hw.2 g_654 eg_654
  refine lv_aload_n hx hb dL_law_655 rfl (lv_at hl 0 rfl) ?_
  refine lv_iload hx hb dL_law_656 (lv_at hl 4 rfl) ?_
  refine lv_iconst (v := 4) hx hb dL_law_658 (by decide) ?_
  refine lv_iadd hx hb dL_law_659 ?_
  refine va_sld hx hb hX hbl hbA hS hw.1 dL_law_660 ?_
  refine lv_topi (fun g_660 eg_660 => ?_)
  have hw := hw.2 g_660 eg_660
  refine lv_aload_n hx hb dL_law_661 rfl (lv_at hl 0 rfl) ?_
  refine lv_iload hx hb dL_law_662 (lv_at hl 4 rfl) ?_
  refine lv_iconst (v := 5) hx hb dL_law_664 (by decide) ?_
  refine lv_iadd hx hb dL_law_665 ?_
  refine va_sld hx hb hX hbl hbA hS hw.1 dL_law_666 ?_
  refine lv_topi (fun g_666 eg_666 => ?_)
  have hw := hw.2 g_666 eg_666
  refine lv_aload_n hx hb dL_law_667 rfl (lv_at hl 0 rfl) ?_
  refine lv_iload hx hb dL_law_668 (lv_at hl 4 rfl) ?_
  refine lv_bipush (v := 6) hx hb dL_law_670 (by decide) ?_
  refine lv_iadd hx hb dL_law_672 ?_
  refine va_sld hx hb hX hbl hbA hS hw.1 dL_law_673 ?_
  refine lv_topi (fun g_673 eg_673 => ?_)
  have hw := hw.2 g_673 eg_673
  refine lv_aload_n hx hb dL_law_674 rfl (lv_at hl 3 rfl) ?_
  have hFc := p_free (lPoolD hD) hS hA
  refine va_calli (vx_runSW (As := [.ref x0, .int g_642, .int g_648, .int g_654, .int g_660, .int g_666, .int g_673, .ref ou]) (rest := []) ⟨hx, hb, hml, hown, hts⟩ (c_L_write l hlt dC dI dA zz s.heap.size L f H.size x0 g_642 g_648 g_654 g_660 g_666 g_673 ou _ hw) (vx_cwSW 8 hts gL_law_L_write rfl rfl rfl (by decide +kernel) ⟨by decide, by decide⟩) (pPreS [.ref x0, .int g_642, .int g_648, .int g_654, .int g_660, .int g_666, .int g_673, .ref ou] hK (lPool hP) (lPoolD hD) hS hB hz hN hT) rfl rfl hl.1 rfl (lv_room (Nat.le_of_ble_eq_true rfl)) dL_law_675 ⟨by show _ ≤ 601024; omega, by show _ ≤ 7293034; omega⟩) hS (fun q _ h => hFc q h) hFc (fun r_675 u t H1 locs ht hvm hw hB1 hz1 hk1 hS => ?_)
  obtain ⟨L_675, f_675⟩ := u
  obtain ⟨hP1, -, hD1⟩ := hB1
  rw [ht] at hP1
  have hw := id hw
  obtain ⟨hP, hD⟩ := lJoinP hP hD hk1 hFc hP1 hD1
  generalize H1 = H at hP hS ⊢
  refine W.widen (k := 100 + 16 * k + 1) (n := 26000 + 2048 * k + 6) (by omega) (by omega) ?_
  refine lv_istore (lv' := [(5, .int r_675), (0, .ref b), (1, .ref x0), (2, .ref o), (3, .ref ou), (4, .int a4)]) hx hb dL_law_678 hl (by decide) rfl (fun ls hl => ?_)
  refine lv_aload_n hx hb dL_law_680 rfl (lv_at hl 3 rfl) ?_
  refine lv_aload_n hx hb dL_law_681 rfl (lv_at hl 1 rfl) ?_
  refine lv_iload hx hb dL_law_682 (lv_at hl 5 rfl) ?_
  refine lv_iconst (v := 1) hx hb dL_law_684 (by decide) ?_
  refine lv_iadd hx hb dL_law_685 ?_
  refine va_sld hx hb hX hbl hbA hS hw.1 dL_law_686 ?_
  refine lv_topi (fun g_686 eg_686 => ?_)
  have hw := hw.2 g_686 eg_686
  refine lv_aload_n hx hb dL_law_687 rfl (lv_at hl 1 rfl) ?_
  refine lv_iload hx hb dL_law_688 (lv_at hl 5 rfl) ?_
  refine lv_iconst (v := 2) hx hb dL_law_690 (by decide) ?_
  refine lv_iadd hx hb dL_law_691 ?_
  refine va_sld hx hb hX hbl hbA hS hw.1 dL_law_692 ?_
  refine lv_topi (fun g_692 eg_692 => ?_)
  have hw := hw.2 g_692 eg_692
  refine lv_aload_n hx hb dL_law_693 rfl (lv_at hl 1 rfl) ?_
  refine lv_iload hx hb dL_law_694 (lv_at hl 5 rfl) ?_
  refine lv_iconst (v := 3) hx hb dL_law_696 (by decide) ?_
  refine lv_iadd hx hb dL_law_697 ?_
  refine va_sld hx hb hX hbl hbA hS hw.1 dL_law_698 ?_
  refine lv_topi (fun g_698 eg_698 => ?_)
  have hw := hw.2 g_698 eg_698
  refine lv_aload_n hx hb dL_law_699 rfl (lv_at hl 1 rfl) ?_
  refine lv_iload hx hb dL_law_700 (lv_at hl 5 rfl) ?_
  refine lv_iconst (v := 4) hx hb dL_law_702 (by decide) ?_
  refine lv_iadd hx hb dL_law_703 ?_
  refine va_sld hx hb hX hbl hbA hS hw.1 dL_law_704 ?_
  refine lv_topi (fun g_704 eg_704 => ?_)
  have hw := hw.2 g_704 eg_704
  refine lv_aload_n hx hb dL_law_705 rfl (lv_at hl 1 rfl) ?_
  refine lv_iload hx hb dL_law_706 (lv_at hl 5 rfl) ?_
  refine lv_iconst (v := 5) hx hb dL_law_708 (by decide) ?_
  refine lv_iadd hx hb dL_law_709 ?_
  refine va_sld hx hb hX hbl hbA hS hw.1 dL_law_710 ?_
  refine lv_topi (fun g_710 eg_710 => ?_)
  have hw := hw.2 g_710 eg_710
  refine lv_aload_n hx hb dL_law_711 rfl (lv_at hl 1 rfl) ?_
  refine lv_iload hx hb dL_law_712 (lv_at hl 5 rfl) ?_
  refine lv_bipush (v := 6) hx hb dL_law_714 (by decide) ?_
  refine lv_iadd hx hb dL_law_716 ?_
  refine va_sld hx hb hX hbl hbA hS hw.1 dL_law_717 ?_
  refine lv_topi (fun g_717 eg_717 => ?_)
  have hw := hw.2 g_717 eg_717
  have hFc := mFree (lModD hD) hS hA
  refine va_calli (va_runV (As := [.int g_686, .int g_692, .int g_698, .int g_704, .int g_710, .int g_717]) (rest := []) ⟨hx, hb, hml, hown, hts⟩ (c_X9_write l dC dI (dA 1) (dA 2) (dA 5) o ad S G H.size g_686 g_692 g_698 g_704 g_710 g_717 _ hw) (cwV 6 hts gL_law_X9_write rfl rfl rfl (by decide +kernel) ⟨by decide, by decide⟩) (mPreV [.int g_686, .int g_692, .int g_698, .int g_704, .int g_710, .int g_717] (lKm hK) (lMod hP) (lModD hD)) rfl rfl hl.1 rfl (lv_room (Nat.le_of_ble_eq_true rfl)) dL_law_718 ⟨by show _ ≤ 601024; omega, by show _ ≤ 7293034; omega⟩) hS (fun q _ h => hFc q h) hFc (fun r_718 u t H1 locs ht hvm hw hB1 hz1 hk1 hS => ?_)
  obtain ⟨S_718, G_718⟩ := u
  obtain ⟨hP1, -, hD1⟩ := hB1
  rw [ht] at hP1
  have hw := id hw
  obtain ⟨hP, hD⟩ := lJoinM hP hD hk1 hFc hP1 hD1
  generalize H1 = H at hP hS ⊢
  refine W.cs (Nat.add_zero _) (Nat.add_zero _) ?_
  refine lv_istore (lv' := [(6, .int r_718), (5, .int r_675), (0, .ref b), (1, .ref x0), (2, .ref o), (3, .ref ou), (4, .int a4)]) hx hb dL_law_721 hl (by decide) rfl (fun ls hl => ?_)
  refine lv_aload_n hx hb dL_law_723 rfl (lv_at hl 4 rfl) ?_
  have hFc := mFree (lModD hD) hS hA
  refine va_calli (va_runV (As := []) (rest := []) ⟨hx, hb, hml, hown, hts⟩ (c_X9_thrown l dC dI (dA 1) (dA 2) (dA 5) o ad S_718 G_718 H.size  _ hw) (cwV 0 hts gL_law_X9_thrown rfl rfl rfl (by decide +kernel) ⟨by decide, by decide⟩) (mPreV [] (lKm hK) (lMod hP) (lModD hD)) rfl rfl hl.1 rfl (lv_room (Nat.le_of_ble_eq_true rfl)) dL_law_724 ⟨by show _ ≤ 601024; omega, by show _ ≤ 7293034; omega⟩) hS (fun q _ h => hFc q h) hFc (fun r_724 u t H1 locs ht hvm hw hB1 hz1 hk1 hS => ?_)
  obtain ⟨S_724, G_724⟩ := u
  obtain ⟨hP1, -, hD1⟩ := hB1
  rw [ht] at hP1
  have hw := id hw
  obtain ⟨hP, hD⟩ := lJoinM hP hD hk1 hFc hP1 hD1
  generalize H1 = H at hP hS ⊢
  refine W.cs (Nat.add_zero _) (Nat.add_zero _) ?_
  refine lv_iload hx hb dL_law_727 (lv_at hl 1 rfl) ?_
  refine lv_icmp_eq (tgt := 734) hx hb dL_law_729 (by decide) (fun c_729 => ?_) (fun c_729 => ?_)
  · have hw := hw.1 c_729
    refine lv_iload hx hb dL_law_734 (lv_at hl 1 rfl) ?_
    refine lv_if_ne (tgt := 751) hx hb dL_law_736 (by decide) (fun c_736 => ?_) (fun c_736 => ?_)
    · have hw := hw.1 c_736
      refine lv_goto (tgt := 1406) hx hb dL_law_751 (by decide) ?_
      refine W.widen (k := 100 + 16 * k + 16) (n := 26000 + 2048 * k + 2048) (by omega) (by omega) ?_
      exact tb_law_1406 C h23_ S_724 G_724 L_675 f_675 k a4 hw H locs hP hD hS ls (lv_sub hl [2, 3, 4, 5, 6] rfl)
    · have hw := hw.2 c_736
      refine lv_aload_n hx hb dL_law_739 rfl (lv_at hl 5 rfl) ?_
      refine lv_iconst (v := 0) hx hb dL_law_740 (by decide) ?_
      obtain ⟨n_741, h_741, ⟨hL9, hf9, hn9⟩, hw⟩ := hw
      refine va_lald hx hb hK (p_one (lPool hP) hL9 hf9) 0 2 rfl rfl hn9 dL_law_741 ?_
      refine lv_topl (fun g_741 eg_741 => ?_)
      rw [← eg_741] at hw
      refine lv_iload hx hb dL_law_742 (lv_at hl 0 rfl) ?_
      refine lv_i2l hx hb dL_law_744 rfl ?_
      refine W.lcmp hx hb dL_law_745 ?_
      refine lv_if_eq (tgt := 751) hx hb dL_law_746 (by decide) (fun c_746 => ?_) (fun c_746 => ?_)
      · have hw := hw.1 c_746
        refine lv_goto (tgt := 1406) hx hb dL_law_751 (by decide) ?_
        refine W.widen (k := 100 + 16 * k + 16) (n := 26000 + 2048 * k + 2048) (by omega) (by omega) ?_
        exact tb_law_1406 C h23_ S_724 G_724 L_675 f_675 k a4 hw H locs hP hD hS ls (lv_sub hl [2, 3, 4, 5, 6] rfl)
      · have hw := hw.2 c_746
        refine lv_iconst (v := 0) hx hb dL_law_749 (by decide) ?_
        exact hw.elim
  · have hw := hw.2 c_729
    refine lv_iconst (v := 0) hx hb dL_law_732 (by decide) ?_
    exact hw.elim
set_option maxHeartbeats 4000000 in
set_option maxRecDepth 100000 in
theorem tb_law_754 {p : Program} {l : Launch} {e : Env} {s : State} {m : MethodId} {below : List Frame} {meth : Method} {c : Code} {dC : Nat → ClassId} {dI : Nat → Nat → Nat} {dA : Nat → ClassId} {zz : Nat → Nat} {o : Nat} {ad : Nat → Nat} {b x0 ou Ln : Nat} {xs : Nat → Int32} (C : lCx p l s m meth c dC dI dA zz b Ln xs) {k23_ : mS → mG → List Nat → pF → Nat → Int32 → Prop} (h23_ : ∀ (S : mS) (G : mG) (L : List Nat) (f : pF) (k : Nat) (a4 : Int32), k23_ S G L f k a4 → lAt p l e s m below meth c dC dI dA o ad b (100 + 16 * k) (26000 + 2048 * k) 23 [(0, .ref b), (1, .ref x0), (2, .ref o), (3, .ref ou), (4, .int a4)] [] S G L f) : ∀ (S : mS) (G : mG) (L : List Nat) (f : pF) (k : Nat) (a4 : Int32), wp_law_754 dA zz x0 ou Ln xs k23_ S G L f k a4 → lAt p l e s m below meth c dC dI dA o ad b (100 + 16 * k + 0) (26000 + 2048 * k + 0) 754 [(0, .ref b), (1, .ref x0), (2, .ref o), (3, .ref ou), (4, .int a4)] [] S G L f := by
  obtain ⟨hx, hb, hml, hown, hts, hr, hlocks, hA, hK, hB, hz, hN, hT, hlt, hX, hbl, hbA⟩ := lCx_use C
  intro S G L f k a4 hw H locs hP hD hS ls hl
  rw [wp_law_754] at hw
  obtain ⟨hk9, hw⟩ := hw
  refine lv_aload_n hx hb dL_law_754 rfl (lv_at hl 1 rfl) ?_
  refine lv_aload_n hx hb dL_law_755 rfl (lv_at hl 0 rfl) ?_
  refine lv_iload hx hb dL_law_756 (lv_at hl 4 rfl) ?_
  refine lv_iconst (v := 1) hx hb dL_law_758 (by decide) ?_
  refine lv_iadd hx hb dL_law_759 ?_
  refine va_sld hx hb hX hbl hbA hS hw.1 dL_law_760 ?_
  refine lv_topi (fun g_760 eg_760 => ?_)
  have hw := hw.2 g_760 eg_760
  refine lv_aload_n hx hb dL_law_761 rfl (lv_at hl 0 rfl) ?_
  refine lv_iload hx hb dL_law_762 (lv_at hl 4 rfl) ?_
  refine lv_iconst (v := 2) hx hb dL_law_764 (by decide) ?_
  refine lv_iadd hx hb dL_law_765 ?_
  refine va_sld hx hb hX hbl hbA hS hw.1 dL_law_766 ?_
  refine lv_topi (fun g_766 eg_766 => ?_)
  have hw := hw.2 g_766 eg_766
  refine lv_aload_n hx hb dL_law_767 rfl (lv_at hl 3 rfl) ?_
  have hFc := p_free (lPoolD hD) hS hA
  refine va_calli (vx_runSW (As := [.ref x0, .int g_760, .int g_766, .ref ou]) (rest := []) ⟨hx, hb, hml, hown, hts⟩ (c_L_cut l hlt dC dI dA zz s.heap.size L f H.size x0 g_760 g_766 ou _ hw) (vx_cwSW 4 hts gL_law_L_cut rfl rfl rfl (by decide +kernel) ⟨by decide, by decide⟩) (pPreS [.ref x0, .int g_760, .int g_766, .ref ou] hK (lPool hP) (lPoolD hD) hS hB hz hN hT) rfl rfl hl.1 rfl (lv_room (Nat.le_of_ble_eq_true rfl)) dL_law_768 ⟨by show _ ≤ 601024; omega, by show _ ≤ 7293034; omega⟩) hS (fun q _ h => hFc q h) hFc (fun r_768 u t H1 locs ht hvm hw hB1 hz1 hk1 hS => ?_)
  obtain ⟨L_768, f_768⟩ := u
  obtain ⟨hP1, -, hD1⟩ := hB1
  rw [ht] at hP1
  have hw := id hw
  obtain ⟨hP, hD⟩ := lJoinP hP hD hk1 hFc hP1 hD1
  generalize H1 = H at hP hS ⊢
  refine W.widen (k := 100 + 16 * k + 1) (n := 26000 + 2048 * k + 6) (by omega) (by omega) ?_
  refine lv_istore (lv' := [(5, .int r_768), (0, .ref b), (1, .ref x0), (2, .ref o), (3, .ref ou), (4, .int a4)]) hx hb dL_law_771 hl (by decide) rfl (fun ls hl => ?_)
  refine lv_aload_n hx hb dL_law_773 rfl (lv_at hl 3 rfl) ?_
  refine lv_aload_n hx hb dL_law_774 rfl (lv_at hl 1 rfl) ?_
  refine lv_iload hx hb dL_law_775 (lv_at hl 5 rfl) ?_
  refine lv_iconst (v := 1) hx hb dL_law_777 (by decide) ?_
  refine lv_iadd hx hb dL_law_778 ?_
  refine va_sld hx hb hX hbl hbA hS hw.1 dL_law_779 ?_
  refine lv_topi (fun g_779 eg_779 => ?_)
  have hw := hw.2 g_779 eg_779
  refine lv_aload_n hx hb dL_law_780 rfl (lv_at hl 1 rfl) ?_
  refine lv_iload hx hb dL_law_781 (lv_at hl 5 rfl) ?_
  refine lv_iconst (v := 2) hx hb dL_law_783 (by decide) ?_
  refine lv_iadd hx hb dL_law_784 ?_
  refine va_sld hx hb hX hbl hbA hS hw.1 dL_law_785 ?_
  refine lv_topi (fun g_785 eg_785 => ?_)
  have hw := hw.2 g_785 eg_785
  have hFc := mFree (lModD hD) hS hA
  refine va_calli (va_runV (As := [.int g_779, .int g_785]) (rest := []) ⟨hx, hb, hml, hown, hts⟩ (c_X9_cut l dC dI (dA 1) (dA 2) (dA 5) o ad S G H.size g_779 g_785 _ hw) (cwV 2 hts gL_law_X9_cut rfl rfl rfl (by decide +kernel) ⟨by decide, by decide⟩) (mPreV [.int g_779, .int g_785] (lKm hK) (lMod hP) (lModD hD)) rfl rfl hl.1 rfl (lv_room (Nat.le_of_ble_eq_true rfl)) dL_law_786 ⟨by show _ ≤ 601024; omega, by show _ ≤ 7293034; omega⟩) hS (fun q _ h => hFc q h) hFc (fun r_786 u t H1 locs ht hvm hw hB1 hz1 hk1 hS => ?_)
  obtain ⟨S_786, G_786⟩ := u
  obtain ⟨hP1, -, hD1⟩ := hB1
  rw [ht] at hP1
  have hw := id hw
  obtain ⟨hP, hD⟩ := lJoinM hP hD hk1 hFc hP1 hD1
  generalize H1 = H at hP hS ⊢
  refine W.cs (Nat.add_zero _) (Nat.add_zero _) ?_
  refine lv_istore (lv' := [(6, .int r_786), (5, .int r_768), (0, .ref b), (1, .ref x0), (2, .ref o), (3, .ref ou), (4, .int a4)]) hx hb dL_law_789 hl (by decide) rfl (fun ls hl => ?_)
  refine lv_aload_n hx hb dL_law_791 rfl (lv_at hl 4 rfl) ?_
  have hFc := mFree (lModD hD) hS hA
  refine va_calli (va_runV (As := []) (rest := []) ⟨hx, hb, hml, hown, hts⟩ (c_X9_thrown l dC dI (dA 1) (dA 2) (dA 5) o ad S_786 G_786 H.size  _ hw) (cwV 0 hts gL_law_X9_thrown rfl rfl rfl (by decide +kernel) ⟨by decide, by decide⟩) (mPreV [] (lKm hK) (lMod hP) (lModD hD)) rfl rfl hl.1 rfl (lv_room (Nat.le_of_ble_eq_true rfl)) dL_law_792 ⟨by show _ ≤ 601024; omega, by show _ ≤ 7293034; omega⟩) hS (fun q _ h => hFc q h) hFc (fun r_792 u t H1 locs ht hvm hw hB1 hz1 hk1 hS => ?_)
  obtain ⟨S_792, G_792⟩ := u
  obtain ⟨hP1, -, hD1⟩ := hB1
  rw [ht] at hP1
  have hw := id hw
  obtain ⟨hP, hD⟩ := lJoinM hP hD hk1 hFc hP1 hD1
  generalize H1 = H at hP hS ⊢
  refine W.cs (Nat.add_zero _) (Nat.add_zero _) ?_
  refine lv_iload hx hb dL_law_795 (lv_at hl 1 rfl) ?_
  refine lv_icmp_eq (tgt := 802) hx hb dL_law_797 (by decide) (fun c_797 => ?_) (fun c_797 => ?_)
  · have hw := hw.1 c_797
    refine lv_iload hx hb dL_law_802 (lv_at hl 1 rfl) ?_
    refine lv_if_ne (tgt := 819) hx hb dL_law_804 (by decide) (fun c_804 => ?_) (fun c_804 => ?_)
    · have hw := hw.1 c_804
      refine lv_goto (tgt := 1406) hx hb dL_law_819 (by decide) ?_
      refine W.widen (k := 100 + 16 * k + 16) (n := 26000 + 2048 * k + 2048) (by omega) (by omega) ?_
      exact tb_law_1406 C h23_ S_792 G_792 L_768 f_768 k a4 hw H locs hP hD hS ls (lv_sub hl [2, 3, 4, 5, 6] rfl)
    · have hw := hw.2 c_804
      refine lv_aload_n hx hb dL_law_807 rfl (lv_at hl 5 rfl) ?_
      refine lv_iconst (v := 0) hx hb dL_law_808 (by decide) ?_
      obtain ⟨n_809, h_809, ⟨hL9, hf9, hn9⟩, hw⟩ := hw
      refine va_lald hx hb hK (p_one (lPool hP) hL9 hf9) 0 2 rfl rfl hn9 dL_law_809 ?_
      refine lv_topl (fun g_809 eg_809 => ?_)
      rw [← eg_809] at hw
      refine lv_iload hx hb dL_law_810 (lv_at hl 0 rfl) ?_
      refine lv_i2l hx hb dL_law_812 rfl ?_
      refine W.lcmp hx hb dL_law_813 ?_
      refine lv_if_eq (tgt := 819) hx hb dL_law_814 (by decide) (fun c_814 => ?_) (fun c_814 => ?_)
      · have hw := hw.1 c_814
        refine lv_goto (tgt := 1406) hx hb dL_law_819 (by decide) ?_
        refine W.widen (k := 100 + 16 * k + 16) (n := 26000 + 2048 * k + 2048) (by omega) (by omega) ?_
        exact tb_law_1406 C h23_ S_792 G_792 L_768 f_768 k a4 hw H locs hP hD hS ls (lv_sub hl [2, 3, 4, 5, 6] rfl)
      · have hw := hw.2 c_814
        refine lv_iconst (v := 0) hx hb dL_law_817 (by decide) ?_
        exact hw.elim
  · have hw := hw.2 c_797
    refine lv_iconst (v := 0) hx hb dL_law_800 (by decide) ?_
    exact hw.elim
set_option maxHeartbeats 4000000 in
set_option maxRecDepth 100000 in
theorem tb_law_822 {p : Program} {l : Launch} {e : Env} {s : State} {m : MethodId} {below : List Frame} {meth : Method} {c : Code} {dC : Nat → ClassId} {dI : Nat → Nat → Nat} {dA : Nat → ClassId} {zz : Nat → Nat} {o : Nat} {ad : Nat → Nat} {b x0 ou Ln : Nat} {xs : Nat → Int32} (C : lCx p l s m meth c dC dI dA zz b Ln xs) {k23_ : mS → mG → List Nat → pF → Nat → Int32 → Prop} (h23_ : ∀ (S : mS) (G : mG) (L : List Nat) (f : pF) (k : Nat) (a4 : Int32), k23_ S G L f k a4 → lAt p l e s m below meth c dC dI dA o ad b (100 + 16 * k) (26000 + 2048 * k) 23 [(0, .ref b), (1, .ref x0), (2, .ref o), (3, .ref ou), (4, .int a4)] [] S G L f) : ∀ (S : mS) (G : mG) (L : List Nat) (f : pF) (k : Nat) (a4 : Int32), wp_law_822 dA zz x0 ou Ln xs k23_ S G L f k a4 → lAt p l e s m below meth c dC dI dA o ad b (100 + 16 * k + 0) (26000 + 2048 * k + 0) 822 [(0, .ref b), (1, .ref x0), (2, .ref o), (3, .ref ou), (4, .int a4)] [] S G L f := by
  obtain ⟨hx, hb, hml, hown, hts, hr, hlocks, hA, hK, hB, hz, hN, hT, hlt, hX, hbl, hbA⟩ := lCx_use C
  intro S G L f k a4 hw H locs hP hD hS ls hl
  rw [wp_law_822] at hw
  obtain ⟨hk9, hw⟩ := hw
  refine lv_aload_n hx hb dL_law_822 rfl (lv_at hl 1 rfl) ?_
  refine lv_aload_n hx hb dL_law_823 rfl (lv_at hl 0 rfl) ?_
  refine lv_iload hx hb dL_law_824 (lv_at hl 4 rfl) ?_
  refine lv_iconst (v := 1) hx hb dL_law_826 (by decide) ?_
  refine lv_iadd hx hb dL_law_827 ?_
  refine va_sld hx hb hX hbl hbA hS hw.1 dL_law_828 ?_
  refine lv_topi (fun g_828 eg_828 => ?_)
  have hw := hw.2 g_828 eg_828
  refine lv_aload_n hx hb dL_law_829 rfl (lv_at hl 0 rfl) ?_
  refine lv_iload hx hb dL_law_830 (lv_at hl 4 rfl) ?_
  refine lv_iconst (v := 2) hx hb dL_law_832 (by decide) ?_
  refine lv_iadd hx hb dL_law_833 ?_
  refine va_sld hx hb hX hbl hbA hS hw.1 dL_law_834 ?_
  refine lv_topi (fun g_834 eg_834 => ?_)
  have hw := hw.2 g_834 eg_834
  refine lv_aload_n hx hb dL_law_835 rfl (lv_at hl 3 rfl) ?_
  have hFc := p_free (lPoolD hD) hS hA
  refine va_calli (vx_runSW (As := [.ref x0, .int g_828, .int g_834, .ref ou]) (rest := []) ⟨hx, hb, hml, hown, hts⟩ (c_L_byteAt l hlt dC dI dA zz s.heap.size L f H.size x0 g_828 g_834 ou _ hw) (vx_cwSW 4 hts gL_law_L_byteAt rfl rfl rfl (by decide +kernel) ⟨by decide, by decide⟩) (pPreS [.ref x0, .int g_828, .int g_834, .ref ou] hK (lPool hP) (lPoolD hD) hS hB hz hN hT) rfl rfl hl.1 rfl (lv_room (Nat.le_of_ble_eq_true rfl)) dL_law_836 ⟨by show _ ≤ 601024; omega, by show _ ≤ 7293034; omega⟩) hS (fun q _ h => hFc q h) hFc (fun r_836 u t H1 locs ht hvm hw hB1 hz1 hk1 hS => ?_)
  obtain ⟨L_836, f_836⟩ := u
  obtain ⟨hP1, -, hD1⟩ := hB1
  rw [ht] at hP1
  have hw := id hw
  obtain ⟨hP, hD⟩ := lJoinP hP hD hk1 hFc hP1 hD1
  generalize H1 = H at hP hS ⊢
  refine W.widen (k := 100 + 16 * k + 2) (n := 26000 + 2048 * k + 12) (by omega) (by omega) ?_
  refine lv_istore (lv' := [(5, .int r_836), (0, .ref b), (1, .ref x0), (2, .ref o), (3, .ref ou), (4, .int a4)]) hx hb dL_law_839 hl (by decide) rfl (fun ls hl => ?_)
  refine lv_aload_n hx hb dL_law_841 rfl (lv_at hl 3 rfl) ?_
  refine lv_aload_n hx hb dL_law_842 rfl (lv_at hl 1 rfl) ?_
  refine lv_iload hx hb dL_law_843 (lv_at hl 5 rfl) ?_
  refine lv_iconst (v := 1) hx hb dL_law_845 (by decide) ?_
  refine lv_iadd hx hb dL_law_846 ?_
  refine va_sld hx hb hX hbl hbA hS hw.1 dL_law_847 ?_
  refine lv_topi (fun g_847 eg_847 => ?_)
  have hw := hw.2 g_847 eg_847
  refine lv_aload_n hx hb dL_law_848 rfl (lv_at hl 1 rfl) ?_
  refine lv_iload hx hb dL_law_849 (lv_at hl 5 rfl) ?_
  refine lv_iconst (v := 2) hx hb dL_law_851 (by decide) ?_
  refine lv_iadd hx hb dL_law_852 ?_
  refine va_sld hx hb hX hbl hbA hS hw.1 dL_law_853 ?_
  refine lv_topi (fun g_853 eg_853 => ?_)
  have hw := hw.2 g_853 eg_853
  have hFc := mFree (lModD hD) hS hA
  refine va_calli (va_runV (As := [.int g_847, .int g_853]) (rest := []) ⟨hx, hb, hml, hown, hts⟩ (c_X9_byteAt l dC dI (dA 1) (dA 2) (dA 5) o ad S G H.size g_847 g_853 _ hw) (cwV 2 hts gL_law_X9_byteAt rfl rfl rfl (by decide +kernel) ⟨by decide, by decide⟩) (mPreV [.int g_847, .int g_853] (lKm hK) (lMod hP) (lModD hD)) rfl rfl hl.1 rfl (lv_room (Nat.le_of_ble_eq_true rfl)) dL_law_854 ⟨by show _ ≤ 601024; omega, by show _ ≤ 7293034; omega⟩) hS (fun q _ h => hFc q h) hFc (fun r_854 u t H1 locs ht hvm hw hB1 hz1 hk1 hS => ?_)
  obtain ⟨S_854, G_854⟩ := u
  obtain ⟨hP1, -, hD1⟩ := hB1
  rw [ht] at hP1
  have hw := id hw
  obtain ⟨hP, hD⟩ := lJoinM hP hD hk1 hFc hP1 hD1
  generalize H1 = H at hP hS ⊢
  refine W.cs (Nat.add_zero _) (Nat.add_zero _) ?_
  refine lv_istore (lv' := [(6, .int r_854), (5, .int r_836), (0, .ref b), (1, .ref x0), (2, .ref o), (3, .ref ou), (4, .int a4)]) hx hb dL_law_857 hl (by decide) rfl (fun ls hl => ?_)
  refine lv_aload_n hx hb dL_law_859 rfl (lv_at hl 4 rfl) ?_
  have hFc := mFree (lModD hD) hS hA
  refine va_calli (va_runV (As := []) (rest := []) ⟨hx, hb, hml, hown, hts⟩ (c_X9_thrown l dC dI (dA 1) (dA 2) (dA 5) o ad S_854 G_854 H.size  _ hw) (cwV 0 hts gL_law_X9_thrown rfl rfl rfl (by decide +kernel) ⟨by decide, by decide⟩) (mPreV [] (lKm hK) (lMod hP) (lModD hD)) rfl rfl hl.1 rfl (lv_room (Nat.le_of_ble_eq_true rfl)) dL_law_860 ⟨by show _ ≤ 601024; omega, by show _ ≤ 7293034; omega⟩) hS (fun q _ h => hFc q h) hFc (fun r_860 u t H1 locs ht hvm hw hB1 hz1 hk1 hS => ?_)
  obtain ⟨S_860, G_860⟩ := u
  obtain ⟨hP1, -, hD1⟩ := hB1
  rw [ht] at hP1
  have hw := id hw
  obtain ⟨hP, hD⟩ := lJoinM hP hD hk1 hFc hP1 hD1
  generalize H1 = H at hP hS ⊢
  refine W.cs (Nat.add_zero _) (Nat.add_zero _) ?_
  refine lv_iload hx hb dL_law_863 (lv_at hl 1 rfl) ?_
  refine lv_icmp_eq (tgt := 870) hx hb dL_law_865 (by decide) (fun c_865 => ?_) (fun c_865 => ?_)
  · have hw := hw.1 c_865
    refine lv_iload hx hb dL_law_870 (lv_at hl 1 rfl) ?_
    refine lv_if_ne (tgt := 887) hx hb dL_law_872 (by decide) (fun c_872 => ?_) (fun c_872 => ?_)
    · have hw := hw.1 c_872
      refine lv_goto (tgt := 1406) hx hb dL_law_887 (by decide) ?_
      refine W.widen (k := 100 + 16 * k + 16) (n := 26000 + 2048 * k + 2048) (by omega) (by omega) ?_
      exact tb_law_1406 C h23_ S_860 G_860 L_836 f_836 k a4 hw H locs hP hD hS ls (lv_sub hl [2, 3, 4, 5, 6] rfl)
    · have hw := hw.2 c_872
      refine lv_aload_n hx hb dL_law_875 rfl (lv_at hl 5 rfl) ?_
      refine lv_iconst (v := 0) hx hb dL_law_876 (by decide) ?_
      obtain ⟨n_877, h_877, ⟨hL9, hf9, hn9⟩, hw⟩ := hw
      refine va_lald hx hb hK (p_one (lPool hP) hL9 hf9) 0 2 rfl rfl hn9 dL_law_877 ?_
      refine lv_topl (fun g_877 eg_877 => ?_)
      rw [← eg_877] at hw
      refine lv_iload hx hb dL_law_878 (lv_at hl 0 rfl) ?_
      refine lv_i2l hx hb dL_law_880 rfl ?_
      refine W.lcmp hx hb dL_law_881 ?_
      refine lv_if_eq (tgt := 887) hx hb dL_law_882 (by decide) (fun c_882 => ?_) (fun c_882 => ?_)
      · have hw := hw.1 c_882
        refine lv_goto (tgt := 1406) hx hb dL_law_887 (by decide) ?_
        refine W.widen (k := 100 + 16 * k + 16) (n := 26000 + 2048 * k + 2048) (by omega) (by omega) ?_
        exact tb_law_1406 C h23_ S_860 G_860 L_836 f_836 k a4 hw H locs hP hD hS ls (lv_sub hl [2, 3, 4, 5, 6] rfl)
      · have hw := hw.2 c_882
        refine lv_iconst (v := 0) hx hb dL_law_885 (by decide) ?_
        exact hw.elim
  · have hw := hw.2 c_865
    refine lv_iconst (v := 0) hx hb dL_law_868 (by decide) ?_
    exact hw.elim
set_option maxHeartbeats 4000000 in
set_option maxRecDepth 100000 in
theorem tb_law_890 {p : Program} {l : Launch} {e : Env} {s : State} {m : MethodId} {below : List Frame} {meth : Method} {c : Code} {dC : Nat → ClassId} {dI : Nat → Nat → Nat} {dA : Nat → ClassId} {zz : Nat → Nat} {o : Nat} {ad : Nat → Nat} {b x0 ou Ln : Nat} {xs : Nat → Int32} (C : lCx p l s m meth c dC dI dA zz b Ln xs) {k23_ : mS → mG → List Nat → pF → Nat → Int32 → Prop} (h23_ : ∀ (S : mS) (G : mG) (L : List Nat) (f : pF) (k : Nat) (a4 : Int32), k23_ S G L f k a4 → lAt p l e s m below meth c dC dI dA o ad b (100 + 16 * k) (26000 + 2048 * k) 23 [(0, .ref b), (1, .ref x0), (2, .ref o), (3, .ref ou), (4, .int a4)] [] S G L f) : ∀ (S : mS) (G : mG) (L : List Nat) (f : pF) (k : Nat) (a4 : Int32), wp_law_890 dA zz x0 ou Ln xs k23_ S G L f k a4 → lAt p l e s m below meth c dC dI dA o ad b (100 + 16 * k + 0) (26000 + 2048 * k + 0) 890 [(0, .ref b), (1, .ref x0), (2, .ref o), (3, .ref ou), (4, .int a4)] [] S G L f := by
  obtain ⟨hx, hb, hml, hown, hts, hr, hlocks, hA, hK, hB, hz, hN, hT, hlt, hX, hbl, hbA⟩ := lCx_use C
  intro S G L f k a4 hw H locs hP hD hS ls hl
  rw [wp_law_890] at hw
  obtain ⟨hk9, hw⟩ := hw
  refine lv_aload_n hx hb dL_law_890 rfl (lv_at hl 1 rfl) ?_
  refine lv_aload_n hx hb dL_law_891 rfl (lv_at hl 0 rfl) ?_
  refine lv_iload hx hb dL_law_892 (lv_at hl 4 rfl) ?_
  refine lv_iconst (v := 1) hx hb dL_law_894 (by decide) ?_
  refine lv_iadd hx hb dL_law_895 ?_
  refine va_sld hx hb hX hbl hbA hS hw.1 dL_law_896 ?_
  refine lv_topi (fun g_896 eg_896 => ?_)
  have hw := hw.2 g_896 eg_896
  refine lv_aload_n hx hb dL_law_897 rfl (lv_at hl 3 rfl) ?_
  have hFc := p_free (lPoolD hD) hS hA
  refine va_calli (vx_runSW (As := [.ref x0, .int g_896, .ref ou]) (rest := []) ⟨hx, hb, hml, hown, hts⟩ (c_L_uses l hlt dC dI dA zz s.heap.size L f H.size x0 g_896 ou _ hw) (vx_cwSW 3 hts gL_law_L_uses rfl rfl rfl (by decide +kernel) ⟨by decide, by decide⟩) (pPreS [.ref x0, .int g_896, .ref ou] hK (lPool hP) (lPoolD hD) hS hB hz hN hT) rfl rfl hl.1 rfl (lv_room (Nat.le_of_ble_eq_true rfl)) dL_law_898 ⟨by show _ ≤ 601024; omega, by show _ ≤ 7293034; omega⟩) hS (fun q _ h => hFc q h) hFc (fun r_898 u t H1 locs ht hvm hw hB1 hz1 hk1 hS => ?_)
  obtain ⟨L_898, f_898⟩ := u
  obtain ⟨hP1, -, hD1⟩ := hB1
  rw [ht] at hP1
  have hw := id hw
  obtain ⟨hP, hD⟩ := lJoinP hP hD hk1 hFc hP1 hD1
  generalize H1 = H at hP hS ⊢
  refine W.widen (k := 100 + 16 * k + 1) (n := 26000 + 2048 * k + 6) (by omega) (by omega) ?_
  refine lv_istore (lv' := [(5, .int r_898), (0, .ref b), (1, .ref x0), (2, .ref o), (3, .ref ou), (4, .int a4)]) hx hb dL_law_901 hl (by decide) rfl (fun ls hl => ?_)
  refine lv_aload_n hx hb dL_law_903 rfl (lv_at hl 3 rfl) ?_
  refine lv_aload_n hx hb dL_law_904 rfl (lv_at hl 1 rfl) ?_
  refine lv_iload hx hb dL_law_905 (lv_at hl 5 rfl) ?_
  refine lv_iconst (v := 1) hx hb dL_law_907 (by decide) ?_
  refine lv_iadd hx hb dL_law_908 ?_
  refine va_sld hx hb hX hbl hbA hS hw.1 dL_law_909 ?_
  refine lv_topi (fun g_909 eg_909 => ?_)
  have hw := hw.2 g_909 eg_909
  have hFc := mFree (lModD hD) hS hA
  refine va_calli (va_runV (As := [.int g_909]) (rest := []) ⟨hx, hb, hml, hown, hts⟩ (c_X9_uses l dC dI (dA 1) (dA 2) (dA 5) o ad S G H.size g_909 _ hw) (cwV 1 hts gL_law_X9_uses rfl rfl rfl (by decide +kernel) ⟨by decide, by decide⟩) (mPreV [.int g_909] (lKm hK) (lMod hP) (lModD hD)) rfl rfl hl.1 rfl (lv_room (Nat.le_of_ble_eq_true rfl)) dL_law_910 ⟨by show _ ≤ 601024; omega, by show _ ≤ 7293034; omega⟩) hS (fun q _ h => hFc q h) hFc (fun r_910 u t H1 locs ht hvm hw hB1 hz1 hk1 hS => ?_)
  obtain ⟨S_910, G_910⟩ := u
  obtain ⟨hP1, -, hD1⟩ := hB1
  rw [ht] at hP1
  have hw := id hw
  obtain ⟨hP, hD⟩ := lJoinM hP hD hk1 hFc hP1 hD1
  generalize H1 = H at hP hS ⊢
  refine W.cs (Nat.add_zero _) (Nat.add_zero _) ?_
  refine lv_istore (lv' := [(6, .int r_910), (5, .int r_898), (0, .ref b), (1, .ref x0), (2, .ref o), (3, .ref ou), (4, .int a4)]) hx hb dL_law_913 hl (by decide) rfl (fun ls hl => ?_)
  refine lv_aload_n hx hb dL_law_915 rfl (lv_at hl 4 rfl) ?_
  have hFc := mFree (lModD hD) hS hA
  refine va_calli (va_runV (As := []) (rest := []) ⟨hx, hb, hml, hown, hts⟩ (c_X9_thrown l dC dI (dA 1) (dA 2) (dA 5) o ad S_910 G_910 H.size  _ hw) (cwV 0 hts gL_law_X9_thrown rfl rfl rfl (by decide +kernel) ⟨by decide, by decide⟩) (mPreV [] (lKm hK) (lMod hP) (lModD hD)) rfl rfl hl.1 rfl (lv_room (Nat.le_of_ble_eq_true rfl)) dL_law_916 ⟨by show _ ≤ 601024; omega, by show _ ≤ 7293034; omega⟩) hS (fun q _ h => hFc q h) hFc (fun r_916 u t H1 locs ht hvm hw hB1 hz1 hk1 hS => ?_)
  obtain ⟨S_916, G_916⟩ := u
  obtain ⟨hP1, -, hD1⟩ := hB1
  rw [ht] at hP1
  have hw := id hw
  obtain ⟨hP, hD⟩ := lJoinM hP hD hk1 hFc hP1 hD1
  generalize H1 = H at hP hS ⊢
  refine W.cs (Nat.add_zero _) (Nat.add_zero _) ?_
  refine lv_iload hx hb dL_law_919 (lv_at hl 1 rfl) ?_
  refine lv_icmp_eq (tgt := 926) hx hb dL_law_921 (by decide) (fun c_921 => ?_) (fun c_921 => ?_)
  · have hw := hw.1 c_921
    refine lv_iload hx hb dL_law_926 (lv_at hl 1 rfl) ?_
    refine lv_if_ne (tgt := 943) hx hb dL_law_928 (by decide) (fun c_928 => ?_) (fun c_928 => ?_)
    · have hw := hw.1 c_928
      refine lv_goto (tgt := 1406) hx hb dL_law_943 (by decide) ?_
      refine W.widen (k := 100 + 16 * k + 16) (n := 26000 + 2048 * k + 2048) (by omega) (by omega) ?_
      exact tb_law_1406 C h23_ S_916 G_916 L_898 f_898 k a4 hw H locs hP hD hS ls (lv_sub hl [2, 3, 4, 5, 6] rfl)
    · have hw := hw.2 c_928
      refine lv_aload_n hx hb dL_law_931 rfl (lv_at hl 5 rfl) ?_
      refine lv_iconst (v := 0) hx hb dL_law_932 (by decide) ?_
      obtain ⟨n_933, h_933, ⟨hL9, hf9, hn9⟩, hw⟩ := hw
      refine va_lald hx hb hK (p_one (lPool hP) hL9 hf9) 0 2 rfl rfl hn9 dL_law_933 ?_
      refine lv_topl (fun g_933 eg_933 => ?_)
      rw [← eg_933] at hw
      refine lv_iload hx hb dL_law_934 (lv_at hl 0 rfl) ?_
      refine lv_i2l hx hb dL_law_936 rfl ?_
      refine W.lcmp hx hb dL_law_937 ?_
      refine lv_if_eq (tgt := 943) hx hb dL_law_938 (by decide) (fun c_938 => ?_) (fun c_938 => ?_)
      · have hw := hw.1 c_938
        refine lv_goto (tgt := 1406) hx hb dL_law_943 (by decide) ?_
        refine W.widen (k := 100 + 16 * k + 16) (n := 26000 + 2048 * k + 2048) (by omega) (by omega) ?_
        exact tb_law_1406 C h23_ S_916 G_916 L_898 f_898 k a4 hw H locs hP hD hS ls (lv_sub hl [2, 3, 4, 5, 6] rfl)
      · have hw := hw.2 c_938
        refine lv_iconst (v := 0) hx hb dL_law_941 (by decide) ?_
        exact hw.elim
  · have hw := hw.2 c_921
    refine lv_iconst (v := 0) hx hb dL_law_924 (by decide) ?_
    exact hw.elim
set_option maxHeartbeats 4000000 in
set_option maxRecDepth 100000 in
theorem tb_law_946 {p : Program} {l : Launch} {e : Env} {s : State} {m : MethodId} {below : List Frame} {meth : Method} {c : Code} {dC : Nat → ClassId} {dI : Nat → Nat → Nat} {dA : Nat → ClassId} {zz : Nat → Nat} {o : Nat} {ad : Nat → Nat} {b x0 ou Ln : Nat} {xs : Nat → Int32} (C : lCx p l s m meth c dC dI dA zz b Ln xs) {k23_ : mS → mG → List Nat → pF → Nat → Int32 → Prop} (h23_ : ∀ (S : mS) (G : mG) (L : List Nat) (f : pF) (k : Nat) (a4 : Int32), k23_ S G L f k a4 → lAt p l e s m below meth c dC dI dA o ad b (100 + 16 * k) (26000 + 2048 * k) 23 [(0, .ref b), (1, .ref x0), (2, .ref o), (3, .ref ou), (4, .int a4)] [] S G L f) : ∀ (S : mS) (G : mG) (L : List Nat) (f : pF) (k : Nat) (a4 : Int32), wp_law_946 dA zz x0 ou Ln xs k23_ S G L f k a4 → lAt p l e s m below meth c dC dI dA o ad b (100 + 16 * k + 0) (26000 + 2048 * k + 0) 946 [(0, .ref b), (1, .ref x0), (2, .ref o), (3, .ref ou), (4, .int a4)] [] S G L f := by
  obtain ⟨hx, hb, hml, hown, hts, hr, hlocks, hA, hK, hB, hz, hN, hT, hlt, hX, hbl, hbA⟩ := lCx_use C
  intro S G L f k a4 hw H locs hP hD hS ls hl
  rw [wp_law_946] at hw
  obtain ⟨hk9, hw⟩ := hw
  refine lv_aload_n hx hb dL_law_946 rfl (lv_at hl 1 rfl) ?_
  refine lv_aload_n hx hb dL_law_947 rfl (lv_at hl 0 rfl) ?_
  refine lv_iload hx hb dL_law_948 (lv_at hl 4 rfl) ?_
  refine lv_iconst (v := 1) hx hb dL_law_950 (by decide) ?_
  refine lv_iadd hx hb dL_law_951 ?_
  refine va_sld hx hb hX hbl hbA hS hw.1 dL_law_952 ?_
  refine lv_topi (fun g_952 eg_952 => ?_)
  have hw := hw.2 g_952 eg_952
  refine lv_aload_n hx hb dL_law_953 rfl (lv_at hl 0 rfl) ?_
  refine lv_iload hx hb dL_law_954 (lv_at hl 4 rfl) ?_
  refine lv_iconst (v := 2) hx hb dL_law_956 (by decide) ?_
  refine lv_iadd hx hb dL_law_957 ?_
  refine va_sld hx hb hX hbl hbA hS hw.1 dL_law_958 ?_
  refine lv_topi (fun g_958 eg_958 => ?_)
  have hw := hw.2 g_958 eg_958
  refine lv_aload_n hx hb dL_law_959 rfl (lv_at hl 0 rfl) ?_
  refine lv_iload hx hb dL_law_960 (lv_at hl 4 rfl) ?_
  refine lv_iconst (v := 3) hx hb dL_law_962 (by decide) ?_
  refine lv_iadd hx hb dL_law_963 ?_
  refine va_sld hx hb hX hbl hbA hS hw.1 dL_law_964 ?_
  refine lv_topi (fun g_964 eg_964 => ?_)
  have hw := hw.2 g_964 eg_964
  refine lv_aload_n hx hb dL_law_965 rfl (lv_at hl 3 rfl) ?_
  have hFc := p_free (lPoolD hD) hS hA
  refine va_calli (vx_runSW (As := [.ref x0, .int g_952, .int g_958, .int g_964, .ref ou]) (rest := []) ⟨hx, hb, hml, hown, hts⟩ (c_L_use l hlt dC dI dA zz s.heap.size L f H.size x0 g_952 g_958 g_964 ou _ hw) (vx_cwSW 5 hts gL_law_L_use rfl rfl rfl (by decide +kernel) ⟨by decide, by decide⟩) (pPreS [.ref x0, .int g_952, .int g_958, .int g_964, .ref ou] hK (lPool hP) (lPoolD hD) hS hB hz hN hT) rfl rfl hl.1 rfl (lv_room (Nat.le_of_ble_eq_true rfl)) dL_law_966 ⟨by show _ ≤ 601024; omega, by show _ ≤ 7293034; omega⟩) hS (fun q _ h => hFc q h) hFc (fun r_966 u t H1 locs ht hvm hw hB1 hz1 hk1 hS => ?_)
  obtain ⟨L_966, f_966⟩ := u
  obtain ⟨hP1, -, hD1⟩ := hB1
  rw [ht] at hP1
  have hw := id hw
  obtain ⟨hP, hD⟩ := lJoinP hP hD hk1 hFc hP1 hD1
  generalize H1 = H at hP hS ⊢
  refine W.widen (k := 100 + 16 * k + 2) (n := 26000 + 2048 * k + 12) (by omega) (by omega) ?_
  refine lv_istore (lv' := [(5, .int r_966), (0, .ref b), (1, .ref x0), (2, .ref o), (3, .ref ou), (4, .int a4)]) hx hb dL_law_969 hl (by decide) rfl (fun ls hl => ?_)
  refine lv_aload_n hx hb dL_law_971 rfl (lv_at hl 3 rfl) ?_
  refine lv_aload_n hx hb dL_law_972 rfl (lv_at hl 1 rfl) ?_
  refine lv_iload hx hb dL_law_973 (lv_at hl 5 rfl) ?_
  refine lv_iconst (v := 1) hx hb dL_law_975 (by decide) ?_
  refine lv_iadd hx hb dL_law_976 ?_
  refine va_sld hx hb hX hbl hbA hS hw.1 dL_law_977 ?_
  refine lv_topi (fun g_977 eg_977 => ?_)
  have hw := hw.2 g_977 eg_977
  refine lv_aload_n hx hb dL_law_978 rfl (lv_at hl 1 rfl) ?_
  refine lv_iload hx hb dL_law_979 (lv_at hl 5 rfl) ?_
  refine lv_iconst (v := 2) hx hb dL_law_981 (by decide) ?_
  refine lv_iadd hx hb dL_law_982 ?_
  refine va_sld hx hb hX hbl hbA hS hw.1 dL_law_983 ?_
  refine lv_topi (fun g_983 eg_983 => ?_)
  have hw := hw.2 g_983 eg_983
  refine lv_aload_n hx hb dL_law_984 rfl (lv_at hl 1 rfl) ?_
  refine lv_iload hx hb dL_law_985 (lv_at hl 5 rfl) ?_
  refine lv_iconst (v := 3) hx hb dL_law_987 (by decide) ?_
  refine lv_iadd hx hb dL_law_988 ?_
  refine va_sld hx hb hX hbl hbA hS hw.1 dL_law_989 ?_
  refine lv_topi (fun g_989 eg_989 => ?_)
  have hw := hw.2 g_989 eg_989
  have hFc := mFree (lModD hD) hS hA
  refine va_calli (va_runV (As := [.int g_977, .int g_983, .int g_989]) (rest := []) ⟨hx, hb, hml, hown, hts⟩ (c_X9_use l dC dI (dA 1) (dA 2) (dA 5) o ad S G H.size g_977 g_983 g_989 _ hw) (cwV 3 hts gL_law_X9_use rfl rfl rfl (by decide +kernel) ⟨by decide, by decide⟩) (mPreV [.int g_977, .int g_983, .int g_989] (lKm hK) (lMod hP) (lModD hD)) rfl rfl hl.1 rfl (lv_room (Nat.le_of_ble_eq_true rfl)) dL_law_990 ⟨by show _ ≤ 601024; omega, by show _ ≤ 7293034; omega⟩) hS (fun q _ h => hFc q h) hFc (fun r_990 u t H1 locs ht hvm hw hB1 hz1 hk1 hS => ?_)
  obtain ⟨S_990, G_990⟩ := u
  obtain ⟨hP1, -, hD1⟩ := hB1
  rw [ht] at hP1
  have hw := id hw
  obtain ⟨hP, hD⟩ := lJoinM hP hD hk1 hFc hP1 hD1
  generalize H1 = H at hP hS ⊢
  refine W.cs (Nat.add_zero _) (Nat.add_zero _) ?_
  refine lv_istore (lv' := [(6, .int r_990), (5, .int r_966), (0, .ref b), (1, .ref x0), (2, .ref o), (3, .ref ou), (4, .int a4)]) hx hb dL_law_993 hl (by decide) rfl (fun ls hl => ?_)
  refine lv_aload_n hx hb dL_law_995 rfl (lv_at hl 4 rfl) ?_
  have hFc := mFree (lModD hD) hS hA
  refine va_calli (va_runV (As := []) (rest := []) ⟨hx, hb, hml, hown, hts⟩ (c_X9_thrown l dC dI (dA 1) (dA 2) (dA 5) o ad S_990 G_990 H.size  _ hw) (cwV 0 hts gL_law_X9_thrown rfl rfl rfl (by decide +kernel) ⟨by decide, by decide⟩) (mPreV [] (lKm hK) (lMod hP) (lModD hD)) rfl rfl hl.1 rfl (lv_room (Nat.le_of_ble_eq_true rfl)) dL_law_996 ⟨by show _ ≤ 601024; omega, by show _ ≤ 7293034; omega⟩) hS (fun q _ h => hFc q h) hFc (fun r_996 u t H1 locs ht hvm hw hB1 hz1 hk1 hS => ?_)
  obtain ⟨S_996, G_996⟩ := u
  obtain ⟨hP1, -, hD1⟩ := hB1
  rw [ht] at hP1
  have hw := id hw
  obtain ⟨hP, hD⟩ := lJoinM hP hD hk1 hFc hP1 hD1
  generalize H1 = H at hP hS ⊢
  refine W.cs (Nat.add_zero _) (Nat.add_zero _) ?_
  refine lv_iload hx hb dL_law_999 (lv_at hl 1 rfl) ?_
  refine lv_icmp_eq (tgt := 1006) hx hb dL_law_1001 (by decide) (fun c_1001 => ?_) (fun c_1001 => ?_)
  · have hw := hw.1 c_1001
    refine lv_iload hx hb dL_law_1006 (lv_at hl 1 rfl) ?_
    refine lv_if_ne (tgt := 1023) hx hb dL_law_1008 (by decide) (fun c_1008 => ?_) (fun c_1008 => ?_)
    · have hw := hw.1 c_1008
      refine lv_goto (tgt := 1406) hx hb dL_law_1023 (by decide) ?_
      refine W.widen (k := 100 + 16 * k + 16) (n := 26000 + 2048 * k + 2048) (by omega) (by omega) ?_
      exact tb_law_1406 C h23_ S_996 G_996 L_966 f_966 k a4 hw H locs hP hD hS ls (lv_sub hl [2, 3, 4, 5, 6] rfl)
    · have hw := hw.2 c_1008
      refine lv_aload_n hx hb dL_law_1011 rfl (lv_at hl 5 rfl) ?_
      refine lv_iconst (v := 0) hx hb dL_law_1012 (by decide) ?_
      obtain ⟨n_1013, h_1013, ⟨hL9, hf9, hn9⟩, hw⟩ := hw
      refine va_lald hx hb hK (p_one (lPool hP) hL9 hf9) 0 2 rfl rfl hn9 dL_law_1013 ?_
      refine lv_topl (fun g_1013 eg_1013 => ?_)
      rw [← eg_1013] at hw
      refine lv_iload hx hb dL_law_1014 (lv_at hl 0 rfl) ?_
      refine lv_i2l hx hb dL_law_1016 rfl ?_
      refine W.lcmp hx hb dL_law_1017 ?_
      refine lv_if_eq (tgt := 1023) hx hb dL_law_1018 (by decide) (fun c_1018 => ?_) (fun c_1018 => ?_)
      · have hw := hw.1 c_1018
        refine lv_goto (tgt := 1406) hx hb dL_law_1023 (by decide) ?_
        refine W.widen (k := 100 + 16 * k + 16) (n := 26000 + 2048 * k + 2048) (by omega) (by omega) ?_
        exact tb_law_1406 C h23_ S_996 G_996 L_966 f_966 k a4 hw H locs hP hD hS ls (lv_sub hl [2, 3, 4, 5, 6] rfl)
      · have hw := hw.2 c_1018
        refine lv_iconst (v := 0) hx hb dL_law_1021 (by decide) ?_
        exact hw.elim
  · have hw := hw.2 c_1001
    refine lv_iconst (v := 0) hx hb dL_law_1004 (by decide) ?_
    exact hw.elim
set_option maxHeartbeats 4000000 in
set_option maxRecDepth 100000 in
theorem tb_law_1026 {p : Program} {l : Launch} {e : Env} {s : State} {m : MethodId} {below : List Frame} {meth : Method} {c : Code} {dC : Nat → ClassId} {dI : Nat → Nat → Nat} {dA : Nat → ClassId} {zz : Nat → Nat} {o : Nat} {ad : Nat → Nat} {b x0 ou Ln : Nat} {xs : Nat → Int32} (C : lCx p l s m meth c dC dI dA zz b Ln xs) {k23_ : mS → mG → List Nat → pF → Nat → Int32 → Prop} (h23_ : ∀ (S : mS) (G : mG) (L : List Nat) (f : pF) (k : Nat) (a4 : Int32), k23_ S G L f k a4 → lAt p l e s m below meth c dC dI dA o ad b (100 + 16 * k) (26000 + 2048 * k) 23 [(0, .ref b), (1, .ref x0), (2, .ref o), (3, .ref ou), (4, .int a4)] [] S G L f) : ∀ (S : mS) (G : mG) (L : List Nat) (f : pF) (k : Nat) (a4 : Int32), wp_law_1026 dA zz x0 ou Ln xs k23_ S G L f k a4 → lAt p l e s m below meth c dC dI dA o ad b (100 + 16 * k + 0) (26000 + 2048 * k + 0) 1026 [(0, .ref b), (1, .ref x0), (2, .ref o), (3, .ref ou), (4, .int a4)] [] S G L f := by
  obtain ⟨hx, hb, hml, hown, hts, hr, hlocks, hA, hK, hB, hz, hN, hT, hlt, hX, hbl, hbA⟩ := lCx_use C
  intro S G L f k a4 hw H locs hP hD hS ls hl
  rw [wp_law_1026] at hw
  obtain ⟨hk9, hw⟩ := hw
  refine lv_aload_n hx hb dL_law_1026 rfl (lv_at hl 1 rfl) ?_
  refine lv_aload_n hx hb dL_law_1027 rfl (lv_at hl 0 rfl) ?_
  refine lv_iload hx hb dL_law_1028 (lv_at hl 4 rfl) ?_
  refine lv_iconst (v := 1) hx hb dL_law_1030 (by decide) ?_
  refine lv_iadd hx hb dL_law_1031 ?_
  refine va_sld hx hb hX hbl hbA hS hw.1 dL_law_1032 ?_
  refine lv_topi (fun g_1032 eg_1032 => ?_)
  have hw := hw.2 g_1032 eg_1032
  refine lv_aload_n hx hb dL_law_1033 rfl (lv_at hl 0 rfl) ?_
  refine lv_iload hx hb dL_law_1034 (lv_at hl 4 rfl) ?_
  refine lv_iconst (v := 2) hx hb dL_law_1036 (by decide) ?_
  refine lv_iadd hx hb dL_law_1037 ?_
  refine va_sld hx hb hX hbl hbA hS hw.1 dL_law_1038 ?_
  refine lv_topi (fun g_1038 eg_1038 => ?_)
  have hw := hw.2 g_1038 eg_1038
  refine lv_aload_n hx hb dL_law_1039 rfl (lv_at hl 3 rfl) ?_
  have hFc := p_free (lPoolD hD) hS hA
  refine va_calli (vx_runSW (As := [.ref x0, .int g_1032, .int g_1038, .ref ou]) (rest := []) ⟨hx, hb, hml, hown, hts⟩ (c_L_mend l hlt dC dI dA zz s.heap.size L f H.size x0 g_1032 g_1038 ou _ hw) (vx_cwSW 4 hts gL_law_L_mend rfl rfl rfl (by decide +kernel) ⟨by decide, by decide⟩) (pPreS [.ref x0, .int g_1032, .int g_1038, .ref ou] hK (lPool hP) (lPoolD hD) hS hB hz hN hT) rfl rfl hl.1 rfl (lv_room (Nat.le_of_ble_eq_true rfl)) dL_law_1040 ⟨by show _ ≤ 601024; omega, by show _ ≤ 7293034; omega⟩) hS (fun q _ h => hFc q h) hFc (fun r_1040 u t H1 locs ht hvm hw hB1 hz1 hk1 hS => ?_)
  obtain ⟨L_1040, f_1040⟩ := u
  obtain ⟨hP1, -, hD1⟩ := hB1
  rw [ht] at hP1
  have hw := id hw
  obtain ⟨hP, hD⟩ := lJoinP hP hD hk1 hFc hP1 hD1
  generalize H1 = H at hP hS ⊢
  refine W.widen (k := 100 + 16 * k + 1) (n := 26000 + 2048 * k + 6) (by omega) (by omega) ?_
  refine lv_istore (lv' := [(5, .int r_1040), (0, .ref b), (1, .ref x0), (2, .ref o), (3, .ref ou), (4, .int a4)]) hx hb dL_law_1043 hl (by decide) rfl (fun ls hl => ?_)
  refine lv_aload_n hx hb dL_law_1045 rfl (lv_at hl 3 rfl) ?_
  refine lv_aload_n hx hb dL_law_1046 rfl (lv_at hl 1 rfl) ?_
  refine lv_iload hx hb dL_law_1047 (lv_at hl 5 rfl) ?_
  refine lv_iconst (v := 1) hx hb dL_law_1049 (by decide) ?_
  refine lv_iadd hx hb dL_law_1050 ?_
  refine va_sld hx hb hX hbl hbA hS hw.1 dL_law_1051 ?_
  refine lv_topi (fun g_1051 eg_1051 => ?_)
  have hw := hw.2 g_1051 eg_1051
  refine lv_aload_n hx hb dL_law_1052 rfl (lv_at hl 1 rfl) ?_
  refine lv_iload hx hb dL_law_1053 (lv_at hl 5 rfl) ?_
  refine lv_iconst (v := 2) hx hb dL_law_1055 (by decide) ?_
  refine lv_iadd hx hb dL_law_1056 ?_
  refine va_sld hx hb hX hbl hbA hS hw.1 dL_law_1057 ?_
  refine lv_topi (fun g_1057 eg_1057 => ?_)
  have hw := hw.2 g_1057 eg_1057
  have hFc := mFree (lModD hD) hS hA
  refine va_calli (va_runV (As := [.int g_1051, .int g_1057]) (rest := []) ⟨hx, hb, hml, hown, hts⟩ (c_X9_mend l dC dI (dA 1) (dA 2) (dA 5) o ad S G H.size g_1051 g_1057 _ hw) (cwV 2 hts gL_law_X9_mend rfl rfl rfl (by decide +kernel) ⟨by decide, by decide⟩) (mPreV [.int g_1051, .int g_1057] (lKm hK) (lMod hP) (lModD hD)) rfl rfl hl.1 rfl (lv_room (Nat.le_of_ble_eq_true rfl)) dL_law_1058 ⟨by show _ ≤ 601024; omega, by show _ ≤ 7293034; omega⟩) hS (fun q _ h => hFc q h) hFc (fun r_1058 u t H1 locs ht hvm hw hB1 hz1 hk1 hS => ?_)
  obtain ⟨S_1058, G_1058⟩ := u
  obtain ⟨hP1, -, hD1⟩ := hB1
  rw [ht] at hP1
  have hw := id hw
  obtain ⟨hP, hD⟩ := lJoinM hP hD hk1 hFc hP1 hD1
  generalize H1 = H at hP hS ⊢
  refine W.cs (Nat.add_zero _) (Nat.add_zero _) ?_
  refine lv_istore (lv' := [(6, .int r_1058), (5, .int r_1040), (0, .ref b), (1, .ref x0), (2, .ref o), (3, .ref ou), (4, .int a4)]) hx hb dL_law_1061 hl (by decide) rfl (fun ls hl => ?_)
  refine lv_aload_n hx hb dL_law_1063 rfl (lv_at hl 4 rfl) ?_
  have hFc := mFree (lModD hD) hS hA
  refine va_calli (va_runV (As := []) (rest := []) ⟨hx, hb, hml, hown, hts⟩ (c_X9_thrown l dC dI (dA 1) (dA 2) (dA 5) o ad S_1058 G_1058 H.size  _ hw) (cwV 0 hts gL_law_X9_thrown rfl rfl rfl (by decide +kernel) ⟨by decide, by decide⟩) (mPreV [] (lKm hK) (lMod hP) (lModD hD)) rfl rfl hl.1 rfl (lv_room (Nat.le_of_ble_eq_true rfl)) dL_law_1064 ⟨by show _ ≤ 601024; omega, by show _ ≤ 7293034; omega⟩) hS (fun q _ h => hFc q h) hFc (fun r_1064 u t H1 locs ht hvm hw hB1 hz1 hk1 hS => ?_)
  obtain ⟨S_1064, G_1064⟩ := u
  obtain ⟨hP1, -, hD1⟩ := hB1
  rw [ht] at hP1
  have hw := id hw
  obtain ⟨hP, hD⟩ := lJoinM hP hD hk1 hFc hP1 hD1
  generalize H1 = H at hP hS ⊢
  refine W.cs (Nat.add_zero _) (Nat.add_zero _) ?_
  refine lv_iload hx hb dL_law_1067 (lv_at hl 1 rfl) ?_
  refine lv_icmp_eq (tgt := 1074) hx hb dL_law_1069 (by decide) (fun c_1069 => ?_) (fun c_1069 => ?_)
  · have hw := hw.1 c_1069
    refine lv_iload hx hb dL_law_1074 (lv_at hl 1 rfl) ?_
    refine lv_if_ne (tgt := 1098) hx hb dL_law_1076 (by decide) (fun c_1076 => ?_) (fun c_1076 => ?_)
    · have hw := hw.1 c_1076
      refine lv_goto (tgt := 1406) hx hb dL_law_1098 (by decide) ?_
      refine W.widen (k := 100 + 16 * k + 16) (n := 26000 + 2048 * k + 2048) (by omega) (by omega) ?_
      exact tb_law_1406 C h23_ S_1064 G_1064 L_1040 f_1040 k a4 hw H locs hP hD hS ls (lv_sub hl [2, 3, 4, 5, 6] rfl)
    · have hw := hw.2 c_1076
      refine lv_aload_n hx hb dL_law_1079 rfl (lv_at hl 5 rfl) ?_
      refine lv_iconst (v := 0) hx hb dL_law_1080 (by decide) ?_
      obtain ⟨n_1081, h_1081, ⟨hL9, hf9, hn9⟩, hw⟩ := hw
      refine va_lald hx hb hK (p_one (lPool hP) hL9 hf9) 0 2 rfl rfl hn9 dL_law_1081 ?_
      refine lv_topl (fun g_1081 eg_1081 => ?_)
      rw [← eg_1081] at hw
      refine lv_iload hx hb dL_law_1082 (lv_at hl 0 rfl) ?_
      refine lv_if_eq (tgt := 1091) hx hb dL_law_1084 (by decide) (fun c_1084 => ?_) (fun c_1084 => ?_)
      · have hw := hw.1 c_1084
        refine lv_lconst (v := 0) hx hb dL_law_1091 (by decide) ?_
        refine W.lcmp hx hb dL_law_1092 ?_
        refine lv_if_eq (tgt := 1098) hx hb dL_law_1093 (by decide) (fun c_1093 => ?_) (fun c_1093 => ?_)
        · have hw := hw.1 c_1093
          refine lv_goto (tgt := 1406) hx hb dL_law_1098 (by decide) ?_
          refine W.widen (k := 100 + 16 * k + 16) (n := 26000 + 2048 * k + 2048) (by omega) (by omega) ?_
          exact tb_law_1406 C h23_ S_1064 G_1064 L_1040 f_1040 k a4 hw H locs hP hD hS ls (lv_sub hl [2, 3, 4, 5, 6] rfl)
        · have hw := hw.2 c_1093
          refine lv_iconst (v := 0) hx hb dL_law_1096 (by decide) ?_
          exact hw.elim
      · have hw := hw.2 c_1084
        refine lv_lconst (v := 1) hx hb dL_law_1087 (by decide) ?_
        refine lv_goto (tgt := 1092) hx hb dL_law_1088 (by decide) ?_
        refine W.lcmp hx hb dL_law_1092 ?_
        refine lv_if_eq (tgt := 1098) hx hb dL_law_1093 (by decide) (fun c_1093 => ?_) (fun c_1093 => ?_)
        · have hw := hw.1 c_1093
          refine lv_goto (tgt := 1406) hx hb dL_law_1098 (by decide) ?_
          refine W.widen (k := 100 + 16 * k + 16) (n := 26000 + 2048 * k + 2048) (by omega) (by omega) ?_
          exact tb_law_1406 C h23_ S_1064 G_1064 L_1040 f_1040 k a4 hw H locs hP hD hS ls (lv_sub hl [2, 3, 4, 5, 6] rfl)
        · have hw := hw.2 c_1093
          refine lv_iconst (v := 0) hx hb dL_law_1096 (by decide) ?_
          exact hw.elim
  · have hw := hw.2 c_1069
    refine lv_iconst (v := 0) hx hb dL_law_1072 (by decide) ?_
    exact hw.elim
set_option maxHeartbeats 4000000 in
set_option maxRecDepth 100000 in
theorem tb_law_1101 {p : Program} {l : Launch} {e : Env} {s : State} {m : MethodId} {below : List Frame} {meth : Method} {c : Code} {dC : Nat → ClassId} {dI : Nat → Nat → Nat} {dA : Nat → ClassId} {zz : Nat → Nat} {o : Nat} {ad : Nat → Nat} {b x0 ou Ln : Nat} {xs : Nat → Int32} (C : lCx p l s m meth c dC dI dA zz b Ln xs) {k23_ : mS → mG → List Nat → pF → Nat → Int32 → Prop} (h23_ : ∀ (S : mS) (G : mG) (L : List Nat) (f : pF) (k : Nat) (a4 : Int32), k23_ S G L f k a4 → lAt p l e s m below meth c dC dI dA o ad b (100 + 16 * k) (26000 + 2048 * k) 23 [(0, .ref b), (1, .ref x0), (2, .ref o), (3, .ref ou), (4, .int a4)] [] S G L f) : ∀ (S : mS) (G : mG) (L : List Nat) (f : pF) (k : Nat) (a4 : Int32), wp_law_1101 dA zz x0 ou Ln xs k23_ S G L f k a4 → lAt p l e s m below meth c dC dI dA o ad b (100 + 16 * k + 0) (26000 + 2048 * k + 0) 1101 [(0, .ref b), (1, .ref x0), (2, .ref o), (3, .ref ou), (4, .int a4)] [] S G L f := by
  obtain ⟨hx, hb, hml, hown, hts, hr, hlocks, hA, hK, hB, hz, hN, hT, hlt, hX, hbl, hbA⟩ := lCx_use C
  intro S G L f k a4 hw H locs hP hD hS ls hl
  rw [wp_law_1101] at hw
  obtain ⟨hk9, hw⟩ := hw
  refine lv_aload_n hx hb dL_law_1101 rfl (lv_at hl 1 rfl) ?_
  refine lv_aload_n hx hb dL_law_1102 rfl (lv_at hl 0 rfl) ?_
  refine lv_iload hx hb dL_law_1103 (lv_at hl 4 rfl) ?_
  refine lv_iconst (v := 1) hx hb dL_law_1105 (by decide) ?_
  refine lv_iadd hx hb dL_law_1106 ?_
  refine va_sld hx hb hX hbl hbA hS hw.1 dL_law_1107 ?_
  refine lv_topi (fun g_1107 eg_1107 => ?_)
  have hw := hw.2 g_1107 eg_1107
  refine lv_aload_n hx hb dL_law_1108 rfl (lv_at hl 3 rfl) ?_
  have hFc := p_free (lPoolD hD) hS hA
  refine va_calli (vx_runSW (As := [.ref x0, .int g_1107, .ref ou]) (rest := []) ⟨hx, hb, hml, hown, hts⟩ (c_L_mendAll l hlt dC dI dA zz s.heap.size L f H.size x0 g_1107 ou _ hw) (vx_cwSW 3 hts gL_law_L_mendAll rfl rfl rfl (by decide +kernel) ⟨by decide, by decide⟩) (pPreS [.ref x0, .int g_1107, .ref ou] hK (lPool hP) (lPoolD hD) hS hB hz hN hT) rfl rfl hl.1 rfl (lv_room (Nat.le_of_ble_eq_true rfl)) dL_law_1109 ⟨by show _ ≤ 601024; omega, by show _ ≤ 7293034; omega⟩) hS (fun q _ h => hFc q h) hFc (fun r_1109 u t H1 locs ht hvm hw hB1 hz1 hk1 hS => ?_)
  obtain ⟨L_1109, f_1109⟩ := u
  obtain ⟨hP1, -, hD1⟩ := hB1
  rw [ht] at hP1
  have hw := id hw
  obtain ⟨hP, hD⟩ := lJoinP hP hD hk1 hFc hP1 hD1
  generalize H1 = H at hP hS ⊢
  refine W.widen (k := 100 + 16 * k + 1) (n := 26000 + 2048 * k + 6) (by omega) (by omega) ?_
  refine lv_istore (lv' := [(5, .int r_1109), (0, .ref b), (1, .ref x0), (2, .ref o), (3, .ref ou), (4, .int a4)]) hx hb dL_law_1112 hl (by decide) rfl (fun ls hl => ?_)
  refine lv_aload_n hx hb dL_law_1114 rfl (lv_at hl 3 rfl) ?_
  refine lv_aload_n hx hb dL_law_1115 rfl (lv_at hl 1 rfl) ?_
  refine lv_iload hx hb dL_law_1116 (lv_at hl 5 rfl) ?_
  refine lv_iconst (v := 1) hx hb dL_law_1118 (by decide) ?_
  refine lv_iadd hx hb dL_law_1119 ?_
  refine va_sld hx hb hX hbl hbA hS hw.1 dL_law_1120 ?_
  refine lv_topi (fun g_1120 eg_1120 => ?_)
  have hw := hw.2 g_1120 eg_1120
  have hFc := mFree (lModD hD) hS hA
  refine va_calli (va_runV (As := [.int g_1120]) (rest := []) ⟨hx, hb, hml, hown, hts⟩ (c_X9_mendAll l dC dI (dA 1) (dA 2) (dA 5) o ad S G H.size g_1120 _ hw) (cwV 1 hts gL_law_X9_mendAll rfl rfl rfl (by decide +kernel) ⟨by decide, by decide⟩) (mPreV [.int g_1120] (lKm hK) (lMod hP) (lModD hD)) rfl rfl hl.1 rfl (lv_room (Nat.le_of_ble_eq_true rfl)) dL_law_1121 ⟨by show _ ≤ 601024; omega, by show _ ≤ 7293034; omega⟩) hS (fun q _ h => hFc q h) hFc (fun r_1121 u t H1 locs ht hvm hw hB1 hz1 hk1 hS => ?_)
  obtain ⟨S_1121, G_1121⟩ := u
  obtain ⟨hP1, -, hD1⟩ := hB1
  rw [ht] at hP1
  have hw := id hw
  obtain ⟨hP, hD⟩ := lJoinM hP hD hk1 hFc hP1 hD1
  generalize H1 = H at hP hS ⊢
  refine W.cs (Nat.add_zero _) (Nat.add_zero _) ?_
  refine lv_istore (lv' := [(6, .int r_1121), (5, .int r_1109), (0, .ref b), (1, .ref x0), (2, .ref o), (3, .ref ou), (4, .int a4)]) hx hb dL_law_1124 hl (by decide) rfl (fun ls hl => ?_)
  refine lv_aload_n hx hb dL_law_1126 rfl (lv_at hl 4 rfl) ?_
  have hFc := mFree (lModD hD) hS hA
  refine va_calli (va_runV (As := []) (rest := []) ⟨hx, hb, hml, hown, hts⟩ (c_X9_thrown l dC dI (dA 1) (dA 2) (dA 5) o ad S_1121 G_1121 H.size  _ hw) (cwV 0 hts gL_law_X9_thrown rfl rfl rfl (by decide +kernel) ⟨by decide, by decide⟩) (mPreV [] (lKm hK) (lMod hP) (lModD hD)) rfl rfl hl.1 rfl (lv_room (Nat.le_of_ble_eq_true rfl)) dL_law_1127 ⟨by show _ ≤ 601024; omega, by show _ ≤ 7293034; omega⟩) hS (fun q _ h => hFc q h) hFc (fun r_1127 u t H1 locs ht hvm hw hB1 hz1 hk1 hS => ?_)
  obtain ⟨S_1127, G_1127⟩ := u
  obtain ⟨hP1, -, hD1⟩ := hB1
  rw [ht] at hP1
  have hw := id hw
  obtain ⟨hP, hD⟩ := lJoinM hP hD hk1 hFc hP1 hD1
  generalize H1 = H at hP hS ⊢
  refine W.cs (Nat.add_zero _) (Nat.add_zero _) ?_
  refine lv_iload hx hb dL_law_1130 (lv_at hl 1 rfl) ?_
  refine lv_icmp_eq (tgt := 1137) hx hb dL_law_1132 (by decide) (fun c_1132 => ?_) (fun c_1132 => ?_)
  · have hw := hw.1 c_1132
    refine lv_iload hx hb dL_law_1137 (lv_at hl 1 rfl) ?_
    refine lv_if_ne (tgt := 1154) hx hb dL_law_1139 (by decide) (fun c_1139 => ?_) (fun c_1139 => ?_)
    · have hw := hw.1 c_1139
      refine lv_goto (tgt := 1406) hx hb dL_law_1154 (by decide) ?_
      refine W.widen (k := 100 + 16 * k + 16) (n := 26000 + 2048 * k + 2048) (by omega) (by omega) ?_
      exact tb_law_1406 C h23_ S_1127 G_1127 L_1109 f_1109 k a4 hw H locs hP hD hS ls (lv_sub hl [2, 3, 4, 5, 6] rfl)
    · have hw := hw.2 c_1139
      refine lv_aload_n hx hb dL_law_1142 rfl (lv_at hl 5 rfl) ?_
      refine lv_iconst (v := 0) hx hb dL_law_1143 (by decide) ?_
      obtain ⟨n_1144, h_1144, ⟨hL9, hf9, hn9⟩, hw⟩ := hw
      refine va_lald hx hb hK (p_one (lPool hP) hL9 hf9) 0 2 rfl rfl hn9 dL_law_1144 ?_
      refine lv_topl (fun g_1144 eg_1144 => ?_)
      rw [← eg_1144] at hw
      refine lv_iload hx hb dL_law_1145 (lv_at hl 0 rfl) ?_
      refine lv_i2l hx hb dL_law_1147 rfl ?_
      refine W.lcmp hx hb dL_law_1148 ?_
      refine lv_if_eq (tgt := 1154) hx hb dL_law_1149 (by decide) (fun c_1149 => ?_) (fun c_1149 => ?_)
      · have hw := hw.1 c_1149
        refine lv_goto (tgt := 1406) hx hb dL_law_1154 (by decide) ?_
        refine W.widen (k := 100 + 16 * k + 16) (n := 26000 + 2048 * k + 2048) (by omega) (by omega) ?_
        exact tb_law_1406 C h23_ S_1127 G_1127 L_1109 f_1109 k a4 hw H locs hP hD hS ls (lv_sub hl [2, 3, 4, 5, 6] rfl)
      · have hw := hw.2 c_1149
        refine lv_iconst (v := 0) hx hb dL_law_1152 (by decide) ?_
        exact hw.elim
  · have hw := hw.2 c_1132
    refine lv_iconst (v := 0) hx hb dL_law_1135 (by decide) ?_
    exact hw.elim
set_option maxHeartbeats 4000000 in
set_option maxRecDepth 100000 in
theorem tb_law_1157 {p : Program} {l : Launch} {e : Env} {s : State} {m : MethodId} {below : List Frame} {meth : Method} {c : Code} {dC : Nat → ClassId} {dI : Nat → Nat → Nat} {dA : Nat → ClassId} {zz : Nat → Nat} {o : Nat} {ad : Nat → Nat} {b x0 ou Ln : Nat} {xs : Nat → Int32} (C : lCx p l s m meth c dC dI dA zz b Ln xs) {k23_ : mS → mG → List Nat → pF → Nat → Int32 → Prop} (h23_ : ∀ (S : mS) (G : mG) (L : List Nat) (f : pF) (k : Nat) (a4 : Int32), k23_ S G L f k a4 → lAt p l e s m below meth c dC dI dA o ad b (100 + 16 * k) (26000 + 2048 * k) 23 [(0, .ref b), (1, .ref x0), (2, .ref o), (3, .ref ou), (4, .int a4)] [] S G L f) : ∀ (S : mS) (G : mG) (L : List Nat) (f : pF) (k : Nat) (a4 : Int32), wp_law_1157 dA zz x0 ou Ln xs k23_ S G L f k a4 → lAt p l e s m below meth c dC dI dA o ad b (100 + 16 * k + 0) (26000 + 2048 * k + 0) 1157 [(0, .ref b), (1, .ref x0), (2, .ref o), (3, .ref ou), (4, .int a4)] [] S G L f := by
  obtain ⟨hx, hb, hml, hown, hts, hr, hlocks, hA, hK, hB, hz, hN, hT, hlt, hX, hbl, hbA⟩ := lCx_use C
  intro S G L f k a4 hw H locs hP hD hS ls hl
  rw [wp_law_1157] at hw
  obtain ⟨hk9, hw⟩ := hw
  refine lv_aload_n hx hb dL_law_1157 rfl (lv_at hl 1 rfl) ?_
  refine lv_aload_n hx hb dL_law_1158 rfl (lv_at hl 0 rfl) ?_
  refine lv_iload hx hb dL_law_1159 (lv_at hl 4 rfl) ?_
  refine lv_iconst (v := 1) hx hb dL_law_1161 (by decide) ?_
  refine lv_iadd hx hb dL_law_1162 ?_
  refine va_sld hx hb hX hbl hbA hS hw.1 dL_law_1163 ?_
  refine lv_topi (fun g_1163 eg_1163 => ?_)
  have hw := hw.2 g_1163 eg_1163
  refine lv_aload_n hx hb dL_law_1164 rfl (lv_at hl 3 rfl) ?_
  have hFc := p_free (lPoolD hD) hS hA
  refine va_calli (vx_runSW (As := [.ref x0, .int g_1163, .ref ou]) (rest := []) ⟨hx, hb, hml, hown, hts⟩ (c_L_count l hlt dC dI dA zz s.heap.size L f H.size x0 g_1163 ou _ hw) (vx_cwSW 3 hts gL_law_L_count rfl rfl rfl (by decide +kernel) ⟨by decide, by decide⟩) (pPreS [.ref x0, .int g_1163, .ref ou] hK (lPool hP) (lPoolD hD) hS hB hz hN hT) rfl rfl hl.1 rfl (lv_room (Nat.le_of_ble_eq_true rfl)) dL_law_1165 ⟨by show _ ≤ 601024; omega, by show _ ≤ 7293034; omega⟩) hS (fun q _ h => hFc q h) hFc (fun r_1165 u t H1 locs ht hvm hw hB1 hz1 hk1 hS => ?_)
  obtain ⟨L_1165, f_1165⟩ := u
  obtain ⟨hP1, -, hD1⟩ := hB1
  rw [ht] at hP1
  have hw := id hw
  obtain ⟨hP, hD⟩ := lJoinP hP hD hk1 hFc hP1 hD1
  generalize H1 = H at hP hS ⊢
  refine W.widen (k := 100 + 16 * k + 1) (n := 26000 + 2048 * k + 6) (by omega) (by omega) ?_
  refine lv_istore (lv' := [(5, .int r_1165), (0, .ref b), (1, .ref x0), (2, .ref o), (3, .ref ou), (4, .int a4)]) hx hb dL_law_1168 hl (by decide) rfl (fun ls hl => ?_)
  refine lv_aload_n hx hb dL_law_1170 rfl (lv_at hl 3 rfl) ?_
  refine lv_aload_n hx hb dL_law_1171 rfl (lv_at hl 1 rfl) ?_
  refine lv_iload hx hb dL_law_1172 (lv_at hl 5 rfl) ?_
  refine lv_iconst (v := 1) hx hb dL_law_1174 (by decide) ?_
  refine lv_iadd hx hb dL_law_1175 ?_
  refine va_sld hx hb hX hbl hbA hS hw.1 dL_law_1176 ?_
  refine lv_topi (fun g_1176 eg_1176 => ?_)
  have hw := hw.2 g_1176 eg_1176
  have hFc := mFree (lModD hD) hS hA
  refine va_calli (va_runV (As := [.int g_1176]) (rest := []) ⟨hx, hb, hml, hown, hts⟩ (c_X9_count l dC dI (dA 1) (dA 2) (dA 5) o ad S G H.size g_1176 _ hw) (cwV 1 hts gL_law_X9_count rfl rfl rfl (by decide +kernel) ⟨by decide, by decide⟩) (mPreV [.int g_1176] (lKm hK) (lMod hP) (lModD hD)) rfl rfl hl.1 rfl (lv_room (Nat.le_of_ble_eq_true rfl)) dL_law_1177 ⟨by show _ ≤ 601024; omega, by show _ ≤ 7293034; omega⟩) hS (fun q _ h => hFc q h) hFc (fun r_1177 u t H1 locs ht hvm hw hB1 hz1 hk1 hS => ?_)
  obtain ⟨S_1177, G_1177⟩ := u
  obtain ⟨hP1, -, hD1⟩ := hB1
  rw [ht] at hP1
  have hw := id hw
  obtain ⟨hP, hD⟩ := lJoinM hP hD hk1 hFc hP1 hD1
  generalize H1 = H at hP hS ⊢
  refine W.cs (Nat.add_zero _) (Nat.add_zero _) ?_
  refine lv_istore (lv' := [(6, .int r_1177), (5, .int r_1165), (0, .ref b), (1, .ref x0), (2, .ref o), (3, .ref ou), (4, .int a4)]) hx hb dL_law_1180 hl (by decide) rfl (fun ls hl => ?_)
  refine lv_aload_n hx hb dL_law_1182 rfl (lv_at hl 4 rfl) ?_
  have hFc := mFree (lModD hD) hS hA
  refine va_calli (va_runV (As := []) (rest := []) ⟨hx, hb, hml, hown, hts⟩ (c_X9_thrown l dC dI (dA 1) (dA 2) (dA 5) o ad S_1177 G_1177 H.size  _ hw) (cwV 0 hts gL_law_X9_thrown rfl rfl rfl (by decide +kernel) ⟨by decide, by decide⟩) (mPreV [] (lKm hK) (lMod hP) (lModD hD)) rfl rfl hl.1 rfl (lv_room (Nat.le_of_ble_eq_true rfl)) dL_law_1183 ⟨by show _ ≤ 601024; omega, by show _ ≤ 7293034; omega⟩) hS (fun q _ h => hFc q h) hFc (fun r_1183 u t H1 locs ht hvm hw hB1 hz1 hk1 hS => ?_)
  obtain ⟨S_1183, G_1183⟩ := u
  obtain ⟨hP1, -, hD1⟩ := hB1
  rw [ht] at hP1
  have hw := id hw
  obtain ⟨hP, hD⟩ := lJoinM hP hD hk1 hFc hP1 hD1
  generalize H1 = H at hP hS ⊢
  refine W.cs (Nat.add_zero _) (Nat.add_zero _) ?_
  refine lv_iload hx hb dL_law_1186 (lv_at hl 1 rfl) ?_
  refine lv_icmp_eq (tgt := 1193) hx hb dL_law_1188 (by decide) (fun c_1188 => ?_) (fun c_1188 => ?_)
  · have hw := hw.1 c_1188
    refine lv_iload hx hb dL_law_1193 (lv_at hl 1 rfl) ?_
    refine lv_if_ne (tgt := 1210) hx hb dL_law_1195 (by decide) (fun c_1195 => ?_) (fun c_1195 => ?_)
    · have hw := hw.1 c_1195
      refine lv_goto (tgt := 1406) hx hb dL_law_1210 (by decide) ?_
      refine W.widen (k := 100 + 16 * k + 16) (n := 26000 + 2048 * k + 2048) (by omega) (by omega) ?_
      exact tb_law_1406 C h23_ S_1183 G_1183 L_1165 f_1165 k a4 hw H locs hP hD hS ls (lv_sub hl [2, 3, 4, 5, 6] rfl)
    · have hw := hw.2 c_1195
      refine lv_aload_n hx hb dL_law_1198 rfl (lv_at hl 5 rfl) ?_
      refine lv_iconst (v := 0) hx hb dL_law_1199 (by decide) ?_
      obtain ⟨n_1200, h_1200, ⟨hL9, hf9, hn9⟩, hw⟩ := hw
      refine va_lald hx hb hK (p_one (lPool hP) hL9 hf9) 0 2 rfl rfl hn9 dL_law_1200 ?_
      refine lv_topl (fun g_1200 eg_1200 => ?_)
      rw [← eg_1200] at hw
      refine lv_iload hx hb dL_law_1201 (lv_at hl 0 rfl) ?_
      refine lv_i2l hx hb dL_law_1203 rfl ?_
      refine W.lcmp hx hb dL_law_1204 ?_
      refine lv_if_eq (tgt := 1210) hx hb dL_law_1205 (by decide) (fun c_1205 => ?_) (fun c_1205 => ?_)
      · have hw := hw.1 c_1205
        refine lv_goto (tgt := 1406) hx hb dL_law_1210 (by decide) ?_
        refine W.widen (k := 100 + 16 * k + 16) (n := 26000 + 2048 * k + 2048) (by omega) (by omega) ?_
        exact tb_law_1406 C h23_ S_1183 G_1183 L_1165 f_1165 k a4 hw H locs hP hD hS ls (lv_sub hl [2, 3, 4, 5, 6] rfl)
      · have hw := hw.2 c_1205
        refine lv_iconst (v := 0) hx hb dL_law_1208 (by decide) ?_
        exact hw.elim
  · have hw := hw.2 c_1188
    refine lv_iconst (v := 0) hx hb dL_law_1191 (by decide) ?_
    exact hw.elim
set_option maxHeartbeats 4000000 in
set_option maxRecDepth 100000 in
theorem tb_law_1213 {p : Program} {l : Launch} {e : Env} {s : State} {m : MethodId} {below : List Frame} {meth : Method} {c : Code} {dC : Nat → ClassId} {dI : Nat → Nat → Nat} {dA : Nat → ClassId} {zz : Nat → Nat} {o : Nat} {ad : Nat → Nat} {b x0 ou Ln : Nat} {xs : Nat → Int32} (C : lCx p l s m meth c dC dI dA zz b Ln xs) {k23_ : mS → mG → List Nat → pF → Nat → Int32 → Prop} (h23_ : ∀ (S : mS) (G : mG) (L : List Nat) (f : pF) (k : Nat) (a4 : Int32), k23_ S G L f k a4 → lAt p l e s m below meth c dC dI dA o ad b (100 + 16 * k) (26000 + 2048 * k) 23 [(0, .ref b), (1, .ref x0), (2, .ref o), (3, .ref ou), (4, .int a4)] [] S G L f) : ∀ (S : mS) (G : mG) (L : List Nat) (f : pF) (k : Nat) (a4 : Int32), wp_law_1213 dA zz x0 ou Ln xs k23_ S G L f k a4 → lAt p l e s m below meth c dC dI dA o ad b (100 + 16 * k + 0) (26000 + 2048 * k + 0) 1213 [(0, .ref b), (1, .ref x0), (2, .ref o), (3, .ref ou), (4, .int a4)] [] S G L f := by
  obtain ⟨hx, hb, hml, hown, hts, hr, hlocks, hA, hK, hB, hz, hN, hT, hlt, hX, hbl, hbA⟩ := lCx_use C
  intro S G L f k a4 hw H locs hP hD hS ls hl
  rw [wp_law_1213] at hw
  obtain ⟨hk9, hw⟩ := hw
  refine lv_aload_n hx hb dL_law_1213 rfl (lv_at hl 1 rfl) ?_
  refine lv_aload_n hx hb dL_law_1214 rfl (lv_at hl 0 rfl) ?_
  refine lv_iload hx hb dL_law_1215 (lv_at hl 4 rfl) ?_
  refine lv_iconst (v := 1) hx hb dL_law_1217 (by decide) ?_
  refine lv_iadd hx hb dL_law_1218 ?_
  refine va_sld hx hb hX hbl hbA hS hw.1 dL_law_1219 ?_
  refine lv_topi (fun g_1219 eg_1219 => ?_)
  have hw := hw.2 g_1219 eg_1219
  refine lv_aload_n hx hb dL_law_1220 rfl (lv_at hl 3 rfl) ?_
  have hFc := p_free (lPoolD hD) hS hA
  refine va_calli (vx_runSW (As := [.ref x0, .int g_1219, .ref ou]) (rest := []) ⟨hx, hb, hml, hown, hts⟩ (c_L_ring l hlt dC dI dA zz s.heap.size L f H.size x0 g_1219 ou _ hw) (vx_cwSW 3 hts gL_law_L_ring rfl rfl rfl (by decide +kernel) ⟨by decide, by decide⟩) (pPreS [.ref x0, .int g_1219, .ref ou] hK (lPool hP) (lPoolD hD) hS hB hz hN hT) rfl rfl hl.1 rfl (lv_room (Nat.le_of_ble_eq_true rfl)) dL_law_1221 ⟨by show _ ≤ 601024; omega, by show _ ≤ 7293034; omega⟩) hS (fun q _ h => hFc q h) hFc (fun r_1221 u t H1 locs ht hvm hw hB1 hz1 hk1 hS => ?_)
  obtain ⟨L_1221, f_1221⟩ := u
  obtain ⟨hP1, -, hD1⟩ := hB1
  rw [ht] at hP1
  have hw := id hw
  obtain ⟨hP, hD⟩ := lJoinP hP hD hk1 hFc hP1 hD1
  generalize H1 = H at hP hS ⊢
  refine W.widen (k := 100 + 16 * k + 1) (n := 26000 + 2048 * k + 6) (by omega) (by omega) ?_
  refine lv_istore (lv' := [(5, .int r_1221), (0, .ref b), (1, .ref x0), (2, .ref o), (3, .ref ou), (4, .int a4)]) hx hb dL_law_1224 hl (by decide) rfl (fun ls hl => ?_)
  refine lv_aload_n hx hb dL_law_1226 rfl (lv_at hl 3 rfl) ?_
  refine lv_aload_n hx hb dL_law_1227 rfl (lv_at hl 1 rfl) ?_
  refine lv_iload hx hb dL_law_1228 (lv_at hl 5 rfl) ?_
  refine lv_iconst (v := 1) hx hb dL_law_1230 (by decide) ?_
  refine lv_iadd hx hb dL_law_1231 ?_
  refine va_sld hx hb hX hbl hbA hS hw.1 dL_law_1232 ?_
  refine lv_topi (fun g_1232 eg_1232 => ?_)
  have hw := hw.2 g_1232 eg_1232
  have hFc := mFree (lModD hD) hS hA
  refine va_calli (va_runV (As := [.int g_1232]) (rest := []) ⟨hx, hb, hml, hown, hts⟩ (c_X9_ring l dC dI (dA 1) (dA 2) (dA 5) o ad S G H.size g_1232 _ hw) (cwV 1 hts gL_law_X9_ring rfl rfl rfl (by decide +kernel) ⟨by decide, by decide⟩) (mPreV [.int g_1232] (lKm hK) (lMod hP) (lModD hD)) rfl rfl hl.1 rfl (lv_room (Nat.le_of_ble_eq_true rfl)) dL_law_1233 ⟨by show _ ≤ 601024; omega, by show _ ≤ 7293034; omega⟩) hS (fun q _ h => hFc q h) hFc (fun r_1233 u t H1 locs ht hvm hw hB1 hz1 hk1 hS => ?_)
  obtain ⟨S_1233, G_1233⟩ := u
  obtain ⟨hP1, -, hD1⟩ := hB1
  rw [ht] at hP1
  have hw := id hw
  obtain ⟨hP, hD⟩ := lJoinM hP hD hk1 hFc hP1 hD1
  generalize H1 = H at hP hS ⊢
  refine W.cs (Nat.add_zero _) (Nat.add_zero _) ?_
  refine lv_istore (lv' := [(6, .int r_1233), (5, .int r_1221), (0, .ref b), (1, .ref x0), (2, .ref o), (3, .ref ou), (4, .int a4)]) hx hb dL_law_1236 hl (by decide) rfl (fun ls hl => ?_)
  refine lv_aload_n hx hb dL_law_1238 rfl (lv_at hl 4 rfl) ?_
  have hFc := mFree (lModD hD) hS hA
  refine va_calli (va_runV (As := []) (rest := []) ⟨hx, hb, hml, hown, hts⟩ (c_X9_thrown l dC dI (dA 1) (dA 2) (dA 5) o ad S_1233 G_1233 H.size  _ hw) (cwV 0 hts gL_law_X9_thrown rfl rfl rfl (by decide +kernel) ⟨by decide, by decide⟩) (mPreV [] (lKm hK) (lMod hP) (lModD hD)) rfl rfl hl.1 rfl (lv_room (Nat.le_of_ble_eq_true rfl)) dL_law_1239 ⟨by show _ ≤ 601024; omega, by show _ ≤ 7293034; omega⟩) hS (fun q _ h => hFc q h) hFc (fun r_1239 u t H1 locs ht hvm hw hB1 hz1 hk1 hS => ?_)
  obtain ⟨S_1239, G_1239⟩ := u
  obtain ⟨hP1, -, hD1⟩ := hB1
  rw [ht] at hP1
  have hw := id hw
  obtain ⟨hP, hD⟩ := lJoinM hP hD hk1 hFc hP1 hD1
  generalize H1 = H at hP hS ⊢
  refine W.cs (Nat.add_zero _) (Nat.add_zero _) ?_
  refine lv_iload hx hb dL_law_1242 (lv_at hl 1 rfl) ?_
  refine lv_icmp_eq (tgt := 1249) hx hb dL_law_1244 (by decide) (fun c_1244 => ?_) (fun c_1244 => ?_)
  · have hw := hw.1 c_1244
    refine lv_iload hx hb dL_law_1249 (lv_at hl 1 rfl) ?_
    refine lv_if_ne (tgt := 1266) hx hb dL_law_1251 (by decide) (fun c_1251 => ?_) (fun c_1251 => ?_)
    · have hw := hw.1 c_1251
      refine lv_goto (tgt := 1406) hx hb dL_law_1266 (by decide) ?_
      refine W.widen (k := 100 + 16 * k + 16) (n := 26000 + 2048 * k + 2048) (by omega) (by omega) ?_
      exact tb_law_1406 C h23_ S_1239 G_1239 L_1221 f_1221 k a4 hw H locs hP hD hS ls (lv_sub hl [2, 3, 4, 5, 6] rfl)
    · have hw := hw.2 c_1251
      refine lv_aload_n hx hb dL_law_1254 rfl (lv_at hl 5 rfl) ?_
      refine lv_iconst (v := 0) hx hb dL_law_1255 (by decide) ?_
      obtain ⟨n_1256, h_1256, ⟨hL9, hf9, hn9⟩, hw⟩ := hw
      refine va_lald hx hb hK (p_one (lPool hP) hL9 hf9) 0 2 rfl rfl hn9 dL_law_1256 ?_
      refine lv_topl (fun g_1256 eg_1256 => ?_)
      rw [← eg_1256] at hw
      refine lv_iload hx hb dL_law_1257 (lv_at hl 0 rfl) ?_
      refine lv_i2l hx hb dL_law_1259 rfl ?_
      refine W.lcmp hx hb dL_law_1260 ?_
      refine lv_if_eq (tgt := 1266) hx hb dL_law_1261 (by decide) (fun c_1261 => ?_) (fun c_1261 => ?_)
      · have hw := hw.1 c_1261
        refine lv_goto (tgt := 1406) hx hb dL_law_1266 (by decide) ?_
        refine W.widen (k := 100 + 16 * k + 16) (n := 26000 + 2048 * k + 2048) (by omega) (by omega) ?_
        exact tb_law_1406 C h23_ S_1239 G_1239 L_1221 f_1221 k a4 hw H locs hP hD hS ls (lv_sub hl [2, 3, 4, 5, 6] rfl)
      · have hw := hw.2 c_1261
        refine lv_iconst (v := 0) hx hb dL_law_1264 (by decide) ?_
        exact hw.elim
  · have hw := hw.2 c_1244
    refine lv_iconst (v := 0) hx hb dL_law_1247 (by decide) ?_
    exact hw.elim
set_option maxHeartbeats 4000000 in
set_option maxRecDepth 100000 in
theorem tb_law_1269 {p : Program} {l : Launch} {e : Env} {s : State} {m : MethodId} {below : List Frame} {meth : Method} {c : Code} {dC : Nat → ClassId} {dI : Nat → Nat → Nat} {dA : Nat → ClassId} {zz : Nat → Nat} {o : Nat} {ad : Nat → Nat} {b x0 ou Ln : Nat} {xs : Nat → Int32} (C : lCx p l s m meth c dC dI dA zz b Ln xs) {k23_ : mS → mG → List Nat → pF → Nat → Int32 → Prop} (h23_ : ∀ (S : mS) (G : mG) (L : List Nat) (f : pF) (k : Nat) (a4 : Int32), k23_ S G L f k a4 → lAt p l e s m below meth c dC dI dA o ad b (100 + 16 * k) (26000 + 2048 * k) 23 [(0, .ref b), (1, .ref x0), (2, .ref o), (3, .ref ou), (4, .int a4)] [] S G L f) : ∀ (S : mS) (G : mG) (L : List Nat) (f : pF) (k : Nat) (a4 : Int32), wp_law_1269 dA zz x0 ou Ln xs k23_ S G L f k a4 → lAt p l e s m below meth c dC dI dA o ad b (100 + 16 * k + 0) (26000 + 2048 * k + 0) 1269 [(0, .ref b), (1, .ref x0), (2, .ref o), (3, .ref ou), (4, .int a4)] [] S G L f := by
  obtain ⟨hx, hb, hml, hown, hts, hr, hlocks, hA, hK, hB, hz, hN, hT, hlt, hX, hbl, hbA⟩ := lCx_use C
  intro S G L f k a4 hw H locs hP hD hS ls hl
  rw [wp_law_1269] at hw
  obtain ⟨hk9, hw⟩ := hw
  refine lv_aload_n hx hb dL_law_1269 rfl (lv_at hl 1 rfl) ?_
  obtain ⟨hO9, hw⟩ := hw
  have hFc := p_free (lPoolD hD) hS hA
  refine va_calll (va_runV (As := []) (rest := []) ⟨hx, hb, hml, hown, hts⟩ (c_X8_fewest l dC dI dA zz s.heap.size L f H.size x0  _ hw) (cwV 0 hts gL_law_X8_fewest rfl rfl rfl (by decide +kernel) ⟨by decide, by decide⟩) (pPreV [] (ci := 9) rfl hO9 hK (lPool hP) (lPoolD hD) hS hB hz hN hT) rfl rfl hl.1 rfl (lv_room (Nat.le_of_ble_eq_true rfl)) dL_law_1270 ⟨by show _ ≤ 601024; omega, by show _ ≤ 7293034; omega⟩) hS (fun q _ h => hFc q h) hFc (fun r_1270 u t H1 locs ht hvm hw hB1 hz1 hk1 hS => ?_)
  obtain ⟨L_1270, f_1270⟩ := u
  obtain ⟨hP1, -, hD1⟩ := hB1
  rw [ht] at hP1
  have hw := id hw
  obtain ⟨hP, hD⟩ := lJoinP hP hD hk1 hFc hP1 hD1
  generalize H1 = H at hP hS ⊢
  refine W.widen (k := 100 + 16 * k + 0) (n := 26000 + 2048 * k + 0) (by omega) (by omega) ?_
  refine lv_aload_n hx hb dL_law_1273 rfl (lv_at hl 2 rfl) ?_
  have hFc := mFree (lModD hD) hS hA
  refine va_calll (va_runV (As := []) (rest := [.long r_1270]) ⟨hx, hb, hml, hown, hts⟩ (c_X9_fewest l dC dI (dA 1) (dA 2) (dA 5) o ad S G H.size  _ hw) (cwV 0 hts gL_law_X9_fewest rfl rfl rfl (by decide +kernel) ⟨by decide, by decide⟩) (mPreV [] (lKm hK) (lMod hP) (lModD hD)) rfl rfl hl.1 rfl (lv_room (Nat.le_of_ble_eq_true rfl)) dL_law_1274 ⟨by show _ ≤ 601024; omega, by show _ ≤ 7293034; omega⟩) hS (fun q _ h => hFc q h) hFc (fun r_1274 u t H1 locs ht hvm hw hB1 hz1 hk1 hS => ?_)
  obtain ⟨S_1274, G_1274⟩ := u
  obtain ⟨hP1, -, hD1⟩ := hB1
  rw [ht] at hP1
  have hw := id hw
  obtain ⟨hP, hD⟩ := lJoinM hP hD hk1 hFc hP1 hD1
  generalize H1 = H at hP hS ⊢
  refine W.cs (Nat.add_zero _) (Nat.add_zero _) ?_
  refine W.lcmp hx hb dL_law_1277 ?_
  refine lv_if_eq (tgt := 1406) hx hb dL_law_1278 (by decide) (fun c_1278 => ?_) (fun c_1278 => ?_)
  · have hw := hw.1 c_1278
    refine W.widen (k := 100 + 16 * k + 16) (n := 26000 + 2048 * k + 2048) (by omega) (by omega) ?_
    exact tb_law_1406 C h23_ S_1274 G_1274 L_1270 f_1270 k a4 hw H locs hP hD hS ls (lv_sub hl [0, 1, 2, 3, 4] rfl)
  · have hw := hw.2 c_1278
    refine lv_iconst (v := 0) hx hb dL_law_1281 (by decide) ?_
    exact hw.elim
set_option maxHeartbeats 4000000 in
set_option maxRecDepth 100000 in
theorem tb_law_1283 {p : Program} {l : Launch} {e : Env} {s : State} {m : MethodId} {below : List Frame} {meth : Method} {c : Code} {dC : Nat → ClassId} {dI : Nat → Nat → Nat} {dA : Nat → ClassId} {zz : Nat → Nat} {o : Nat} {ad : Nat → Nat} {b x0 ou Ln : Nat} {xs : Nat → Int32} (C : lCx p l s m meth c dC dI dA zz b Ln xs) {k23_ : mS → mG → List Nat → pF → Nat → Int32 → Prop} (h23_ : ∀ (S : mS) (G : mG) (L : List Nat) (f : pF) (k : Nat) (a4 : Int32), k23_ S G L f k a4 → lAt p l e s m below meth c dC dI dA o ad b (100 + 16 * k) (26000 + 2048 * k) 23 [(0, .ref b), (1, .ref x0), (2, .ref o), (3, .ref ou), (4, .int a4)] [] S G L f) : ∀ (S : mS) (G : mG) (L : List Nat) (f : pF) (k : Nat) (a4 : Int32), wp_law_1283 dA zz x0 ou Ln xs k23_ S G L f k a4 → lAt p l e s m below meth c dC dI dA o ad b (100 + 16 * k + 0) (26000 + 2048 * k + 0) 1283 [(0, .ref b), (1, .ref x0), (2, .ref o), (3, .ref ou), (4, .int a4)] [] S G L f := by
  obtain ⟨hx, hb, hml, hown, hts, hr, hlocks, hA, hK, hB, hz, hN, hT, hlt, hX, hbl, hbA⟩ := lCx_use C
  intro S G L f k a4 hw H locs hP hD hS ls hl
  rw [wp_law_1283] at hw
  obtain ⟨hk9, hw⟩ := hw
  refine lv_aload_n hx hb dL_law_1283 rfl (lv_at hl 1 rfl) ?_
  refine lv_aload_n hx hb dL_law_1284 rfl (lv_at hl 0 rfl) ?_
  refine lv_iload hx hb dL_law_1285 (lv_at hl 4 rfl) ?_
  refine lv_iconst (v := 1) hx hb dL_law_1287 (by decide) ?_
  refine lv_iadd hx hb dL_law_1288 ?_
  refine va_sld hx hb hX hbl hbA hS hw.1 dL_law_1289 ?_
  refine lv_topi (fun g_1289 eg_1289 => ?_)
  have hw := hw.2 g_1289 eg_1289
  refine lv_aload_n hx hb dL_law_1290 rfl (lv_at hl 0 rfl) ?_
  refine lv_iload hx hb dL_law_1291 (lv_at hl 4 rfl) ?_
  refine lv_iconst (v := 2) hx hb dL_law_1293 (by decide) ?_
  refine lv_iadd hx hb dL_law_1294 ?_
  refine va_sld hx hb hX hbl hbA hS hw.1 dL_law_1295 ?_
  refine lv_topi (fun g_1295 eg_1295 => ?_)
  have hw := hw.2 g_1295 eg_1295
  refine lv_aload_n hx hb dL_law_1296 rfl (lv_at hl 3 rfl) ?_
  have hFc := p_free (lPoolD hD) hS hA
  refine va_calli (vx_runSW (As := [.ref x0, .int g_1289, .int g_1295, .ref ou]) (rest := []) ⟨hx, hb, hml, hown, hts⟩ (c_L_crossing l hlt dC dI dA zz s.heap.size L f H.size x0 g_1289 g_1295 ou _ hw) (vx_cwSW 4 hts gL_law_L_crossing rfl rfl rfl (by decide +kernel) ⟨by decide, by decide⟩) (pPreS [.ref x0, .int g_1289, .int g_1295, .ref ou] hK (lPool hP) (lPoolD hD) hS hB hz hN hT) rfl rfl hl.1 rfl (lv_room (Nat.le_of_ble_eq_true rfl)) dL_law_1297 ⟨by show _ ≤ 601024; omega, by show _ ≤ 7293034; omega⟩) hS (fun q _ h => hFc q h) hFc (fun r_1297 u t H1 locs ht hvm hw hB1 hz1 hk1 hS => ?_)
  obtain ⟨L_1297, f_1297⟩ := u
  obtain ⟨hP1, -, hD1⟩ := hB1
  rw [ht] at hP1
  have hw := id hw
  obtain ⟨hP, hD⟩ := lJoinP hP hD hk1 hFc hP1 hD1
  generalize H1 = H at hP hS ⊢
  refine W.widen (k := 100 + 16 * k + 2) (n := 26000 + 2048 * k + 12) (by omega) (by omega) ?_
  refine lv_istore (lv' := [(5, .int r_1297), (0, .ref b), (1, .ref x0), (2, .ref o), (3, .ref ou), (4, .int a4)]) hx hb dL_law_1300 hl (by decide) rfl (fun ls hl => ?_)
  refine lv_aload_n hx hb dL_law_1302 rfl (lv_at hl 3 rfl) ?_
  refine lv_aload_n hx hb dL_law_1303 rfl (lv_at hl 1 rfl) ?_
  refine lv_iload hx hb dL_law_1304 (lv_at hl 5 rfl) ?_
  refine lv_iconst (v := 1) hx hb dL_law_1306 (by decide) ?_
  refine lv_iadd hx hb dL_law_1307 ?_
  refine va_sld hx hb hX hbl hbA hS hw.1 dL_law_1308 ?_
  refine lv_topi (fun g_1308 eg_1308 => ?_)
  have hw := hw.2 g_1308 eg_1308
  refine lv_aload_n hx hb dL_law_1309 rfl (lv_at hl 1 rfl) ?_
  refine lv_iload hx hb dL_law_1310 (lv_at hl 5 rfl) ?_
  refine lv_iconst (v := 2) hx hb dL_law_1312 (by decide) ?_
  refine lv_iadd hx hb dL_law_1313 ?_
  refine va_sld hx hb hX hbl hbA hS hw.1 dL_law_1314 ?_
  refine lv_topi (fun g_1314 eg_1314 => ?_)
  have hw := hw.2 g_1314 eg_1314
  have hFc := mFree (lModD hD) hS hA
  refine va_calll (va_runV (As := [.int g_1308, .int g_1314]) (rest := []) ⟨hx, hb, hml, hown, hts⟩ (c_X9_crossing l dC dI (dA 1) (dA 2) (dA 5) o ad S G H.size g_1308 g_1314 _ hw) (cwV 2 hts gL_law_X9_crossing rfl rfl rfl (by decide +kernel) ⟨by decide, by decide⟩) (mPreV [.int g_1308, .int g_1314] (lKm hK) (lMod hP) (lModD hD)) rfl rfl hl.1 rfl (lv_room (Nat.le_of_ble_eq_true rfl)) dL_law_1315 ⟨by show _ ≤ 601024; omega, by show _ ≤ 7293034; omega⟩) hS (fun q _ h => hFc q h) hFc (fun r_1315 u t H1 locs ht hvm hw hB1 hz1 hk1 hS => ?_)
  obtain ⟨S_1315, G_1315⟩ := u
  obtain ⟨hP1, -, hD1⟩ := hB1
  rw [ht] at hP1
  have hw := id hw
  obtain ⟨hP, hD⟩ := lJoinM hP hD hk1 hFc hP1 hD1
  generalize H1 = H at hP hS ⊢
  refine W.cs (Nat.add_zero _) (Nat.add_zero _) ?_
  refine lv_lstore (lv' := [(6, .long r_1315), (5, .int r_1297), (0, .ref b), (1, .ref x0), (2, .ref o), (3, .ref ou), (4, .int a4)]) hx hb dL_law_1318 hl (by decide) rfl (fun ls hl => ?_)
  refine lv_aload_n hx hb dL_law_1320 rfl (lv_at hl 4 rfl) ?_
  have hFc := mFree (lModD hD) hS hA
  refine va_calli (va_runV (As := []) (rest := []) ⟨hx, hb, hml, hown, hts⟩ (c_X9_thrown l dC dI (dA 1) (dA 2) (dA 5) o ad S_1315 G_1315 H.size  _ hw) (cwV 0 hts gL_law_X9_thrown rfl rfl rfl (by decide +kernel) ⟨by decide, by decide⟩) (mPreV [] (lKm hK) (lMod hP) (lModD hD)) rfl rfl hl.1 rfl (lv_room (Nat.le_of_ble_eq_true rfl)) dL_law_1321 ⟨by show _ ≤ 601024; omega, by show _ ≤ 7293034; omega⟩) hS (fun q _ h => hFc q h) hFc (fun r_1321 u t H1 locs ht hvm hw hB1 hz1 hk1 hS => ?_)
  obtain ⟨S_1321, G_1321⟩ := u
  obtain ⟨hP1, -, hD1⟩ := hB1
  rw [ht] at hP1
  have hw := id hw
  obtain ⟨hP, hD⟩ := lJoinM hP hD hk1 hFc hP1 hD1
  generalize H1 = H at hP hS ⊢
  refine W.cs (Nat.add_zero _) (Nat.add_zero _) ?_
  refine lv_iload hx hb dL_law_1324 (lv_at hl 1 rfl) ?_
  refine lv_icmp_eq (tgt := 1331) hx hb dL_law_1326 (by decide) (fun c_1326 => ?_) (fun c_1326 => ?_)
  · have hw := hw.1 c_1326
    refine lv_iload hx hb dL_law_1331 (lv_at hl 1 rfl) ?_
    refine lv_if_ne (tgt := 1347) hx hb dL_law_1333 (by decide) (fun c_1333 => ?_) (fun c_1333 => ?_)
    · have hw := hw.1 c_1333
      refine lv_goto (tgt := 1406) hx hb dL_law_1347 (by decide) ?_
      refine W.widen (k := 100 + 16 * k + 16) (n := 26000 + 2048 * k + 2048) (by omega) (by omega) ?_
      exact tb_law_1406 C h23_ S_1321 G_1321 L_1297 f_1297 k a4 hw H locs hP hD hS ls (lv_sub hl [2, 3, 4, 5, 6] rfl)
    · have hw := hw.2 c_1333
      refine lv_aload_n hx hb dL_law_1336 rfl (lv_at hl 5 rfl) ?_
      refine lv_iconst (v := 0) hx hb dL_law_1337 (by decide) ?_
      obtain ⟨n_1338, h_1338, ⟨hL9, hf9, hn9⟩, hw⟩ := hw
      refine va_lald hx hb hK (p_one (lPool hP) hL9 hf9) 0 2 rfl rfl hn9 dL_law_1338 ?_
      refine lv_topl (fun g_1338 eg_1338 => ?_)
      rw [← eg_1338] at hw
      refine lv_lload hx hb dL_law_1339 (lv_at hl 0 rfl) ?_
      refine W.lcmp hx hb dL_law_1341 ?_
      refine lv_if_eq (tgt := 1347) hx hb dL_law_1342 (by decide) (fun c_1342 => ?_) (fun c_1342 => ?_)
      · have hw := hw.1 c_1342
        refine lv_goto (tgt := 1406) hx hb dL_law_1347 (by decide) ?_
        refine W.widen (k := 100 + 16 * k + 16) (n := 26000 + 2048 * k + 2048) (by omega) (by omega) ?_
        exact tb_law_1406 C h23_ S_1321 G_1321 L_1297 f_1297 k a4 hw H locs hP hD hS ls (lv_sub hl [2, 3, 4, 5, 6] rfl)
      · have hw := hw.2 c_1342
        refine lv_iconst (v := 0) hx hb dL_law_1345 (by decide) ?_
        exact hw.elim
  · have hw := hw.2 c_1326
    refine lv_iconst (v := 0) hx hb dL_law_1329 (by decide) ?_
    exact hw.elim
set_option maxHeartbeats 4000000 in
set_option maxRecDepth 100000 in
theorem tb_law_1350 {p : Program} {l : Launch} {e : Env} {s : State} {m : MethodId} {below : List Frame} {meth : Method} {c : Code} {dC : Nat → ClassId} {dI : Nat → Nat → Nat} {dA : Nat → ClassId} {zz : Nat → Nat} {o : Nat} {ad : Nat → Nat} {b x0 ou Ln : Nat} {xs : Nat → Int32} (C : lCx p l s m meth c dC dI dA zz b Ln xs) {k23_ : mS → mG → List Nat → pF → Nat → Int32 → Prop} (h23_ : ∀ (S : mS) (G : mG) (L : List Nat) (f : pF) (k : Nat) (a4 : Int32), k23_ S G L f k a4 → lAt p l e s m below meth c dC dI dA o ad b (100 + 16 * k) (26000 + 2048 * k) 23 [(0, .ref b), (1, .ref x0), (2, .ref o), (3, .ref ou), (4, .int a4)] [] S G L f) : ∀ (S : mS) (G : mG) (L : List Nat) (f : pF) (k : Nat) (a4 : Int32), wp_law_1350 dA zz x0 ou Ln xs k23_ S G L f k a4 → lAt p l e s m below meth c dC dI dA o ad b (100 + 16 * k + 0) (26000 + 2048 * k + 0) 1350 [(0, .ref b), (1, .ref x0), (2, .ref o), (3, .ref ou), (4, .int a4)] [] S G L f := by
  obtain ⟨hx, hb, hml, hown, hts, hr, hlocks, hA, hK, hB, hz, hN, hT, hlt, hX, hbl, hbA⟩ := lCx_use C
  intro S G L f k a4 hw H locs hP hD hS ls hl
  rw [wp_law_1350] at hw
  obtain ⟨hk9, hw⟩ := hw
  refine lv_aload_n hx hb dL_law_1350 rfl (lv_at hl 1 rfl) ?_
  refine lv_aload_n hx hb dL_law_1351 rfl (lv_at hl 0 rfl) ?_
  refine lv_iload hx hb dL_law_1352 (lv_at hl 4 rfl) ?_
  refine lv_iconst (v := 1) hx hb dL_law_1354 (by decide) ?_
  refine lv_iadd hx hb dL_law_1355 ?_
  refine va_sld hx hb hX hbl hbA hS hw.1 dL_law_1356 ?_
  refine lv_topi (fun g_1356 eg_1356 => ?_)
  have hw := hw.2 g_1356 eg_1356
  refine lv_aload_n hx hb dL_law_1357 rfl (lv_at hl 3 rfl) ?_
  have hFc := p_free (lPoolD hD) hS hA
  refine va_calli (vx_runSW (As := [.ref x0, .int g_1356, .ref ou]) (rest := []) ⟨hx, hb, hml, hown, hts⟩ (c_L_total l hlt dC dI dA zz s.heap.size L f H.size x0 g_1356 ou _ hw) (vx_cwSW 3 hts gL_law_L_total rfl rfl rfl (by decide +kernel) ⟨by decide, by decide⟩) (pPreS [.ref x0, .int g_1356, .ref ou] hK (lPool hP) (lPoolD hD) hS hB hz hN hT) rfl rfl hl.1 rfl (lv_room (Nat.le_of_ble_eq_true rfl)) dL_law_1358 ⟨by show _ ≤ 601024; omega, by show _ ≤ 7293034; omega⟩) hS (fun q _ h => hFc q h) hFc (fun r_1358 u t H1 locs ht hvm hw hB1 hz1 hk1 hS => ?_)
  obtain ⟨L_1358, f_1358⟩ := u
  obtain ⟨hP1, -, hD1⟩ := hB1
  rw [ht] at hP1
  have hw := id hw
  obtain ⟨hP, hD⟩ := lJoinP hP hD hk1 hFc hP1 hD1
  generalize H1 = H at hP hS ⊢
  refine W.widen (k := 100 + 16 * k + 1) (n := 26000 + 2048 * k + 6) (by omega) (by omega) ?_
  refine lv_istore (lv' := [(5, .int r_1358), (0, .ref b), (1, .ref x0), (2, .ref o), (3, .ref ou), (4, .int a4)]) hx hb dL_law_1361 hl (by decide) rfl (fun ls hl => ?_)
  refine lv_aload_n hx hb dL_law_1363 rfl (lv_at hl 3 rfl) ?_
  refine lv_aload_n hx hb dL_law_1364 rfl (lv_at hl 1 rfl) ?_
  refine lv_iload hx hb dL_law_1365 (lv_at hl 5 rfl) ?_
  refine lv_iconst (v := 1) hx hb dL_law_1367 (by decide) ?_
  refine lv_iadd hx hb dL_law_1368 ?_
  refine va_sld hx hb hX hbl hbA hS hw.1 dL_law_1369 ?_
  refine lv_topi (fun g_1369 eg_1369 => ?_)
  have hw := hw.2 g_1369 eg_1369
  have hFc := mFree (lModD hD) hS hA
  refine va_calli (va_runV (As := [.int g_1369]) (rest := []) ⟨hx, hb, hml, hown, hts⟩ (c_X9_total l dC dI (dA 1) (dA 2) (dA 5) o ad S G H.size g_1369 _ hw) (cwV 1 hts gL_law_X9_total rfl rfl rfl (by decide +kernel) ⟨by decide, by decide⟩) (mPreV [.int g_1369] (lKm hK) (lMod hP) (lModD hD)) rfl rfl hl.1 rfl (lv_room (Nat.le_of_ble_eq_true rfl)) dL_law_1370 ⟨by show _ ≤ 601024; omega, by show _ ≤ 7293034; omega⟩) hS (fun q _ h => hFc q h) hFc (fun r_1370 u t H1 locs ht hvm hw hB1 hz1 hk1 hS => ?_)
  obtain ⟨S_1370, G_1370⟩ := u
  obtain ⟨hP1, -, hD1⟩ := hB1
  rw [ht] at hP1
  have hw := id hw
  obtain ⟨hP, hD⟩ := lJoinM hP hD hk1 hFc hP1 hD1
  generalize H1 = H at hP hS ⊢
  refine W.cs (Nat.add_zero _) (Nat.add_zero _) ?_
  refine lv_istore (lv' := [(6, .int r_1370), (5, .int r_1358), (0, .ref b), (1, .ref x0), (2, .ref o), (3, .ref ou), (4, .int a4)]) hx hb dL_law_1373 hl (by decide) rfl (fun ls hl => ?_)
  refine lv_aload_n hx hb dL_law_1375 rfl (lv_at hl 4 rfl) ?_
  have hFc := mFree (lModD hD) hS hA
  refine va_calli (va_runV (As := []) (rest := []) ⟨hx, hb, hml, hown, hts⟩ (c_X9_thrown l dC dI (dA 1) (dA 2) (dA 5) o ad S_1370 G_1370 H.size  _ hw) (cwV 0 hts gL_law_X9_thrown rfl rfl rfl (by decide +kernel) ⟨by decide, by decide⟩) (mPreV [] (lKm hK) (lMod hP) (lModD hD)) rfl rfl hl.1 rfl (lv_room (Nat.le_of_ble_eq_true rfl)) dL_law_1376 ⟨by show _ ≤ 601024; omega, by show _ ≤ 7293034; omega⟩) hS (fun q _ h => hFc q h) hFc (fun r_1376 u t H1 locs ht hvm hw hB1 hz1 hk1 hS => ?_)
  obtain ⟨S_1376, G_1376⟩ := u
  obtain ⟨hP1, -, hD1⟩ := hB1
  rw [ht] at hP1
  have hw := id hw
  obtain ⟨hP, hD⟩ := lJoinM hP hD hk1 hFc hP1 hD1
  generalize H1 = H at hP hS ⊢
  refine W.cs (Nat.add_zero _) (Nat.add_zero _) ?_
  refine lv_iload hx hb dL_law_1379 (lv_at hl 1 rfl) ?_
  refine lv_icmp_eq (tgt := 1386) hx hb dL_law_1381 (by decide) (fun c_1381 => ?_) (fun c_1381 => ?_)
  · have hw := hw.1 c_1381
    refine lv_iload hx hb dL_law_1386 (lv_at hl 1 rfl) ?_
    refine lv_if_ne (tgt := 1403) hx hb dL_law_1388 (by decide) (fun c_1388 => ?_) (fun c_1388 => ?_)
    · have hw := hw.1 c_1388
      refine lv_goto (tgt := 1406) hx hb dL_law_1403 (by decide) ?_
      refine W.widen (k := 100 + 16 * k + 16) (n := 26000 + 2048 * k + 2048) (by omega) (by omega) ?_
      exact tb_law_1406 C h23_ S_1376 G_1376 L_1358 f_1358 k a4 hw H locs hP hD hS ls (lv_sub hl [2, 3, 4, 5, 6] rfl)
    · have hw := hw.2 c_1388
      refine lv_aload_n hx hb dL_law_1391 rfl (lv_at hl 5 rfl) ?_
      refine lv_iconst (v := 0) hx hb dL_law_1392 (by decide) ?_
      obtain ⟨n_1393, h_1393, ⟨hL9, hf9, hn9⟩, hw⟩ := hw
      refine va_lald hx hb hK (p_one (lPool hP) hL9 hf9) 0 2 rfl rfl hn9 dL_law_1393 ?_
      refine lv_topl (fun g_1393 eg_1393 => ?_)
      rw [← eg_1393] at hw
      refine lv_iload hx hb dL_law_1394 (lv_at hl 0 rfl) ?_
      refine lv_i2l hx hb dL_law_1396 rfl ?_
      refine W.lcmp hx hb dL_law_1397 ?_
      refine lv_if_eq (tgt := 1403) hx hb dL_law_1398 (by decide) (fun c_1398 => ?_) (fun c_1398 => ?_)
      · have hw := hw.1 c_1398
        refine lv_goto (tgt := 1406) hx hb dL_law_1403 (by decide) ?_
        refine W.widen (k := 100 + 16 * k + 16) (n := 26000 + 2048 * k + 2048) (by omega) (by omega) ?_
        exact tb_law_1406 C h23_ S_1376 G_1376 L_1358 f_1358 k a4 hw H locs hP hD hS ls (lv_sub hl [2, 3, 4, 5, 6] rfl)
      · have hw := hw.2 c_1398
        refine lv_iconst (v := 0) hx hb dL_law_1401 (by decide) ?_
        exact hw.elim
  · have hw := hw.2 c_1381
    refine lv_iconst (v := 0) hx hb dL_law_1384 (by decide) ?_
    exact hw.elim
set_option maxHeartbeats 4000000 in
set_option maxRecDepth 100000 in
theorem tb_law_1412 {p : Program} {l : Launch} {e : Env} {s : State} {m : MethodId} {below : List Frame} {meth : Method} {c : Code} {dC : Nat → ClassId} {dI : Nat → Nat → Nat} {dA : Nat → ClassId} {zz : Nat → Nat} {o : Nat} {ad : Nat → Nat} {b x0 ou Ln : Nat} {xs : Nat → Int32} (C : lCx p l s m meth c dC dI dA zz b Ln xs) : ∀ (S : mS) (G : mG) (L : List Nat) (f : pF) (k : Nat) , wp_law_1412 dA zz x0 ou Ln xs  S G L f k  → lAt p l e s m below meth c dC dI dA o ad b (100 + 16 * k + 0) (26000 + 2048 * k + 0) 1412 [(0, .ref b), (1, .ref x0), (2, .ref o), (3, .ref ou)] [] S G L f := by
  obtain ⟨hx, hb, hml, hown, hts, hr, hlocks, hA, hK, hB, hz, hN, hT, hlt, hX, hbl, hbA⟩ := lCx_use C
  intro S G L f k  hw H locs hP hD hS ls hl
  rw [wp_law_1412] at hw
  obtain ⟨hk9, hw⟩ := hw
  refine lv_iconst (v := 1) hx hb dL_law_1412 (by decide) ?_
  refine va_forget (fun q hq => hS.2.2 q hq) ?_
  refine W.widen (k := 601024) (n := 7293034) (by omega) (by omega) ?_
  exact lw_ret hx hb hr hlocks dL_law_1413
set_option maxHeartbeats 4000000 in
set_option maxRecDepth 100000 in
theorem tb_law_23 {p : Program} {l : Launch} {e : Env} {s : State} {m : MethodId} {below : List Frame} {meth : Method} {c : Code} {dC : Nat → ClassId} {dI : Nat → Nat → Nat} {dA : Nat → ClassId} {zz : Nat → Nat} {o : Nat} {ad : Nat → Nat} {b x0 ou Ln : Nat} {xs : Nat → Int32} (C : lCx p l s m meth c dC dI dA zz b Ln xs) : ∀ (n : Nat) (S : mS) (G : mG) (L : List Nat) (f : pF) (k : Nat) (a4 : Int32), wp_law_23 dA zz x0 ou Ln xs n S G L f k a4 → lAt p l e s m below meth c dC dI dA o ad b (100 + 16 * k) (26000 + 2048 * k) 23 [(0, .ref b), (1, .ref x0), (2, .ref o), (3, .ref ou), (4, .int a4)] [] S G L f := by
  obtain ⟨hx, hb, hml, hown, hts, hr, hlocks, hA, hK, hB, hz, hN, hT, hlt, hX, hbl, hbA⟩ := lCx_use C
  intro n
  induction n with
  | zero => intro S G L f k a4 hw; exact hw.elim
  | succ n ih =>
    intro S G L f k a4 hw H locs hP hD hS ls hl
    rw [wp_law_23] at hw
    obtain ⟨hk9, hw⟩ := hw
    refine lv_iload hx hb dL_law_23 (lv_at hl 4 rfl) ?_
    refine lv_aload_n hx hb dL_law_25 rfl (lv_at hl 0 rfl) ?_
    refine va_slen hx hb hX hbl hbA hS dL_law_26 ?_
    refine lv_bipush (v := 7) hx hb dL_law_27 (by decide) ?_
    refine lv_isub hx hb dL_law_29 ?_
    refine lv_icmp_gt (tgt := 1412) hx hb dL_law_30 (by decide) (fun c_30 => ?_) (fun c_30 => ?_)
    · have hw := hw.1 c_30
      exact tb_law_1412 C  S G L f k  hw H locs hP hD hS ls (lv_sub hl [0, 1, 2, 3] rfl)
    · have hw := hw.2 c_30
      refine lv_aload_n hx hb dL_law_33 rfl (lv_at hl 0 rfl) ?_
      refine lv_iload hx hb dL_law_34 (lv_at hl 4 rfl) ?_
      refine va_sld hx hb hX hbl hbA hS hw.1 dL_law_36 ?_
      refine lv_topi (fun g_36 eg_36 => ?_)
      have hw := hw.2 g_36 eg_36
      refine lv_bipush (v := 31) hx hb dL_law_37 (by decide) ?_
      refine lv_iand hx hb dL_law_39 ?_
      by_cases c_40_0 : (g_36 &&& (31 : Int32)) = 0
      · have hw := hw.1 c_40_0
        refine lv_tableIn (off := 96) (tgt := 136) hx hb dL_law_40 (by rw [c_40_0]; decide) (by rw [c_40_0]; decide) (by rw [c_40_0]; decide) (by decide) ?_
        exact tb_law_136 C ih S G L f k a4 hw H locs hP hD hS ls (lv_sub hl [0, 1, 2, 3, 4] rfl)
      by_cases c_40_1 : (g_36 &&& (31 : Int32)) = 1
      · have hw := hw.2.1 c_40_1
        refine lv_tableIn (off := 121) (tgt := 161) hx hb dL_law_40 (by rw [c_40_1]; decide) (by rw [c_40_1]; decide) (by rw [c_40_1]; decide) (by decide) ?_
        exact tb_law_161 C ih S G L f k a4 hw H locs hP hD hS ls (lv_sub hl [0, 1, 2, 3, 4] rfl)
      by_cases c_40_2 : (g_36 &&& (31 : Int32)) = 2
      · have hw := hw.2.2.1 c_40_2
        refine lv_tableIn (off := 134) (tgt := 174) hx hb dL_law_40 (by rw [c_40_2]; decide) (by rw [c_40_2]; decide) (by rw [c_40_2]; decide) (by decide) ?_
        exact tb_law_174 C ih S G L f k a4 hw H locs hP hD hS ls (lv_sub hl [0, 1, 2, 3, 4] rfl)
      by_cases c_40_3 : (g_36 &&& (31 : Int32)) = 3
      · have hw := hw.2.2.2.1 c_40_3
        refine lv_tableIn (off := 214) (tgt := 254) hx hb dL_law_40 (by rw [c_40_3]; decide) (by rw [c_40_3]; decide) (by rw [c_40_3]; decide) (by decide) ?_
        exact tb_law_254 C ih S G L f k a4 hw H locs hP hD hS ls (lv_sub hl [0, 1, 2, 3, 4] rfl)
      by_cases c_40_4 : (g_36 &&& (31 : Int32)) = 4
      · have hw := hw.2.2.2.2.1 c_40_4
        refine lv_tableIn (off := 270) (tgt := 310) hx hb dL_law_40 (by rw [c_40_4]; decide) (by rw [c_40_4]; decide) (by rw [c_40_4]; decide) (by decide) ?_
        exact tb_law_310 C ih S G L f k a4 hw H locs hP hD hS ls (lv_sub hl [0, 1, 2, 3, 4] rfl)
      by_cases c_40_5 : (g_36 &&& (31 : Int32)) = 5
      · have hw := hw.2.2.2.2.2.1 c_40_5
        refine lv_tableIn (off := 369) (tgt := 409) hx hb dL_law_40 (by rw [c_40_5]; decide) (by rw [c_40_5]; decide) (by rw [c_40_5]; decide) (by decide) ?_
        exact tb_law_409 C ih S G L f k a4 hw H locs hP hD hS ls (lv_sub hl [0, 1, 2, 3, 4] rfl)
      by_cases c_40_6 : (g_36 &&& (31 : Int32)) = 6
      · have hw := hw.2.2.2.2.2.2.1 c_40_6
        refine lv_tableIn (off := 460) (tgt := 500) hx hb dL_law_40 (by rw [c_40_6]; decide) (by rw [c_40_6]; decide) (by rw [c_40_6]; decide) (by decide) ?_
        exact tb_law_500 C ih S G L f k a4 hw H locs hP hD hS ls (lv_sub hl [0, 1, 2, 3, 4] rfl)
      by_cases c_40_7 : (g_36 &&& (31 : Int32)) = 7
      · have hw := hw.2.2.2.2.2.2.2.1 c_40_7
        refine lv_tableIn (off := 528) (tgt := 568) hx hb dL_law_40 (by rw [c_40_7]; decide) (by rw [c_40_7]; decide) (by rw [c_40_7]; decide) (by decide) ?_
        exact tb_law_568 C ih S G L f k a4 hw H locs hP hD hS ls (lv_sub hl [0, 1, 2, 3, 4] rfl)
      by_cases c_40_8 : (g_36 &&& (31 : Int32)) = 8
      · have hw := hw.2.2.2.2.2.2.2.2.1 c_40_8
        refine lv_tableIn (off := 596) (tgt := 636) hx hb dL_law_40 (by rw [c_40_8]; decide) (by rw [c_40_8]; decide) (by rw [c_40_8]; decide) (by decide) ?_
        exact tb_law_636 C ih S G L f k a4 hw H locs hP hD hS ls (lv_sub hl [0, 1, 2, 3, 4] rfl)
      by_cases c_40_9 : (g_36 &&& (31 : Int32)) = 9
      · have hw := hw.2.2.2.2.2.2.2.2.2.1 c_40_9
        refine lv_tableIn (off := 714) (tgt := 754) hx hb dL_law_40 (by rw [c_40_9]; decide) (by rw [c_40_9]; decide) (by rw [c_40_9]; decide) (by decide) ?_
        exact tb_law_754 C ih S G L f k a4 hw H locs hP hD hS ls (lv_sub hl [0, 1, 2, 3, 4] rfl)
      by_cases c_40_10 : (g_36 &&& (31 : Int32)) = 10
      · have hw := hw.2.2.2.2.2.2.2.2.2.2.1 c_40_10
        refine lv_tableIn (off := 782) (tgt := 822) hx hb dL_law_40 (by rw [c_40_10]; decide) (by rw [c_40_10]; decide) (by rw [c_40_10]; decide) (by decide) ?_
        exact tb_law_822 C ih S G L f k a4 hw H locs hP hD hS ls (lv_sub hl [0, 1, 2, 3, 4] rfl)
      by_cases c_40_11 : (g_36 &&& (31 : Int32)) = 11
      · have hw := hw.2.2.2.2.2.2.2.2.2.2.2.1 c_40_11
        refine lv_tableIn (off := 850) (tgt := 890) hx hb dL_law_40 (by rw [c_40_11]; decide) (by rw [c_40_11]; decide) (by rw [c_40_11]; decide) (by decide) ?_
        exact tb_law_890 C ih S G L f k a4 hw H locs hP hD hS ls (lv_sub hl [0, 1, 2, 3, 4] rfl)
      by_cases c_40_12 : (g_36 &&& (31 : Int32)) = 12
      · have hw := hw.2.2.2.2.2.2.2.2.2.2.2.2.1 c_40_12
        refine lv_tableIn (off := 906) (tgt := 946) hx hb dL_law_40 (by rw [c_40_12]; decide) (by rw [c_40_12]; decide) (by rw [c_40_12]; decide) (by decide) ?_
        exact tb_law_946 C ih S G L f k a4 hw H locs hP hD hS ls (lv_sub hl [0, 1, 2, 3, 4] rfl)
      by_cases c_40_13 : (g_36 &&& (31 : Int32)) = 13
      · have hw := hw.2.2.2.2.2.2.2.2.2.2.2.2.2.1 c_40_13
        refine lv_tableIn (off := 986) (tgt := 1026) hx hb dL_law_40 (by rw [c_40_13]; decide) (by rw [c_40_13]; decide) (by rw [c_40_13]; decide) (by decide) ?_
        exact tb_law_1026 C ih S G L f k a4 hw H locs hP hD hS ls (lv_sub hl [0, 1, 2, 3, 4] rfl)
      by_cases c_40_14 : (g_36 &&& (31 : Int32)) = 14
      · have hw := hw.2.2.2.2.2.2.2.2.2.2.2.2.2.2.1 c_40_14
        refine lv_tableIn (off := 1061) (tgt := 1101) hx hb dL_law_40 (by rw [c_40_14]; decide) (by rw [c_40_14]; decide) (by rw [c_40_14]; decide) (by decide) ?_
        exact tb_law_1101 C ih S G L f k a4 hw H locs hP hD hS ls (lv_sub hl [0, 1, 2, 3, 4] rfl)
      by_cases c_40_15 : (g_36 &&& (31 : Int32)) = 15
      · have hw := hw.2.2.2.2.2.2.2.2.2.2.2.2.2.2.2.1 c_40_15
        refine lv_tableIn (off := 1117) (tgt := 1157) hx hb dL_law_40 (by rw [c_40_15]; decide) (by rw [c_40_15]; decide) (by rw [c_40_15]; decide) (by decide) ?_
        exact tb_law_1157 C ih S G L f k a4 hw H locs hP hD hS ls (lv_sub hl [0, 1, 2, 3, 4] rfl)
      by_cases c_40_16 : (g_36 &&& (31 : Int32)) = 16
      · have hw := hw.2.2.2.2.2.2.2.2.2.2.2.2.2.2.2.2.1 c_40_16
        refine lv_tableIn (off := 1173) (tgt := 1213) hx hb dL_law_40 (by rw [c_40_16]; decide) (by rw [c_40_16]; decide) (by rw [c_40_16]; decide) (by decide) ?_
        exact tb_law_1213 C ih S G L f k a4 hw H locs hP hD hS ls (lv_sub hl [0, 1, 2, 3, 4] rfl)
      by_cases c_40_17 : (g_36 &&& (31 : Int32)) = 17
      · have hw := hw.2.2.2.2.2.2.2.2.2.2.2.2.2.2.2.2.2.1 c_40_17
        refine lv_tableIn (off := 1229) (tgt := 1269) hx hb dL_law_40 (by rw [c_40_17]; decide) (by rw [c_40_17]; decide) (by rw [c_40_17]; decide) (by decide) ?_
        exact tb_law_1269 C ih S G L f k a4 hw H locs hP hD hS ls (lv_sub hl [0, 1, 2, 3, 4] rfl)
      by_cases c_40_18 : (g_36 &&& (31 : Int32)) = 18
      · have hw := hw.2.2.2.2.2.2.2.2.2.2.2.2.2.2.2.2.2.2.1 c_40_18
        refine lv_tableIn (off := 1243) (tgt := 1283) hx hb dL_law_40 (by rw [c_40_18]; decide) (by rw [c_40_18]; decide) (by rw [c_40_18]; decide) (by decide) ?_
        exact tb_law_1283 C ih S G L f k a4 hw H locs hP hD hS ls (lv_sub hl [0, 1, 2, 3, 4] rfl)
      by_cases c_40_19 : (g_36 &&& (31 : Int32)) = 19
      · have hw := hw.2.2.2.2.2.2.2.2.2.2.2.2.2.2.2.2.2.2.2.1 c_40_19
        refine lv_tableIn (off := 1310) (tgt := 1350) hx hb dL_law_40 (by rw [c_40_19]; decide) (by rw [c_40_19]; decide) (by rw [c_40_19]; decide) (by decide) ?_
        exact tb_law_1350 C ih S G L f k a4 hw H locs hP hD hS ls (lv_sub hl [0, 1, 2, 3, 4] rfl)
      have hw := hw.2.2.2.2.2.2.2.2.2.2.2.2.2.2.2.2.2.2.2.2 c_40_0 c_40_1 c_40_2 c_40_3 c_40_4 c_40_5 c_40_6 c_40_7 c_40_8 c_40_9 c_40_10 c_40_11 c_40_12 c_40_13 c_40_14 c_40_15 c_40_16 c_40_17 c_40_18 c_40_19
      refine lv_tableOut (tgt := 1406) hx hb dL_law_40 (sw_out20 c_40_0 c_40_1 c_40_2 c_40_3 c_40_4 c_40_5 c_40_6 c_40_7 c_40_8 c_40_9 c_40_10 c_40_11 c_40_12 c_40_13 c_40_14 c_40_15 c_40_16 c_40_17 c_40_18 c_40_19) (by decide) ?_
      refine W.widen (k := 100 + 16 * k + 16) (n := 26000 + 2048 * k + 2048) (by omega) (by omega) ?_
      exact tb_law_1406 C ih S G L f k a4 hw H locs hP hD hS ls (lv_sub hl [0, 1, 2, 3, 4] rfl)
