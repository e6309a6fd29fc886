/-! the law's loop (wip/gen/vclaw.py) -/
theorem vc_LW_18 {q : Nat × (Nat → Int32)} {S S' : ms} {r : Option Value} (x3 : Int)
    (F : ((w32 (((q.1 : Nat)) - 4) < w32 x3) → r = some (vI 1) ∧ S' = S) ∧ ((¬ w32 (((q.1 : Nat)) - 4) < w32 x3) → (0 ≤ w32 x3 ∧ w32 x3 < (q.1 : Nat)) ∧ ((w32 ((xS q (w32 x3)) % 64) = 0) → EVL q 196 [some (.ref (en_b + 11)), some (.ref 0), some (.ref 367), some (vI x3)] [] S r S') ∧ ((w32 ((xS q (w32 x3)) % 64) = 1) → EVL q 259 [some (.ref (en_b + 11)), some (.ref 0), some (.ref 367), some (vI x3)] [] S r S') ∧ ((w32 ((xS q (w32 x3)) % 64) = 2) → EVL q 302 [some (.ref (en_b + 11)), some (.ref 0), some (.ref 367), some (vI x3)] [] S r S') ∧ ((w32 ((xS q (w32 x3)) % 64) = 3) → EVL q 325 [some (.ref (en_b + 11)), some (.ref 0), some (.ref 367), some (vI x3)] [] S r S') ∧ ((w32 ((xS q (w32 x3)) % 64) = 4) → EVL q 358 [some (.ref (en_b + 11)), some (.ref 0), some (.ref 367), some (vI x3)] [] S r S') ∧ ((w32 ((xS q (w32 x3)) % 64) = 5) → EVL q 381 [some (.ref (en_b + 11)), some (.ref 0), some (.ref 367), some (vI x3)] [] S r S') ∧ ((w32 ((xS q (w32 x3)) % 64) = 6) → EVL q 405 [some (.ref (en_b + 11)), some (.ref 0), some (.ref 367), some (vI x3)] [] S r S') ∧ ((w32 ((xS q (w32 x3)) % 64) = 7) → EVL q 428 [some (.ref (en_b + 11)), some (.ref 0), some (.ref 367), some (vI x3)] [] S r S') ∧ ((w32 ((xS q (w32 x3)) % 64) = 8) → EVL q 461 [some (.ref (en_b + 11)), some (.ref 0), some (.ref 367), some (vI x3)] [] S r S') ∧ ((w32 ((xS q (w32 x3)) % 64) = 9) → EVL q 484 [some (.ref (en_b + 11)), some (.ref 0), some (.ref 367), some (vI x3)] [] S r S') ∧ ((w32 ((xS q (w32 x3)) % 64) = 10) → EVL q 507 [some (.ref (en_b + 11)), some (.ref 0), some (.ref 367), some (vI x3)] [] S r S') ∧ ((w32 ((xS q (w32 x3)) % 64) = 11) → EVL q 540 [some (.ref (en_b + 11)), some (.ref 0), some (.ref 367), some (vI x3)] [] S r S') ∧ ((w32 ((xS q (w32 x3)) % 64) = 12) → EVL q 573 [some (.ref (en_b + 11)), some (.ref 0), some (.ref 367), some (vI x3)] [] S r S') ∧ ((w32 ((xS q (w32 x3)) % 64) = 13) → EVL q 596 [some (.ref (en_b + 11)), some (.ref 0), some (.ref 367), some (vI x3)] [] S r S') ∧ ((w32 ((xS q (w32 x3)) % 64) = 14) → EVL q 619 [some (.ref (en_b + 11)), some (.ref 0), some (.ref 367), some (vI x3)] [] S r S') ∧ ((w32 ((xS q (w32 x3)) % 64) = 15) → EVL q 652 [some (.ref (en_b + 11)), some (.ref 0), some (.ref 367), some (vI x3)] [] S r S') ∧ ((w32 ((xS q (w32 x3)) % 64) = 16) → EVL q 665 [some (.ref (en_b + 11)), some (.ref 0), some (.ref 367), some (vI x3)] [] S r S') ∧ ((w32 ((xS q (w32 x3)) % 64) = 17) → EVL q 728 [some (.ref (en_b + 11)), some (.ref 0), some (.ref 367), some (vI x3)] [] S r S') ∧ ((w32 ((xS q (w32 x3)) % 64) = 18) → EVL q 771 [some (.ref (en_b + 11)), some (.ref 0), some (.ref 367), some (vI x3)] [] S r S') ∧ ((w32 ((xS q (w32 x3)) % 64) = 19) → EVL q 804 [some (.ref (en_b + 11)), some (.ref 0), some (.ref 367), some (vI x3)] [] S r S') ∧ ((w32 ((xS q (w32 x3)) % 64) = 20) → EVL q 827 [some (.ref (en_b + 11)), some (.ref 0), some (.ref 367), some (vI x3)] [] S r S') ∧ ((w32 ((xS q (w32 x3)) % 64) = 21) → EVL q 860 [some (.ref (en_b + 11)), some (.ref 0), some (.ref 367), some (vI x3)] [] S r S') ∧ ((w32 ((xS q (w32 x3)) % 64) = 22) → EVL q 893 [some (.ref (en_b + 11)), some (.ref 0), some (.ref 367), some (vI x3)] [] S r S') ∧ ((w32 ((xS q (w32 x3)) % 64) = 23) → EVL q 916 [some (.ref (en_b + 11)), some (.ref 0), some (.ref 367), some (vI x3)] [] S r S') ∧ ((w32 ((xS q (w32 x3)) % 64) = 24) → EVL q 929 [some (.ref (en_b + 11)), some (.ref 0), some (.ref 367), some (vI x3)] [] S r S') ∧ ((w32 ((xS q (w32 x3)) % 64) = 25) → EVL q 962 [some (.ref (en_b + 11)), some (.ref 0), some (.ref 367), some (vI x3)] [] S r S') ∧ ((w32 ((xS q (w32 x3)) % 64) = 26) → EVL q 985 [some (.ref (en_b + 11)), some (.ref 0), some (.ref 367), some (vI x3)] [] S r S') ∧ ((w32 ((xS q (w32 x3)) % 64) = 27) → EVL q 1018 [some (.ref (en_b + 11)), some (.ref 0), some (.ref 367), some (vI x3)] [] S r S') ∧ ((w32 ((xS q (w32 x3)) % 64) = 28) → EVL q 1051 [some (.ref (en_b + 11)), some (.ref 0), some (.ref 367), some (vI x3)] [] S r S') ∧ ((w32 ((xS q (w32 x3)) % 64) = 29) → EVL q 1074 [some (.ref (en_b + 11)), some (.ref 0), some (.ref 367), some (vI x3)] [] S r S') ∧ ((w32 ((xS q (w32 x3)) % 64) = 30) → EVL q 1117 [some (.ref (en_b + 11)), some (.ref 0), some (.ref 367), some (vI x3)] [] S r S') ∧ ((w32 ((xS q (w32 x3)) % 64) = 31) → EVL q 1130 [some (.ref (en_b + 11)), some (.ref 0), some (.ref 367), some (vI x3)] [] S r S') ∧ ((w32 ((xS q (w32 x3)) % 64) = 32) → EVL q 1143 [some (.ref (en_b + 11)), some (.ref 0), some (.ref 367), some (vI x3)] [] S r S') ∧ ((w32 ((xS q (w32 x3)) % 64) = 33) → EVL q 1156 [some (.ref (en_b + 11)), some (.ref 0), some (.ref 367), some (vI x3)] [] S r S') ∧ ((w32 ((xS q (w32 x3)) % 64) = 34) → EVL q 1179 [some (.ref (en_b + 11)), some (.ref 0), some (.ref 367), some (vI x3)] [] S r S') ∧ ((w32 ((xS q (w32 x3)) % 64) = 35) → EVL q 1202 [some (.ref (en_b + 11)), some (.ref 0), some (.ref 367), some (vI x3)] [] S r S') ∧ ((w32 ((xS q (w32 x3)) % 64) = 36) → EVL q 1235 [some (.ref (en_b + 11)), some (.ref 0), some (.ref 367), some (vI x3)] [] S r S') ∧ ((¬ w32 ((xS q (w32 x3)) % 64) = 0) → (¬ w32 ((xS q (w32 x3)) % 64) = 1) → (¬ w32 ((xS q (w32 x3)) % 64) = 2) → (¬ w32 ((xS q (w32 x3)) % 64) = 3) → (¬ w32 ((xS q (w32 x3)) % 64) = 4) → (¬ w32 ((xS q (w32 x3)) % 64) = 5) → (¬ w32 ((xS q (w32 x3)) % 64) = 6) → (¬ w32 ((xS q (w32 x3)) % 64) = 7) → (¬ w32 ((xS q (w32 x3)) % 64) = 8) → (¬ w32 ((xS q (w32 x3)) % 64) = 9) → (¬ w32 ((xS q (w32 x3)) % 64) = 10) → (¬ w32 ((xS q (w32 x3)) % 64) = 11) → (¬ w32 ((xS q (w32 x3)) % 64) = 12) → (¬ w32 ((xS q (w32 x3)) % 64) = 13) → (¬ w32 ((xS q (w32 x3)) % 64) = 14) → (¬ w32 ((xS q (w32 x3)) % 64) = 15) → (¬ w32 ((xS q (w32 x3)) % 64) = 16) → (¬ w32 ((xS q (w32 x3)) % 64) = 17) → (¬ w32 ((xS q (w32 x3)) % 64) = 18) → (¬ w32 ((xS q (w32 x3)) % 64) = 19) → (¬ w32 ((xS q (w32 x3)) % 64) = 20) → (¬ w32 ((xS q (w32 x3)) % 64) = 21) → (¬ w32 ((xS q (w32 x3)) % 64) = 22) → (¬ w32 ((xS q (w32 x3)) % 64) = 23) → (¬ w32 ((xS q (w32 x3)) % 64) = 24) → (¬ w32 ((xS q (w32 x3)) % 64) = 25) → (¬ w32 ((xS q (w32 x3)) % 64) = 26) → (¬ w32 ((xS q (w32 x3)) % 64) = 27) → (¬ w32 ((xS q (w32 x3)) % 64) = 28) → (¬ w32 ((xS q (w32 x3)) % 64) = 29) → (¬ w32 ((xS q (w32 x3)) % 64) = 30) → (¬ w32 ((xS q (w32 x3)) % 64) = 31) → (¬ w32 ((xS q (w32 x3)) % 64) = 32) → (¬ w32 ((xS q (w32 x3)) % 64) = 33) → (¬ w32 ((xS q (w32 x3)) % 64) = 34) → (¬ w32 ((xS q (w32 x3)) % 64) = 35) → (¬ w32 ((xS q (w32 x3)) % 64) = 36) → EVL q 1258 [some (.ref (en_b + 11)), some (.ref 0), some (.ref 367), some (vI x3)] [] S r S'))) : EVL q 18 [some (.ref (en_b + 11)), some (.ref 0), some (.ref 367), some (vI x3)] [] S r S' := by
  unfold EVL
  refine ev_bk 2 (S' := (20, [some (.ref (en_b + 11)), some (.ref 0), some (.ref 367), some (vI x3)], [.ref (en_b + 11), vI x3], hp S, 453, 2211534)) rfl ?_
  refine mv_xlen rfl ?_
  refine ev_bk 1 (S' := (22, [some (.ref (en_b + 11)), some (.ref 0), some (.ref 367), some (vI x3)], [vI 4, vI ((q.1 : Nat)), vI x3], hp S, 453, 2211534)) rfl ?_
  refine mv_isub rfl ?_
  refine mv_icmp 1264 rfl rfl (fun c => ?_) (fun c => ?_)
  · have F := F.1 c
    refine ev_bk 1 (S' := (1265, [some (.ref (en_b + 11)), some (.ref 0), some (.ref 367), some (vI x3)], [vI 1], hp S, 453, 2211534)) rfl ?_
    obtain ⟨rfl, rfl⟩ := F
    exact ev_ret rfl rfl
  · have F := F.2 c
    refine ev_bk 2 (S' := (28, [some (.ref (en_b + 11)), some (.ref 0), some (.ref 367), some (vI x3)], [vI x3, .ref (en_b + 11)], hp S, 453, 2211534)) rfl ?_
    obtain ⟨b1, F⟩ := F
    refine mv_xal rfl b1 ?_
    refine ev_bk 1 (S' := (31, [some (.ref (en_b + 11)), some (.ref 0), some (.ref 367), some (vI x3)], [vI 63, vI (xS q (w32 x3))], hp S, 453, 2211534)) rfl ?_
    refine mv_iandm 64 6 (by decide) rfl rfl rfl ?_
    by_cases d0 : w32 ((xS q (w32 x3)) % 64) < 0
    · have F := F.2.2.2.2.2.2.2.2.2.2.2.2.2.2.2.2.2.2.2.2.2.2.2.2.2.2.2.2.2.2.2.2.2.2.2.2.2 (ts_lo d0 (by decide)) (ts_lo d0 (by decide)) (ts_lo d0 (by decide)) (ts_lo d0 (by decide)) (ts_lo d0 (by decide)) (ts_lo d0 (by decide)) (ts_lo d0 (by decide)) (ts_lo d0 (by decide)) (ts_lo d0 (by decide)) (ts_lo d0 (by decide)) (ts_lo d0 (by decide)) (ts_lo d0 (by decide)) (ts_lo d0 (by decide)) (ts_lo d0 (by decide)) (ts_lo d0 (by decide)) (ts_lo d0 (by decide)) (ts_lo d0 (by decide)) (ts_lo d0 (by decide)) (ts_lo d0 (by decide)) (ts_lo d0 (by decide)) (ts_lo d0 (by decide)) (ts_lo d0 (by decide)) (ts_lo d0 (by decide)) (ts_lo d0 (by decide)) (ts_lo d0 (by decide)) (ts_lo d0 (by decide)) (ts_lo d0 (by decide)) (ts_lo d0 (by decide)) (ts_lo d0 (by decide)) (ts_lo d0 (by decide)) (ts_lo d0 (by decide)) (ts_lo d0 (by decide)) (ts_lo d0 (by decide)) (ts_lo d0 (by decide)) (ts_lo d0 (by decide)) (ts_lo d0 (by decide)) (ts_lo d0 (by decide))
      refine mv_tout 1258 (Or.inl d0) rfl rfl ?_
      exact F
    by_cases d1 : w32 ((xS q (w32 x3)) % 64) < 1
    · have e := ts_eq d0 d1
      have F := F.1 e
      refine mv_tin 196 0 e rfl (by decide) rfl rfl ?_
      exact F
    by_cases d2 : w32 ((xS q (w32 x3)) % 64) < 2
    · have e := ts_eq d1 d2
      have F := F.2.1 e
      refine mv_tin 259 1 e rfl (by decide) rfl rfl ?_
      exact F
    by_cases d3 : w32 ((xS q (w32 x3)) % 64) < 3
    · have e := ts_eq d2 d3
      have F := F.2.2.1 e
      refine mv_tin 302 2 e rfl (by decide) rfl rfl ?_
      exact F
    by_cases d4 : w32 ((xS q (w32 x3)) % 64) < 4
    · have e := ts_eq d3 d4
      have F := F.2.2.2.1 e
      refine mv_tin 325 3 e rfl (by decide) rfl rfl ?_
      exact F
    by_cases d5 : w32 ((xS q (w32 x3)) % 64) < 5
    · have e := ts_eq d4 d5
      have F := F.2.2.2.2.1 e
      refine mv_tin 358 4 e rfl (by decide) rfl rfl ?_
      exact F
    by_cases d6 : w32 ((xS q (w32 x3)) % 64) < 6
    · have e := ts_eq d5 d6
      have F := F.2.2.2.2.2.1 e
      refine mv_tin 381 5 e rfl (by decide) rfl rfl ?_
      exact F
    by_cases d7 : w32 ((xS q (w32 x3)) % 64) < 7
    · have e := ts_eq d6 d7
      have F := F.2.2.2.2.2.2.1 e
      refine mv_tin 405 6 e rfl (by decide) rfl rfl ?_
      exact F
    by_cases d8 : w32 ((xS q (w32 x3)) % 64) < 8
    · have e := ts_eq d7 d8
      have F := F.2.2.2.2.2.2.2.1 e
      refine mv_tin 428 7 e rfl (by decide) rfl rfl ?_
      exact F
    by_cases d9 : w32 ((xS q (w32 x3)) % 64) < 9
    · have e := ts_eq d8 d9
      have F := F.2.2.2.2.2.2.2.2.1 e
      refine mv_tin 461 8 e rfl (by decide) rfl rfl ?_
      exact F
    by_cases d10 : w32 ((xS q (w32 x3)) % 64) < 10
    · have e := ts_eq d9 d10
      have F := F.2.2.2.2.2.2.2.2.2.1 e
      refine mv_tin 484 9 e rfl (by decide) rfl rfl ?_
      exact F
    by_cases d11 : w32 ((xS q (w32 x3)) % 64) < 11
    · have e := ts_eq d10 d11
      have F := F.2.2.2.2.2.2.2.2.2.2.1 e
      refine mv_tin 507 10 e rfl (by decide) rfl rfl ?_
      exact F
    by_cases d12 : w32 ((xS q (w32 x3)) % 64) < 12
    · have e := ts_eq d11 d12
      have F := F.2.2.2.2.2.2.2.2.2.2.2.1 e
      refine mv_tin 540 11 e rfl (by decide) rfl rfl ?_
      exact F
    by_cases d13 : w32 ((xS q (w32 x3)) % 64) < 13
    · have e := ts_eq d12 d13
      have F := F.2.2.2.2.2.2.2.2.2.2.2.2.1 e
      refine mv_tin 573 12 e rfl (by decide) rfl rfl ?_
      exact F
    by_cases d14 : w32 ((xS q (w32 x3)) % 64) < 14
    · have e := ts_eq d13 d14
      have F := F.2.2.2.2.2.2.2.2.2.2.2.2.2.1 e
      refine mv_tin 596 13 e rfl (by decide) rfl rfl ?_
      exact F
    by_cases d15 : w32 ((xS q (w32 x3)) % 64) < 15
    · have e := ts_eq d14 d15
      have F := F.2.2.2.2.2.2.2.2.2.2.2.2.2.2.1 e
      refine mv_tin 619 14 e rfl (by decide) rfl rfl ?_
      exact F
    by_cases d16 : w32 ((xS q (w32 x3)) % 64) < 16
    · have e := ts_eq d15 d16
      have F := F.2.2.2.2.2.2.2.2.2.2.2.2.2.2.2.1 e
      refine mv_tin 652 15 e rfl (by decide) rfl rfl ?_
      exact F
    by_cases d17 : w32 ((xS q (w32 x3)) % 64) < 17
    · have e := ts_eq d16 d17
      have F := F.2.2.2.2.2.2.2.2.2.2.2.2.2.2.2.2.1 e
      refine mv_tin 665 16 e rfl (by decide) rfl rfl ?_
      exact F
    by_cases d18 : w32 ((xS q (w32 x3)) % 64) < 18
    · have e := ts_eq d17 d18
      have F := F.2.2.2.2.2.2.2.2.2.2.2.2.2.2.2.2.2.1 e
      refine mv_tin 728 17 e rfl (by decide) rfl rfl ?_
      exact F
    by_cases d19 : w32 ((xS q (w32 x3)) % 64) < 19
    · have e := ts_eq d18 d19
      have F := F.2.2.2.2.2.2.2.2.2.2.2.2.2.2.2.2.2.2.1 e
      refine mv_tin 771 18 e rfl (by decide) rfl rfl ?_
      exact F
    by_cases d20 : w32 ((xS q (w32 x3)) % 64) < 20
    · have e := ts_eq d19 d20
      have F := F.2.2.2.2.2.2.2.2.2.2.2.2.2.2.2.2.2.2.2.1 e
      refine mv_tin 804 19 e rfl (by decide) rfl rfl ?_
      exact F
    by_cases d21 : w32 ((xS q (w32 x3)) % 64) < 21
    · have e := ts_eq d20 d21
      have F := F.2.2.2.2.2.2.2.2.2.2.2.2.2.2.2.2.2.2.2.2.1 e
      refine mv_tin 827 20 e rfl (by decide) rfl rfl ?_
      exact F
    by_cases d22 : w32 ((xS q (w32 x3)) % 64) < 22
    · have e := ts_eq d21 d22
      have F := F.2.2.2.2.2.2.2.2.2.2.2.2.2.2.2.2.2.2.2.2.2.1 e
      refine mv_tin 860 21 e rfl (by decide) rfl rfl ?_
      exact F
    by_cases d23 : w32 ((xS q (w32 x3)) % 64) < 23
    · have e := ts_eq d22 d23
      have F := F.2.2.2.2.2.2.2.2.2.2.2.2.2.2.2.2.2.2.2.2.2.2.1 e
      refine mv_tin 893 22 e rfl (by decide) rfl rfl ?_
      exact F
    by_cases d24 : w32 ((xS q (w32 x3)) % 64) < 24
    · have e := ts_eq d23 d24
      have F := F.2.2.2.2.2.2.2.2.2.2.2.2.2.2.2.2.2.2.2.2.2.2.2.1 e
      refine mv_tin 916 23 e rfl (by decide) rfl rfl ?_
      exact F
    by_cases d25 : w32 ((xS q (w32 x3)) % 64) < 25
    · have e := ts_eq d24 d25
      have F := F.2.2.2.2.2.2.2.2.2.2.2.2.2.2.2.2.2.2.2.2.2.2.2.2.1 e
      refine mv_tin 929 24 e rfl (by decide) rfl rfl ?_
      exact F
    by_cases d26 : w32 ((xS q (w32 x3)) % 64) < 26
    · have e := ts_eq d25 d26
      have F := F.2.2.2.2.2.2.2.2.2.2.2.2.2.2.2.2.2.2.2.2.2.2.2.2.2.1 e
      refine mv_tin 962 25 e rfl (by decide) rfl rfl ?_
      exact F
    by_cases d27 : w32 ((xS q (w32 x3)) % 64) < 27
    · have e := ts_eq d26 d27
      have F := F.2.2.2.2.2.2.2.2.2.2.2.2.2.2.2.2.2.2.2.2.2.2.2.2.2.2.1 e
      refine mv_tin 985 26 e rfl (by decide) rfl rfl ?_
      exact F
    by_cases d28 : w32 ((xS q (w32 x3)) % 64) < 28
    · have e := ts_eq d27 d28
      have F := F.2.2.2.2.2.2.2.2.2.2.2.2.2.2.2.2.2.2.2.2.2.2.2.2.2.2.2.1 e
      refine mv_tin 1018 27 e rfl (by decide) rfl rfl ?_
      exact F
    by_cases d29 : w32 ((xS q (w32 x3)) % 64) < 29
    · have e := ts_eq d28 d29
      have F := F.2.2.2.2.2.2.2.2.2.2.2.2.2.2.2.2.2.2.2.2.2.2.2.2.2.2.2.2.1 e
      refine mv_tin 1051 28 e rfl (by decide) rfl rfl ?_
      exact F
    by_cases d30 : w32 ((xS q (w32 x3)) % 64) < 30
    · have e := ts_eq d29 d30
      have F := F.2.2.2.2.2.2.2.2.2.2.2.2.2.2.2.2.2.2.2.2.2.2.2.2.2.2.2.2.2.1 e
      refine mv_tin 1074 29 e rfl (by decide) rfl rfl ?_
      exact F
    by_cases d31 : w32 ((xS q (w32 x3)) % 64) < 31
    · have e := ts_eq d30 d31
      have F := F.2.2.2.2.2.2.2.2.2.2.2.2.2.2.2.2.2.2.2.2.2.2.2.2.2.2.2.2.2.2.1 e
      refine mv_tin 1117 30 e rfl (by decide) rfl rfl ?_
      exact F
    by_cases d32 : w32 ((xS q (w32 x3)) % 64) < 32
    · have e := ts_eq d31 d32
      have F := F.2.2.2.2.2.2.2.2.2.2.2.2.2.2.2.2.2.2.2.2.2.2.2.2.2.2.2.2.2.2.2.1 e
      refine mv_tin 1130 31 e rfl (by decide) rfl rfl ?_
      exact F
    by_cases d33 : w32 ((xS q (w32 x3)) % 64) < 33
    · have e := ts_eq d32 d33
      have F := F.2.2.2.2.2.2.2.2.2.2.2.2.2.2.2.2.2.2.2.2.2.2.2.2.2.2.2.2.2.2.2.2.1 e
      refine mv_tin 1143 32 e rfl (by decide) rfl rfl ?_
      exact F
    by_cases d34 : w32 ((xS q (w32 x3)) % 64) < 34
    · have e := ts_eq d33 d34
      have F := F.2.2.2.2.2.2.2.2.2.2.2.2.2.2.2.2.2.2.2.2.2.2.2.2.2.2.2.2.2.2.2.2.2.1 e
      refine mv_tin 1156 33 e rfl (by decide) rfl rfl ?_
      exact F
    by_cases d35 : w32 ((xS q (w32 x3)) % 64) < 35
    · have e := ts_eq d34 d35
      have F := F.2.2.2.2.2.2.2.2.2.2.2.2.2.2.2.2.2.2.2.2.2.2.2.2.2.2.2.2.2.2.2.2.2.2.1 e
      refine mv_tin 1179 34 e rfl (by decide) rfl rfl ?_
      exact F
    by_cases d36 : w32 ((xS q (w32 x3)) % 64) < 36
    · have e := ts_eq d35 d36
      have F := F.2.2.2.2.2.2.2.2.2.2.2.2.2.2.2.2.2.2.2.2.2.2.2.2.2.2.2.2.2.2.2.2.2.2.2.1 e
      refine mv_tin 1202 35 e rfl (by decide) rfl rfl ?_
      exact F
    by_cases d37 : w32 ((xS q (w32 x3)) % 64) < 37
    · have e := ts_eq d36 d37
      have F := F.2.2.2.2.2.2.2.2.2.2.2.2.2.2.2.2.2.2.2.2.2.2.2.2.2.2.2.2.2.2.2.2.2.2.2.2.1 e
      refine mv_tin 1235 36 e rfl (by decide) rfl rfl ?_
      exact F
    have F := F.2.2.2.2.2.2.2.2.2.2.2.2.2.2.2.2.2.2.2.2.2.2.2.2.2.2.2.2.2.2.2.2.2.2.2.2.2 (ts_hi d37 (by decide)) (ts_hi d37 (by decide)) (ts_hi d37 (by decide)) (ts_hi d37 (by decide)) (ts_hi d37 (by decide)) (ts_hi d37 (by decide)) (ts_hi d37 (by decide)) (ts_hi d37 (by decide)) (ts_hi d37 (by decide)) (ts_hi d37 (by decide)) (ts_hi d37 (by decide)) (ts_hi d37 (by decide)) (ts_hi d37 (by decide)) (ts_hi d37 (by decide)) (ts_hi d37 (by decide)) (ts_hi d37 (by decide)) (ts_hi d37 (by decide)) (ts_hi d37 (by decide)) (ts_hi d37 (by decide)) (ts_hi d37 (by decide)) (ts_hi d37 (by decide)) (ts_hi d37 (by decide)) (ts_hi d37 (by decide)) (ts_hi d37 (by decide)) (ts_hi d37 (by decide)) (ts_hi d37 (by decide)) (ts_hi d37 (by decide)) (ts_hi d37 (by decide)) (ts_hi d37 (by decide)) (ts_hi d37 (by decide)) (ts_hi d37 (by decide)) (ts_hi d37 (by decide)) (ts_hi d37 (by decide)) (ts_hi d37 (by decide)) (ts_hi d37 (by decide)) (ts_hi d37 (by decide)) (ts_hi d37 (by decide))
    refine mv_tout 1258 (Or.inr (ts_gt (hi := 36) d37)) rfl rfl ?_
    exact F
theorem vc_LW_196 {q : Nat × (Nat → Int32)} {S S' : ms} {r : Option Value} (x3 : Int)
    (F : (0 ≤ w32 (x3 + 1) ∧ w32 (x3 + 1) < (q.1 : Nat)) ∧ (0 ≤ w32 (x3 + 2) ∧ w32 (x3 + 2) < (q.1 : Nat)) ∧ (0 ≤ w32 (x3 + 3) ∧ w32 (x3 + 3) < (q.1 : Nat)) ∧ ∃ (z6 : Int) (S4 : ms), EV q 17 0 [some (.ref 0), some (vL (lO ((w32 (xS q (w32 (x3 + 1)))) * 4294967296) ((w32 (xS q (w32 (x3 + 2)))) % 4294967296))), none, some (vI (xS q (w32 (x3 + 3))))] [] S (some (vI z6)) S4 ∧ (0 ≤ w32 (x3 + 1) ∧ w32 (x3 + 1) < (q.1 : Nat)) ∧ (0 ≤ w32 (x3 + 2) ∧ w32 (x3 + 2) < (q.1 : Nat)) ∧ (0 ≤ w32 (x3 + 3) ∧ w32 (x3 + 3) < (q.1 : Nat)) ∧ ∃ (z12 : Int) (S10 : ms), EV q 256 0 [some (.ref 367), some (vL (lO ((w32 (xS q (w32 (x3 + 1)))) * 4294967296) ((w32 (xS q (w32 (x3 + 2)))) % 4294967296))), none, some (vI (xS q (w32 (x3 + 3)))), none] [] S4 (some (vI z12)) S10 ∧ ((w32 z6 = w32 z12) → EVL q 1258 [some (.ref (en_b + 11)), some (.ref 0), some (.ref 367), some (vI x3)] [] S10 r S') ∧ ((¬ w32 z6 = w32 z12) → r = some (vI 0) ∧ S' = S10)) : EVL q 196 [some (.ref (en_b + 11)), some (.ref 0), some (.ref 367), some (vI x3)] [] S r S' := by
  unfold EVL
  refine ev_bk 4 (S' := (200, [some (.ref (en_b + 11)), some (.ref 0), some (.ref 367), some (vI x3)], [vI 1, vI x3, .ref (en_b + 11), .ref 0], hp S, 453, 2211534)) rfl ?_
  refine mv_iadd rfl ?_
  obtain ⟨b1, F⟩ := F
  refine mv_xal rfl b1 ?_
  refine mv_i2l rfl ?_
  refine ev_bk 1 (S' := (205, [some (.ref (en_b + 11)), some (.ref 0), some (.ref 367), some (vI x3)], [vI 32, vL (w32 (xS q (w32 (x3 + 1)))), .ref 0], hp S, 453, 2211534)) rfl ?_
  refine mv_lshl 4294967296 rfl rfl ?_
  refine ev_bk 3 (S' := (209, [some (.ref (en_b + 11)), some (.ref 0), some (.ref 367), some (vI x3)], [vI 2, vI x3, .ref (en_b + 11), vL ((w32 (xS q (w32 (x3 + 1)))) * 4294967296), .ref 0], hp S, 453, 2211534)) rfl ?_
  refine mv_iadd rfl ?_
  obtain ⟨b2, F⟩ := F
  refine mv_xal rfl b2 ?_
  refine mv_i2l rfl ?_
  refine ev_bk 1 (S' := (215, [some (.ref (en_b + 11)), some (.ref 0), some (.ref 367), some (vI x3)], [vL 4294967295, vL (w32 (xS q (w32 (x3 + 2)))), vL ((w32 (xS q (w32 (x3 + 1)))) * 4294967296), .ref 0], hp S, 453, 2211534)) rfl ?_
  refine mv_landm 4294967296 32 (by decide) rfl rfl rfl ?_
  refine mv_lor rfl ?_
  refine ev_bk 3 (S' := (220, [some (.ref (en_b + 11)), some (.ref 0), some (.ref 367), some (vI x3)], [vI 3, vI x3, .ref (en_b + 11), vL (lO ((w32 (xS q (w32 (x3 + 1)))) * 4294967296) ((w32 (xS q (w32 (x3 + 2)))) % 4294967296)), .ref 0], hp S, 453, 2211534)) rfl ?_
  refine mv_iadd rfl ?_
  obtain ⟨b3, F⟩ := F
  refine mv_xal rfl b3 ?_
  obtain ⟨z6, S4, e5, F⟩ := F
  refine mv_calv (as := [vL (lO ((w32 (xS q (w32 (x3 + 1)))) * 4294967296) ((w32 (xS q (w32 (x3 + 2)))) % 4294967296)), vI (xS q (w32 (x3 + 3)))]) (rest := []) e5 (sh_0) rfl rfl rfl ⟨rfl, rfl⟩ rfl rfl rfl rfl rfl ?_
  refine ev_bk 4 (S' := (229, [some (.ref (en_b + 11)), some (.ref 0), some (.ref 367), some (vI x3)], [vI 1, vI x3, .ref (en_b + 11), .ref 367, vI z6], hp S4, 453, 2211534)) rfl ?_
  refine mv_iadd rfl ?_
  obtain ⟨b7, F⟩ := F
  refine mv_xal rfl b7 ?_
  refine mv_i2l rfl ?_
  refine ev_bk 1 (S' := (234, [some (.ref (en_b + 11)), some (.ref 0), some (.ref 367), some (vI x3)], [vI 32, vL (w32 (xS q (w32 (x3 + 1)))), .ref 367, vI z6], hp S4, 453, 2211534)) rfl ?_
  refine mv_lshl 4294967296 rfl rfl ?_
  refine ev_bk 3 (S' := (238, [some (.ref (en_b + 11)), some (.ref 0), some (.ref 367), some (vI x3)], [vI 2, vI x3, .ref (en_b + 11), vL ((w32 (xS q (w32 (x3 + 1)))) * 4294967296), .ref 367, vI z6], hp S4, 453, 2211534)) rfl ?_
  refine mv_iadd rfl ?_
  obtain ⟨b8, F⟩ := F
  refine mv_xal rfl b8 ?_
  refine mv_i2l rfl ?_
  refine ev_bk 1 (S' := (244, [some (.ref (en_b + 11)), some (.ref 0), some (.ref 367), some (vI x3)], [vL 4294967295, vL (w32 (xS q (w32 (x3 + 2)))), vL ((w32 (xS q (w32 (x3 + 1)))) * 4294967296), .ref 367, vI z6], hp S4, 453, 2211534)) rfl ?_
  refine mv_landm 4294967296 32 (by decide) rfl rfl rfl ?_
  refine mv_lor rfl ?_
  refine ev_bk 3 (S' := (249, [some (.ref (en_b + 11)), some (.ref 0), some (.ref 367), some (vI x3)], [vI 3, vI x3, .ref (en_b + 11), vL (lO ((w32 (xS q (w32 (x3 + 1)))) * 4294967296) ((w32 (xS q (w32 (x3 + 2)))) % 4294967296)), .ref 367, vI z6], hp S4, 453, 2211534)) rfl ?_
  refine mv_iadd rfl ?_
  obtain ⟨b9, F⟩ := F
  refine mv_xal rfl b9 ?_
  obtain ⟨z12, S10, e11, F⟩ := F
  refine mv_calv (as := [vL (lO ((w32 (xS q (w32 (x3 + 1)))) * 4294967296) ((w32 (xS q (w32 (x3 + 2)))) % 4294967296)), vI (xS q (w32 (x3 + 3)))]) (rest := [vI z6]) e11 (sh_367) rfl rfl rfl ⟨rfl, rfl⟩ rfl rfl rfl rfl rfl ?_
  refine mv_icmp 1258 rfl rfl (fun c => ?_) (fun c => ?_)
  · have F := F.1 c
    exact F
  · have F := F.2 c
    refine ev_bk 1 (S' := (258, [some (.ref (en_b + 11)), some (.ref 0), some (.ref 367), some (vI x3)], [vI 0], hp S10, 453, 2211534)) rfl ?_
    obtain ⟨rfl, rfl⟩ := F
    exact ev_ret rfl rfl
theorem vc_LW_259 {q : Nat × (Nat → Int32)} {S S' : ms} {r : Option Value} (x3 : Int)
    (F : (0 ≤ w32 (x3 + 1) ∧ w32 (x3 + 1) < (q.1 : Nat)) ∧ (0 ≤ w32 (x3 + 2) ∧ w32 (x3 + 2) < (q.1 : Nat)) ∧ (0 ≤ w32 (x3 + 3) ∧ w32 (x3 + 3) < (q.1 : Nat)) ∧ ∃ (z6 : Int) (S4 : ms), EV q 20 0 [some (.ref 0), some (vI (xS q (w32 (x3 + 1)))), some (vI (xS q (w32 (x3 + 2)))), some (vI (xS q (w32 (x3 + 3)))), none, none] [] S (some (vI z6)) S4 ∧ (0 ≤ w32 (x3 + 1) ∧ w32 (x3 + 1) < (q.1 : Nat)) ∧ (0 ≤ w32 (x3 + 2) ∧ w32 (x3 + 2) < (q.1 : Nat)) ∧ (0 ≤ w32 (x3 + 3) ∧ w32 (x3 + 3) < (q.1 : Nat)) ∧ ∃ (z12 : Int) (S10 : ms), EV q 258 0 [some (.ref 367), some (vI (xS q (w32 (x3 + 1)))), some (vI (xS q (w32 (x3 + 2)))), some (vI (xS q (w32 (x3 + 3)))), none, none, none, none] [] S4 (some (vI z12)) S10 ∧ ((w32 z6 = w32 z12) → EVL q 1258 [some (.ref (en_b + 11)), some (.ref 0), some (.ref 367), some (vI x3)] [] S10 r S') ∧ ((¬ w32 z6 = w32 z12) → r = some (vI 0) ∧ S' = S10)) : EVL q 259 [some (.ref (en_b + 11)), some (.ref 0), some (.ref 367), some (vI x3)] [] S r S' := by
  unfold EVL
  refine ev_bk 4 (S' := (263, [some (.ref (en_b + 11)), some (.ref 0), some (.ref 367), some (vI x3)], [vI 1, vI x3, .ref (en_b + 11), .ref 0], hp S, 453, 2211534)) rfl ?_
  refine mv_iadd rfl ?_
  obtain ⟨b1, F⟩ := F
  refine mv_xal rfl b1 ?_
  refine ev_bk 3 (S' := (268, [some (.ref (en_b + 11)), some (.ref 0), some (.ref 367), some (vI x3)], [vI 2, vI x3, .ref (en_b + 11), vI (xS q (w32 (x3 + 1))), .ref 0], hp S, 453, 2211534)) rfl ?_
  refine mv_iadd rfl ?_
  obtain ⟨b2, F⟩ := F
  refine mv_xal rfl b2 ?_
  refine ev_bk 3 (S' := (273, [some (.ref (en_b + 11)), some (.ref 0), some (.ref 367), some (vI x3)], [vI 3, vI x3, .ref (en_b + 11), vI (xS q (w32 (x3 + 2))), vI (xS q (w32 (x3 + 1))), .ref 0], hp S, 453, 2211534)) rfl ?_
  refine mv_iadd rfl ?_
  obtain ⟨b3, F⟩ := F
  refine mv_xal rfl b3 ?_
  obtain ⟨z6, S4, e5, F⟩ := F
  refine mv_calv (as := [vI (xS q (w32 (x3 + 1))), vI (xS q (w32 (x3 + 2))), vI (xS q (w32 (x3 + 3)))]) (rest := []) e5 (sh_0) rfl rfl rfl ⟨rfl, rfl⟩ rfl rfl rfl rfl rfl ?_
  refine ev_bk 4 (S' := (282, [some (.ref (en_b + 11)), some (.ref 0), some (.ref 367), some (vI x3)], [vI 1, vI x3, .ref (en_b + 11), .ref 367, vI z6], hp S4, 453, 2211534)) rfl ?_
  refine mv_iadd rfl ?_
  obtain ⟨b7, F⟩ := F
  refine mv_xal rfl b7 ?_
  refine ev_bk 3 (S' := (287, [some (.ref (en_b + 11)), some (.ref 0), some (.ref 367), some (vI x3)], [vI 2, vI x3, .ref (en_b + 11), vI (xS q (w32 (x3 + 1))), .ref 367, vI z6], hp S4, 453, 2211534)) rfl ?_
  refine mv_iadd rfl ?_
  obtain ⟨b8, F⟩ := F
  refine mv_xal rfl b8 ?_
  refine ev_bk 3 (S' := (292, [some (.ref (en_b + 11)), some (.ref 0), some (.ref 367), some (vI x3)], [vI 3, vI x3, .ref (en_b + 11), vI (xS q (w32 (x3 + 2))), vI (xS q (w32 (x3 + 1))), .ref 367, vI z6], hp S4, 453, 2211534)) rfl ?_
  refine mv_iadd rfl ?_
  obtain ⟨b9, F⟩ := F
  refine mv_xal rfl b9 ?_
  obtain ⟨z12, S10, e11, F⟩ := F
  refine mv_calv (as := [vI (xS q (w32 (x3 + 1))), vI (xS q (w32 (x3 + 2))), vI (xS q (w32 (x3 + 3)))]) (rest := [vI z6]) e11 (sh_367) rfl rfl rfl ⟨rfl, rfl⟩ rfl rfl rfl rfl rfl ?_
  refine mv_icmp 1258 rfl rfl (fun c => ?_) (fun c => ?_)
  · have F := F.1 c
    exact F
  · have F := F.2 c
    refine ev_bk 1 (S' := (301, [some (.ref (en_b + 11)), some (.ref 0), some (.ref 367), some (vI x3)], [vI 0], hp S10, 453, 2211534)) rfl ?_
    obtain ⟨rfl, rfl⟩ := F
    exact ev_ret rfl rfl
theorem vc_LW_302 {q : Nat × (Nat → Int32)} {S S' : ms} {r : Option Value} (x3 : Int)
    (F : (0 ≤ w32 (x3 + 1) ∧ w32 (x3 + 1) < (q.1 : Nat)) ∧ ∃ (z4 : Int) (S2 : ms), EV q 23 0 [some (.ref 0), some (vI (xS q (w32 (x3 + 1)))), none] [] S (some (vI z4)) S2 ∧ (0 ≤ w32 (x3 + 1) ∧ w32 (x3 + 1) < (q.1 : Nat)) ∧ ∃ (z8 : Int) (S6 : ms), EV q 259 0 [some (.ref 367), some (vI (xS q (w32 (x3 + 1)))), none] [] S2 (some (vI z8)) S6 ∧ ((w32 z4 = w32 z8) → EVL q 1258 [some (.ref (en_b + 11)), some (.ref 0), some (.ref 367), some (vI x3)] [] S6 r S') ∧ ((¬ w32 z4 = w32 z8) → r = some (vI 0) ∧ S' = S6)) : EVL q 302 [some (.ref (en_b + 11)), some (.ref 0), some (.ref 367), some (vI x3)] [] S r S' := by
  unfold EVL
  refine ev_bk 4 (S' := (306, [some (.ref (en_b + 11)), some (.ref 0), some (.ref 367), some (vI x3)], [vI 1, vI x3, .ref (en_b + 11), .ref 0], hp S, 453, 2211534)) rfl ?_
  refine mv_iadd rfl ?_
  obtain ⟨b1, F⟩ := F
  refine mv_xal rfl b1 ?_
  obtain ⟨z4, S2, e3, F⟩ := F
  refine mv_calv (as := [vI (xS q (w32 (x3 + 1)))]) (rest := []) e3 (sh_0) rfl rfl rfl ⟨rfl, rfl⟩ rfl rfl rfl rfl rfl ?_
  refine ev_bk 4 (S' := (315, [some (.ref (en_b + 11)), some (.ref 0), some (.ref 367), some (vI x3)], [vI 1, vI x3, .ref (en_b + 11), .ref 367, vI z4], hp S2, 453, 2211534)) rfl ?_
  refine mv_iadd rfl ?_
  obtain ⟨b5, F⟩ := F
  refine mv_xal rfl b5 ?_
  obtain ⟨z8, S6, e7, F⟩ := F
  refine mv_calv (as := [vI (xS q (w32 (x3 + 1)))]) (rest := [vI z4]) e7 (sh_367) rfl rfl rfl ⟨rfl, rfl⟩ rfl rfl rfl rfl rfl ?_
  refine mv_icmp 1258 rfl rfl (fun c => ?_) (fun c => ?_)
  · have F := F.1 c
    exact F
  · have F := F.2 c
    refine ev_bk 1 (S' := (324, [some (.ref (en_b + 11)), some (.ref 0), some (.ref 367), some (vI x3)], [vI 0], hp S6, 453, 2211534)) rfl ?_
    obtain ⟨rfl, rfl⟩ := F
    exact ev_ret rfl rfl
theorem vc_LW_325 {q : Nat × (Nat → Int32)} {S S' : ms} {r : Option Value} (x3 : Int)
    (F : (0 ≤ w32 (x3 + 1) ∧ w32 (x3 + 1) < (q.1 : Nat)) ∧ (0 ≤ w32 (x3 + 2) ∧ w32 (x3 + 2) < (q.1 : Nat)) ∧ ∃ (z5 : Int) (S3 : ms), EV q 24 0 [some (.ref 0), some (vI (xS q (w32 (x3 + 1)))), some (vI (xS q (w32 (x3 + 2)))), none] [] S (some (vI z5)) S3 ∧ (0 ≤ w32 (x3 + 1) ∧ w32 (x3 + 1) < (q.1 : Nat)) ∧ (0 ≤ w32 (x3 + 2) ∧ w32 (x3 + 2) < (q.1 : Nat)) ∧ ∃ (z10 : Int) (S8 : ms), EV q 260 0 [some (.ref 367), some (vI (xS q (w32 (x3 + 1)))), some (vI (xS q (w32 (x3 + 2)))), none] [] S3 (some (vI z10)) S8 ∧ ((w32 z5 = w32 z10) → EVL q 1258 [some (.ref (en_b + 11)), some (.ref 0), some (.ref 367), some (vI x3)] [] S8 r S') ∧ ((¬ w32 z5 = w32 z10) → r = some (vI 0) ∧ S' = S8)) : EVL q 325 [some (.ref (en_b + 11)), some (.ref 0), some (.ref 367), some (vI x3)] [] S r S' := by
  unfold EVL
  refine ev_bk 4 (S' := (329, [some (.ref (en_b + 11)), some (.ref 0), some (.ref 367), some (vI x3)], [vI 1, vI x3, .ref (en_b + 11), .ref 0], hp S, 453, 2211534)) rfl ?_
  refine mv_iadd rfl ?_
  obtain ⟨b1, F⟩ := F
  refine mv_xal rfl b1 ?_
  refine ev_bk 3 (S' := (334, [some (.ref (en_b + 11)), some (.ref 0), some (.ref 367), some (vI x3)], [vI 2, vI x3, .ref (en_b + 11), vI (xS q (w32 (x3 + 1))), .ref 0], hp S, 453, 2211534)) rfl ?_
  refine mv_iadd rfl ?_
  obtain ⟨b2, F⟩ := F
  refine mv_xal rfl b2 ?_
  obtain ⟨z5, S3, e4, F⟩ := F
  refine mv_calv (as := [vI (xS q (w32 (x3 + 1))), vI (xS q (w32 (x3 + 2)))]) (rest := []) e4 (sh_0) rfl rfl rfl ⟨rfl, rfl⟩ rfl rfl rfl rfl rfl ?_
  refine ev_bk 4 (S' := (343, [some (.ref (en_b + 11)), some (.ref 0), some (.ref 367), some (vI x3)], [vI 1, vI x3, .ref (en_b + 11), .ref 367, vI z5], hp S3, 453, 2211534)) rfl ?_
  refine mv_iadd rfl ?_
  obtain ⟨b6, F⟩ := F
  refine mv_xal rfl b6 ?_
  refine ev_bk 3 (S' := (348, [some (.ref (en_b + 11)), some (.ref 0), some (.ref 367), some (vI x3)], [vI 2, vI x3, .ref (en_b + 11), vI (xS q (w32 (x3 + 1))), .ref 367, vI z5], hp S3, 453, 2211534)) rfl ?_
  refine mv_iadd rfl ?_
  obtain ⟨b7, F⟩ := F
  refine mv_xal rfl b7 ?_
  obtain ⟨z10, S8, e9, F⟩ := F
  refine mv_calv (as := [vI (xS q (w32 (x3 + 1))), vI (xS q (w32 (x3 + 2)))]) (rest := [vI z5]) e9 (sh_367) rfl rfl rfl ⟨rfl, rfl⟩ rfl rfl rfl rfl rfl ?_
  refine mv_icmp 1258 rfl rfl (fun c => ?_) (fun c => ?_)
  · have F := F.1 c
    exact F
  · have F := F.2 c
    refine ev_bk 1 (S' := (357, [some (.ref (en_b + 11)), some (.ref 0), some (.ref 367), some (vI x3)], [vI 0], hp S8, 453, 2211534)) rfl ?_
    obtain ⟨rfl, rfl⟩ := F
    exact ev_ret rfl rfl
theorem vc_LW_358 {q : Nat × (Nat → Int32)} {S S' : ms} {r : Option Value} (x3 : Int)
    (F : (0 ≤ w32 (x3 + 1) ∧ w32 (x3 + 1) < (q.1 : Nat)) ∧ ∃ (z4 : Int) (S2 : ms), EV q 25 0 [some (.ref 0), some (vI (xS q (w32 (x3 + 1))))] [] S (some (vI z4)) S2 ∧ (0 ≤ w32 (x3 + 1) ∧ w32 (x3 + 1) < (q.1 : Nat)) ∧ ∃ (z8 : Int) (S6 : ms), EV q 261 0 [some (.ref 367), some (vI (xS q (w32 (x3 + 1))))] [] S2 (some (vI z8)) S6 ∧ ((w32 z4 = w32 z8) → EVL q 1258 [some (.ref (en_b + 11)), some (.ref 0), some (.ref 367), some (vI x3)] [] S6 r S') ∧ ((¬ w32 z4 = w32 z8) → r = some (vI 0) ∧ S' = S6)) : EVL q 358 [some (.ref (en_b + 11)), some (.ref 0), some (.ref 367), some (vI x3)] [] S r S' := by
  unfold EVL
  refine ev_bk 4 (S' := (362, [some (.ref (en_b + 11)), some (.ref 0), some (.ref 367), some (vI x3)], [vI 1, vI x3, .ref (en_b + 11), .ref 0], hp S, 453, 2211534)) rfl ?_
  refine mv_iadd rfl ?_
  obtain ⟨b1, F⟩ := F
  refine mv_xal rfl b1 ?_
  obtain ⟨z4, S2, e3, F⟩ := F
  refine mv_calv (as := [vI (xS q (w32 (x3 + 1)))]) (rest := []) e3 (sh_0) rfl rfl rfl ⟨rfl, rfl⟩ rfl rfl rfl rfl rfl ?_
  refine ev_bk 4 (S' := (371, [some (.ref (en_b + 11)), some (.ref 0), some (.ref 367), some (vI x3)], [vI 1, vI x3, .ref (en_b + 11), .ref 367, vI z4], hp S2, 453, 2211534)) rfl ?_
  refine mv_iadd rfl ?_
  obtain ⟨b5, F⟩ := F
  refine mv_xal rfl b5 ?_
  obtain ⟨z8, S6, e7, F⟩ := F
  refine mv_calv (as := [vI (xS q (w32 (x3 + 1)))]) (rest := [vI z4]) e7 (sh_367) rfl rfl rfl ⟨rfl, rfl⟩ rfl rfl rfl rfl rfl ?_
  refine mv_icmp 1258 rfl rfl (fun c => ?_) (fun c => ?_)
  · have F := F.1 c
    exact F
  · have F := F.2 c
    refine ev_bk 1 (S' := (380, [some (.ref (en_b + 11)), some (.ref 0), some (.ref 367), some (vI x3)], [vI 0], hp S6, 453, 2211534)) rfl ?_
    obtain ⟨rfl, rfl⟩ := F
    exact ev_ret rfl rfl
theorem vc_LW_381 {q : Nat × (Nat → Int32)} {S S' : ms} {r : Option Value} (x3 : Int)
    (F : (0 ≤ w32 (x3 + 1) ∧ w32 (x3 + 1) < (q.1 : Nat)) ∧ ∃ (z4 : Int) (S2 : ms), EV q 26 0 [some (.ref 0), some (vI (xS q (w32 (x3 + 1))))] [] S (some (vL z4)) S2 ∧ (0 ≤ w32 (x3 + 1) ∧ w32 (x3 + 1) < (q.1 : Nat)) ∧ ∃ (z8 : Int) (S6 : ms), EV q 262 0 [some (.ref 367), some (vI (xS q (w32 (x3 + 1))))] [] S2 (some (vL z8)) S6 ∧ ((w64 z4 = w64 z8) → EVL q 1258 [some (.ref (en_b + 11)), some (.ref 0), some (.ref 367), some (vI x3)] [] S6 r S') ∧ ((¬ w64 z4 = w64 z8) → r = some (vI 0) ∧ S' = S6)) : EVL q 381 [some (.ref (en_b + 11)), some (.ref 0), some (.ref 367), some (vI x3)] [] S r S' := by
  unfold EVL
  refine ev_bk 4 (S' := (385, [some (.ref (en_b + 11)), some (.ref 0), some (.ref 367), some (vI x3)], [vI 1, vI x3, .ref (en_b + 11), .ref 0], hp S, 453, 2211534)) rfl ?_
  refine mv_iadd rfl ?_
  obtain ⟨b1, F⟩ := F
  refine mv_xal rfl b1 ?_
  obtain ⟨z4, S2, e3, F⟩ := F
  refine mv_calv (as := [vI (xS q (w32 (x3 + 1)))]) (rest := []) e3 (sh_0) rfl rfl rfl ⟨rfl, rfl⟩ rfl rfl rfl rfl rfl ?_
  refine ev_bk 4 (S' := (394, [some (.ref (en_b + 11)), some (.ref 0), some (.ref 367), some (vI x3)], [vI 1, vI x3, .ref (en_b + 11), .ref 367, vL z4], hp S2, 453, 2211534)) rfl ?_
  refine mv_iadd rfl ?_
  obtain ⟨b5, F⟩ := F
  refine mv_xal rfl b5 ?_
  obtain ⟨z8, S6, e7, F⟩ := F
  refine mv_calv (as := [vI (xS q (w32 (x3 + 1)))]) (rest := [vL z4]) e7 (sh_367) rfl rfl rfl ⟨rfl, rfl⟩ rfl rfl rfl rfl rfl ?_
  refine mv_lif 1258 rfl rfl rfl (fun c => ?_) (fun c => ?_)
  · have F := F.1 c
    exact F
  · have F := F.2 c
    refine ev_bk 1 (S' := (404, [some (.ref (en_b + 11)), some (.ref 0), some (.ref 367), some (vI x3)], [vI 0], hp S6, 453, 2211534)) rfl ?_
    obtain ⟨rfl, rfl⟩ := F
    exact ev_ret rfl rfl
theorem vc_LW_405 {q : Nat × (Nat → Int32)} {S S' : ms} {r : Option Value} (x3 : Int)
    (F : (0 ≤ w32 (x3 + 1) ∧ w32 (x3 + 1) < (q.1 : Nat)) ∧ ∃ (z4 : Int) (S2 : ms), EV q 33 0 [some (.ref 0), some (vI (xS q (w32 (x3 + 1))))] [] S (some (vI z4)) S2 ∧ (0 ≤ w32 (x3 + 1) ∧ w32 (x3 + 1) < (q.1 : Nat)) ∧ ∃ (z8 : Int) (S6 : ms), EV q 270 0 [some (.ref 367), some (vI (xS q (w32 (x3 + 1))))] [] S2 (some (vI z8)) S6 ∧ ((w32 z4 = w32 z8) → EVL q 1258 [some (.ref (en_b + 11)), some (.ref 0), some (.ref 367), some (vI x3)] [] S6 r S') ∧ ((¬ w32 z4 = w32 z8) → r = some (vI 0) ∧ S' = S6)) : EVL q 405 [some (.ref (en_b + 11)), some (.ref 0), some (.ref 367), some (vI x3)] [] S r S' := by
  unfold EVL
  refine ev_bk 4 (S' := (409, [some (.ref (en_b + 11)), some (.ref 0), some (.ref 367), some (vI x3)], [vI 1, vI x3, .ref (en_b + 11), .ref 0], hp S, 453, 2211534)) rfl ?_
  refine mv_iadd rfl ?_
  obtain ⟨b1, F⟩ := F
  refine mv_xal rfl b1 ?_
  obtain ⟨z4, S2, e3, F⟩ := F
  refine mv_calv (as := [vI (xS q (w32 (x3 + 1)))]) (rest := []) e3 (sh_0) rfl rfl rfl ⟨rfl, rfl⟩ rfl rfl rfl rfl rfl ?_
  refine ev_bk 4 (S' := (418, [some (.ref (en_b + 11)), some (.ref 0), some (.ref 367), some (vI x3)], [vI 1, vI x3, .ref (en_b + 11), .ref 367, vI z4], hp S2, 453, 2211534)) rfl ?_
  refine mv_iadd rfl ?_
  obtain ⟨b5, F⟩ := F
  refine mv_xal rfl b5 ?_
  obtain ⟨z8, S6, e7, F⟩ := F
  refine mv_calv (as := [vI (xS q (w32 (x3 + 1)))]) (rest := [vI z4]) e7 (sh_367) rfl rfl rfl ⟨rfl, rfl⟩ rfl rfl rfl rfl rfl ?_
  refine mv_icmp 1258 rfl rfl (fun c => ?_) (fun c => ?_)
  · have F := F.1 c
    exact F
  · have F := F.2 c
    refine ev_bk 1 (S' := (427, [some (.ref (en_b + 11)), some (.ref 0), some (.ref 367), some (vI x3)], [vI 0], hp S6, 453, 2211534)) rfl ?_
    obtain ⟨rfl, rfl⟩ := F
    exact ev_ret rfl rfl
theorem vc_LW_428 {q : Nat × (Nat → Int32)} {S S' : ms} {r : Option Value} (x3 : Int)
    (F : (0 ≤ w32 (x3 + 1) ∧ w32 (x3 + 1) < (q.1 : Nat)) ∧ (0 ≤ w32 (x3 + 2) ∧ w32 (x3 + 2) < (q.1 : Nat)) ∧ ∃ (z5 : Int) (S3 : ms), EV q 35 0 [some (.ref 0), some (vI (xS q (w32 (x3 + 1)))), some (vI (xS q (w32 (x3 + 2))))] [] S (some (vI z5)) S3 ∧ (0 ≤ w32 (x3 + 1) ∧ w32 (x3 + 1) < (q.1 : Nat)) ∧ (0 ≤ w32 (x3 + 2) ∧ w32 (x3 + 2) < (q.1 : Nat)) ∧ ∃ (z10 : Int) (S8 : ms), EV q 272 0 [some (.ref 367), some (vI (xS q (w32 (x3 + 1)))), some (vI (xS q (w32 (x3 + 2))))] [] S3 (some (vI z10)) S8 ∧ ((w32 z5 = w32 z10) → EVL q 1258 [some (.ref (en_b + 11)), some (.ref 0), some (.ref 367), some (vI x3)] [] S8 r S') ∧ ((¬ w32 z5 = w32 z10) → r = some (vI 0) ∧ S' = S8)) : EVL q 428 [some (.ref (en_b + 11)), some (.ref 0), some (.ref 367), some (vI x3)] [] S r S' := by
  unfold EVL
  refine ev_bk 4 (S' := (432, [some (.ref (en_b + 11)), some (.ref 0), some (.ref 367), some (vI x3)], [vI 1, vI x3, .ref (en_b + 11), .ref 0], hp S, 453, 2211534)) rfl ?_
  refine mv_iadd rfl ?_
  obtain ⟨b1, F⟩ := F
  refine mv_xal rfl b1 ?_
  refine ev_bk 3 (S' := (437, [some (.ref (en_b + 11)), some (.ref 0), some (.ref 367), some (vI x3)], [vI 2, vI x3, .ref (en_b + 11), vI (xS q (w32 (x3 + 1))), .ref 0], hp S, 453, 2211534)) rfl ?_
  refine mv_iadd rfl ?_
  obtain ⟨b2, F⟩ := F
  refine mv_xal rfl b2 ?_
  obtain ⟨z5, S3, e4, F⟩ := F
  refine mv_calv (as := [vI (xS q (w32 (x3 + 1))), vI (xS q (w32 (x3 + 2)))]) (rest := []) e4 (sh_0) rfl rfl rfl ⟨rfl, rfl⟩ rfl rfl rfl rfl rfl ?_
  refine ev_bk 4 (S' := (446, [some (.ref (en_b + 11)), some (.ref 0), some (.ref 367), some (vI x3)], [vI 1, vI x3, .ref (en_b + 11), .ref 367, vI z5], hp S3, 453, 2211534)) rfl ?_
  refine mv_iadd rfl ?_
  obtain ⟨b6, F⟩ := F
  refine mv_xal rfl b6 ?_
  refine ev_bk 3 (S' := (451, [some (.ref (en_b + 11)), some (.ref 0), some (.ref 367), some (vI x3)], [vI 2, vI x3, .ref (en_b + 11), vI (xS q (w32 (x3 + 1))), .ref 367, vI z5], hp S3, 453, 2211534)) rfl ?_
  refine mv_iadd rfl ?_
  obtain ⟨b7, F⟩ := F
  refine mv_xal rfl b7 ?_
  obtain ⟨z10, S8, e9, F⟩ := F
  refine mv_calv (as := [vI (xS q (w32 (x3 + 1))), vI (xS q (w32 (x3 + 2)))]) (rest := [vI z5]) e9 (sh_367) rfl rfl rfl ⟨rfl, rfl⟩ rfl rfl rfl rfl rfl ?_
  refine mv_icmp 1258 rfl rfl (fun c => ?_) (fun c => ?_)
  · have F := F.1 c
    exact F
  · have F := F.2 c
    refine ev_bk 1 (S' := (460, [some (.ref (en_b + 11)), some (.ref 0), some (.ref 367), some (vI x3)], [vI 0], hp S8, 453, 2211534)) rfl ?_
    obtain ⟨rfl, rfl⟩ := F
    exact ev_ret rfl rfl
theorem vc_LW_461 {q : Nat × (Nat → Int32)} {S S' : ms} {r : Option Value} (x3 : Int)
    (F : (0 ≤ w32 (x3 + 1) ∧ w32 (x3 + 1) < (q.1 : Nat)) ∧ ∃ (z4 : Int) (S2 : ms), EV q 36 0 [some (.ref 0), some (vI (xS q (w32 (x3 + 1))))] [] S (some (vI z4)) S2 ∧ (0 ≤ w32 (x3 + 1) ∧ w32 (x3 + 1) < (q.1 : Nat)) ∧ ∃ (z8 : Int) (S6 : ms), EV q 273 0 [some (.ref 367), some (vI (xS q (w32 (x3 + 1)))), none] [] S2 (some (vI z8)) S6 ∧ ((w32 z4 = w32 z8) → EVL q 1258 [some (.ref (en_b + 11)), some (.ref 0), some (.ref 367), some (vI x3)] [] S6 r S') ∧ ((¬ w32 z4 = w32 z8) → r = some (vI 0) ∧ S' = S6)) : EVL q 461 [some (.ref (en_b + 11)), some (.ref 0), some (.ref 367), some (vI x3)] [] S r S' := by
  unfold EVL
  refine ev_bk 4 (S' := (465, [some (.ref (en_b + 11)), some (.ref 0), some (.ref 367), some (vI x3)], [vI 1, vI x3, .ref (en_b + 11), .ref 0], hp S, 453, 2211534)) rfl ?_
  refine mv_iadd rfl ?_
  obtain ⟨b1, F⟩ := F
  refine mv_xal rfl b1 ?_
  obtain ⟨z4, S2, e3, F⟩ := F
  refine mv_calv (as := [vI (xS q (w32 (x3 + 1)))]) (rest := []) e3 (sh_0) rfl rfl rfl ⟨rfl, rfl⟩ rfl rfl rfl rfl rfl ?_
  refine ev_bk 4 (S' := (474, [some (.ref (en_b + 11)), some (.ref 0), some (.ref 367), some (vI x3)], [vI 1, vI x3, .ref (en_b + 11), .ref 367, vI z4], hp S2, 453, 2211534)) rfl ?_
  refine mv_iadd rfl ?_
  obtain ⟨b5, F⟩ := F
  refine mv_xal rfl b5 ?_
  obtain ⟨z8, S6, e7, F⟩ := F
  refine mv_calv (as := [vI (xS q (w32 (x3 + 1)))]) (rest := [vI z4]) e7 (sh_367) rfl rfl rfl ⟨rfl, rfl⟩ rfl rfl rfl rfl rfl ?_
  refine mv_icmp 1258 rfl rfl (fun c => ?_) (fun c => ?_)
  · have F := F.1 c
    exact F
  · have F := F.2 c
    refine ev_bk 1 (S' := (483, [some (.ref (en_b + 11)), some (.ref 0), some (.ref 367), some (vI x3)], [vI 0], hp S6, 453, 2211534)) rfl ?_
    obtain ⟨rfl, rfl⟩ := F
    exact ev_ret rfl rfl
theorem vc_LW_484 {q : Nat × (Nat → Int32)} {S S' : ms} {r : Option Value} (x3 : Int)
    (F : (0 ≤ w32 (x3 + 1) ∧ w32 (x3 + 1) < (q.1 : Nat)) ∧ ∃ (z4 : Int) (S2 : ms), EV q 40 0 [some (.ref 0), some (vI (xS q (w32 (x3 + 1))))] [] S (some (vI z4)) S2 ∧ (0 ≤ w32 (x3 + 1) ∧ w32 (x3 + 1) < (q.1 : Nat)) ∧ ∃ (z8 : Int) (S6 : ms), EV q 274 0 [some (.ref 367), some (vI (xS q (w32 (x3 + 1))))] [] S2 (some (vI z8)) S6 ∧ ((w32 z4 = w32 z8) → EVL q 1258 [some (.ref (en_b + 11)), some (.ref 0), some (.ref 367), some (vI x3)] [] S6 r S') ∧ ((¬ w32 z4 = w32 z8) → r = some (vI 0) ∧ S' = S6)) : EVL q 484 [some (.ref (en_b + 11)), some (.ref 0), some (.ref 367), some (vI x3)] [] S r S' := by
  unfold EVL
  refine ev_bk 4 (S' := (488, [some (.ref (en_b + 11)), some (.ref 0), some (.ref 367), some (vI x3)], [vI 1, vI x3, .ref (en_b + 11), .ref 0], hp S, 453, 2211534)) rfl ?_
  refine mv_iadd rfl ?_
  obtain ⟨b1, F⟩ := F
  refine mv_xal rfl b1 ?_
  obtain ⟨z4, S2, e3, F⟩ := F
  refine mv_calv (as := [vI (xS q (w32 (x3 + 1)))]) (rest := []) e3 (sh_0) rfl rfl rfl ⟨rfl, rfl⟩ rfl rfl rfl rfl rfl ?_
  refine ev_bk 4 (S' := (497, [some (.ref (en_b + 11)), some (.ref 0), some (.ref 367), some (vI x3)], [vI 1, vI x3, .ref (en_b + 11), .ref 367, vI z4], hp S2, 453, 2211534)) rfl ?_
  refine mv_iadd rfl ?_
  obtain ⟨b5, F⟩ := F
  refine mv_xal rfl b5 ?_
  obtain ⟨z8, S6, e7, F⟩ := F
  refine mv_calv (as := [vI (xS q (w32 (x3 + 1)))]) (rest := [vI z4]) e7 (sh_367) rfl rfl rfl ⟨rfl, rfl⟩ rfl rfl rfl rfl rfl ?_
  refine mv_icmp 1258 rfl rfl (fun c => ?_) (fun c => ?_)
  · have F := F.1 c
    exact F
  · have F := F.2 c
    refine ev_bk 1 (S' := (506, [some (.ref (en_b + 11)), some (.ref 0), some (.ref 367), some (vI x3)], [vI 0], hp S6, 453, 2211534)) rfl ?_
    obtain ⟨rfl, rfl⟩ := F
    exact ev_ret rfl rfl
theorem vc_LW_507 {q : Nat × (Nat → Int32)} {S S' : ms} {r : Option Value} (x3 : Int)
    (F : (0 ≤ w32 (x3 + 1) ∧ w32 (x3 + 1) < (q.1 : Nat)) ∧ (0 ≤ w32 (x3 + 2) ∧ w32 (x3 + 2) < (q.1 : Nat)) ∧ ∃ (z5 : Int) (S3 : ms), EV q 41 0 [some (.ref 0), some (vI (xS q (w32 (x3 + 1)))), some (vI (xS q (w32 (x3 + 2)))), none, none, none, none] [] S (some (vI z5)) S3 ∧ (0 ≤ w32 (x3 + 1) ∧ w32 (x3 + 1) < (q.1 : Nat)) ∧ (0 ≤ w32 (x3 + 2) ∧ w32 (x3 + 2) < (q.1 : Nat)) ∧ ∃ (z10 : Int) (S8 : ms), EV q 275 0 [some (.ref 367), some (vI (xS q (w32 (x3 + 1)))), some (vI (xS q (w32 (x3 + 2)))), none] [] S3 (some (vI z10)) S8 ∧ ((w32 z5 = w32 z10) → EVL q 1258 [some (.ref (en_b + 11)), some (.ref 0), some (.ref 367), some (vI x3)] [] S8 r S') ∧ ((¬ w32 z5 = w32 z10) → r = some (vI 0) ∧ S' = S8)) : EVL q 507 [some (.ref (en_b + 11)), some (.ref 0), some (.ref 367), some (vI x3)] [] S r S' := by
  unfold EVL
  refine ev_bk 4 (S' := (511, [some (.ref (en_b + 11)), some (.ref 0), some (.ref 367), some (vI x3)], [vI 1, vI x3, .ref (en_b + 11), .ref 0], hp S, 453, 2211534)) rfl ?_
  refine mv_iadd rfl ?_
  obtain ⟨b1, F⟩ := F
  refine mv_xal rfl b1 ?_
  refine ev_bk 3 (S' := (516, [some (.ref (en_b + 11)), some (.ref 0), some (.ref 367), some (vI x3)], [vI 2, vI x3, .ref (en_b + 11), vI (xS q (w32 (x3 + 1))), .ref 0], hp S, 453, 2211534)) rfl ?_
  refine mv_iadd rfl ?_
  obtain ⟨b2, F⟩ := F
  refine mv_xal rfl b2 ?_
  obtain ⟨z5, S3, e4, F⟩ := F
  refine mv_calv (as := [vI (xS q (w32 (x3 + 1))), vI (xS q (w32 (x3 + 2)))]) (rest := []) e4 (sh_0) rfl rfl rfl ⟨rfl, rfl⟩ rfl rfl rfl rfl rfl ?_
  refine ev_bk 4 (S' := (525, [some (.ref (en_b + 11)), some (.ref 0), some (.ref 367), some (vI x3)], [vI 1, vI x3, .ref (en_b + 11), .ref 367, vI z5], hp S3, 453, 2211534)) rfl ?_
  refine mv_iadd rfl ?_
  obtain ⟨b6, F⟩ := F
  refine mv_xal rfl b6 ?_
  refine ev_bk 3 (S' := (530, [some (.ref (en_b + 11)), some (.ref 0), some (.ref 367), some (vI x3)], [vI 2, vI x3, .ref (en_b + 11), vI (xS q (w32 (x3 + 1))), .ref 367, vI z5], hp S3, 453, 2211534)) rfl ?_
  refine mv_iadd rfl ?_
  obtain ⟨b7, F⟩ := F
  refine mv_xal rfl b7 ?_
  obtain ⟨z10, S8, e9, F⟩ := F
  refine mv_calv (as := [vI (xS q (w32 (x3 + 1))), vI (xS q (w32 (x3 + 2)))]) (rest := [vI z5]) e9 (sh_367) rfl rfl rfl ⟨rfl, rfl⟩ rfl rfl rfl rfl rfl ?_
  refine mv_icmp 1258 rfl rfl (fun c => ?_) (fun c => ?_)
  · have F := F.1 c
    exact F
  · have F := F.2 c
    refine ev_bk 1 (S' := (539, [some (.ref (en_b + 11)), some (.ref 0), some (.ref 367), some (vI x3)], [vI 0], hp S8, 453, 2211534)) rfl ?_
    obtain ⟨rfl, rfl⟩ := F
    exact ev_ret rfl rfl
theorem vc_LW_540 {q : Nat × (Nat → Int32)} {S S' : ms} {r : Option Value} (x3 : Int)
    (F : (0 ≤ w32 (x3 + 1) ∧ w32 (x3 + 1) < (q.1 : Nat)) ∧ (0 ≤ w32 (x3 + 2) ∧ w32 (x3 + 2) < (q.1 : Nat)) ∧ ∃ (z5 : Int) (S3 : ms), EV q 42 0 [some (.ref 0), some (vI (xS q (w32 (x3 + 1)))), some (vI (xS q (w32 (x3 + 2)))), none, none, none, none, none] [] S (some (vI z5)) S3 ∧ (0 ≤ w32 (x3 + 1) ∧ w32 (x3 + 1) < (q.1 : Nat)) ∧ (0 ≤ w32 (x3 + 2) ∧ w32 (x3 + 2) < (q.1 : Nat)) ∧ ∃ (z10 : Int) (S8 : ms), EV q 276 0 [some (.ref 367), some (vI (xS q (w32 (x3 + 1)))), some (vI (xS q (w32 (x3 + 2)))), none, none] [] S3 (some (vI z10)) S8 ∧ ((w32 z5 = w32 z10) → EVL q 1258 [some (.ref (en_b + 11)), some (.ref 0), some (.ref 367), some (vI x3)] [] S8 r S') ∧ ((¬ w32 z5 = w32 z10) → r = some (vI 0) ∧ S' = S8)) : EVL q 540 [some (.ref (en_b + 11)), some (.ref 0), some (.ref 367), some (vI x3)] [] S r S' := by
  unfold EVL
  refine ev_bk 4 (S' := (544, [some (.ref (en_b + 11)), some (.ref 0), some (.ref 367), some (vI x3)], [vI 1, vI x3, .ref (en_b + 11), .ref 0], hp S, 453, 2211534)) rfl ?_
  refine mv_iadd rfl ?_
  obtain ⟨b1, F⟩ := F
  refine mv_xal rfl b1 ?_
  refine ev_bk 3 (S' := (549, [some (.ref (en_b + 11)), some (.ref 0), some (.ref 367), some (vI x3)], [vI 2, vI x3, .ref (en_b + 11), vI (xS q (w32 (x3 + 1))), .ref 0], hp S, 453, 2211534)) rfl ?_
  refine mv_iadd rfl ?_
  obtain ⟨b2, F⟩ := F
  refine mv_xal rfl b2 ?_
  obtain ⟨z5, S3, e4, F⟩ := F
  refine mv_calv (as := [vI (xS q (w32 (x3 + 1))), vI (xS q (w32 (x3 + 2)))]) (rest := []) e4 (sh_0) rfl rfl rfl ⟨rfl, rfl⟩ rfl rfl rfl rfl rfl ?_
  refine ev_bk 4 (S' := (558, [some (.ref (en_b + 11)), some (.ref 0), some (.ref 367), some (vI x3)], [vI 1, vI x3, .ref (en_b + 11), .ref 367, vI z5], hp S3, 453, 2211534)) rfl ?_
  refine mv_iadd rfl ?_
  obtain ⟨b6, F⟩ := F
  refine mv_xal rfl b6 ?_
  refine ev_bk 3 (S' := (563, [some (.ref (en_b + 11)), some (.ref 0), some (.ref 367), some (vI x3)], [vI 2, vI x3, .ref (en_b + 11), vI (xS q (w32 (x3 + 1))), .ref 367, vI z5], hp S3, 453, 2211534)) rfl ?_
  refine mv_iadd rfl ?_
  obtain ⟨b7, F⟩ := F
  refine mv_xal rfl b7 ?_
  obtain ⟨z10, S8, e9, F⟩ := F
  refine mv_calv (as := [vI (xS q (w32 (x3 + 1))), vI (xS q (w32 (x3 + 2)))]) (rest := [vI z5]) e9 (sh_367) rfl rfl rfl ⟨rfl, rfl⟩ rfl rfl rfl rfl rfl ?_
  refine mv_icmp 1258 rfl rfl (fun c => ?_) (fun c => ?_)
  · have F := F.1 c
    exact F
  · have F := F.2 c
    refine ev_bk 1 (S' := (572, [some (.ref (en_b + 11)), some (.ref 0), some (.ref 367), some (vI x3)], [vI 0], hp S8, 453, 2211534)) rfl ?_
    obtain ⟨rfl, rfl⟩ := F
    exact ev_ret rfl rfl
theorem vc_LW_573 {q : Nat × (Nat → Int32)} {S S' : ms} {r : Option Value} (x3 : Int)
    (F : (0 ≤ w32 (x3 + 1) ∧ w32 (x3 + 1) < (q.1 : Nat)) ∧ ∃ (z4 : Int) (S2 : ms), EV q 114 0 [some (.ref 0), some (vI (xS q (w32 (x3 + 1)))), none] [] S (some (vI z4)) S2 ∧ (0 ≤ w32 (x3 + 1) ∧ w32 (x3 + 1) < (q.1 : Nat)) ∧ ∃ (z8 : Int) (S6 : ms), EV q 329 0 [some (.ref 367), some (vI (xS q (w32 (x3 + 1)))), none] [] S2 (some (vI z8)) S6 ∧ ((w32 z4 = w32 z8) → EVL q 1258 [some (.ref (en_b + 11)), some (.ref 0), some (.ref 367), some (vI x3)] [] S6 r S') ∧ ((¬ w32 z4 = w32 z8) → r = some (vI 0) ∧ S' = S6)) : EVL q 573 [some (.ref (en_b + 11)), some (.ref 0), some (.ref 367), some (vI x3)] [] S r S' := by
  unfold EVL
  refine ev_bk 4 (S' := (577, [some (.ref (en_b + 11)), some (.ref 0), some (.ref 367), some (vI x3)], [vI 1, vI x3, .ref (en_b + 11), .ref 0], hp S, 453, 2211534)) rfl ?_
  refine mv_iadd rfl ?_
  obtain ⟨b1, F⟩ := F
  refine mv_xal rfl b1 ?_
  obtain ⟨z4, S2, e3, F⟩ := F
  refine mv_calv (as := [vI (xS q (w32 (x3 + 1)))]) (rest := []) e3 (sh_0) rfl rfl rfl ⟨rfl, rfl⟩ rfl rfl rfl rfl rfl ?_
  refine ev_bk 4 (S' := (586, [some (.ref (en_b + 11)), some (.ref 0), some (.ref 367), some (vI x3)], [vI 1, vI x3, .ref (en_b + 11), .ref 367, vI z4], hp S2, 453, 2211534)) rfl ?_
  refine mv_iadd rfl ?_
  obtain ⟨b5, F⟩ := F
  refine mv_xal rfl b5 ?_
  obtain ⟨z8, S6, e7, F⟩ := F
  refine mv_calv (as := [vI (xS q (w32 (x3 + 1)))]) (rest := [vI z4]) e7 (sh_367) rfl rfl rfl ⟨rfl, rfl⟩ rfl rfl rfl rfl rfl ?_
  refine mv_icmp 1258 rfl rfl (fun c => ?_) (fun c => ?_)
  · have F := F.1 c
    exact F
  · have F := F.2 c
    refine ev_bk 1 (S' := (595, [some (.ref (en_b + 11)), some (.ref 0), some (.ref 367), some (vI x3)], [vI 0], hp S6, 453, 2211534)) rfl ?_
    obtain ⟨rfl, rfl⟩ := F
    exact ev_ret rfl rfl
theorem vc_LW_596 {q : Nat × (Nat → Int32)} {S S' : ms} {r : Option Value} (x3 : Int)
    (F : (0 ≤ w32 (x3 + 1) ∧ w32 (x3 + 1) < (q.1 : Nat)) ∧ ∃ (z4 : Int) (S2 : ms), EV q 175 0 [some (.ref 0), some (vI (xS q (w32 (x3 + 1))))] [] S (some (vI z4)) S2 ∧ (0 ≤ w32 (x3 + 1) ∧ w32 (x3 + 1) < (q.1 : Nat)) ∧ ∃ (z8 : Int) (S6 : ms), EV q 369 0 [some (.ref 367), some (vI (xS q (w32 (x3 + 1))))] [] S2 (some (vI z8)) S6 ∧ ((w32 z4 = w32 z8) → EVL q 1258 [some (.ref (en_b + 11)), some (.ref 0), some (.ref 367), some (vI x3)] [] S6 r S') ∧ ((¬ w32 z4 = w32 z8) → r = some (vI 0) ∧ S' = S6)) : EVL q 596 [some (.ref (en_b + 11)), some (.ref 0), some (.ref 367), some (vI x3)] [] S r S' := by
  unfold EVL
  refine ev_bk 4 (S' := (600, [some (.ref (en_b + 11)), some (.ref 0), some (.ref 367), some (vI x3)], [vI 1, vI x3, .ref (en_b + 11), .ref 0], hp S, 453, 2211534)) rfl ?_
  refine mv_iadd rfl ?_
  obtain ⟨b1, F⟩ := F
  refine mv_xal rfl b1 ?_
  obtain ⟨z4, S2, e3, F⟩ := F
  refine mv_calv (as := [vI (xS q (w32 (x3 + 1)))]) (rest := []) e3 (sh_0) rfl rfl rfl ⟨rfl, rfl⟩ rfl rfl rfl rfl rfl ?_
  refine ev_bk 4 (S' := (609, [some (.ref (en_b + 11)), some (.ref 0), some (.ref 367), some (vI x3)], [vI 1, vI x3, .ref (en_b + 11), .ref 367, vI z4], hp S2, 453, 2211534)) rfl ?_
  refine mv_iadd rfl ?_
  obtain ⟨b5, F⟩ := F
  refine mv_xal rfl b5 ?_
  obtain ⟨z8, S6, e7, F⟩ := F
  refine mv_calv (as := [vI (xS q (w32 (x3 + 1)))]) (rest := [vI z4]) e7 (sh_367) rfl rfl rfl ⟨rfl, rfl⟩ rfl rfl rfl rfl rfl ?_
  refine mv_icmp 1258 rfl rfl (fun c => ?_) (fun c => ?_)
  · have F := F.1 c
    exact F
  · have F := F.2 c
    refine ev_bk 1 (S' := (618, [some (.ref (en_b + 11)), some (.ref 0), some (.ref 367), some (vI x3)], [vI 0], hp S6, 453, 2211534)) rfl ?_
    obtain ⟨rfl, rfl⟩ := F
    exact ev_ret rfl rfl
theorem vc_LW_619 {q : Nat × (Nat → Int32)} {S S' : ms} {r : Option Value} (x3 : Int)
    (F : (0 ≤ w32 (x3 + 1) ∧ w32 (x3 + 1) < (q.1 : Nat)) ∧ (0 ≤ w32 (x3 + 2) ∧ w32 (x3 + 2) < (q.1 : Nat)) ∧ ∃ (z5 : Int) (S3 : ms), EV q 176 0 [some (.ref 0), some (vI (xS q (w32 (x3 + 1)))), some (vI (xS q (w32 (x3 + 2))))] [] S (some (vI z5)) S3 ∧ (0 ≤ w32 (x3 + 1) ∧ w32 (x3 + 1) < (q.1 : Nat)) ∧ (0 ≤ w32 (x3 + 2) ∧ w32 (x3 + 2) < (q.1 : Nat)) ∧ ∃ (z10 : Int) (S8 : ms), EV q 370 0 [some (.ref 367), some (vI (xS q (w32 (x3 + 1)))), some (vI (xS q (w32 (x3 + 2))))] [] S3 (some (vI z10)) S8 ∧ ((w32 z5 = w32 z10) → EVL q 1258 [some (.ref (en_b + 11)), some (.ref 0), some (.ref 367), some (vI x3)] [] S8 r S') ∧ ((¬ w32 z5 = w32 z10) → r = some (vI 0) ∧ S' = S8)) : EVL q 619 [some (.ref (en_b + 11)), some (.ref 0), some (.ref 367), some (vI x3)] [] S r S' := by
  unfold EVL
  refine ev_bk 4 (S' := (623, [some (.ref (en_b + 11)), some (.ref 0), some (.ref 367), some (vI x3)], [vI 1, vI x3, .ref (en_b + 11), .ref 0], hp S, 453, 2211534)) rfl ?_
  refine mv_iadd rfl ?_
  obtain ⟨b1, F⟩ := F
  refine mv_xal rfl b1 ?_
  refine ev_bk 3 (S' := (628, [some (.ref (en_b + 11)), some (.ref 0), some (.ref 367), some (vI x3)], [vI 2, vI x3, .ref (en_b + 11), vI (xS q (w32 (x3 + 1))), .ref 0], hp S, 453, 2211534)) rfl ?_
  refine mv_iadd rfl ?_
  obtain ⟨b2, F⟩ := F
  refine mv_xal rfl b2 ?_
  obtain ⟨z5, S3, e4, F⟩ := F
  refine mv_calv (as := [vI (xS q (w32 (x3 + 1))), vI (xS q (w32 (x3 + 2)))]) (rest := []) e4 (sh_0) rfl rfl rfl ⟨rfl, rfl⟩ rfl rfl rfl rfl rfl ?_
  refine ev_bk 4 (S' := (637, [some (.ref (en_b + 11)), some (.ref 0), some (.ref 367), some (vI x3)], [vI 1, vI x3, .ref (en_b + 11), .ref 367, vI z5], hp S3, 453, 2211534)) rfl ?_
  refine mv_iadd rfl ?_
  obtain ⟨b6, F⟩ := F
  refine mv_xal rfl b6 ?_
  refine ev_bk 3 (S' := (642, [some (.ref (en_b + 11)), some (.ref 0), some (.ref 367), some (vI x3)], [vI 2, vI x3, .ref (en_b + 11), vI (xS q (w32 (x3 + 1))), .ref 367, vI z5], hp S3, 453, 2211534)) rfl ?_
  refine mv_iadd rfl ?_
  obtain ⟨b7, F⟩ := F
  refine mv_xal rfl b7 ?_
  obtain ⟨z10, S8, e9, F⟩ := F
  refine mv_calv (as := [vI (xS q (w32 (x3 + 1))), vI (xS q (w32 (x3 + 2)))]) (rest := [vI z5]) e9 (sh_367) rfl rfl rfl ⟨rfl, rfl⟩ rfl rfl rfl rfl rfl ?_
  refine mv_icmp 1258 rfl rfl (fun c => ?_) (fun c => ?_)
  · have F := F.1 c
    exact F
  · have F := F.2 c
    refine ev_bk 1 (S' := (651, [some (.ref (en_b + 11)), some (.ref 0), some (.ref 367), some (vI x3)], [vI 0], hp S8, 453, 2211534)) rfl ?_
    obtain ⟨rfl, rfl⟩ := F
    exact ev_ret rfl rfl
theorem vc_LW_652 {q : Nat × (Nat → Int32)} {S S' : ms} {r : Option Value} (x3 : Int)
    (F : ∃ (z3 : Int) (S1 : ms), EV q 177 0 [some (.ref 0)] [] S (some (vI z3)) S1 ∧ ∃ (z6 : Int) (S4 : ms), EV q 371 0 [some (.ref 367)] [] S1 (some (vI z6)) S4 ∧ ((w32 z3 = w32 z6) → EVL q 1258 [some (.ref (en_b + 11)), some (.ref 0), some (.ref 367), some (vI x3)] [] S4 r S') ∧ ((¬ w32 z3 = w32 z6) → r = some (vI 0) ∧ S' = S4)) : EVL q 652 [some (.ref (en_b + 11)), some (.ref 0), some (.ref 367), some (vI x3)] [] S r S' := by
  unfold EVL
  refine ev_bk 1 (S' := (653, [some (.ref (en_b + 11)), some (.ref 0), some (.ref 367), some (vI x3)], [.ref 0], hp S, 453, 2211534)) rfl ?_
  obtain ⟨z3, S1, e2, F⟩ := F
  refine mv_calv (as := []) (rest := []) e2 (sh_0) rfl rfl rfl ⟨rfl, rfl⟩ rfl rfl rfl rfl rfl ?_
  refine ev_bk 1 (S' := (657, [some (.ref (en_b + 11)), some (.ref 0), some (.ref 367), some (vI x3)], [.ref 367, vI z3], hp S1, 453, 2211534)) rfl ?_
  obtain ⟨z6, S4, e5, F⟩ := F
  refine mv_calv (as := []) (rest := [vI z3]) e5 (sh_367) rfl rfl rfl ⟨rfl, rfl⟩ rfl rfl rfl rfl rfl ?_
  refine mv_icmp 1258 rfl rfl (fun c => ?_) (fun c => ?_)
  · have F := F.1 c
    exact F
  · have F := F.2 c
    refine ev_bk 1 (S' := (664, [some (.ref (en_b + 11)), some (.ref 0), some (.ref 367), some (vI x3)], [vI 0], hp S4, 453, 2211534)) rfl ?_
    obtain ⟨rfl, rfl⟩ := F
    exact ev_ret rfl rfl
theorem vc_LW_665 {q : Nat × (Nat → Int32)} {S S' : ms} {r : Option Value} (x3 : Int)
    (F : (0 ≤ w32 (x3 + 1) ∧ w32 (x3 + 1) < (q.1 : Nat)) ∧ (0 ≤ w32 (x3 + 2) ∧ w32 (x3 + 2) < (q.1 : Nat)) ∧ (0 ≤ w32 (x3 + 3) ∧ w32 (x3 + 3) < (q.1 : Nat)) ∧ ∃ (z6 : Int) (S4 : ms), EV q 178 0 [some (.ref 0), some (vL (lO ((w32 (xS q (w32 (x3 + 1)))) * 4294967296) ((w32 (xS q (w32 (x3 + 2)))) % 4294967296))), none, some (vI (xS q (w32 (x3 + 3)))), none] [] S (some (vI z6)) S4 ∧ (0 ≤ w32 (x3 + 1) ∧ w32 (x3 + 1) < (q.1 : Nat)) ∧ (0 ≤ w32 (x3 + 2) ∧ w32 (x3 + 2) < (q.1 : Nat)) ∧ (0 ≤ w32 (x3 + 3) ∧ w32 (x3 + 3) < (q.1 : Nat)) ∧ ∃ (z12 : Int) (S10 : ms), EV q 372 0 [some (.ref 367), some (vL (lO ((w32 (xS q (w32 (x3 + 1)))) * 4294967296) ((w32 (xS q (w32 (x3 + 2)))) % 4294967296))), none, some (vI (xS q (w32 (x3 + 3)))), none] [] S4 (some (vI z12)) S10 ∧ ((w32 z6 = w32 z12) → EVL q 1258 [some (.ref (en_b + 11)), some (.ref 0), some (.ref 367), some (vI x3)] [] S10 r S') ∧ ((¬ w32 z6 = w32 z12) → r = some (vI 0) ∧ S' = S10)) : EVL q 665 [some (.ref (en_b + 11)), some (.ref 0), some (.ref 367), some (vI x3)] [] S r S' := by
  unfold EVL
  refine ev_bk 4 (S' := (669, [some (.ref (en_b + 11)), some (.ref 0), some (.ref 367), some (vI x3)], [vI 1, vI x3, .ref (en_b + 11), .ref 0], hp S, 453, 2211534)) rfl ?_
  refine mv_iadd rfl ?_
  obtain ⟨b1, F⟩ := F
  refine mv_xal rfl b1 ?_
  refine mv_i2l rfl ?_
  refine ev_bk 1 (S' := (674, [some (.ref (en_b + 11)), some (.ref 0), some (.ref 367), some (vI x3)], [vI 32, vL (w32 (xS q (w32 (x3 + 1)))), .ref 0], hp S, 453, 2211534)) rfl ?_
  refine mv_lshl 4294967296 rfl rfl ?_
  refine ev_bk 3 (S' := (678, [some (.ref (en_b + 11)), some (.ref 0), some (.ref 367), some (vI x3)], [vI 2, vI x3, .ref (en_b + 11), vL ((w32 (xS q (w32 (x3 + 1)))) * 4294967296), .ref 0], hp S, 453, 2211534)) rfl ?_
  refine mv_iadd rfl ?_
  obtain ⟨b2, F⟩ := F
  refine mv_xal rfl b2 ?_
  refine mv_i2l rfl ?_
  refine ev_bk 1 (S' := (684, [some (.ref (en_b + 11)), some (.ref 0), some (.ref 367), some (vI x3)], [vL 4294967295, vL (w32 (xS q (w32 (x3 + 2)))), vL ((w32 (xS q (w32 (x3 + 1)))) * 4294967296), .ref 0], hp S, 453, 2211534)) rfl ?_
  refine mv_landm 4294967296 32 (by decide) rfl rfl rfl ?_
  refine mv_lor rfl ?_
  refine ev_bk 3 (S' := (689, [some (.ref (en_b + 11)), some (.ref 0), some (.ref 367), some (vI x3)], [vI 3, vI x3, .ref (en_b + 11), vL (lO ((w32 (xS q (w32 (x3 + 1)))) * 4294967296) ((w32 (xS q (w32 (x3 + 2)))) % 4294967296)), .ref 0], hp S, 453, 2211534)) rfl ?_
  refine mv_iadd rfl ?_
  obtain ⟨b3, F⟩ := F
  refine mv_xal rfl b3 ?_
  obtain ⟨z6, S4, e5, F⟩ := F
  refine mv_calv (as := [vL (lO ((w32 (xS q (w32 (x3 + 1)))) * 4294967296) ((w32 (xS q (w32 (x3 + 2)))) % 4294967296)), vI (xS q (w32 (x3 + 3)))]) (rest := []) e5 (sh_0) rfl rfl rfl ⟨rfl, rfl⟩ rfl rfl rfl rfl rfl ?_
  refine ev_bk 4 (S' := (698, [some (.ref (en_b + 11)), some (.ref 0), some (.ref 367), some (vI x3)], [vI 1, vI x3, .ref (en_b + 11), .ref 367, vI z6], hp S4, 453, 2211534)) rfl ?_
  refine mv_iadd rfl ?_
  obtain ⟨b7, F⟩ := F
  refine mv_xal rfl b7 ?_
  refine mv_i2l rfl ?_
  refine ev_bk 1 (S' := (703, [some (.ref (en_b + 11)), some (.ref 0), some (.ref 367), some (vI x3)], [vI 32, vL (w32 (xS q (w32 (x3 + 1)))), .ref 367, vI z6], hp S4, 453, 2211534)) rfl ?_
  refine mv_lshl 4294967296 rfl rfl ?_
  refine ev_bk 3 (S' := (707, [some (.ref (en_b + 11)), some (.ref 0), some (.ref 367), some (vI x3)], [vI 2, vI x3, .ref (en_b + 11), vL ((w32 (xS q (w32 (x3 + 1)))) * 4294967296), .ref 367, vI z6], hp S4, 453, 2211534)) rfl ?_
  refine mv_iadd rfl ?_
  obtain ⟨b8, F⟩ := F
  refine mv_xal rfl b8 ?_
  refine mv_i2l rfl ?_
  refine ev_bk 1 (S' := (713, [some (.ref (en_b + 11)), some (.ref 0), some (.ref 367), some (vI x3)], [vL 4294967295, vL (w32 (xS q (w32 (x3 + 2)))), vL ((w32 (xS q (w32 (x3 + 1)))) * 4294967296), .ref 367, vI z6], hp S4, 453, 2211534)) rfl ?_
  refine mv_landm 4294967296 32 (by decide) rfl rfl rfl ?_
  refine mv_lor rfl ?_
  refine ev_bk 3 (S' := (718, [some (.ref (en_b + 11)), some (.ref 0), some (.ref 367), some (vI x3)], [vI 3, vI x3, .ref (en_b + 11), vL (lO ((w32 (xS q (w32 (x3 + 1)))) * 4294967296) ((w32 (xS q (w32 (x3 + 2)))) % 4294967296)), .ref 367, vI z6], hp S4, 453, 2211534)) rfl ?_
  refine mv_iadd rfl ?_
  obtain ⟨b9, F⟩ := F
  refine mv_xal rfl b9 ?_
  obtain ⟨z12, S10, e11, F⟩ := F
  refine mv_calv (as := [vL (lO ((w32 (xS q (w32 (x3 + 1)))) * 4294967296) ((w32 (xS q (w32 (x3 + 2)))) % 4294967296)), vI (xS q (w32 (x3 + 3)))]) (rest := [vI z6]) e11 (sh_367) rfl rfl rfl ⟨rfl, rfl⟩ rfl rfl rfl rfl rfl ?_
  refine mv_icmp 1258 rfl rfl (fun c => ?_) (fun c => ?_)
  · have F := F.1 c
    exact F
  · have F := F.2 c
    refine ev_bk 1 (S' := (727, [some (.ref (en_b + 11)), some (.ref 0), some (.ref 367), some (vI x3)], [vI 0], hp S10, 453, 2211534)) rfl ?_
    obtain ⟨rfl, rfl⟩ := F
    exact ev_ret rfl rfl
theorem vc_LW_728 {q : Nat × (Nat → Int32)} {S S' : ms} {r : Option Value} (x3 : Int)
    (F : (0 ≤ w32 (x3 + 1) ∧ w32 (x3 + 1) < (q.1 : Nat)) ∧ (0 ≤ w32 (x3 + 2) ∧ w32 (x3 + 2) < (q.1 : Nat)) ∧ (0 ≤ w32 (x3 + 3) ∧ w32 (x3 + 3) < (q.1 : Nat)) ∧ ∃ (z6 : Int) (S4 : ms), EV q 179 0 [some (.ref 0), some (vI (xS q (w32 (x3 + 1)))), some (vI (xS q (w32 (x3 + 2)))), some (vI (xS q (w32 (x3 + 3)))), none] [] S (some (vI z6)) S4 ∧ (0 ≤ w32 (x3 + 1) ∧ w32 (x3 + 1) < (q.1 : Nat)) ∧ (0 ≤ w32 (x3 + 2) ∧ w32 (x3 + 2) < (q.1 : Nat)) ∧ (0 ≤ w32 (x3 + 3) ∧ w32 (x3 + 3) < (q.1 : Nat)) ∧ ∃ (z12 : Int) (S10 : ms), EV q 373 0 [some (.ref 367), some (vI (xS q (w32 (x3 + 1)))), some (vI (xS q (w32 (x3 + 2)))), some (vI (xS q (w32 (x3 + 3)))), none, none] [] S4 (some (vI z12)) S10 ∧ ((w32 z6 = w32 z12) → EVL q 1258 [some (.ref (en_b + 11)), some (.ref 0), some (.ref 367), some (vI x3)] [] S10 r S') ∧ ((¬ w32 z6 = w32 z12) → r = some (vI 0) ∧ S' = S10)) : EVL q 728 [some (.ref (en_b + 11)), some (.ref 0), some (.ref 367), some (vI x3)] [] S r S' := by
  unfold EVL
  refine ev_bk 4 (S' := (732, [some (.ref (en_b + 11)), some (.ref 0), some (.ref 367), some (vI x3)], [vI 1, vI x3, .ref (en_b + 11), .ref 0], hp S, 453, 2211534)) rfl ?_
  refine mv_iadd rfl ?_
  obtain ⟨b1, F⟩ := F
  refine mv_xal rfl b1 ?_
  refine ev_bk 3 (S' := (737, [some (.ref (en_b + 11)), some (.ref 0), some (.ref 367), some (vI x3)], [vI 2, vI x3, .ref (en_b + 11), vI (xS q (w32 (x3 + 1))), .ref 0], hp S, 453, 2211534)) rfl ?_
  refine mv_iadd rfl ?_
  obtain ⟨b2, F⟩ := F
  refine mv_xal rfl b2 ?_
  refine ev_bk 3 (S' := (742, [some (.ref (en_b + 11)), some (.ref 0), some (.ref 367), some (vI x3)], [vI 3, vI x3, .ref (en_b + 11), vI (xS q (w32 (x3 + 2))), vI (xS q (w32 (x3 + 1))), .ref 0], hp S, 453, 2211534)) rfl ?_
  refine mv_iadd rfl ?_
  obtain ⟨b3, F⟩ := F
  refine mv_xal rfl b3 ?_
  obtain ⟨z6, S4, e5, F⟩ := F
  refine mv_calv (as := [vI (xS q (w32 (x3 + 1))), vI (xS q (w32 (x3 + 2))), vI (xS q (w32 (x3 + 3)))]) (rest := []) e5 (sh_0) rfl rfl rfl ⟨rfl, rfl⟩ rfl rfl rfl rfl rfl ?_
  refine ev_bk 4 (S' := (751, [some (.ref (en_b + 11)), some (.ref 0), some (.ref 367), some (vI x3)], [vI 1, vI x3, .ref (en_b + 11), .ref 367, vI z6], hp S4, 453, 2211534)) rfl ?_
  refine mv_iadd rfl ?_
  obtain ⟨b7, F⟩ := F
  refine mv_xal rfl b7 ?_
  refine ev_bk 3 (S' := (756, [some (.ref (en_b + 11)), some (.ref 0), some (.ref 367), some (vI x3)], [vI 2, vI x3, .ref (en_b + 11), vI (xS q (w32 (x3 + 1))), .ref 367, vI z6], hp S4, 453, 2211534)) rfl ?_
  refine mv_iadd rfl ?_
  obtain ⟨b8, F⟩ := F
  refine mv_xal rfl b8 ?_
  refine ev_bk 3 (S' := (761, [some (.ref (en_b + 11)), some (.ref 0), some (.ref 367), some (vI x3)], [vI 3, vI x3, .ref (en_b + 11), vI (xS q (w32 (x3 + 2))), vI (xS q (w32 (x3 + 1))), .ref 367, vI z6], hp S4, 453, 2211534)) rfl ?_
  refine mv_iadd rfl ?_
  obtain ⟨b9, F⟩ := F
  refine mv_xal rfl b9 ?_
  obtain ⟨z12, S10, e11, F⟩ := F
  refine mv_calv (as := [vI (xS q (w32 (x3 + 1))), vI (xS q (w32 (x3 + 2))), vI (xS q (w32 (x3 + 3)))]) (rest := [vI z6]) e11 (sh_367) rfl rfl rfl ⟨rfl, rfl⟩ rfl rfl rfl rfl rfl ?_
  refine mv_icmp 1258 rfl rfl (fun c => ?_) (fun c => ?_)
  · have F := F.1 c
    exact F
  · have F := F.2 c
    refine ev_bk 1 (S' := (770, [some (.ref (en_b + 11)), some (.ref 0), some (.ref 367), some (vI x3)], [vI 0], hp S10, 453, 2211534)) rfl ?_
    obtain ⟨rfl, rfl⟩ := F
    exact ev_ret rfl rfl
theorem vc_LW_771 {q : Nat × (Nat → Int32)} {S S' : ms} {r : Option Value} (x3 : Int)
    (F : (0 ≤ w32 (x3 + 1) ∧ w32 (x3 + 1) < (q.1 : Nat)) ∧ (0 ≤ w32 (x3 + 2) ∧ w32 (x3 + 2) < (q.1 : Nat)) ∧ ∃ (z5 : Int) (S3 : ms), EV q 181 0 [some (.ref 0), some (vI (xS q (w32 (x3 + 1)))), some (vI (xS q (w32 (x3 + 2)))), none, none] [] S (some (vI z5)) S3 ∧ (0 ≤ w32 (x3 + 1) ∧ w32 (x3 + 1) < (q.1 : Nat)) ∧ (0 ≤ w32 (x3 + 2) ∧ w32 (x3 + 2) < (q.1 : Nat)) ∧ ∃ (z10 : Int) (S8 : ms), EV q 380 0 [some (.ref 367), some (vI (xS q (w32 (x3 + 1)))), some (vI (xS q (w32 (x3 + 2)))), none] [] S3 (some (vI z10)) S8 ∧ ((w32 z5 = w32 z10) → EVL q 1258 [some (.ref (en_b + 11)), some (.ref 0), some (.ref 367), some (vI x3)] [] S8 r S') ∧ ((¬ w32 z5 = w32 z10) → r = some (vI 0) ∧ S' = S8)) : EVL q 771 [some (.ref (en_b + 11)), some (.ref 0), some (.ref 367), some (vI x3)] [] S r S' := by
  unfold EVL
  refine ev_bk 4 (S' := (775, [some (.ref (en_b + 11)), some (.ref 0), some (.ref 367), some (vI x3)], [vI 1, vI x3, .ref (en_b + 11), .ref 0], hp S, 453, 2211534)) rfl ?_
  refine mv_iadd rfl ?_
  obtain ⟨b1, F⟩ := F
  refine mv_xal rfl b1 ?_
  refine ev_bk 3 (S' := (780, [some (.ref (en_b + 11)), some (.ref 0), some (.ref 367), some (vI x3)], [vI 2, vI x3, .ref (en_b + 11), vI (xS q (w32 (x3 + 1))), .ref 0], hp S, 453, 2211534)) rfl ?_
  refine mv_iadd rfl ?_
  obtain ⟨b2, F⟩ := F
  refine mv_xal rfl b2 ?_
  obtain ⟨z5, S3, e4, F⟩ := F
  refine mv_calv (as := [vI (xS q (w32 (x3 + 1))), vI (xS q (w32 (x3 + 2)))]) (rest := []) e4 (sh_0) rfl rfl rfl ⟨rfl, rfl⟩ rfl rfl rfl rfl rfl ?_
  refine ev_bk 4 (S' := (789, [some (.ref (en_b + 11)), some (.ref 0), some (.ref 367), some (vI x3)], [vI 1, vI x3, .ref (en_b + 11), .ref 367, vI z5], hp S3, 453, 2211534)) rfl ?_
  refine mv_iadd rfl ?_
  obtain ⟨b6, F⟩ := F
  refine mv_xal rfl b6 ?_
  refine ev_bk 3 (S' := (794, [some (.ref (en_b + 11)), some (.ref 0), some (.ref 367), some (vI x3)], [vI 2, vI x3, .ref (en_b + 11), vI (xS q (w32 (x3 + 1))), .ref 367, vI z5], hp S3, 453, 2211534)) rfl ?_
  refine mv_iadd rfl ?_
  obtain ⟨b7, F⟩ := F
  refine mv_xal rfl b7 ?_
  obtain ⟨z10, S8, e9, F⟩ := F
  refine mv_calv (as := [vI (xS q (w32 (x3 + 1))), vI (xS q (w32 (x3 + 2)))]) (rest := [vI z5]) e9 (sh_367) rfl rfl rfl ⟨rfl, rfl⟩ rfl rfl rfl rfl rfl ?_
  refine mv_icmp 1258 rfl rfl (fun c => ?_) (fun c => ?_)
  · have F := F.1 c
    exact F
  · have F := F.2 c
    refine ev_bk 1 (S' := (803, [some (.ref (en_b + 11)), some (.ref 0), some (.ref 367), some (vI x3)], [vI 0], hp S8, 453, 2211534)) rfl ?_
    obtain ⟨rfl, rfl⟩ := F
    exact ev_ret rfl rfl
theorem vc_LW_804 {q : Nat × (Nat → Int32)} {S S' : ms} {r : Option Value} (x3 : Int)
    (F : (0 ≤ w32 (x3 + 1) ∧ w32 (x3 + 1) < (q.1 : Nat)) ∧ ∃ (z4 : Int) (S2 : ms), EV q 192 0 [some (.ref 0), some (vI (xS q (w32 (x3 + 1)))), none] [] S (some (vI z4)) S2 ∧ (0 ≤ w32 (x3 + 1) ∧ w32 (x3 + 1) < (q.1 : Nat)) ∧ ∃ (z8 : Int) (S6 : ms), EV q 392 0 [some (.ref 367), some (vI (xS q (w32 (x3 + 1)))), none, none] [] S2 (some (vI z8)) S6 ∧ ((w32 z4 = w32 z8) → EVL q 1258 [some (.ref (en_b + 11)), some (.ref 0), some (.ref 367), some (vI x3)] [] S6 r S') ∧ ((¬ w32 z4 = w32 z8) → r = some (vI 0) ∧ S' = S6)) : EVL q 804 [some (.ref (en_b + 11)), some (.ref 0), some (.ref 367), some (vI x3)] [] S r S' := by
  unfold EVL
  refine ev_bk 4 (S' := (808, [some (.ref (en_b + 11)), some (.ref 0), some (.ref 367), some (vI x3)], [vI 1, vI x3, .ref (en_b + 11), .ref 0], hp S, 453, 2211534)) rfl ?_
  refine mv_iadd rfl ?_
  obtain ⟨b1, F⟩ := F
  refine mv_xal rfl b1 ?_
  obtain ⟨z4, S2, e3, F⟩ := F
  refine mv_calv (as := [vI (xS q (w32 (x3 + 1)))]) (rest := []) e3 (sh_0) rfl rfl rfl ⟨rfl, rfl⟩ rfl rfl rfl rfl rfl ?_
  refine ev_bk 4 (S' := (817, [some (.ref (en_b + 11)), some (.ref 0), some (.ref 367), some (vI x3)], [vI 1, vI x3, .ref (en_b + 11), .ref 367, vI z4], hp S2, 453, 2211534)) rfl ?_
  refine mv_iadd rfl ?_
  obtain ⟨b5, F⟩ := F
  refine mv_xal rfl b5 ?_
  obtain ⟨z8, S6, e7, F⟩ := F
  refine mv_calv (as := [vI (xS q (w32 (x3 + 1)))]) (rest := [vI z4]) e7 (sh_367) rfl rfl rfl ⟨rfl, rfl⟩ rfl rfl rfl rfl rfl ?_
  refine mv_icmp 1258 rfl rfl (fun c => ?_) (fun c => ?_)
  · have F := F.1 c
    exact F
  · have F := F.2 c
    refine ev_bk 1 (S' := (826, [some (.ref (en_b + 11)), some (.ref 0), some (.ref 367), some (vI x3)], [vI 0], hp S6, 453, 2211534)) rfl ?_
    obtain ⟨rfl, rfl⟩ := F
    exact ev_ret rfl rfl
theorem vc_LW_827 {q : Nat × (Nat → Int32)} {S S' : ms} {r : Option Value} (x3 : Int)
    (F : (0 ≤ w32 (x3 + 1) ∧ w32 (x3 + 1) < (q.1 : Nat)) ∧ (0 ≤ w32 (x3 + 2) ∧ w32 (x3 + 2) < (q.1 : Nat)) ∧ ∃ (z5 : Int) (S3 : ms), EV q 208 0 [some (.ref 0), some (vI (xS q (w32 (x3 + 1)))), some (vI (xS q (w32 (x3 + 2))))] [] S (some (vI z5)) S3 ∧ (0 ≤ w32 (x3 + 1) ∧ w32 (x3 + 1) < (q.1 : Nat)) ∧ (0 ≤ w32 (x3 + 2) ∧ w32 (x3 + 2) < (q.1 : Nat)) ∧ ∃ (z10 : Int) (S8 : ms), EV q 374 0 [some (.ref 367), some (vI (xS q (w32 (x3 + 1)))), some (vI (xS q (w32 (x3 + 2))))] [] S3 (some (vI z10)) S8 ∧ ((w32 z5 = w32 z10) → EVL q 1258 [some (.ref (en_b + 11)), some (.ref 0), some (.ref 367), some (vI x3)] [] S8 r S') ∧ ((¬ w32 z5 = w32 z10) → r = some (vI 0) ∧ S' = S8)) : EVL q 827 [some (.ref (en_b + 11)), some (.ref 0), some (.ref 367), some (vI x3)] [] S r S' := by
  unfold EVL
  refine ev_bk 4 (S' := (831, [some (.ref (en_b + 11)), some (.ref 0), some (.ref 367), some (vI x3)], [vI 1, vI x3, .ref (en_b + 11), .ref 0], hp S, 453, 2211534)) rfl ?_
  refine mv_iadd rfl ?_
  obtain ⟨b1, F⟩ := F
  refine mv_xal rfl b1 ?_
  refine ev_bk 3 (S' := (836, [some (.ref (en_b + 11)), some (.ref 0), some (.ref 367), some (vI x3)], [vI 2, vI x3, .ref (en_b + 11), vI (xS q (w32 (x3 + 1))), .ref 0], hp S, 453, 2211534)) rfl ?_
  refine mv_iadd rfl ?_
  obtain ⟨b2, F⟩ := F
  refine mv_xal rfl b2 ?_
  obtain ⟨z5, S3, e4, F⟩ := F
  refine mv_calv (as := [vI (xS q (w32 (x3 + 1))), vI (xS q (w32 (x3 + 2)))]) (rest := []) e4 (sh_0) rfl rfl rfl ⟨rfl, rfl⟩ rfl rfl rfl rfl rfl ?_
  refine ev_bk 4 (S' := (845, [some (.ref (en_b + 11)), some (.ref 0), some (.ref 367), some (vI x3)], [vI 1, vI x3, .ref (en_b + 11), .ref 367, vI z5], hp S3, 453, 2211534)) rfl ?_
  refine mv_iadd rfl ?_
  obtain ⟨b6, F⟩ := F
  refine mv_xal rfl b6 ?_
  refine ev_bk 3 (S' := (850, [some (.ref (en_b + 11)), some (.ref 0), some (.ref 367), some (vI x3)], [vI 2, vI x3, .ref (en_b + 11), vI (xS q (w32 (x3 + 1))), .ref 367, vI z5], hp S3, 453, 2211534)) rfl ?_
  refine mv_iadd rfl ?_
  obtain ⟨b7, F⟩ := F
  refine mv_xal rfl b7 ?_
  obtain ⟨z10, S8, e9, F⟩ := F
  refine mv_calv (as := [vI (xS q (w32 (x3 + 1))), vI (xS q (w32 (x3 + 2)))]) (rest := [vI z5]) e9 (sh_367) rfl rfl rfl ⟨rfl, rfl⟩ rfl rfl rfl rfl rfl ?_
  refine mv_icmp 1258 rfl rfl (fun c => ?_) (fun c => ?_)
  · have F := F.1 c
    exact F
  · have F := F.2 c
    refine ev_bk 1 (S' := (859, [some (.ref (en_b + 11)), some (.ref 0), some (.ref 367), some (vI x3)], [vI 0], hp S8, 453, 2211534)) rfl ?_
    obtain ⟨rfl, rfl⟩ := F
    exact ev_ret rfl rfl
theorem vc_LW_860 {q : Nat × (Nat → Int32)} {S S' : ms} {r : Option Value} (x3 : Int)
    (F : (0 ≤ w32 (x3 + 1) ∧ w32 (x3 + 1) < (q.1 : Nat)) ∧ (0 ≤ w32 (x3 + 2) ∧ w32 (x3 + 2) < (q.1 : Nat)) ∧ ∃ (z5 : Int) (S3 : ms), EV q 210 0 [some (.ref 0), some (vI (xS q (w32 (x3 + 1)))), some (vI (xS q (w32 (x3 + 2))))] [] S (some (vI z5)) S3 ∧ (0 ≤ w32 (x3 + 1) ∧ w32 (x3 + 1) < (q.1 : Nat)) ∧ (0 ≤ w32 (x3 + 2) ∧ w32 (x3 + 2) < (q.1 : Nat)) ∧ ∃ (z10 : Int) (S8 : ms), EV q 377 0 [some (.ref 367), some (vI (xS q (w32 (x3 + 1)))), some (vI (xS q (w32 (x3 + 2))))] [] S3 (some (vI z10)) S8 ∧ ((w32 z5 = w32 z10) → EVL q 1258 [some (.ref (en_b + 11)), some (.ref 0), some (.ref 367), some (vI x3)] [] S8 r S') ∧ ((¬ w32 z5 = w32 z10) → r = some (vI 0) ∧ S' = S8)) : EVL q 860 [some (.ref (en_b + 11)), some (.ref 0), some (.ref 367), some (vI x3)] [] S r S' := by
  unfold EVL
  refine ev_bk 4 (S' := (864, [some (.ref (en_b + 11)), some (.ref 0), some (.ref 367), some (vI x3)], [vI 1, vI x3, .ref (en_b + 11), .ref 0], hp S, 453, 2211534)) rfl ?_
  refine mv_iadd rfl ?_
  obtain ⟨b1, F⟩ := F
  refine mv_xal rfl b1 ?_
  refine ev_bk 3 (S' := (869, [some (.ref (en_b + 11)), some (.ref 0), some (.ref 367), some (vI x3)], [vI 2, vI x3, .ref (en_b + 11), vI (xS q (w32 (x3 + 1))), .ref 0], hp S, 453, 2211534)) rfl ?_
  refine mv_iadd rfl ?_
  obtain ⟨b2, F⟩ := F
  refine mv_xal rfl b2 ?_
  obtain ⟨z5, S3, e4, F⟩ := F
  refine mv_calv (as := [vI (xS q (w32 (x3 + 1))), vI (xS q (w32 (x3 + 2)))]) (rest := []) e4 (sh_0) rfl rfl rfl ⟨rfl, rfl⟩ rfl rfl rfl rfl rfl ?_
  refine ev_bk 4 (S' := (878, [some (.ref (en_b + 11)), some (.ref 0), some (.ref 367), some (vI x3)], [vI 1, vI x3, .ref (en_b + 11), .ref 367, vI z5], hp S3, 453, 2211534)) rfl ?_
  refine mv_iadd rfl ?_
  obtain ⟨b6, F⟩ := F
  refine mv_xal rfl b6 ?_
  refine ev_bk 3 (S' := (883, [some (.ref (en_b + 11)), some (.ref 0), some (.ref 367), some (vI x3)], [vI 2, vI x3, .ref (en_b + 11), vI (xS q (w32 (x3 + 1))), .ref 367, vI z5], hp S3, 453, 2211534)) rfl ?_
  refine mv_iadd rfl ?_
  obtain ⟨b7, F⟩ := F
  refine mv_xal rfl b7 ?_
  obtain ⟨z10, S8, e9, F⟩ := F
  refine mv_calv (as := [vI (xS q (w32 (x3 + 1))), vI (xS q (w32 (x3 + 2)))]) (rest := [vI z5]) e9 (sh_367) rfl rfl rfl ⟨rfl, rfl⟩ rfl rfl rfl rfl rfl ?_
  refine mv_icmp 1258 rfl rfl (fun c => ?_) (fun c => ?_)
  · have F := F.1 c
    exact F
  · have F := F.2 c
    refine ev_bk 1 (S' := (892, [some (.ref (en_b + 11)), some (.ref 0), some (.ref 367), some (vI x3)], [vI 0], hp S8, 453, 2211534)) rfl ?_
    obtain ⟨rfl, rfl⟩ := F
    exact ev_ret rfl rfl
theorem vc_LW_893 {q : Nat × (Nat → Int32)} {S S' : ms} {r : Option Value} (x3 : Int)
    (F : (0 ≤ w32 (x3 + 1) ∧ w32 (x3 + 1) < (q.1 : Nat)) ∧ ∃ (z4 : Int) (S2 : ms), EV q 211 0 [some (.ref 0), some (vI (xS q (w32 (x3 + 1))))] [] S (some (vI z4)) S2 ∧ (0 ≤ w32 (x3 + 1) ∧ w32 (x3 + 1) < (q.1 : Nat)) ∧ ∃ (z8 : Int) (S6 : ms), EV q 378 0 [some (.ref 367), some (vI (xS q (w32 (x3 + 1))))] [] S2 (some (vI z8)) S6 ∧ ((w32 z4 = w32 z8) → EVL q 1258 [some (.ref (en_b + 11)), some (.ref 0), some (.ref 367), some (vI x3)] [] S6 r S') ∧ ((¬ w32 z4 = w32 z8) → r = some (vI 0) ∧ S' = S6)) : EVL q 893 [some (.ref (en_b + 11)), some (.ref 0), some (.ref 367), some (vI x3)] [] S r S' := by
  unfold EVL
  refine ev_bk 4 (S' := (897, [some (.ref (en_b + 11)), some (.ref 0), some (.ref 367), some (vI x3)], [vI 1, vI x3, .ref (en_b + 11), .ref 0], hp S, 453, 2211534)) rfl ?_
  refine mv_iadd rfl ?_
  obtain ⟨b1, F⟩ := F
  refine mv_xal rfl b1 ?_
  obtain ⟨z4, S2, e3, F⟩ := F
  refine mv_calv (as := [vI (xS q (w32 (x3 + 1)))]) (rest := []) e3 (sh_0) rfl rfl rfl ⟨rfl, rfl⟩ rfl rfl rfl rfl rfl ?_
  refine ev_bk 4 (S' := (906, [some (.ref (en_b + 11)), some (.ref 0), some (.ref 367), some (vI x3)], [vI 1, vI x3, .ref (en_b + 11), .ref 367, vI z4], hp S2, 453, 2211534)) rfl ?_
  refine mv_iadd rfl ?_
  obtain ⟨b5, F⟩ := F
  refine mv_xal rfl b5 ?_
  obtain ⟨z8, S6, e7, F⟩ := F
  refine mv_calv (as := [vI (xS q (w32 (x3 + 1)))]) (rest := [vI z4]) e7 (sh_367) rfl rfl rfl ⟨rfl, rfl⟩ rfl rfl rfl rfl rfl ?_
  refine mv_icmp 1258 rfl rfl (fun c => ?_) (fun c => ?_)
  · have F := F.1 c
    exact F
  · have F := F.2 c
    refine ev_bk 1 (S' := (915, [some (.ref (en_b + 11)), some (.ref 0), some (.ref 367), some (vI x3)], [vI 0], hp S6, 453, 2211534)) rfl ?_
    obtain ⟨rfl, rfl⟩ := F
    exact ev_ret rfl rfl
theorem vc_LW_916 {q : Nat × (Nat → Int32)} {S S' : ms} {r : Option Value} (x3 : Int)
    (F : ∃ (z3 : Int) (S1 : ms), EV q 213 0 [some (.ref 0), none] [] S (some (vI z3)) S1 ∧ ∃ (z6 : Int) (S4 : ms), EV q 379 0 [some (.ref 367), none] [] S1 (some (vI z6)) S4 ∧ ((w32 z3 = w32 z6) → EVL q 1258 [some (.ref (en_b + 11)), some (.ref 0), some (.ref 367), some (vI x3)] [] S4 r S') ∧ ((¬ w32 z3 = w32 z6) → r = some (vI 0) ∧ S' = S4)) : EVL q 916 [some (.ref (en_b + 11)), some (.ref 0), some (.ref 367), some (vI x3)] [] S r S' := by
  unfold EVL
  refine ev_bk 1 (S' := (917, [some (.ref (en_b + 11)), some (.ref 0), some (.ref 367), some (vI x3)], [.ref 0], hp S, 453, 2211534)) rfl ?_
  obtain ⟨z3, S1, e2, F⟩ := F
  refine mv_calv (as := []) (rest := []) e2 (sh_0) rfl rfl rfl ⟨rfl, rfl⟩ rfl rfl rfl rfl rfl ?_
  refine ev_bk 1 (S' := (921, [some (.ref (en_b + 11)), some (.ref 0), some (.ref 367), some (vI x3)], [.ref 367, vI z3], hp S1, 453, 2211534)) rfl ?_
  obtain ⟨z6, S4, e5, F⟩ := F
  refine mv_calv (as := []) (rest := [vI z3]) e5 (sh_367) rfl rfl rfl ⟨rfl, rfl⟩ rfl rfl rfl rfl rfl ?_
  refine mv_icmp 1258 rfl rfl (fun c => ?_) (fun c => ?_)
  · have F := F.1 c
    exact F
  · have F := F.2 c
    refine ev_bk 1 (S' := (928, [some (.ref (en_b + 11)), some (.ref 0), some (.ref 367), some (vI x3)], [vI 0], hp S4, 453, 2211534)) rfl ?_
    obtain ⟨rfl, rfl⟩ := F
    exact ev_ret rfl rfl
theorem vc_LW_929 {q : Nat × (Nat → Int32)} {S S' : ms} {r : Option Value} (x3 : Int)
    (F : (0 ≤ w32 (x3 + 1) ∧ w32 (x3 + 1) < (q.1 : Nat)) ∧ (0 ≤ w32 (x3 + 2) ∧ w32 (x3 + 2) < (q.1 : Nat)) ∧ ∃ (z5 : Int) (S3 : ms), EV q 214 0 [some (.ref 0), some (vI (xS q (w32 (x3 + 1)))), some (vI (xS q (w32 (x3 + 2)))), none] [] S (some (vI z5)) S3 ∧ (0 ≤ w32 (x3 + 1) ∧ w32 (x3 + 1) < (q.1 : Nat)) ∧ (0 ≤ w32 (x3 + 2) ∧ w32 (x3 + 2) < (q.1 : Nat)) ∧ ∃ (z10 : Int) (S8 : ms), EV q 403 0 [some (.ref 367), some (vI (xS q (w32 (x3 + 1)))), some (vI (xS q (w32 (x3 + 2)))), none, none, none, none] [] S3 (some (vI z10)) S8 ∧ ((w32 z5 = w32 z10) → EVL q 1258 [some (.ref (en_b + 11)), some (.ref 0), some (.ref 367), some (vI x3)] [] S8 r S') ∧ ((¬ w32 z5 = w32 z10) → r = some (vI 0) ∧ S' = S8)) : EVL q 929 [some (.ref (en_b + 11)), some (.ref 0), some (.ref 367), some (vI x3)] [] S r S' := by
  unfold EVL
  refine ev_bk 4 (S' := (933, [some (.ref (en_b + 11)), some (.ref 0), some (.ref 367), some (vI x3)], [vI 1, vI x3, .ref (en_b + 11), .ref 0], hp S, 453, 2211534)) rfl ?_
  refine mv_iadd rfl ?_
  obtain ⟨b1, F⟩ := F
  refine mv_xal rfl b1 ?_
  refine ev_bk 3 (S' := (938, [some (.ref (en_b + 11)), some (.ref 0), some (.ref 367), some (vI x3)], [vI 2, vI x3, .ref (en_b + 11), vI (xS q (w32 (x3 + 1))), .ref 0], hp S, 453, 2211534)) rfl ?_
  refine mv_iadd rfl ?_
  obtain ⟨b2, F⟩ := F
  refine mv_xal rfl b2 ?_
  obtain ⟨z5, S3, e4, F⟩ := F
  refine mv_calv (as := [vI (xS q (w32 (x3 + 1))), vI (xS q (w32 (x3 + 2)))]) (rest := []) e4 (sh_0) rfl rfl rfl ⟨rfl, rfl⟩ rfl rfl rfl rfl rfl ?_
  refine ev_bk 4 (S' := (947, [some (.ref (en_b + 11)), some (.ref 0), some (.ref 367), some (vI x3)], [vI 1, vI x3, .ref (en_b + 11), .ref 367, vI z5], hp S3, 453, 2211534)) rfl ?_
  refine mv_iadd rfl ?_
  obtain ⟨b6, F⟩ := F
  refine mv_xal rfl b6 ?_
  refine ev_bk 3 (S' := (952, [some (.ref (en_b + 11)), some (.ref 0), some (.ref 367), some (vI x3)], [vI 2, vI x3, .ref (en_b + 11), vI (xS q (w32 (x3 + 1))), .ref 367, vI z5], hp S3, 453, 2211534)) rfl ?_
  refine mv_iadd rfl ?_
  obtain ⟨b7, F⟩ := F
  refine mv_xal rfl b7 ?_
  obtain ⟨z10, S8, e9, F⟩ := F
  refine mv_calv (as := [vI (xS q (w32 (x3 + 1))), vI (xS q (w32 (x3 + 2)))]) (rest := [vI z5]) e9 (sh_367) rfl rfl rfl ⟨rfl, rfl⟩ rfl rfl rfl rfl rfl ?_
  refine mv_icmp 1258 rfl rfl (fun c => ?_) (fun c => ?_)
  · have F := F.1 c
    exact F
  · have F := F.2 c
    refine ev_bk 1 (S' := (961, [some (.ref (en_b + 11)), some (.ref 0), some (.ref 367), some (vI x3)], [vI 0], hp S8, 453, 2211534)) rfl ?_
    obtain ⟨rfl, rfl⟩ := F
    exact ev_ret rfl rfl
theorem vc_LW_962 {q : Nat × (Nat → Int32)} {S S' : ms} {r : Option Value} (x3 : Int)
    (F : (0 ≤ w32 (x3 + 1) ∧ w32 (x3 + 1) < (q.1 : Nat)) ∧ ∃ (z4 : Int) (S2 : ms), EV q 220 0 [some (.ref 0), some (vI (xS q (w32 (x3 + 1)))), none] [] S (some (vI z4)) S2 ∧ (0 ≤ w32 (x3 + 1) ∧ w32 (x3 + 1) < (q.1 : Nat)) ∧ ∃ (z8 : Int) (S6 : ms), EV q 406 0 [some (.ref 367), some (vI (xS q (w32 (x3 + 1)))), none, none, none, none, none, none, none, none, none, none, none] [] S2 (some (vI z8)) S6 ∧ ((w32 z4 = w32 z8) → EVL q 1258 [some (.ref (en_b + 11)), some (.ref 0), some (.ref 367), some (vI x3)] [] S6 r S') ∧ ((¬ w32 z4 = w32 z8) → r = some (vI 0) ∧ S' = S6)) : EVL q 962 [some (.ref (en_b + 11)), some (.ref 0), some (.ref 367), some (vI x3)] [] S r S' := by
  unfold EVL
  refine ev_bk 4 (S' := (966, [some (.ref (en_b + 11)), some (.ref 0), some (.ref 367), some (vI x3)], [vI 1, vI x3, .ref (en_b + 11), .ref 0], hp S, 453, 2211534)) rfl ?_
  refine mv_iadd rfl ?_
  obtain ⟨b1, F⟩ := F
  refine mv_xal rfl b1 ?_
  obtain ⟨z4, S2, e3, F⟩ := F
  refine mv_calv (as := [vI (xS q (w32 (x3 + 1)))]) (rest := []) e3 (sh_0) rfl rfl rfl ⟨rfl, rfl⟩ rfl rfl rfl rfl rfl ?_
  refine ev_bk 4 (S' := (975, [some (.ref (en_b + 11)), some (.ref 0), some (.ref 367), some (vI x3)], [vI 1, vI x3, .ref (en_b + 11), .ref 367, vI z4], hp S2, 453, 2211534)) rfl ?_
  refine mv_iadd rfl ?_
  obtain ⟨b5, F⟩ := F
  refine mv_xal rfl b5 ?_
  obtain ⟨z8, S6, e7, F⟩ := F
  refine mv_calv (as := [vI (xS q (w32 (x3 + 1)))]) (rest := [vI z4]) e7 (sh_367) rfl rfl rfl ⟨rfl, rfl⟩ rfl rfl rfl rfl rfl ?_
  refine mv_icmp 1258 rfl rfl (fun c => ?_) (fun c => ?_)
  · have F := F.1 c
    exact F
  · have F := F.2 c
    refine ev_bk 1 (S' := (984, [some (.ref (en_b + 11)), some (.ref 0), some (.ref 367), some (vI x3)], [vI 0], hp S6, 453, 2211534)) rfl ?_
    obtain ⟨rfl, rfl⟩ := F
    exact ev_ret rfl rfl
theorem vc_LW_985 {q : Nat × (Nat → Int32)} {S S' : ms} {r : Option Value} (x3 : Int)
    (F : (0 ≤ w32 (x3 + 1) ∧ w32 (x3 + 1) < (q.1 : Nat)) ∧ (0 ≤ w32 (x3 + 2) ∧ w32 (x3 + 2) < (q.1 : Nat)) ∧ ∃ (z5 : Int) (S3 : ms), EV q 223 0 [some (.ref 0), some (vI (xS q (w32 (x3 + 1)))), some (vI (xS q (w32 (x3 + 2))))] [] S (some (vI z5)) S3 ∧ (0 ≤ w32 (x3 + 1) ∧ w32 (x3 + 1) < (q.1 : Nat)) ∧ (0 ≤ w32 (x3 + 2) ∧ w32 (x3 + 2) < (q.1 : Nat)) ∧ ∃ (z10 : Int) (S8 : ms), EV q 407 0 [some (.ref 367), some (vI (xS q (w32 (x3 + 1)))), some (vI (xS q (w32 (x3 + 2)))), none] [] S3 (some (vI z10)) S8 ∧ ((w32 z5 = w32 z10) → EVL q 1258 [some (.ref (en_b + 11)), some (.ref 0), some (.ref 367), some (vI x3)] [] S8 r S') ∧ ((¬ w32 z5 = w32 z10) → r = some (vI 0) ∧ S' = S8)) : EVL q 985 [some (.ref (en_b + 11)), some (.ref 0), some (.ref 367), some (vI x3)] [] S r S' := by
  unfold EVL
  refine ev_bk 4 (S' := (989, [some (.ref (en_b + 11)), some (.ref 0), some (.ref 367), some (vI x3)], [vI 1, vI x3, .ref (en_b + 11), .ref 0], hp S, 453, 2211534)) rfl ?_
  refine mv_iadd rfl ?_
  obtain ⟨b1, F⟩ := F
  refine mv_xal rfl b1 ?_
  refine ev_bk 3 (S' := (994, [some (.ref (en_b + 11)), some (.ref 0), some (.ref 367), some (vI x3)], [vI 2, vI x3, .ref (en_b + 11), vI (xS q (w32 (x3 + 1))), .ref 0], hp S, 453, 2211534)) rfl ?_
  refine mv_iadd rfl ?_
  obtain ⟨b2, F⟩ := F
  refine mv_xal rfl b2 ?_
  obtain ⟨z5, S3, e4, F⟩ := F
  refine mv_calv (as := [vI (xS q (w32 (x3 + 1))), vI (xS q (w32 (x3 + 2)))]) (rest := []) e4 (sh_0) rfl rfl rfl ⟨rfl, rfl⟩ rfl rfl rfl rfl rfl ?_
  refine ev_bk 4 (S' := (1003, [some (.ref (en_b + 11)), some (.ref 0), some (.ref 367), some (vI x3)], [vI 1, vI x3, .ref (en_b + 11), .ref 367, vI z5], hp S3, 453, 2211534)) rfl ?_
  refine mv_iadd rfl ?_
  obtain ⟨b6, F⟩ := F
  refine mv_xal rfl b6 ?_
  refine ev_bk 3 (S' := (1008, [some (.ref (en_b + 11)), some (.ref 0), some (.ref 367), some (vI x3)], [vI 2, vI x3, .ref (en_b + 11), vI (xS q (w32 (x3 + 1))), .ref 367, vI z5], hp S3, 453, 2211534)) rfl ?_
  refine mv_iadd rfl ?_
  obtain ⟨b7, F⟩ := F
  refine mv_xal rfl b7 ?_
  obtain ⟨z10, S8, e9, F⟩ := F
  refine mv_calv (as := [vI (xS q (w32 (x3 + 1))), vI (xS q (w32 (x3 + 2)))]) (rest := [vI z5]) e9 (sh_367) rfl rfl rfl ⟨rfl, rfl⟩ rfl rfl rfl rfl rfl ?_
  refine mv_icmp 1258 rfl rfl (fun c => ?_) (fun c => ?_)
  · have F := F.1 c
    exact F
  · have F := F.2 c
    refine ev_bk 1 (S' := (1017, [some (.ref (en_b + 11)), some (.ref 0), some (.ref 367), some (vI x3)], [vI 0], hp S8, 453, 2211534)) rfl ?_
    obtain ⟨rfl, rfl⟩ := F
    exact ev_ret rfl rfl
theorem vc_LW_1018 {q : Nat × (Nat → Int32)} {S S' : ms} {r : Option Value} (x3 : Int)
    (F : (0 ≤ w32 (x3 + 1) ∧ w32 (x3 + 1) < (q.1 : Nat)) ∧ (0 ≤ w32 (x3 + 2) ∧ w32 (x3 + 2) < (q.1 : Nat)) ∧ ∃ (z5 : Int) (S3 : ms), EV q 229 0 [some (.ref 0), some (vI (xS q (w32 (x3 + 1)))), some (vI (xS q (w32 (x3 + 2))))] [] S (some (vI z5)) S3 ∧ (0 ≤ w32 (x3 + 1) ∧ w32 (x3 + 1) < (q.1 : Nat)) ∧ (0 ≤ w32 (x3 + 2) ∧ w32 (x3 + 2) < (q.1 : Nat)) ∧ ∃ (z10 : Int) (S8 : ms), EV q 413 0 [some (.ref 367), some (vI (xS q (w32 (x3 + 1)))), some (vI (xS q (w32 (x3 + 2))))] [] S3 (some (vI z10)) S8 ∧ ((w32 z5 = w32 z10) → EVL q 1258 [some (.ref (en_b + 11)), some (.ref 0), some (.ref 367), some (vI x3)] [] S8 r S') ∧ ((¬ w32 z5 = w32 z10) → r = some (vI 0) ∧ S' = S8)) : EVL q 1018 [some (.ref (en_b + 11)), some (.ref 0), some (.ref 367), some (vI x3)] [] S r S' := by
  unfold EVL
  refine ev_bk 4 (S' := (1022, [some (.ref (en_b + 11)), some (.ref 0), some (.ref 367), some (vI x3)], [vI 1, vI x3, .ref (en_b + 11), .ref 0], hp S, 453, 2211534)) rfl ?_
  refine mv_iadd rfl ?_
  obtain ⟨b1, F⟩ := F
  refine mv_xal rfl b1 ?_
  refine ev_bk 3 (S' := (1027, [some (.ref (en_b + 11)), some (.ref 0), some (.ref 367), some (vI x3)], [vI 2, vI x3, .ref (en_b + 11), vI (xS q (w32 (x3 + 1))), .ref 0], hp S, 453, 2211534)) rfl ?_
  refine mv_iadd rfl ?_
  obtain ⟨b2, F⟩ := F
  refine mv_xal rfl b2 ?_
  obtain ⟨z5, S3, e4, F⟩ := F
  refine mv_calv (as := [vI (xS q (w32 (x3 + 1))), vI (xS q (w32 (x3 + 2)))]) (rest := []) e4 (sh_0) rfl rfl rfl ⟨rfl, rfl⟩ rfl rfl rfl rfl rfl ?_
  refine ev_bk 4 (S' := (1036, [some (.ref (en_b + 11)), some (.ref 0), some (.ref 367), some (vI x3)], [vI 1, vI x3, .ref (en_b + 11), .ref 367, vI z5], hp S3, 453, 2211534)) rfl ?_
  refine mv_iadd rfl ?_
  obtain ⟨b6, F⟩ := F
  refine mv_xal rfl b6 ?_
  refine ev_bk 3 (S' := (1041, [some (.ref (en_b + 11)), some (.ref 0), some (.ref 367), some (vI x3)], [vI 2, vI x3, .ref (en_b + 11), vI (xS q (w32 (x3 + 1))), .ref 367, vI z5], hp S3, 453, 2211534)) rfl ?_
  refine mv_iadd rfl ?_
  obtain ⟨b7, F⟩ := F
  refine mv_xal rfl b7 ?_
  obtain ⟨z10, S8, e9, F⟩ := F
  refine mv_calv (as := [vI (xS q (w32 (x3 + 1))), vI (xS q (w32 (x3 + 2)))]) (rest := [vI z5]) e9 (sh_367) rfl rfl rfl ⟨rfl, rfl⟩ rfl rfl rfl rfl rfl ?_
  refine mv_icmp 1258 rfl rfl (fun c => ?_) (fun c => ?_)
  · have F := F.1 c
    exact F
  · have F := F.2 c
    refine ev_bk 1 (S' := (1050, [some (.ref (en_b + 11)), some (.ref 0), some (.ref 367), some (vI x3)], [vI 0], hp S8, 453, 2211534)) rfl ?_
    obtain ⟨rfl, rfl⟩ := F
    exact ev_ret rfl rfl
theorem vc_LW_1051 {q : Nat × (Nat → Int32)} {S S' : ms} {r : Option Value} (x3 : Int)
    (F : (0 ≤ w32 (x3 + 1) ∧ w32 (x3 + 1) < (q.1 : Nat)) ∧ ∃ (z4 : Int) (S2 : ms), EV q 231 0 [some (.ref 0), some (vI (xS q (w32 (x3 + 1)))), none] [] S (some (vI z4)) S2 ∧ (0 ≤ w32 (x3 + 1) ∧ w32 (x3 + 1) < (q.1 : Nat)) ∧ ∃ (z8 : Int) (S6 : ms), EV q 415 0 [some (.ref 367), some (vI (xS q (w32 (x3 + 1)))), none] [] S2 (some (vI z8)) S6 ∧ ((w32 z4 = w32 z8) → EVL q 1258 [some (.ref (en_b + 11)), some (.ref 0), some (.ref 367), some (vI x3)] [] S6 r S') ∧ ((¬ w32 z4 = w32 z8) → r = some (vI 0) ∧ S' = S6)) : EVL q 1051 [some (.ref (en_b + 11)), some (.ref 0), some (.ref 367), some (vI x3)] [] S r S' := by
  unfold EVL
  refine ev_bk 4 (S' := (1055, [some (.ref (en_b + 11)), some (.ref 0), some (.ref 367), some (vI x3)], [vI 1, vI x3, .ref (en_b + 11), .ref 0], hp S, 453, 2211534)) rfl ?_
  refine mv_iadd rfl ?_
  obtain ⟨b1, F⟩ := F
  refine mv_xal rfl b1 ?_
  obtain ⟨z4, S2, e3, F⟩ := F
  refine mv_calv (as := [vI (xS q (w32 (x3 + 1)))]) (rest := []) e3 (sh_0) rfl rfl rfl ⟨rfl, rfl⟩ rfl rfl rfl rfl rfl ?_
  refine ev_bk 4 (S' := (1064, [some (.ref (en_b + 11)), some (.ref 0), some (.ref 367), some (vI x3)], [vI 1, vI x3, .ref (en_b + 11), .ref 367, vI z4], hp S2, 453, 2211534)) rfl ?_
  refine mv_iadd rfl ?_
  obtain ⟨b5, F⟩ := F
  refine mv_xal rfl b5 ?_
  obtain ⟨z8, S6, e7, F⟩ := F
  refine mv_calv (as := [vI (xS q (w32 (x3 + 1)))]) (rest := [vI z4]) e7 (sh_367) rfl rfl rfl ⟨rfl, rfl⟩ rfl rfl rfl rfl rfl ?_
  refine mv_icmp 1258 rfl rfl (fun c => ?_) (fun c => ?_)
  · have F := F.1 c
    exact F
  · have F := F.2 c
    refine ev_bk 1 (S' := (1073, [some (.ref (en_b + 11)), some (.ref 0), some (.ref 367), some (vI x3)], [vI 0], hp S6, 453, 2211534)) rfl ?_
    obtain ⟨rfl, rfl⟩ := F
    exact ev_ret rfl rfl
theorem vc_LW_1074 {q : Nat × (Nat → Int32)} {S S' : ms} {r : Option Value} (x3 : Int)
    (F : (0 ≤ w32 (x3 + 1) ∧ w32 (x3 + 1) < (q.1 : Nat)) ∧ (0 ≤ w32 (x3 + 2) ∧ w32 (x3 + 2) < (q.1 : Nat)) ∧ (0 ≤ w32 (x3 + 3) ∧ w32 (x3 + 3) < (q.1 : Nat)) ∧ ∃ (z6 : Int) (S4 : ms), EV q 232 0 [some (.ref 0), some (vI (xS q (w32 (x3 + 1)))), some (vI (xS q (w32 (x3 + 2)))), some (vI (xS q (w32 (x3 + 3)))), none, none] [] S (some (vI z6)) S4 ∧ (0 ≤ w32 (x3 + 1) ∧ w32 (x3 + 1) < (q.1 : Nat)) ∧ (0 ≤ w32 (x3 + 2) ∧ w32 (x3 + 2) < (q.1 : Nat)) ∧ (0 ≤ w32 (x3 + 3) ∧ w32 (x3 + 3) < (q.1 : Nat)) ∧ ∃ (z12 : Int) (S10 : ms), EV q 416 0 [some (.ref 367), some (vI (xS q (w32 (x3 + 1)))), some (vI (xS q (w32 (x3 + 2)))), some (vI (xS q (w32 (x3 + 3)))), none] [] S4 (some (vI z12)) S10 ∧ ((w32 z6 = w32 z12) → EVL q 1258 [some (.ref (en_b + 11)), some (.ref 0), some (.ref 367), some (vI x3)] [] S10 r S') ∧ ((¬ w32 z6 = w32 z12) → r = some (vI 0) ∧ S' = S10)) : EVL q 1074 [some (.ref (en_b + 11)), some (.ref 0), some (.ref 367), some (vI x3)] [] S r S' := by
  unfold EVL
  refine ev_bk 4 (S' := (1078, [some (.ref (en_b + 11)), some (.ref 0), some (.ref 367), some (vI x3)], [vI 1, vI x3, .ref (en_b + 11), .ref 0], hp S, 453, 2211534)) rfl ?_
  refine mv_iadd rfl ?_
  obtain ⟨b1, F⟩ := F
  refine mv_xal rfl b1 ?_
  refine ev_bk 3 (S' := (1083, [some (.ref (en_b + 11)), some (.ref 0), some (.ref 367), some (vI x3)], [vI 2, vI x3, .ref (en_b + 11), vI (xS q (w32 (x3 + 1))), .ref 0], hp S, 453, 2211534)) rfl ?_
  refine mv_iadd rfl ?_
  obtain ⟨b2, F⟩ := F
  refine mv_xal rfl b2 ?_
  refine ev_bk 3 (S' := (1088, [some (.ref (en_b + 11)), some (.ref 0), some (.ref 367), some (vI x3)], [vI 3, vI x3, .ref (en_b + 11), vI (xS q (w32 (x3 + 2))), vI (xS q (w32 (x3 + 1))), .ref 0], hp S, 453, 2211534)) rfl ?_
  refine mv_iadd rfl ?_
  obtain ⟨b3, F⟩ := F
  refine mv_xal rfl b3 ?_
  obtain ⟨z6, S4, e5, F⟩ := F
  refine mv_calv (as := [vI (xS q (w32 (x3 + 1))), vI (xS q (w32 (x3 + 2))), vI (xS q (w32 (x3 + 3)))]) (rest := []) e5 (sh_0) rfl rfl rfl ⟨rfl, rfl⟩ rfl rfl rfl rfl rfl ?_
  refine ev_bk 4 (S' := (1097, [some (.ref (en_b + 11)), some (.ref 0), some (.ref 367), some (vI x3)], [vI 1, vI x3, .ref (en_b + 11), .ref 367, vI z6], hp S4, 453, 2211534)) rfl ?_
  refine mv_iadd rfl ?_
  obtain ⟨b7, F⟩ := F
  refine mv_xal rfl b7 ?_
  refine ev_bk 3 (S' := (1102, [some (.ref (en_b + 11)), some (.ref 0), some (.ref 367), some (vI x3)], [vI 2, vI x3, .ref (en_b + 11), vI (xS q (w32 (x3 + 1))), .ref 367, vI z6], hp S4, 453, 2211534)) rfl ?_
  refine mv_iadd rfl ?_
  obtain ⟨b8, F⟩ := F
  refine mv_xal rfl b8 ?_
  refine ev_bk 3 (S' := (1107, [some (.ref (en_b + 11)), some (.ref 0), some (.ref 367), some (vI x3)], [vI 3, vI x3, .ref (en_b + 11), vI (xS q (w32 (x3 + 2))), vI (xS q (w32 (x3 + 1))), .ref 367, vI z6], hp S4, 453, 2211534)) rfl ?_
  refine mv_iadd rfl ?_
  obtain ⟨b9, F⟩ := F
  refine mv_xal rfl b9 ?_
  obtain ⟨z12, S10, e11, F⟩ := F
  refine mv_calv (as := [vI (xS q (w32 (x3 + 1))), vI (xS q (w32 (x3 + 2))), vI (xS q (w32 (x3 + 3)))]) (rest := [vI z6]) e11 (sh_367) rfl rfl rfl ⟨rfl, rfl⟩ rfl rfl rfl rfl rfl ?_
  refine mv_icmp 1258 rfl rfl (fun c => ?_) (fun c => ?_)
  · have F := F.1 c
    exact F
  · have F := F.2 c
    refine ev_bk 1 (S' := (1116, [some (.ref (en_b + 11)), some (.ref 0), some (.ref 367), some (vI x3)], [vI 0], hp S10, 453, 2211534)) rfl ?_
    obtain ⟨rfl, rfl⟩ := F
    exact ev_ret rfl rfl
theorem vc_LW_1117 {q : Nat × (Nat → Int32)} {S S' : ms} {r : Option Value} (x3 : Int)
    (F : ∃ (z3 : Int) (S1 : ms), EV q 233 0 [some (.ref 0), none] [] S (some (vI z3)) S1 ∧ ∃ (z6 : Int) (S4 : ms), EV q 417 0 [some (.ref 367), none, none, none, none] [] S1 (some (vI z6)) S4 ∧ ((w32 z3 = w32 z6) → EVL q 1258 [some (.ref (en_b + 11)), some (.ref 0), some (.ref 367), some (vI x3)] [] S4 r S') ∧ ((¬ w32 z3 = w32 z6) → r = some (vI 0) ∧ S' = S4)) : EVL q 1117 [some (.ref (en_b + 11)), some (.ref 0), some (.ref 367), some (vI x3)] [] S r S' := by
  unfold EVL
  refine ev_bk 1 (S' := (1118, [some (.ref (en_b + 11)), some (.ref 0), some (.ref 367), some (vI x3)], [.ref 0], hp S, 453, 2211534)) rfl ?_
  obtain ⟨z3, S1, e2, F⟩ := F
  refine mv_calv (as := []) (rest := []) e2 (sh_0) rfl rfl rfl ⟨rfl, rfl⟩ rfl rfl rfl rfl rfl ?_
  refine ev_bk 1 (S' := (1122, [some (.ref (en_b + 11)), some (.ref 0), some (.ref 367), some (vI x3)], [.ref 367, vI z3], hp S1, 453, 2211534)) rfl ?_
  obtain ⟨z6, S4, e5, F⟩ := F
  refine mv_calv (as := []) (rest := [vI z3]) e5 (sh_367) rfl rfl rfl ⟨rfl, rfl⟩ rfl rfl rfl rfl rfl ?_
  refine mv_icmp 1258 rfl rfl (fun c => ?_) (fun c => ?_)
  · have F := F.1 c
    exact F
  · have F := F.2 c
    refine ev_bk 1 (S' := (1129, [some (.ref (en_b + 11)), some (.ref 0), some (.ref 367), some (vI x3)], [vI 0], hp S4, 453, 2211534)) rfl ?_
    obtain ⟨rfl, rfl⟩ := F
    exact ev_ret rfl rfl
theorem vc_LW_1130 {q : Nat × (Nat → Int32)} {S S' : ms} {r : Option Value} (x3 : Int)
    (F : ∃ (z3 : Int) (S1 : ms), EV q 239 0 [some (.ref 0)] [] S (some (vI z3)) S1 ∧ ∃ (z6 : Int) (S4 : ms), EV q 420 0 [some (.ref 367), none, none] [] S1 (some (vI z6)) S4 ∧ ((w32 z3 = w32 z6) → EVL q 1258 [some (.ref (en_b + 11)), some (.ref 0), some (.ref 367), some (vI x3)] [] S4 r S') ∧ ((¬ w32 z3 = w32 z6) → r = some (vI 0) ∧ S' = S4)) : EVL q 1130 [some (.ref (en_b + 11)), some (.ref 0), some (.ref 367), some (vI x3)] [] S r S' := by
  unfold EVL
  refine ev_bk 1 (S' := (1131, [some (.ref (en_b + 11)), some (.ref 0), some (.ref 367), some (vI x3)], [.ref 0], hp S, 453, 2211534)) rfl ?_
  obtain ⟨z3, S1, e2, F⟩ := F
  refine mv_calv (as := []) (rest := []) e2 (sh_0) rfl rfl rfl ⟨rfl, rfl⟩ rfl rfl rfl rfl rfl ?_
  refine ev_bk 1 (S' := (1135, [some (.ref (en_b + 11)), some (.ref 0), some (.ref 367), some (vI x3)], [.ref 367, vI z3], hp S1, 453, 2211534)) rfl ?_
  obtain ⟨z6, S4, e5, F⟩ := F
  refine mv_calv (as := []) (rest := [vI z3]) e5 (sh_367) rfl rfl rfl ⟨rfl, rfl⟩ rfl rfl rfl rfl rfl ?_
  refine mv_icmp 1258 rfl rfl (fun c => ?_) (fun c => ?_)
  · have F := F.1 c
    exact F
  · have F := F.2 c
    refine ev_bk 1 (S' := (1142, [some (.ref (en_b + 11)), some (.ref 0), some (.ref 367), some (vI x3)], [vI 0], hp S4, 453, 2211534)) rfl ?_
    obtain ⟨rfl, rfl⟩ := F
    exact ev_ret rfl rfl
theorem vc_LW_1143 {q : Nat × (Nat → Int32)} {S S' : ms} {r : Option Value} (x3 : Int)
    (F : ∃ (z3 : Int) (S1 : ms), EV q 240 0 [some (.ref 0)] [] S (some (vI z3)) S1 ∧ ∃ (z6 : Int) (S4 : ms), EV q 421 0 [some (.ref 367), none, none, none, none, none, none] [] S1 (some (vI z6)) S4 ∧ ((w32 z3 = w32 z6) → EVL q 1258 [some (.ref (en_b + 11)), some (.ref 0), some (.ref 367), some (vI x3)] [] S4 r S') ∧ ((¬ w32 z3 = w32 z6) → r = some (vI 0) ∧ S' = S4)) : EVL q 1143 [some (.ref (en_b + 11)), some (.ref 0), some (.ref 367), some (vI x3)] [] S r S' := by
  unfold EVL
  refine ev_bk 1 (S' := (1144, [some (.ref (en_b + 11)), some (.ref 0), some (.ref 367), some (vI x3)], [.ref 0], hp S, 453, 2211534)) rfl ?_
  obtain ⟨z3, S1, e2, F⟩ := F
  refine mv_calv (as := []) (rest := []) e2 (sh_0) rfl rfl rfl ⟨rfl, rfl⟩ rfl rfl rfl rfl rfl ?_
  refine ev_bk 1 (S' := (1148, [some (.ref (en_b + 11)), some (.ref 0), some (.ref 367), some (vI x3)], [.ref 367, vI z3], hp S1, 453, 2211534)) rfl ?_
  obtain ⟨z6, S4, e5, F⟩ := F
  refine mv_calv (as := []) (rest := [vI z3]) e5 (sh_367) rfl rfl rfl ⟨rfl, rfl⟩ rfl rfl rfl rfl rfl ?_
  refine mv_icmp 1258 rfl rfl (fun c => ?_) (fun c => ?_)
  · have F := F.1 c
    exact F
  · have F := F.2 c
    refine ev_bk 1 (S' := (1155, [some (.ref (en_b + 11)), some (.ref 0), some (.ref 367), some (vI x3)], [vI 0], hp S4, 453, 2211534)) rfl ?_
    obtain ⟨rfl, rfl⟩ := F
    exact ev_ret rfl rfl
theorem vc_LW_1156 {q : Nat × (Nat → Int32)} {S S' : ms} {r : Option Value} (x3 : Int)
    (F : (0 ≤ w32 (x3 + 1) ∧ w32 (x3 + 1) < (q.1 : Nat)) ∧ ∃ (z4 : Int) (S2 : ms), EV q 247 0 [some (.ref 0), some (vI (xS q (w32 (x3 + 1)))), none, none] [] S (some (vI z4)) S2 ∧ (0 ≤ w32 (x3 + 1) ∧ w32 (x3 + 1) < (q.1 : Nat)) ∧ ∃ (z8 : Int) (S6 : ms), EV q 425 0 [some (.ref 367), some (vI (xS q (w32 (x3 + 1)))), none, none, none, none] [] S2 (some (vI z8)) S6 ∧ ((w32 z4 = w32 z8) → EVL q 1258 [some (.ref (en_b + 11)), some (.ref 0), some (.ref 367), some (vI x3)] [] S6 r S') ∧ ((¬ w32 z4 = w32 z8) → r = some (vI 0) ∧ S' = S6)) : EVL q 1156 [some (.ref (en_b + 11)), some (.ref 0), some (.ref 367), some (vI x3)] [] S r S' := by
  unfold EVL
  refine ev_bk 4 (S' := (1160, [some (.ref (en_b + 11)), some (.ref 0), some (.ref 367), some (vI x3)], [vI 1, vI x3, .ref (en_b + 11), .ref 0], hp S, 453, 2211534)) rfl ?_
  refine mv_iadd rfl ?_
  obtain ⟨b1, F⟩ := F
  refine mv_xal rfl b1 ?_
  obtain ⟨z4, S2, e3, F⟩ := F
  refine mv_calv (as := [vI (xS q (w32 (x3 + 1)))]) (rest := []) e3 (sh_0) rfl rfl rfl ⟨rfl, rfl⟩ rfl rfl rfl rfl rfl ?_
  refine ev_bk 4 (S' := (1169, [some (.ref (en_b + 11)), some (.ref 0), some (.ref 367), some (vI x3)], [vI 1, vI x3, .ref (en_b + 11), .ref 367, vI z4], hp S2, 453, 2211534)) rfl ?_
  refine mv_iadd rfl ?_
  obtain ⟨b5, F⟩ := F
  refine mv_xal rfl b5 ?_
  obtain ⟨z8, S6, e7, F⟩ := F
  refine mv_calv (as := [vI (xS q (w32 (x3 + 1)))]) (rest := [vI z4]) e7 (sh_367) rfl rfl rfl ⟨rfl, rfl⟩ rfl rfl rfl rfl rfl ?_
  refine mv_icmp 1258 rfl rfl (fun c => ?_) (fun c => ?_)
  · have F := F.1 c
    exact F
  · have F := F.2 c
    refine ev_bk 1 (S' := (1178, [some (.ref (en_b + 11)), some (.ref 0), some (.ref 367), some (vI x3)], [vI 0], hp S6, 453, 2211534)) rfl ?_
    obtain ⟨rfl, rfl⟩ := F
    exact ev_ret rfl rfl
theorem vc_LW_1179 {q : Nat × (Nat → Int32)} {S S' : ms} {r : Option Value} (x3 : Int)
    (F : (0 ≤ w32 (x3 + 1) ∧ w32 (x3 + 1) < (q.1 : Nat)) ∧ ∃ (z4 : Int) (S2 : ms), EV q 250 0 [some (.ref 0), some (vI (xS q (w32 (x3 + 1)))), none] [] S (some (vI z4)) S2 ∧ (0 ≤ w32 (x3 + 1) ∧ w32 (x3 + 1) < (q.1 : Nat)) ∧ ∃ (z8 : Int) (S6 : ms), EV q 427 0 [some (.ref 367), some (vI (xS q (w32 (x3 + 1)))), none, none, none, none] [] S2 (some (vI z8)) S6 ∧ ((w32 z4 = w32 z8) → EVL q 1258 [some (.ref (en_b + 11)), some (.ref 0), some (.ref 367), some (vI x3)] [] S6 r S') ∧ ((¬ w32 z4 = w32 z8) → r = some (vI 0) ∧ S' = S6)) : EVL q 1179 [some (.ref (en_b + 11)), some (.ref 0), some (.ref 367), some (vI x3)] [] S r S' := by
  unfold EVL
  refine ev_bk 4 (S' := (1183, [some (.ref (en_b + 11)), some (.ref 0), some (.ref 367), some (vI x3)], [vI 1, vI x3, .ref (en_b + 11), .ref 0], hp S, 453, 2211534)) rfl ?_
  refine mv_iadd rfl ?_
  obtain ⟨b1, F⟩ := F
  refine mv_xal rfl b1 ?_
  obtain ⟨z4, S2, e3, F⟩ := F
  refine mv_calv (as := [vI (xS q (w32 (x3 + 1)))]) (rest := []) e3 (sh_0) rfl rfl rfl ⟨rfl, rfl⟩ rfl rfl rfl rfl rfl ?_
  refine ev_bk 4 (S' := (1192, [some (.ref (en_b + 11)), some (.ref 0), some (.ref 367), some (vI x3)], [vI 1, vI x3, .ref (en_b + 11), .ref 367, vI z4], hp S2, 453, 2211534)) rfl ?_
  refine mv_iadd rfl ?_
  obtain ⟨b5, F⟩ := F
  refine mv_xal rfl b5 ?_
  obtain ⟨z8, S6, e7, F⟩ := F
  refine mv_calv (as := [vI (xS q (w32 (x3 + 1)))]) (rest := [vI z4]) e7 (sh_367) rfl rfl rfl ⟨rfl, rfl⟩ rfl rfl rfl rfl rfl ?_
  refine mv_icmp 1258 rfl rfl (fun c => ?_) (fun c => ?_)
  · have F := F.1 c
    exact F
  · have F := F.2 c
    refine ev_bk 1 (S' := (1201, [some (.ref (en_b + 11)), some (.ref 0), some (.ref 367), some (vI x3)], [vI 0], hp S6, 453, 2211534)) rfl ?_
    obtain ⟨rfl, rfl⟩ := F
    exact ev_ret rfl rfl
theorem vc_LW_1202 {q : Nat × (Nat → Int32)} {S S' : ms} {r : Option Value} (x3 : Int)
    (F : (0 ≤ w32 (x3 + 1) ∧ w32 (x3 + 1) < (q.1 : Nat)) ∧ (0 ≤ w32 (x3 + 2) ∧ w32 (x3 + 2) < (q.1 : Nat)) ∧ ∃ (z5 : Int) (S3 : ms), EV q 252 0 [some (.ref 0), some (vI (xS q (w32 (x3 + 1)))), some (vI (xS q (w32 (x3 + 2)))), none, none] [] S (some (vI z5)) S3 ∧ (0 ≤ w32 (x3 + 1) ∧ w32 (x3 + 1) < (q.1 : Nat)) ∧ (0 ≤ w32 (x3 + 2) ∧ w32 (x3 + 2) < (q.1 : Nat)) ∧ ∃ (z10 : Int) (S8 : ms), EV q 428 0 [some (.ref 367), some (vI (xS q (w32 (x3 + 1)))), some (vI (xS q (w32 (x3 + 2)))), none, none, none, none, none, none, none] [] S3 (some (vI z10)) S8 ∧ ((w32 z5 = w32 z10) → EVL q 1258 [some (.ref (en_b + 11)), some (.ref 0), some (.ref 367), some (vI x3)] [] S8 r S') ∧ ((¬ w32 z5 = w32 z10) → r = some (vI 0) ∧ S' = S8)) : EVL q 1202 [some (.ref (en_b + 11)), some (.ref 0), some (.ref 367), some (vI x3)] [] S r S' := by
  unfold EVL
  refine ev_bk 4 (S' := (1206, [some (.ref (en_b + 11)), some (.ref 0), some (.ref 367), some (vI x3)], [vI 1, vI x3, .ref (en_b + 11), .ref 0], hp S, 453, 2211534)) rfl ?_
  refine mv_iadd rfl ?_
  obtain ⟨b1, F⟩ := F
  refine mv_xal rfl b1 ?_
  refine ev_bk 3 (S' := (1211, [some (.ref (en_b + 11)), some (.ref 0), some (.ref 367), some (vI x3)], [vI 2, vI x3, .ref (en_b + 11), vI (xS q (w32 (x3 + 1))), .ref 0], hp S, 453, 2211534)) rfl ?_
  refine mv_iadd rfl ?_
  obtain ⟨b2, F⟩ := F
  refine mv_xal rfl b2 ?_
  obtain ⟨z5, S3, e4, F⟩ := F
  refine mv_calv (as := [vI (xS q (w32 (x3 + 1))), vI (xS q (w32 (x3 + 2)))]) (rest := []) e4 (sh_0) rfl rfl rfl ⟨rfl, rfl⟩ rfl rfl rfl rfl rfl ?_
  refine ev_bk 4 (S' := (1220, [some (.ref (en_b + 11)), some (.ref 0), some (.ref 367), some (vI x3)], [vI 1, vI x3, .ref (en_b + 11), .ref 367, vI z5], hp S3, 453, 2211534)) rfl ?_
  refine mv_iadd rfl ?_
  obtain ⟨b6, F⟩ := F
  refine mv_xal rfl b6 ?_
  refine ev_bk 3 (S' := (1225, [some (.ref (en_b + 11)), some (.ref 0), some (.ref 367), some (vI x3)], [vI 2, vI x3, .ref (en_b + 11), vI (xS q (w32 (x3 + 1))), .ref 367, vI z5], hp S3, 453, 2211534)) rfl ?_
  refine mv_iadd rfl ?_
  obtain ⟨b7, F⟩ := F
  refine mv_xal rfl b7 ?_
  obtain ⟨z10, S8, e9, F⟩ := F
  refine mv_calv (as := [vI (xS q (w32 (x3 + 1))), vI (xS q (w32 (x3 + 2)))]) (rest := [vI z5]) e9 (sh_367) rfl rfl rfl ⟨rfl, rfl⟩ rfl rfl rfl rfl rfl ?_
  refine mv_icmp 1258 rfl rfl (fun c => ?_) (fun c => ?_)
  · have F := F.1 c
    exact F
  · have F := F.2 c
    refine ev_bk 1 (S' := (1234, [some (.ref (en_b + 11)), some (.ref 0), some (.ref 367), some (vI x3)], [vI 0], hp S8, 453, 2211534)) rfl ?_
    obtain ⟨rfl, rfl⟩ := F
    exact ev_ret rfl rfl
theorem vc_LW_1235 {q : Nat × (Nat → Int32)} {S S' : ms} {r : Option Value} (x3 : Int)
    (F : (0 ≤ w32 (x3 + 1) ∧ w32 (x3 + 1) < (q.1 : Nat)) ∧ ∃ (z4 : Int) (S2 : ms), EV q 254 0 [some (.ref 0), some (vI (xS q (w32 (x3 + 1))))] [] S (some (vI z4)) S2 ∧ (0 ≤ w32 (x3 + 1) ∧ w32 (x3 + 1) < (q.1 : Nat)) ∧ ∃ (z8 : Int) (S6 : ms), EV q 238 0 [some (.ref 367), some (vI (xS q (w32 (x3 + 1))))] [] S2 (some (vI z8)) S6 ∧ ((w32 z4 = w32 z8) → EVL q 1258 [some (.ref (en_b + 11)), some (.ref 0), some (.ref 367), some (vI x3)] [] S6 r S') ∧ ((¬ w32 z4 = w32 z8) → r = some (vI 0) ∧ S' = S6)) : EVL q 1235 [some (.ref (en_b + 11)), some (.ref 0), some (.ref 367), some (vI x3)] [] S r S' := by
  unfold EVL
  refine ev_bk 4 (S' := (1239, [some (.ref (en_b + 11)), some (.ref 0), some (.ref 367), some (vI x3)], [vI 1, vI x3, .ref (en_b + 11), .ref 0], hp S, 453, 2211534)) rfl ?_
  refine mv_iadd rfl ?_
  obtain ⟨b1, F⟩ := F
  refine mv_xal rfl b1 ?_
  obtain ⟨z4, S2, e3, F⟩ := F
  refine mv_calv (as := [vI (xS q (w32 (x3 + 1)))]) (rest := []) e3 (sh_0) rfl rfl rfl ⟨rfl, rfl⟩ rfl rfl rfl rfl rfl ?_
  refine ev_bk 4 (S' := (1248, [some (.ref (en_b + 11)), some (.ref 0), some (.ref 367), some (vI x3)], [vI 1, vI x3, .ref (en_b + 11), .ref 367, vI z4], hp S2, 453, 2211534)) rfl ?_
  refine mv_iadd rfl ?_
  obtain ⟨b5, F⟩ := F
  refine mv_xal rfl b5 ?_
  obtain ⟨z8, S6, e7, F⟩ := F
  refine mv_calv (as := [vI (xS q (w32 (x3 + 1)))]) (rest := [vI z4]) e7 (sh_367) rfl rfl rfl ⟨rfl, rfl⟩ rfl rfl rfl rfl rfl ?_
  refine mv_icmp 1258 rfl rfl (fun c => ?_) (fun c => ?_)
  · have F := F.1 c
    exact F
  · have F := F.2 c
    refine ev_bk 1 (S' := (1257, [some (.ref (en_b + 11)), some (.ref 0), some (.ref 367), some (vI x3)], [vI 0], hp S6, 453, 2211534)) rfl ?_
    obtain ⟨rfl, rfl⟩ := F
    exact ev_ret rfl rfl
theorem vc_LW_1258 {q : Nat × (Nat → Int32)} {S S' : ms} {r : Option Value} (x3 : Int)
    (F : EVL q 18 [some (.ref (en_b + 11)), some (.ref 0), some (.ref 367), some (vI (x3 + 4))] [] S r S') : EVL q 1258 [some (.ref (en_b + 11)), some (.ref 0), some (.ref 367), some (vI x3)] [] S r S' := by
  unfold EVL
  refine mv_inc (lv' := [some (.ref (en_b + 11)), some (.ref 0), some (.ref 367), some (vI (x3 + 4))]) 3 4 rfl rfl rfl rfl ?_
  refine mv_goto 18 rfl rfl ?_
  exact F
