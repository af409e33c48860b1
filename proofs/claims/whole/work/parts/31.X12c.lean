set_option maxRecDepth 20000 in
set_option maxHeartbeats 4000000 in
theorem bX12_body_0 {G : zG} {d : Nat} {M : zM} {Q : zV → zM → Prop} (hG : zP G) {x1 : Int}
    (h : (((x1 = 0) → Y G d mX12_summed 0 [(2, 234), (9, 0)] [] M (fun r M' => Y G (d + 1) mX12_body 52 [(2, 234), (0, x1), (9, 0)] (zpush r []) M' Q)) ∧ ((x1 = 1) → Y G d mX12_let 0 [(2, 234)] [] M (fun r M' => Y G (d + 1) mX12_body 57 [(2, 234), (0, x1), (9, 0)] (zpush r []) M' Q)) ∧ ((x1 = 2) → Y G d mX12_born 0 [(2, 234), (9, 0)] [] M (fun r M' => Y G (d + 1) mX12_body 62 [(2, 234), (0, x1), (9, 0)] (zpush r []) M' Q)) ∧ ((x1 = 3) → Y G d mX12_path 0 [(2, 234), (9, 0)] [] M (fun r M' => Y G (d + 1) mX12_body 67 [(2, 234), (0, x1), (9, 0)] (zpush r []) M' Q)) ∧ ((x1 = 4) → Y G d mX12_figure 0 [(2, 234), (0, 0), (0, 0), (0, 255)] [] M (fun r M' => Y G (d + 1) mX12_body 77 [(2, 234), (0, x1), (9, 0)] (zpush r []) M' Q)) ∧ ((x1 = 5) → Y G d mX12_pupilClause 0 [(2, 234), (9, 0)] [] M (fun r M' => Y G (d + 1) mX12_body 82 [(2, 234), (0, x1), (9, 0)] (zpush r []) M' Q)) ∧ ((x1 = 6) → Y G d mX12_figure 0 [(2, 234), (0, 0), (0, 0), (0, 9999)] [] M (fun r M' => Y G (d + 1) mX12_body 92 [(2, 234), (0, x1), (9, 0)] (zpush r []) M' Q)) ∧ ((x1 = 7) → Y G d mX12_figure 0 [(2, 234), (0, 0), (0, 0), (0, 5)] [] M (fun r M' => Y G (d + 1) mX12_body 100 [(2, 234), (0, x1), (9, 0)] (zpush r []) M' Q)) ∧ ((x1 < 0 ∨ 7 < x1) → Q (0, 0) M))) :
    Y G (d + 1) mX12_body 0 [(2, 234), (0, x1), (9, 0)] [] M Q := by
  refine z_iloadn dX12_body_0 rfl ?_
  rcases (show x1 < 0 ∨ 7 < x1 ∨ x1 = 0 ∨ x1 = 1 ∨ x1 = 2 ∨ x1 = 3 ∨ x1 = 4 ∨ x1 = 5 ∨ x1 = 6 ∨ x1 = 7 by omega) with q | q | q | q | q | q | q | q | q | q
  · replace h := h.2.2.2.2.2.2.2.2 (Or.inl q)
    refine z_tswOut (tgt := 118) dX12_body_1 (Or.inl q) rfl ?_
    refine z_iconst dX12_body_118 ki_0 ?_
    exact z_ireturn dX12_body_119 (Or.inl rfl) rfl h
  · replace h := h.2.2.2.2.2.2.2.2 (Or.inr q)
    refine z_tswOut (tgt := 118) dX12_body_1 (Or.inr q) rfl ?_
    refine z_iconst dX12_body_118 ki_0 ?_
    exact z_ireturn dX12_body_119 (Or.inl rfl) rfl h
  · replace h := h.1 q
    refine y_tsw (tgt := 48) (k := 0) dX12_body_1 q (by decide) rfl rfl ?_
    refine z_aloadn dX12_body_48 rfl (Or.inl rfl) ?_
    refine y_cv (mt2 := mX12_summed) (en := [(2, 234), (9, 0)]) (st := []) (as := []) dX12_body_49 lX12_309 kX12_summed iX12_summed eX12_summed rfl sh234 (by decide +kernel) (Nat.le_of_ble_eq_true rfl) (Nat.le_of_ble_eq_true rfl) rfl ?_
    exact h
  · replace h := h.2.1 q
    refine y_tsw (tgt := 53) (k := 1) dX12_body_1 q (by decide) rfl rfl ?_
    refine z_aloadn dX12_body_53 rfl (Or.inl rfl) ?_
    refine y_cv (mt2 := mX12_let) (en := [(2, 234)]) (st := []) (as := []) dX12_body_54 lX12_312 kX12_let iX12_let eX12_let rfl sh234 (by decide +kernel) (Nat.le_of_ble_eq_true rfl) (Nat.le_of_ble_eq_true rfl) rfl ?_
    exact h
  · replace h := h.2.2.1 q
    refine y_tsw (tgt := 58) (k := 2) dX12_body_1 q (by decide) rfl rfl ?_
    refine z_aloadn dX12_body_58 rfl (Or.inl rfl) ?_
    refine y_cv (mt2 := mX12_born) (en := [(2, 234), (9, 0)]) (st := []) (as := []) dX12_body_59 lX12_315 kX12_born iX12_born eX12_born rfl sh234 (by decide +kernel) (Nat.le_of_ble_eq_true rfl) (Nat.le_of_ble_eq_true rfl) rfl ?_
    exact h
  · replace h := h.2.2.2.1 q
    refine y_tsw (tgt := 63) (k := 3) dX12_body_1 q (by decide) rfl rfl ?_
    refine z_aloadn dX12_body_63 rfl (Or.inl rfl) ?_
    refine y_cv (mt2 := mX12_path) (en := [(2, 234), (9, 0)]) (st := []) (as := []) dX12_body_64 lX12_318 kX12_path iX12_path eX12_path rfl sh234 (by decide +kernel) (Nat.le_of_ble_eq_true rfl) (Nat.le_of_ble_eq_true rfl) rfl ?_
    exact h
  · replace h := h.2.2.2.2.1 q
    refine y_tsw (tgt := 68) (k := 4) dX12_body_1 q (by decide) rfl rfl ?_
    refine z_aloadn dX12_body_68 rfl (Or.inl rfl) ?_
    refine z_iconst dX12_body_69 ki_0 ?_
    refine z_iconst dX12_body_70 ki_0 ?_
    refine z_sipush dX12_body_71 ks_255 ?_
    refine y_cv (mt2 := mX12_figure) (en := [(2, 234), (0, 0), (0, 0), (0, 255)]) (st := []) (as := [(0, 0), (0, 0), (0, 255)]) dX12_body_74 lX12_291 kX12_figure iX12_figure eX12_figure rfl sh234 (by decide +kernel) (Nat.le_of_ble_eq_true rfl) (Nat.le_of_ble_eq_true rfl) rfl ?_
    exact h
  · replace h := h.2.2.2.2.2.1 q
    refine y_tsw (tgt := 78) (k := 5) dX12_body_1 q (by decide) rfl rfl ?_
    refine z_aloadn dX12_body_78 rfl (Or.inl rfl) ?_
    refine y_cv (mt2 := mX12_pupilClause) (en := [(2, 234), (9, 0)]) (st := []) (as := []) dX12_body_79 lX12_321 kX12_pupilClause iX12_pupilClause eX12_pupilClause rfl sh234 (by decide +kernel) (Nat.le_of_ble_eq_true rfl) (Nat.le_of_ble_eq_true rfl) rfl ?_
    exact h
  · replace h := h.2.2.2.2.2.2.1 q
    refine y_tsw (tgt := 83) (k := 6) dX12_body_1 q (by decide) rfl rfl ?_
    refine z_aloadn dX12_body_83 rfl (Or.inl rfl) ?_
    refine z_iconst dX12_body_84 ki_0 ?_
    refine z_iconst dX12_body_85 ki_0 ?_
    refine z_sipush dX12_body_86 ks_9999 ?_
    refine y_cv (mt2 := mX12_figure) (en := [(2, 234), (0, 0), (0, 0), (0, 9999)]) (st := []) (as := [(0, 0), (0, 0), (0, 9999)]) dX12_body_89 lX12_291 kX12_figure iX12_figure eX12_figure rfl sh234 (by decide +kernel) (Nat.le_of_ble_eq_true rfl) (Nat.le_of_ble_eq_true rfl) rfl ?_
    exact h
  · replace h := h.2.2.2.2.2.2.2.1 q
    refine y_tsw (tgt := 93) (k := 7) dX12_body_1 q (by decide) rfl rfl ?_
    refine z_aloadn dX12_body_93 rfl (Or.inl rfl) ?_
    refine z_iconst dX12_body_94 ki_0 ?_
    refine z_iconst dX12_body_95 ki_0 ?_
    refine z_iconst dX12_body_96 ki_5 ?_
    refine y_cv (mt2 := mX12_figure) (en := [(2, 234), (0, 0), (0, 0), (0, 5)]) (st := []) (as := [(0, 0), (0, 0), (0, 5)]) dX12_body_97 lX12_291 kX12_figure iX12_figure eX12_figure rfl sh234 (by decide +kernel) (Nat.le_of_ble_eq_true rfl) (Nat.le_of_ble_eq_true rfl) rfl ?_
    exact h
set_option maxRecDepth 20000 in
set_option maxHeartbeats 4000000 in
theorem bX12_body_52 {G : zG} {d : Nat} {M : zM} {Q : zV → zM → Prop} (hG : zP G) {x1 x49 : Int}
    (h : Q (0, x49) M) :
    Y G (d + 1) mX12_body 52 [(2, 234), (0, x1), (9, 0)] [(0, x49)] M Q := by
  exact z_ireturn dX12_body_52 (Or.inl rfl) rfl h
set_option maxRecDepth 20000 in
set_option maxHeartbeats 4000000 in
theorem bX12_body_57 {G : zG} {d : Nat} {M : zM} {Q : zV → zM → Prop} (hG : zP G) {x1 x49 : Int}
    (h : Q (0, x49) M) :
    Y G (d + 1) mX12_body 57 [(2, 234), (0, x1), (9, 0)] [(0, x49)] M Q := by
  exact z_ireturn dX12_body_57 (Or.inl rfl) rfl h
set_option maxRecDepth 20000 in
set_option maxHeartbeats 4000000 in
theorem bX12_body_62 {G : zG} {d : Nat} {M : zM} {Q : zV → zM → Prop} (hG : zP G) {x1 x49 : Int}
    (h : Q (0, x49) M) :
    Y G (d + 1) mX12_body 62 [(2, 234), (0, x1), (9, 0)] [(0, x49)] M Q := by
  exact z_ireturn dX12_body_62 (Or.inl rfl) rfl h
set_option maxRecDepth 20000 in
set_option maxHeartbeats 4000000 in
theorem bX12_body_67 {G : zG} {d : Nat} {M : zM} {Q : zV → zM → Prop} (hG : zP G) {x1 x49 : Int}
    (h : Q (0, x49) M) :
    Y G (d + 1) mX12_body 67 [(2, 234), (0, x1), (9, 0)] [(0, x49)] M Q := by
  exact z_ireturn dX12_body_67 (Or.inl rfl) rfl h
set_option maxRecDepth 20000 in
set_option maxHeartbeats 4000000 in
theorem bX12_body_77 {G : zG} {d : Nat} {M : zM} {Q : zV → zM → Prop} (hG : zP G) {x1 x49 : Int}
    (h : Q (0, x49) M) :
    Y G (d + 1) mX12_body 77 [(2, 234), (0, x1), (9, 0)] [(0, x49)] M Q := by
  exact z_ireturn dX12_body_77 (Or.inl rfl) rfl h
set_option maxRecDepth 20000 in
set_option maxHeartbeats 4000000 in
theorem bX12_body_82 {G : zG} {d : Nat} {M : zM} {Q : zV → zM → Prop} (hG : zP G) {x1 x49 : Int}
    (h : Q (0, x49) M) :
    Y G (d + 1) mX12_body 82 [(2, 234), (0, x1), (9, 0)] [(0, x49)] M Q := by
  exact z_ireturn dX12_body_82 (Or.inl rfl) rfl h
set_option maxRecDepth 20000 in
set_option maxHeartbeats 4000000 in
theorem bX12_body_92 {G : zG} {d : Nat} {M : zM} {Q : zV → zM → Prop} (hG : zP G) {x1 x49 : Int}
    (h : Q (0, x49) M) :
    Y G (d + 1) mX12_body 92 [(2, 234), (0, x1), (9, 0)] [(0, x49)] M Q := by
  exact z_ireturn dX12_body_92 (Or.inl rfl) rfl h
set_option maxRecDepth 20000 in
set_option maxHeartbeats 4000000 in
theorem bX12_body_100 {G : zG} {d : Nat} {M : zM} {Q : zV → zM → Prop} (hG : zP G) {x1 x49 : Int}
    (h : ((x49 = 0 → Y G d mX12_figure 0 [(2, 234), (0, 1), (0, 0), (0, 11)] [] M (fun r M' => Y G (d + 1) mX12_body 117 [(2, 234), (0, x1), (0, x49)] (zpush r []) M' Q)) ∧ (¬ x49 = 0 → Q (0, x49) M))) :
    Y G (d + 1) mX12_body 100 [(2, 234), (0, x1), (9, 0)] [(0, x49)] M Q := by
  refine y_istoren (ls' := [(2, 234), (0, x1), (0, x49)]) dX12_body_100 rfl rfl ?_
  refine z_iloadn dX12_body_101 rfl ?_
  refine z_ifeq (tgt := 109) dX12_body_102 rfl (fun q => ?_) (fun q => ?_)
  · replace h := h.1 q
    refine z_aloadn dX12_body_109 rfl (Or.inl rfl) ?_
    refine z_iconst dX12_body_110 ki_1 ?_
    refine z_iconst dX12_body_111 ki_0 ?_
    refine z_bipush dX12_body_112 kb_11 ?_
    refine y_cv (mt2 := mX12_figure) (en := [(2, 234), (0, 1), (0, 0), (0, 11)]) (st := []) (as := [(0, 1), (0, 0), (0, 11)]) dX12_body_114 lX12_291 kX12_figure iX12_figure eX12_figure rfl sh234 (by decide +kernel) (Nat.le_of_ble_eq_true rfl) (Nat.le_of_ble_eq_true rfl) rfl ?_
    exact h
  · replace h := h.2 q
    refine z_iloadn dX12_body_105 rfl ?_
    refine z_goto (tgt := 117) dX12_body_106 rfl ?_
    exact z_ireturn dX12_body_117 (Or.inl rfl) rfl h
set_option maxRecDepth 20000 in
set_option maxHeartbeats 4000000 in
theorem bX12_body_117 {G : zG} {d : Nat} {M : zM} {Q : zV → zM → Prop} (hG : zP G) {x1 x2 x49 : Int}
    (h : Q (0, x49) M) :
    Y G (d + 1) mX12_body 117 [(2, 234), (0, x1), (0, x2)] [(0, x49)] M Q := by
  exact z_ireturn dX12_body_117 (Or.inl rfl) rfl h
set_option maxRecDepth 20000 in
set_option maxHeartbeats 4000000 in
theorem bX12_clause_0 {G : zG} {d : Nat} {M : zM} {Q : zV → zM → Prop} (hG : zP G)
    (h : Y G d mX12_sortAt 0 [(2, 234)] [] M (fun r M' => Y G (d + 1) mX12_clause 4 [(2, 234), (9, 0), (9, 0), (9, 0)] (zpush r []) M' Q)) :
    Y G (d + 1) mX12_clause 0 [(2, 234), (9, 0), (9, 0), (9, 0)] [] M Q := by
  refine z_aloadn dX12_clause_0 rfl (Or.inl rfl) ?_
  refine y_cv (mt2 := mX12_sortAt) (en := [(2, 234)]) (st := []) (as := []) dX12_clause_1 lX12_324 kX12_sortAt iX12_sortAt eX12_sortAt rfl sh234 (by decide +kernel) (Nat.le_of_ble_eq_true rfl) (Nat.le_of_ble_eq_true rfl) rfl ?_
  exact h
set_option maxRecDepth 20000 in
set_option maxHeartbeats 4000000 in
theorem bX12_clause_4 {G : zG} {d : Nat} {M : zM} {Q : zV → zM → Prop} (hG : zP G) {x49 : Int}
    (h : ((0 ≤ x49 → (0 ≤ (M 234 14) ∧ (M 234 14) < 3556) ∧ ((¬ (M 240 (M 234 14)) = 24 → Y G d mX12_nextToken 0 [(2, 234), (9, 0)] [] M (fun r M' => Y G (d + 1) mX12_clause 33 [(2, 234), (0, x49), (0, (M 240 (M 234 14))), (9, 0)] (zpush r []) M' Q)) ∧ ((M 240 (M 234 14)) = 24 → Q (0, 5) M))) ∧ (x49 < 0 → Q (0, 1) M))) :
    Y G (d + 1) mX12_clause 4 [(2, 234), (9, 0), (9, 0), (9, 0)] [(0, x49)] M Q := by
  refine y_istoren (ls' := [(2, 234), (0, x49), (9, 0), (9, 0)]) dX12_clause_4 rfl rfl ?_
  refine z_iloadn dX12_clause_5 rfl ?_
  refine z_ifge (tgt := 11) dX12_clause_6 rfl (fun q => ?_) (fun q => ?_)
  · replace h := h.1 q
    refine z_aloadn dX12_clause_11 rfl (Or.inl rfl) ?_
    refine y_getr (v := 240) hG dX12_clause_12 fX12_32 sh234 (by decide) rfl (by decide +kernel) (by decide) ?_
    refine z_aloadn dX12_clause_15 rfl (Or.inl rfl) ?_
    refine y_getf (x := (M 234 14)) dX12_clause_16 fX12_203 sh234 (by decide) rfl rfl ?_
    obtain ⟨q1, h⟩ := h
    refine y_iald (x := (M 240 (M 234 14))) dX12_clause_19 sh240 q1 rfl ?_
    refine y_istoren (ls' := [(2, 234), (0, x49), (0, (M 240 (M 234 14))), (9, 0)]) dX12_clause_20 rfl rfl ?_
    refine z_iloadn dX12_clause_21 rfl ?_
    refine z_bipush dX12_clause_22 kb_24 ?_
    refine z_icmpne (tgt := 29) dX12_clause_24 rfl (fun q => ?_) (fun q => ?_)
    · replace h := h.1 q
      refine z_aloadn dX12_clause_29 rfl (Or.inl rfl) ?_
      refine y_cv (mt2 := mX12_nextToken) (en := [(2, 234), (9, 0)]) (st := []) (as := []) dX12_clause_30 lX12_230 kX12_nextToken iX12_nextToken eX12_nextToken rfl sh234 (by decide +kernel) (Nat.le_of_ble_eq_true rfl) (Nat.le_of_ble_eq_true rfl) rfl ?_
      exact h
    · replace h := h.2 q
      refine z_iconst dX12_clause_27 ki_5 ?_
      exact z_ireturn dX12_clause_28 (Or.inl rfl) rfl h
  · replace h := h.2 q
    refine z_iconst dX12_clause_9 ki_1 ?_
    exact z_ireturn dX12_clause_10 (Or.inl rfl) rfl h
set_option maxRecDepth 20000 in
set_option maxHeartbeats 4000000 in
theorem bX12_clause_33 {G : zG} {d : Nat} {M : zM} {Q : zV → zM → Prop} (hG : zP G) {x1 x2 : Int}
    (h : (-2147483648 ≤ (M 234 14) + 1 ∧ (M 234 14) + 1 ≤ 2147483647) ∧ (-2147483648 ≤ 12 * x2 ∧ 12 * x2 ≤ 2147483647) ∧ (-2147483648 ≤ ((M 234 14) + 1) + (12 * x2) ∧ ((M 234 14) + 1) + (12 * x2) ≤ 2147483647) ∧ (0 ≤ (((M 234 14) + 1) + (12 * x2)) ∧ (((M 234 14) + 1) + (12 * x2)) < 3556) ∧ (-2147483648 ≤ (((M 234 14) + 1) + (12 * x2)) + 6 ∧ (((M 234 14) + 1) + (12 * x2)) + 6 ≤ 2147483647) ∧ (0 ≤ ((((M 234 14) + 1) + (12 * x2)) + 6) ∧ ((((M 234 14) + 1) + (12 * x2)) + 6) < 3556) ∧ Y G d mX12_body 0 [(2, 234), (0, x1), (9, 0)] [] (zset (zset (zset M 234 16 (((M 234 14) + 1) + (12 * x2))) 240 (((M 234 14) + 1) + (12 * x2)) x1) 240 ((((M 234 14) + 1) + (12 * x2)) + 6) (M 234 15)) (fun r M' => Y G (d + 1) mX12_clause 79 [(2, 234), (0, x1), (0, x2), (9, 0)] (zpush r []) M' Q)) :
    Y G (d + 1) mX12_clause 33 [(2, 234), (0, x1), (0, x2), (9, 0)] [] M Q := by
  refine z_aloadn dX12_clause_33 rfl (Or.inl rfl) ?_
  refine z_aloadn dX12_clause_34 rfl (Or.inl rfl) ?_
  refine y_getf (x := (M 234 14)) dX12_clause_35 fX12_203 sh234 (by decide) rfl rfl ?_
  refine z_iconst dX12_clause_38 ki_1 ?_
  obtain ⟨q1, h⟩ := h
  refine z_iadd dX12_clause_39 q1 ?_
  refine z_bipush dX12_clause_40 kb_12 ?_
  refine z_iloadn dX12_clause_42 rfl ?_
  obtain ⟨q2, h⟩ := h
  refine z_imul dX12_clause_43 q2 ?_
  obtain ⟨q3, h⟩ := h
  refine z_iadd dX12_clause_44 q3 ?_
  refine y_putf (M' := zset M 234 16 (((M 234 14) + 1) + (12 * x2))) hG dX12_clause_45 fX12_288 sh234 (by decide) ⟨rfl, rfl⟩ p12_16 (fun q => absurd q (by decide)) (by decide) rfl ?_
  refine z_aloadn dX12_clause_48 rfl (Or.inl rfl) ?_
  refine y_getr (v := 240) hG dX12_clause_49 fX12_32 sh234 (by decide) rfl (by decide +kernel) (by decide) ?_
  refine z_aloadn dX12_clause_52 rfl (Or.inl rfl) ?_
  refine y_getf (x := (((M 234 14) + 1) + (12 * x2))) dX12_clause_53 fX12_288 sh234 (by decide) rfl zset_same ?_
  refine z_iloadn dX12_clause_56 rfl ?_
  obtain ⟨q4, h⟩ := h
  refine y_iast hG dX12_clause_57 sh240 q4 ?_
  refine z_aloadn dX12_clause_58 rfl (Or.inl rfl) ?_
  refine y_getr (v := 240) hG dX12_clause_59 fX12_32 sh234 (by decide) rfl (by decide +kernel) (by decide) ?_
  refine z_aloadn dX12_clause_62 rfl (Or.inl rfl) ?_
  refine y_getf (x := (((M 234 14) + 1) + (12 * x2))) dX12_clause_63 fX12_288 sh234 (by decide) rfl ((zset_ne (fun q => absurd q.1 (by decide))).trans zset_same) ?_
  refine z_bipush dX12_clause_66 kb_6 ?_
  obtain ⟨q5, h⟩ := h
  refine z_iadd dX12_clause_68 q5 ?_
  refine z_aloadn dX12_clause_69 rfl (Or.inl rfl) ?_
  refine y_getf (x := (M 234 15)) dX12_clause_70 fX12_206 sh234 (by decide) rfl (((zset_ne (fun q => absurd q.1 (by decide))).trans (zset_ne (fun q => absurd q.2 (by decide))))) ?_
  obtain ⟨q6, h⟩ := h
  refine y_iast hG dX12_clause_73 sh240 q6 ?_
  refine z_aloadn dX12_clause_74 rfl (Or.inl rfl) ?_
  refine z_iloadn dX12_clause_75 rfl ?_
  refine y_cv (mt2 := mX12_body) (en := [(2, 234), (0, x1), (9, 0)]) (st := []) (as := [(0, x1)]) dX12_clause_76 lX12_327 kX12_body iX12_body eX12_body rfl sh234 (by decide +kernel) (Nat.le_of_ble_eq_true rfl) (Nat.le_of_ble_eq_true rfl) rfl ?_
  exact h
set_option maxRecDepth 20000 in
set_option maxHeartbeats 4000000 in
theorem bX12_clause_79 {G : zG} {d : Nat} {M : zM} {Q : zV → zM → Prop} (hG : zP G) {x1 x2 x49 : Int}
    (h : ((x49 = 0 → (-2147483648 ≤ (M 234 16) + 7 ∧ (M 234 16) + 7 ≤ 2147483647) ∧ (0 ≤ ((M 234 16) + 7) ∧ ((M 234 16) + 7) < 3556) ∧ (-2147483648 ≤ (M 234 16) + 8 ∧ (M 234 16) + 8 ≤ 2147483647) ∧ (0 ≤ ((M 234 16) + 8) ∧ ((M 234 16) + 8) < 3556) ∧ (-2147483648 ≤ (M 234 16) + 9 ∧ (M 234 16) + 9 ≤ 2147483647) ∧ (0 ≤ ((M 234 16) + 9) ∧ ((M 234 16) + 9) < 3556) ∧ (-2147483648 ≤ (M 234 16) + 10 ∧ (M 234 16) + 10 ≤ 2147483647) ∧ (0 ≤ ((M 234 16) + 10) ∧ ((M 234 16) + 10) < 3556) ∧ (-2147483648 ≤ (M 234 16) + 11 ∧ (M 234 16) + 11 ≤ 2147483647) ∧ (0 ≤ ((M 234 16) + 11) ∧ ((M 234 16) + 11) < 3556) ∧ (0 ≤ (M 234 14) ∧ (M 234 14) < 3556) ∧ (-2147483648 ≤ ((zset (zset (zset (zset (zset M 240 ((M 234 16) + 7) (M 234 15)) 240 ((M 234 16) + 8) (M 234 23)) 240 ((M 234 16) + 9) (M 234 24)) 240 ((M 234 16) + 10) (M 234 25)) 240 ((M 234 16) + 11) (M 234 26)) 240 (M 234 14)) + 1 ∧ ((zset (zset (zset (zset (zset M 240 ((M 234 16) + 7) (M 234 15)) 240 ((M 234 16) + 8) (M 234 23)) 240 ((M 234 16) + 9) (M 234 24)) 240 ((M 234 16) + 10) (M 234 25)) 240 ((M 234 16) + 11) (M 234 26)) 240 (M 234 14)) + 1 ≤ 2147483647) ∧ (0 ≤ (M 234 14) ∧ (M 234 14) < 3556) ∧ (((M 234 10) = 59 → Y G d mX12_nextToken 0 [(2, 234), (9, 0)] [] (zset (zset (zset (zset (zset (zset M 240 ((M 234 16) + 7) (M 234 15)) 240 ((M 234 16) + 8) (M 234 23)) 240 ((M 234 16) + 9) (M 234 24)) 240 ((M 234 16) + 10) (M 234 25)) 240 ((M 234 16) + 11) (M 234 26)) 240 (M 234 14) (((zset (zset (zset (zset (zset M 240 ((M 234 16) + 7) (M 234 15)) 240 ((M 234 16) + 8) (M 234 23)) 240 ((M 234 16) + 9) (M 234 24)) 240 ((M 234 16) + 10) (M 234 25)) 240 ((M 234 16) + 11) (M 234 26)) 240 (M 234 14)) + 1)) (fun r M' => Y G (d + 1) mX12_clause 194 [(2, 234), (0, x1), (0, x2), (0, x49)] (zpush r []) M' Q)) ∧ (¬ (M 234 10) = 59 → Q (0, 1) (zset (zset (zset (zset (zset (zset M 240 ((M 234 16) + 7) (M 234 15)) 240 ((M 234 16) + 8) (M 234 23)) 240 ((M 234 16) + 9) (M 234 24)) 240 ((M 234 16) + 10) (M 234 25)) 240 ((M 234 16) + 11) (M 234 26)) 240 (M 234 14) (((zset (zset (zset (zset (zset M 240 ((M 234 16) + 7) (M 234 15)) 240 ((M 234 16) + 8) (M 234 23)) 240 ((M 234 16) + 9) (M 234 24)) 240 ((M 234 16) + 10) (M 234 25)) 240 ((M 234 16) + 11) (M 234 26)) 240 (M 234 14)) + 1))))) ∧ (¬ x49 = 0 → Q (0, x49) M))) :
    Y G (d + 1) mX12_clause 79 [(2, 234), (0, x1), (0, x2), (9, 0)] [(0, x49)] M Q := by
  refine y_istoren (ls' := [(2, 234), (0, x1), (0, x2), (0, x49)]) dX12_clause_79 rfl rfl ?_
  refine z_iloadn dX12_clause_80 rfl ?_
  refine z_ifeq (tgt := 86) dX12_clause_81 rfl (fun q => ?_) (fun q => ?_)
  · replace h := h.1 q
    refine z_aloadn dX12_clause_86 rfl (Or.inl rfl) ?_
    refine y_getr (v := 240) hG dX12_clause_87 fX12_32 sh234 (by decide) rfl (by decide +kernel) (by decide) ?_
    refine z_aloadn dX12_clause_90 rfl (Or.inl rfl) ?_
    refine y_getf (x := (M 234 16)) dX12_clause_91 fX12_288 sh234 (by decide) rfl rfl ?_
    refine z_bipush dX12_clause_94 kb_7 ?_
    obtain ⟨q1, h⟩ := h
    refine z_iadd dX12_clause_96 q1 ?_
    refine z_aloadn dX12_clause_97 rfl (Or.inl rfl) ?_
    refine y_getf (x := (M 234 15)) dX12_clause_98 fX12_206 sh234 (by decide) rfl rfl ?_
    obtain ⟨q2, h⟩ := h
    refine y_iast hG dX12_clause_101 sh240 q2 ?_
    refine z_aloadn dX12_clause_102 rfl (Or.inl rfl) ?_
    refine y_getr (v := 240) hG dX12_clause_103 fX12_32 sh234 (by decide) rfl (by decide +kernel) (by decide) ?_
    refine z_aloadn dX12_clause_106 rfl (Or.inl rfl) ?_
    refine y_getf (x := (M 234 16)) dX12_clause_107 fX12_288 sh234 (by decide) rfl (zset_ne (fun q => absurd q.1 (by decide))) ?_
    refine z_bipush dX12_clause_110 kb_8 ?_
    obtain ⟨q3, h⟩ := h
    refine z_iadd dX12_clause_112 q3 ?_
    refine z_aloadn dX12_clause_113 rfl (Or.inl rfl) ?_
    refine y_getf (x := (M 234 23)) dX12_clause_114 fX12_239 sh234 (by decide) rfl (zset_ne (fun q => absurd q.1 (by decide))) ?_
    obtain ⟨q4, h⟩ := h
    refine y_iast hG dX12_clause_117 sh240 q4 ?_
    refine z_aloadn dX12_clause_118 rfl (Or.inl rfl) ?_
    refine y_getr (v := 240) hG dX12_clause_119 fX12_32 sh234 (by decide) rfl (by decide +kernel) (by decide) ?_
    refine z_aloadn dX12_clause_122 rfl (Or.inl rfl) ?_
    refine y_getf (x := (M 234 16)) dX12_clause_123 fX12_288 sh234 (by decide) rfl (((zset_ne (fun q => absurd q.1 (by decide))).trans (zset_ne (fun q => absurd q.1 (by decide))))) ?_
    refine z_bipush dX12_clause_126 kb_9 ?_
    obtain ⟨q5, h⟩ := h
    refine z_iadd dX12_clause_128 q5 ?_
    refine z_aloadn dX12_clause_129 rfl (Or.inl rfl) ?_
    refine y_getf (x := (M 234 24)) dX12_clause_130 fX12_223 sh234 (by decide) rfl (((zset_ne (fun q => absurd q.1 (by decide))).trans (zset_ne (fun q => absurd q.1 (by decide))))) ?_
    obtain ⟨q6, h⟩ := h
    refine y_iast hG dX12_clause_133 sh240 q6 ?_
    refine z_aloadn dX12_clause_134 rfl (Or.inl rfl) ?_
    refine y_getr (v := 240) hG dX12_clause_135 fX12_32 sh234 (by decide) rfl (by decide +kernel) (by decide) ?_
    refine z_aloadn dX12_clause_138 rfl (Or.inl rfl) ?_
    refine y_getf (x := (M 234 16)) dX12_clause_139 fX12_288 sh234 (by decide) rfl (((zset_ne (fun q => absurd q.1 (by decide))).trans (((zset_ne (fun q => absurd q.1 (by decide))).trans (zset_ne (fun q => absurd q.1 (by decide))))))) ?_
    refine z_bipush dX12_clause_142 kb_10 ?_
    obtain ⟨q7, h⟩ := h
    refine z_iadd dX12_clause_144 q7 ?_
    refine z_aloadn dX12_clause_145 rfl (Or.inl rfl) ?_
    refine y_getf (x := (M 234 25)) dX12_clause_146 fX12_233 sh234 (by decide) rfl (((zset_ne (fun q => absurd q.1 (by decide))).trans (((zset_ne (fun q => absurd q.1 (by decide))).trans (zset_ne (fun q => absurd q.1 (by decide))))))) ?_
    obtain ⟨q8, h⟩ := h
    refine y_iast hG dX12_clause_149 sh240 q8 ?_
    refine z_aloadn dX12_clause_150 rfl (Or.inl rfl) ?_
    refine y_getr (v := 240) hG dX12_clause_151 fX12_32 sh234 (by decide) rfl (by decide +kernel) (by decide) ?_
    refine z_aloadn dX12_clause_154 rfl (Or.inl rfl) ?_
    refine y_getf (x := (M 234 16)) dX12_clause_155 fX12_288 sh234 (by decide) rfl (((zset_ne (fun q => absurd q.1 (by decide))).trans (((zset_ne (fun q => absurd q.1 (by decide))).trans (((zset_ne (fun q => absurd q.1 (by decide))).trans (zset_ne (fun q => absurd q.1 (by decide))))))))) ?_
    refine z_bipush dX12_clause_158 kb_11 ?_
    obtain ⟨q9, h⟩ := h
    refine z_iadd dX12_clause_160 q9 ?_
    refine z_aloadn dX12_clause_161 rfl (Or.inl rfl) ?_
    refine y_getf (x := (M 234 26)) dX12_clause_162 fX12_242 sh234 (by decide) rfl (((zset_ne (fun q => absurd q.1 (by decide))).trans (((zset_ne (fun q => absurd q.1 (by decide))).trans (((zset_ne (fun q => absurd q.1 (by decide))).trans (zset_ne (fun q => absurd q.1 (by decide))))))))) ?_
    obtain ⟨q10, h⟩ := h
    refine y_iast hG dX12_clause_165 sh240 q10 ?_
    refine z_aloadn dX12_clause_166 rfl (Or.inl rfl) ?_
    refine y_getr (v := 240) hG dX12_clause_167 fX12_32 sh234 (by decide) rfl (by decide +kernel) (by decide) ?_
    refine z_aloadn dX12_clause_170 rfl (Or.inl rfl) ?_
    refine y_getf (x := (M 234 14)) dX12_clause_171 fX12_203 sh234 (by decide) rfl (((zset_ne (fun q => absurd q.1 (by decide))).trans (((zset_ne (fun q => absurd q.1 (by decide))).trans (((zset_ne (fun q => absurd q.1 (by decide))).trans (((zset_ne (fun q => absurd q.1 (by decide))).trans (zset_ne (fun q => absurd q.1 (by decide))))))))))) ?_
    refine z_dup2 dX12_clause_174 (show (0 : Nat) ≠ 1 by decide) (show (2 : Nat) ≠ 1 by decide) ?_
    obtain ⟨q11, h⟩ := h
    refine y_iald (x := ((zset (zset (zset (zset (zset M 240 ((M 234 16) + 7) (M 234 15)) 240 ((M 234 16) + 8) (M 234 23)) 240 ((M 234 16) + 9) (M 234 24)) 240 ((M 234 16) + 10) (M 234 25)) 240 ((M 234 16) + 11) (M 234 26)) 240 (M 234 14))) dX12_clause_175 sh240 q11 rfl ?_
    refine z_iconst dX12_clause_176 ki_1 ?_
    obtain ⟨q12, h⟩ := h
    refine z_iadd dX12_clause_177 q12 ?_
    obtain ⟨q13, h⟩ := h
    refine y_iast hG dX12_clause_178 sh240 q13 ?_
    refine z_aloadn dX12_clause_179 rfl (Or.inl rfl) ?_
    refine y_getf (x := (M 234 10)) dX12_clause_180 fX12_169 sh234 (by decide) rfl (((zset_ne (fun q => absurd q.1 (by decide))).trans (((zset_ne (fun q => absurd q.1 (by decide))).trans (((zset_ne (fun q => absurd q.1 (by decide))).trans (((zset_ne (fun q => absurd q.1 (by decide))).trans (((zset_ne (fun q => absurd q.1 (by decide))).trans (zset_ne (fun q => absurd q.1 (by decide))))))))))))) ?_
    refine z_bipush dX12_clause_183 kb_59 ?_
    refine z_icmpeq (tgt := 190) dX12_clause_185 rfl (fun q => ?_) (fun q => ?_)
    · replace h := h.1 q
      refine z_aloadn dX12_clause_190 rfl (Or.inl rfl) ?_
      refine y_cv (mt2 := mX12_nextToken) (en := [(2, 234), (9, 0)]) (st := []) (as := []) dX12_clause_191 lX12_230 kX12_nextToken iX12_nextToken eX12_nextToken rfl sh234 (by decide +kernel) (Nat.le_of_ble_eq_true rfl) (Nat.le_of_ble_eq_true rfl) rfl ?_
      exact h
    · replace h := h.2 q
      refine z_iconst dX12_clause_188 ki_1 ?_
      exact z_ireturn dX12_clause_189 (Or.inl rfl) rfl h
  · replace h := h.2 q
    refine z_iloadn dX12_clause_84 rfl ?_
    exact z_ireturn dX12_clause_85 (Or.inl rfl) rfl h
set_option maxRecDepth 20000 in
set_option maxHeartbeats 4000000 in
theorem bX12_clause_194 {G : zG} {d : Nat} {M : zM} {Q : zV → zM → Prop} (hG : zP G) {x1 x2 x3 : Int}
    (h : Q (0, 0) M) :
    Y G (d + 1) mX12_clause 194 [(2, 234), (0, x1), (0, x2), (0, x3)] [] M Q := by
  refine z_iconst dX12_clause_194 ki_0 ?_
  exact z_ireturn dX12_clause_195 (Or.inl rfl) rfl h
set_option maxRecDepth 20000 in
set_option maxHeartbeats 4000000 in
theorem bX12_readText_0 {G : zG} {d : Nat} {M : zM} {Q : zV → zM → Prop} (hG : zP G)
    (h : (-2147483648 ≤ 889 * (M 235 6) ∧ 889 * (M 235 6) ≤ 2147483647) ∧ (0 ≤ (889 * (M 235 6)) ∧ (889 * (M 235 6)) < 3556) ∧ Y G d mX12_nextToken 0 [(2, 234), (9, 0)] [] (zset (zset (zset (zset M 234 14 (889 * (M 235 6))) 240 (889 * (M 235 6)) 0) 234 15 0) 234 8 0) (fun r M' => Y G (d + 1) mX12_readText 39 [(2, 234), (9, 0)] (zpush r []) M' Q)) :
    Y G (d + 1) mX12_readText 0 [(2, 234), (9, 0)] [] M Q := by
  refine z_aloadn dX12_readText_0 rfl (Or.inl rfl) ?_
  refine z_sipush dX12_readText_1 ks_889 ?_
  refine z_aloadn dX12_readText_4 rfl (Or.inl rfl) ?_
  refine y_getr (v := 235) hG dX12_readText_5 fX12_7 sh234 (by decide) rfl (by decide +kernel) (by decide) ?_
  refine z_bipush dX12_readText_8 kb_6 ?_
  refine y_iald (x := (M 235 6)) dX12_readText_10 sh235 ⟨by decide, by decide⟩ rfl ?_
  obtain ⟨q1, h⟩ := h
  refine z_imul dX12_readText_11 q1 ?_
  refine y_putf (M' := zset M 234 14 (889 * (M 235 6))) hG dX12_readText_12 fX12_203 sh234 (by decide) ⟨rfl, rfl⟩ p12_14 (fun q => absurd q (by decide)) (by decide) rfl ?_
  refine z_aloadn dX12_readText_15 rfl (Or.inl rfl) ?_
  refine y_getr (v := 240) hG dX12_readText_16 fX12_32 sh234 (by decide) rfl (by decide +kernel) (by decide) ?_
  refine z_aloadn dX12_readText_19 rfl (Or.inl rfl) ?_
  refine y_getf (x := (889 * (M 235 6))) dX12_readText_20 fX12_203 sh234 (by decide) rfl zset_same ?_
  refine z_iconst dX12_readText_23 ki_0 ?_
  obtain ⟨q2, h⟩ := h
  refine y_iast hG dX12_readText_24 sh240 q2 ?_
  refine z_aloadn dX12_readText_25 rfl (Or.inl rfl) ?_
  refine z_iconst dX12_readText_26 ki_0 ?_
  refine y_putf (M' := zset (zset (zset M 234 14 (889 * (M 235 6))) 240 (889 * (M 235 6)) 0) 234 15 0) hG dX12_readText_27 fX12_206 sh234 (by decide) ⟨rfl, rfl⟩ p12_15 (fun q => absurd q (by decide)) (by decide) rfl ?_
  refine z_aloadn dX12_readText_30 rfl (Or.inl rfl) ?_
  refine z_iconst dX12_readText_31 ki_0 ?_
  refine y_putf (M' := zset (zset (zset (zset M 234 14 (889 * (M 235 6))) 240 (889 * (M 235 6)) 0) 234 15 0) 234 8 0) hG dX12_readText_32 fX12_160 sh234 (by decide) ⟨rfl, rfl⟩ p12_8 (fun q => absurd q (by decide)) (by decide) rfl ?_
  refine z_aloadn dX12_readText_35 rfl (Or.inl rfl) ?_
  refine y_cv (mt2 := mX12_nextToken) (en := [(2, 234), (9, 0)]) (st := []) (as := []) dX12_readText_36 lX12_230 kX12_nextToken iX12_nextToken eX12_nextToken rfl sh234 (by decide +kernel) (Nat.le_of_ble_eq_true rfl) (Nat.le_of_ble_eq_true rfl) rfl ?_
  exact h
set_option maxRecDepth 20000 in
set_option maxHeartbeats 4000000 in
theorem bX12_readText_39 {G : zG} {d : Nat} {M : zM} {Q : zV → zM → Prop} (hG : zP G)
    (h : (((M 234 10) = 0 → Q (0, 0) M) ∧ (¬ (M 234 10) = 0 → Y G d mX12_clause 0 [(2, 234), (9, 0), (9, 0), (9, 0)] [] M (fun r M' => Y G (d + 1) mX12_readText 50 [(2, 234), (9, 0)] (zpush r []) M' Q)))) :
    Y G (d + 1) mX12_readText 39 [(2, 234), (9, 0)] [] M Q := by
  refine z_aloadn dX12_readText_39 rfl (Or.inl rfl) ?_
  refine y_getf (x := (M 234 10)) dX12_readText_40 fX12_169 sh234 (by decide) rfl rfl ?_
  refine z_ifeq (tgt := 60) dX12_readText_43 rfl (fun q => ?_) (fun q => ?_)
  · replace h := h.1 q
    refine z_iconst dX12_readText_60 ki_0 ?_
    exact z_ireturn dX12_readText_61 (Or.inl rfl) rfl h
  · replace h := h.2 q
    refine z_aloadn dX12_readText_46 rfl (Or.inl rfl) ?_
    refine y_cv (mt2 := mX12_clause) (en := [(2, 234), (9, 0), (9, 0), (9, 0)]) (st := []) (as := []) dX12_readText_47 lX12_330 kX12_clause iX12_clause eX12_clause rfl sh234 (by decide +kernel) (Nat.le_of_ble_eq_true rfl) (Nat.le_of_ble_eq_true rfl) rfl ?_
    exact h
set_option maxRecDepth 20000 in
set_option maxHeartbeats 4000000 in
theorem bX12_readText_50 {G : zG} {d : Nat} {M : zM} {Q : zV → zM → Prop} (hG : zP G) {x49 : Int}
    (h : ((x49 = 0 → Y G (d + 1) mX12_readText 39 [(2, 234), (9, 0)] [] M Q) ∧ (¬ x49 = 0 → Q (0, x49) M))) :
    Y G (d + 1) mX12_readText 50 [(2, 234), (9, 0)] [(0, x49)] M Q := by
  refine y_istoren (ls' := [(2, 234), (0, x49)]) dX12_readText_50 rfl rfl ?_
  refine z_iloadn dX12_readText_51 rfl ?_
  refine z_ifeq (tgt := 57) dX12_readText_52 rfl (fun q => ?_) (fun q => ?_)
  · replace h := h.1 q
    refine z_goto (tgt := 39) dX12_readText_57 rfl ?_
    refine z_sub (ls' := [(2, 234), (9, 0)]) ⟨Or.inl rfl, Or.inr rfl, trivial⟩ ?_
    exact h
  · replace h := h.2 q
    refine z_iloadn dX12_readText_55 rfl ?_
    exact z_ireturn dX12_readText_56 (Or.inl rfl) rfl h
set_option maxRecDepth 20000 in
set_option maxHeartbeats 4000000 in
theorem bX12_text_0 {G : zG} {d : Nat} {M : zM} {Q : zV → zM → Prop} (hG : zP G)
    (h : ((¬ (M 235 6) = 4 → Y G d mX12_readText 0 [(2, 234), (9, 0)] [] M (fun r M' => Y G (d + 1) mX12_text 18 [(2, 234)] (zpush r [(2, 234)]) M' Q)) ∧ ((M 235 6) = 4 → Q (0, (-1)) M))) :
    Y G (d + 1) mX12_text 0 [(2, 234)] [] M Q := by
  refine z_aloadn dX12_text_0 rfl (Or.inl rfl) ?_
  refine y_getr (v := 235) hG dX12_text_1 fX12_7 sh234 (by decide) rfl (by decide +kernel) (by decide) ?_
  refine z_bipush dX12_text_4 kb_6 ?_
  refine y_iald (x := (M 235 6)) dX12_text_6 sh235 ⟨by decide, by decide⟩ rfl ?_
  refine z_iconst dX12_text_7 ki_4 ?_
  refine z_icmpne (tgt := 13) dX12_text_8 rfl (fun q => ?_) (fun q => ?_)
  · replace h := h.1 q
    refine z_aloadn dX12_text_13 rfl (Or.inl rfl) ?_
    refine z_aloadn dX12_text_14 rfl (Or.inl rfl) ?_
    refine y_cv (mt2 := mX12_readText) (en := [(2, 234), (9, 0)]) (st := [(2, 234)]) (as := []) dX12_text_15 lX12_333 kX12_readText iX12_readText eX12_readText rfl sh234 (by decide +kernel) (Nat.le_of_ble_eq_true rfl) (Nat.le_of_ble_eq_true rfl) rfl ?_
    exact h
  · replace h := h.2 q
    refine z_iconst dX12_text_11 ki_m1 ?_
    exact z_ireturn dX12_text_12 (Or.inl rfl) rfl h
set_option maxRecDepth 20000 in
set_option maxHeartbeats 4000000 in
theorem bX12_text_18 {G : zG} {d : Nat} {M : zM} {Q : zV → zM → Prop} (hG : zP G) {x49 : Int}
    (h : ((¬ x49 = 0 → ((x49 = 0 → (-2147483648 ≤ (M 235 6) + 1 ∧ (M 235 6) + 1 ≤ 2147483647) ∧ (-2147483648 ≤ ((M 235 6) + 1) - 1 ∧ ((M 235 6) + 1) - 1 ≤ 2147483647) ∧ Q (0, (((M 235 6) + 1) - 1)) (zset (zset (zset (zset M 234 6 x49) 234 7 (M 234 9)) 234 5 0) 235 6 ((M 235 6) + 1))) ∧ (¬ x49 = 0 → Q (0, (-1)) (zset (zset (zset M 234 6 x49) 234 7 (M 234 9)) 234 5 0)))) ∧ (x49 = 0 → ((x49 = 0 → (-2147483648 ≤ (M 235 6) + 1 ∧ (M 235 6) + 1 ≤ 2147483647) ∧ (-2147483648 ≤ ((M 235 6) + 1) - 1 ∧ ((M 235 6) + 1) - 1 ≤ 2147483647) ∧ Q (0, (((M 235 6) + 1) - 1)) (zset (zset (zset (zset M 234 6 x49) 234 7 (-1)) 234 5 0) 235 6 ((M 235 6) + 1))) ∧ (¬ x49 = 0 → Q (0, (-1)) (zset (zset (zset M 234 6 x49) 234 7 (-1)) 234 5 0)))))) :
    Y G (d + 1) mX12_text 18 [(2, 234)] [(0, x49), (2, 234)] M Q := by
  refine y_putf (M' := zset M 234 6 x49) hG dX12_text_18 fX12_25 sh234 (by decide) ⟨rfl, rfl⟩ p12_6 (fun q => absurd q (by decide)) (by decide) rfl ?_
  refine z_aloadn dX12_text_21 rfl (Or.inl rfl) ?_
  refine z_aloadn dX12_text_22 rfl (Or.inl rfl) ?_
  refine y_getf (x := x49) dX12_text_23 fX12_25 sh234 (by decide) rfl zset_same ?_
  refine z_ifne (tgt := 33) dX12_text_26 rfl (fun q => ?_) (fun q => ?_)
  · replace h := h.1 q
    refine z_aloadn dX12_text_33 rfl (Or.inl rfl) ?_
    refine y_getf (x := (M 234 9)) dX12_text_34 fX12_166 sh234 (by decide) rfl (zset_ne (fun q => absurd q.2 (by decide))) ?_
    refine y_putf (M' := zset (zset M 234 6 x49) 234 7 (M 234 9)) hG dX12_text_37 fX12_29 sh234 (by decide) ⟨rfl, rfl⟩ p12_7 (fun q => absurd q (by decide)) (by decide) rfl ?_
    refine z_aloadn dX12_text_40 rfl (Or.inl rfl) ?_
    refine z_iconst dX12_text_41 ki_0 ?_
    refine y_putf (M' := zset (zset (zset M 234 6 x49) 234 7 (M 234 9)) 234 5 0) hG dX12_text_42 fX12_153 sh234 (by decide) ⟨rfl, rfl⟩ p12_5 (fun q => absurd q (by decide)) (by decide) rfl ?_
    refine z_aloadn dX12_text_45 rfl (Or.inl rfl) ?_
    refine y_getf (x := x49) dX12_text_46 fX12_25 sh234 (by decide) rfl ((zset_ne (fun q => absurd q.2 (by decide))).trans ((zset_ne (fun q => absurd q.2 (by decide))).trans zset_same)) ?_
    refine z_ifeq (tgt := 54) dX12_text_49 rfl (fun q => ?_) (fun q => ?_)
    · replace h := h.1 q
      refine z_aloadn dX12_text_54 rfl (Or.inl rfl) ?_
      refine y_getr (v := 235) hG dX12_text_55 fX12_7 sh234 (by decide) rfl (by decide +kernel) (by decide) ?_
      refine z_bipush dX12_text_58 kb_6 ?_
      refine z_dup2 dX12_text_60 (show (0 : Nat) ≠ 1 by decide) (show (2 : Nat) ≠ 1 by decide) ?_
      refine y_iald (x := (M 235 6)) dX12_text_61 sh235 ⟨by decide, by decide⟩ (((zset_ne (fun q => absurd q.1 (by decide))).trans (((zset_ne (fun q => absurd q.1 (by decide))).trans (zset_ne (fun q => absurd q.1 (by decide))))))) ?_
      refine z_iconst dX12_text_62 ki_1 ?_
      obtain ⟨q1, h⟩ := h
      refine z_iadd dX12_text_63 q1 ?_
      refine y_iast hG dX12_text_64 sh235 ⟨by decide, by decide⟩ ?_
      refine z_aloadn dX12_text_65 rfl (Or.inl rfl) ?_
      refine y_getr (v := 235) hG dX12_text_66 fX12_7 sh234 (by decide) rfl (by decide +kernel) (by decide) ?_
      refine z_bipush dX12_text_69 kb_6 ?_
      refine y_iald (x := ((M 235 6) + 1)) dX12_text_71 sh235 ⟨by decide, by decide⟩ zset_same ?_
      refine z_iconst dX12_text_72 ki_1 ?_
      obtain ⟨q2, h⟩ := h
      refine z_isub dX12_text_73 q2 ?_
      exact z_ireturn dX12_text_74 (Or.inl rfl) rfl h
    · replace h := h.2 q
      refine z_iconst dX12_text_52 ki_m1 ?_
      exact z_ireturn dX12_text_53 (Or.inl rfl) rfl h
  · replace h := h.2 q
    refine z_iconst dX12_text_29 ki_m1 ?_
    refine z_goto (tgt := 37) dX12_text_30 rfl ?_
    refine y_putf (M' := zset (zset M 234 6 x49) 234 7 (-1)) hG dX12_text_37 fX12_29 sh234 (by decide) ⟨rfl, rfl⟩ p12_7 (fun q => absurd q (by decide)) (by decide) rfl ?_
    refine z_aloadn dX12_text_40 rfl (Or.inl rfl) ?_
    refine z_iconst dX12_text_41 ki_0 ?_
    refine y_putf (M' := zset (zset (zset M 234 6 x49) 234 7 (-1)) 234 5 0) hG dX12_text_42 fX12_153 sh234 (by decide) ⟨rfl, rfl⟩ p12_5 (fun q => absurd q (by decide)) (by decide) rfl ?_
    refine z_aloadn dX12_text_45 rfl (Or.inl rfl) ?_
    refine y_getf (x := x49) dX12_text_46 fX12_25 sh234 (by decide) rfl ((zset_ne (fun q => absurd q.2 (by decide))).trans ((zset_ne (fun q => absurd q.2 (by decide))).trans zset_same)) ?_
    refine z_ifeq (tgt := 54) dX12_text_49 rfl (fun q => ?_) (fun q => ?_)
    · replace h := h.1 q
      refine z_aloadn dX12_text_54 rfl (Or.inl rfl) ?_
      refine y_getr (v := 235) hG dX12_text_55 fX12_7 sh234 (by decide) rfl (by decide +kernel) (by decide) ?_
      refine z_bipush dX12_text_58 kb_6 ?_
      refine z_dup2 dX12_text_60 (show (0 : Nat) ≠ 1 by decide) (show (2 : Nat) ≠ 1 by decide) ?_
      refine y_iald (x := (M 235 6)) dX12_text_61 sh235 ⟨by decide, by decide⟩ (((zset_ne (fun q => absurd q.1 (by decide))).trans (((zset_ne (fun q => absurd q.1 (by decide))).trans (zset_ne (fun q => absurd q.1 (by decide))))))) ?_
      refine z_iconst dX12_text_62 ki_1 ?_
      obtain ⟨q3, h⟩ := h
      refine z_iadd dX12_text_63 q3 ?_
      refine y_iast hG dX12_text_64 sh235 ⟨by decide, by decide⟩ ?_
      refine z_aloadn dX12_text_65 rfl (Or.inl rfl) ?_
      refine y_getr (v := 235) hG dX12_text_66 fX12_7 sh234 (by decide) rfl (by decide +kernel) (by decide) ?_
      refine z_bipush dX12_text_69 kb_6 ?_
      refine y_iald (x := ((M 235 6) + 1)) dX12_text_71 sh235 ⟨by decide, by decide⟩ zset_same ?_
      refine z_iconst dX12_text_72 ki_1 ?_
      obtain ⟨q4, h⟩ := h
      refine z_isub dX12_text_73 q4 ?_
      exact z_ireturn dX12_text_74 (Or.inl rfl) rfl h
    · replace h := h.2 q
      refine z_iconst dX12_text_52 ki_m1 ?_
      exact z_ireturn dX12_text_53 (Or.inl rfl) rfl h
set_option maxRecDepth 20000 in
set_option maxHeartbeats 4000000 in
theorem bX12_bits_0 {G : zG} {d : Nat} {M : zM} {Q : zV → zM → Prop} (hG : zP G) {x0 : Int}
    (h : Y G d mX12_bits 4 [(0, x0), (0, 0), (0, 0)] [] M Q) :
    Y G d mX12_bits 0 [(0, x0), (9, 0), (9, 0)] [] M Q := by
  refine z_iconst dX12_bits_0 ki_0 ?_
  refine y_istoren (ls' := [(0, x0), (0, 0), (9, 0)]) dX12_bits_1 rfl rfl ?_
  refine z_iconst dX12_bits_2 ki_0 ?_
  refine y_istoren (ls' := [(0, x0), (0, 0), (0, 0)]) dX12_bits_3 rfl rfl ?_
  exact h
set_option maxRecDepth 20000 in
set_option maxHeartbeats 4000000 in
theorem bX12_bits_4 {G : zG} {d : Nat} {M : zM} {Q : zV → zM → Prop} (hG : zP G) {x0 x1 x2 : Int}
    (h : ((20 ≤ x2 → Q (0, x1) M) ∧ (x2 < 20 → (-2147483648 ≤ x1 + (zand (zshr x0 x2) 1) ∧ x1 + (zand (zshr x0 x2) 1) ≤ 2147483647) ∧ (-2147483648 ≤ x2 + 1 ∧ x2 + 1 ≤ 2147483647) ∧ Y G d mX12_bits 4 [(0, x0), (0, (x1 + (zand (zshr x0 x2) 1))), (0, (x2 + 1))] [] M Q))) :
    Y G d mX12_bits 4 [(0, x0), (0, x1), (0, x2)] [] M Q := by
  refine z_iloadn dX12_bits_4 rfl ?_
  refine z_bipush dX12_bits_5 kb_20 ?_
  refine z_icmpge (tgt := 24) dX12_bits_7 rfl (fun q => ?_) (fun q => ?_)
  · replace h := h.1 q
    refine z_iloadn dX12_bits_24 rfl ?_
    exact z_ireturn dX12_bits_25 (Or.inl rfl) rfl h
  · replace h := h.2 q
    refine z_iloadn dX12_bits_10 rfl ?_
    refine z_iloadn dX12_bits_11 rfl ?_
    refine z_iloadn dX12_bits_12 rfl ?_
    refine z_ishr dX12_bits_13 ?_
    refine z_iconst dX12_bits_14 ki_1 ?_
    refine z_iand dX12_bits_15 ?_
    obtain ⟨q1, h⟩ := h
    refine z_iadd dX12_bits_16 q1 ?_
    refine y_istoren (ls' := [(0, x0), (0, (x1 + (zand (zshr x0 x2) 1))), (0, x2)]) dX12_bits_17 rfl rfl ?_
    obtain ⟨q2, h⟩ := h
    refine y_iinc (ls' := [(0, x0), (0, (x1 + (zand (zshr x0 x2) 1))), (0, (x2 + 1))]) dX12_bits_18 rfl rfl q2 rfl ?_
    refine z_goto (tgt := 4) dX12_bits_21 rfl ?_
    exact h
set_option maxRecDepth 20000 in
set_option maxHeartbeats 4000000 in
theorem bX12_fault_0 {G : zG} {d : Nat} {M : zM} {Q : zV → zM → Prop} (hG : zP G) {x1 : Int}
    (h : ((¬ x1 = 0 → ((¬ x1 = 1 → Q (0, (-1)) M) ∧ (x1 = 1 → Q (0, (M 234 7)) M))) ∧ (x1 = 0 → Q (0, (M 234 6)) M))) :
    Y G d mX12_fault 0 [(2, 234), (0, x1)] [] M Q := by
  refine z_iloadn dX12_fault_0 rfl ?_
  refine z_ifne (tgt := 11) dX12_fault_1 rfl (fun q => ?_) (fun q => ?_)
  · replace h := h.1 q
    refine z_iloadn dX12_fault_11 rfl ?_
    refine z_iconst dX12_fault_12 ki_1 ?_
    refine z_icmpne (tgt := 23) dX12_fault_13 rfl (fun q => ?_) (fun q => ?_)
    · replace h := h.1 q
      refine z_iconst dX12_fault_23 ki_m1 ?_
      exact z_ireturn dX12_fault_24 (Or.inl rfl) rfl h
    · replace h := h.2 q
      refine z_aloadn dX12_fault_16 rfl (Or.inl rfl) ?_
      refine y_getf (x := (M 234 7)) dX12_fault_17 fX12_29 sh234 (by decide) rfl rfl ?_
      refine z_goto (tgt := 24) dX12_fault_20 rfl ?_
      exact z_ireturn dX12_fault_24 (Or.inl rfl) rfl h
  · replace h := h.2 q
    refine z_aloadn dX12_fault_4 rfl (Or.inl rfl) ?_
    refine y_getf (x := (M 234 6)) dX12_fault_5 fX12_25 sh234 (by decide) rfl rfl ?_
    refine z_goto (tgt := 24) dX12_fault_8 rfl ?_
    exact z_ireturn dX12_fault_24 (Or.inl rfl) rfl h
set_option maxRecDepth 20000 in
set_option maxHeartbeats 4000000 in
theorem bX12_askMore_0 {G : zG} {d : Nat} {M : zM} {Q : zV → zM → Prop} (hG : zP G) {x1 x2 : Int}
    (h : ((¬ (M 235 0) = 12 → (-2147483648 ≤ x2 + 7 ∧ x2 + 7 ≤ 2147483647) ∧ (0 ≤ (x2 + 7) ∧ (x2 + 7) < 3556) ∧ (-2147483648 ≤ x2 + 6 ∧ x2 + 6 ≤ 2147483647) ∧ (0 ≤ (x2 + 6) ∧ (x2 + 6) < 3556) ∧ (-2147483648 ≤ (M 240 (x2 + 7)) - (M 240 (x2 + 6)) ∧ (M 240 (x2 + 7)) - (M 240 (x2 + 6)) ≤ 2147483647) ∧ (0 ≤ (M 235 0) ∧ (M 235 0) < 12) ∧ (-2147483648 ≤ 889 * x1 ∧ 889 * x1 ≤ 2147483647) ∧ (-2147483648 ≤ (889 * x1) + 289 ∧ (889 * x1) + 289 ≤ 2147483647) ∧ (-2147483648 ≤ x2 + 6 ∧ x2 + 6 ≤ 2147483647) ∧ (0 ≤ (x2 + 6) ∧ (x2 + 6) < 3556) ∧ (-2147483648 ≤ 2 * (M 240 (x2 + 6)) ∧ 2 * (M 240 (x2 + 6)) ≤ 2147483647) ∧ (-2147483648 ≤ ((889 * x1) + 289) + (2 * (M 240 (x2 + 6))) ∧ ((889 * x1) + 289) + (2 * (M 240 (x2 + 6))) ≤ 2147483647) ∧ Y G d mX12_askMore 71 [(2, 234), (0, x1), (0, x2), (0, (M 235 0)), (0, (((889 * x1) + 289) + (2 * (M 240 (x2 + 6))))), (0, 0)] [] (zset M 246 (M 235 0) ((M 240 (x2 + 7)) - (M 240 (x2 + 6)))) Q) ∧ ((M 235 0) = 12 → Q (0, 0) M))) :
    Y G d mX12_askMore 0 [(2, 234), (0, x1), (0, x2), (9, 0), (9, 0), (9, 0)] [] M Q := by
  refine z_aloadn dX12_askMore_0 rfl (Or.inl rfl) ?_
  refine y_getr (v := 235) hG dX12_askMore_1 fX12_7 sh234 (by decide) rfl (by decide +kernel) (by decide) ?_
  refine z_iconst dX12_askMore_4 ki_0 ?_
  refine y_iald (x := (M 235 0)) dX12_askMore_5 sh235 ⟨by decide, by decide⟩ rfl ?_
  refine z_bipush dX12_askMore_6 kb_12 ?_
  refine z_icmpne (tgt := 13) dX12_askMore_8 rfl (fun q => ?_) (fun q => ?_)
  · replace h := h.1 q
    refine z_aloadn dX12_askMore_13 rfl (Or.inl rfl) ?_
    refine y_getr (v := 235) hG dX12_askMore_14 fX12_7 sh234 (by decide) rfl (by decide +kernel) (by decide) ?_
    refine z_iconst dX12_askMore_17 ki_0 ?_
    refine y_iald (x := (M 235 0)) dX12_askMore_18 sh235 ⟨by decide, by decide⟩ rfl ?_
    refine y_istoren (ls' := [(2, 234), (0, x1), (0, x2), (0, (M 235 0)), (9, 0), (9, 0)]) dX12_askMore_19 rfl rfl ?_
    refine z_aloadn dX12_askMore_20 rfl (Or.inl rfl) ?_
    refine y_getr (v := 246) hG dX12_askMore_21 fX12_50 sh234 (by decide) rfl (by decide +kernel) (by decide) ?_
    refine z_iloadn dX12_askMore_24 rfl ?_
    refine z_aloadn dX12_askMore_25 rfl (Or.inl rfl) ?_
    refine y_getr (v := 240) hG dX12_askMore_26 fX12_32 sh234 (by decide) rfl (by decide +kernel) (by decide) ?_
    refine z_iloadn dX12_askMore_29 rfl ?_
    refine z_bipush dX12_askMore_30 kb_7 ?_
    obtain ⟨q1, h⟩ := h
    refine z_iadd dX12_askMore_32 q1 ?_
    obtain ⟨q2, h⟩ := h
    refine y_iald (x := (M 240 (x2 + 7))) dX12_askMore_33 sh240 q2 rfl ?_
    refine z_aloadn dX12_askMore_34 rfl (Or.inl rfl) ?_
    refine y_getr (v := 240) hG dX12_askMore_35 fX12_32 sh234 (by decide) rfl (by decide +kernel) (by decide) ?_
    refine z_iloadn dX12_askMore_38 rfl ?_
    refine z_bipush dX12_askMore_39 kb_6 ?_
    obtain ⟨q3, h⟩ := h
    refine z_iadd dX12_askMore_41 q3 ?_
    obtain ⟨q4, h⟩ := h
    refine y_iald (x := (M 240 (x2 + 6))) dX12_askMore_42 sh240 q4 rfl ?_
    obtain ⟨q5, h⟩ := h
    refine z_isub dX12_askMore_43 q5 ?_
    obtain ⟨q6, h⟩ := h
    refine y_iast hG dX12_askMore_44 sh246 q6 ?_
    refine z_sipush dX12_askMore_45 ks_889 ?_
    refine z_iloadn dX12_askMore_48 rfl ?_
    obtain ⟨q7, h⟩ := h
    refine z_imul dX12_askMore_49 q7 ?_
    refine z_sipush dX12_askMore_50 ks_289 ?_
    obtain ⟨q8, h⟩ := h
    refine z_iadd dX12_askMore_53 q8 ?_
    refine z_iconst dX12_askMore_54 ki_2 ?_
    refine z_aloadn dX12_askMore_55 rfl (Or.inl rfl) ?_
    refine y_getr (v := 240) hG dX12_askMore_56 fX12_32 sh234 (by decide) rfl (by decide +kernel) (by decide) ?_
    refine z_iloadn dX12_askMore_59 rfl ?_
    refine z_bipush dX12_askMore_60 kb_6 ?_
    obtain ⟨q9, h⟩ := h
    refine z_iadd dX12_askMore_62 q9 ?_
    obtain ⟨q10, h⟩ := h
    refine y_iald (x := (M 240 (x2 + 6))) dX12_askMore_63 sh240 q10 (zset_ne (fun q => absurd q.1 (by decide))) ?_
    obtain ⟨q11, h⟩ := h
    refine z_imul dX12_askMore_64 q11 ?_
    obtain ⟨q12, h⟩ := h
    refine z_iadd dX12_askMore_65 q12 ?_
    refine y_istore (ls' := [(2, 234), (0, x1), (0, x2), (0, (M 235 0)), (0, (((889 * x1) + 289) + (2 * (M 240 (x2 + 6))))), (9, 0)]) dX12_askMore_66 rfl rfl ?_
    refine z_iconst dX12_askMore_68 ki_0 ?_
    refine y_istore (ls' := [(2, 234), (0, x1), (0, x2), (0, (M 235 0)), (0, (((889 * x1) + 289) + (2 * (M 240 (x2 + 6))))), (0, 0)]) dX12_askMore_69 rfl rfl ?_
    exact h
  · replace h := h.2 q
    refine z_iconst dX12_askMore_11 ki_0 ?_
    exact z_ireturn dX12_askMore_12 (Or.inr ⟨rfl, ⟨by decide, by decide⟩⟩) rfl h
set_option maxRecDepth 20000 in
set_option maxHeartbeats 4000000 in
theorem bX12_askMore_71 {G : zG} {d : Nat} {M : zM} {Q : zV → zM → Prop} (hG : zP G) {x1 x2 x3 x4 x5 : Int}
    (h : (0 ≤ x3 ∧ x3 < 12) ∧ (-2147483648 ≤ 2 * (M 246 x3) ∧ 2 * (M 246 x3) ≤ 2147483647) ∧ (((2 * (M 246 x3)) ≤ x5 → Y G d mX12_askMore 116 [(2, 234), (0, x1), (0, x2), (0, x3), (0, x4), (0, 0)] [] M Q) ∧ (x5 < (2 * (M 246 x3)) → (-2147483648 ≤ 240 * x3 ∧ 240 * x3 ≤ 2147483647) ∧ (-2147483648 ≤ (240 * x3) + x5 ∧ (240 * x3) + x5 ≤ 2147483647) ∧ (-2147483648 ≤ x4 + x5 ∧ x4 + x5 ≤ 2147483647) ∧ (0 ≤ (x4 + x5) ∧ (x4 + x5) < 3556) ∧ (0 ≤ ((240 * x3) + x5) ∧ ((240 * x3) + x5) < 2880) ∧ (-2147483648 ≤ x5 + 1 ∧ x5 + 1 ≤ 2147483647) ∧ Y G d mX12_askMore 71 [(2, 234), (0, x1), (0, x2), (0, x3), (0, x4), (0, (x5 + 1))] [] (zset M 247 ((240 * x3) + x5) (M 240 (x4 + x5))) Q))) :
    Y G d mX12_askMore 71 [(2, 234), (0, x1), (0, x2), (0, x3), (0, x4), (0, x5)] [] M Q := by
  refine z_iload dX12_askMore_71 rfl ?_
  refine z_iconst dX12_askMore_73 ki_2 ?_
  refine z_aloadn dX12_askMore_74 rfl (Or.inl rfl) ?_
  refine y_getr (v := 246) hG dX12_askMore_75 fX12_50 sh234 (by decide) rfl (by decide +kernel) (by decide) ?_
  refine z_iloadn dX12_askMore_78 rfl ?_
  obtain ⟨q1, h⟩ := h
  refine y_iald (x := (M 246 x3)) dX12_askMore_79 sh246 q1 rfl ?_
  obtain ⟨q2, h⟩ := h
  refine z_imul dX12_askMore_80 q2 ?_
  refine z_icmpge (tgt := 113) dX12_askMore_81 rfl (fun q => ?_) (fun q => ?_)
  · replace h := h.1 q
    refine z_iconst dX12_askMore_113 ki_0 ?_
    refine y_istore (ls' := [(2, 234), (0, x1), (0, x2), (0, x3), (0, x4), (0, 0)]) dX12_askMore_114 rfl rfl ?_
    exact h
  · replace h := h.2 q
    refine z_aloadn dX12_askMore_84 rfl (Or.inl rfl) ?_
    refine y_getr (v := 247) hG dX12_askMore_85 fX12_53 sh234 (by decide) rfl (by decide +kernel) (by decide) ?_
    refine z_sipush dX12_askMore_88 ks_240 ?_
    refine z_iloadn dX12_askMore_91 rfl ?_
    obtain ⟨q3, h⟩ := h
    refine z_imul dX12_askMore_92 q3 ?_
    refine z_iload dX12_askMore_93 rfl ?_
    obtain ⟨q4, h⟩ := h
    refine z_iadd dX12_askMore_95 q4 ?_
    refine z_aloadn dX12_askMore_96 rfl (Or.inl rfl) ?_
    refine y_getr (v := 240) hG dX12_askMore_97 fX12_32 sh234 (by decide) rfl (by decide +kernel) (by decide) ?_
    refine z_iload dX12_askMore_100 rfl ?_
    refine z_iload dX12_askMore_102 rfl ?_
    obtain ⟨q5, h⟩ := h
    refine z_iadd dX12_askMore_104 q5 ?_
    obtain ⟨q6, h⟩ := h
    refine y_iald (x := (M 240 (x4 + x5))) dX12_askMore_105 sh240 q6 rfl ?_
    obtain ⟨q7, h⟩ := h
    refine y_iast hG dX12_askMore_106 sh247 q7 ?_
    obtain ⟨q8, h⟩ := h
    refine y_iinc (ls' := [(2, 234), (0, x1), (0, x2), (0, x3), (0, x4), (0, (x5 + 1))]) dX12_askMore_107 rfl rfl q8 rfl ?_
    refine z_goto (tgt := 71) dX12_askMore_110 rfl ?_
    exact h
set_option maxRecDepth 20000 in
set_option maxHeartbeats 4000000 in
theorem bX12_askMore_116 {G : zG} {d : Nat} {M : zM} {Q : zV → zM → Prop} (hG : zP G) {x1 x2 x3 x4 x5 : Int}
    (h : ((4 ≤ x5 → (-2147483648 ≤ (M 235 0) + 1 ∧ (M 235 0) + 1 ≤ 2147483647) ∧ Q (0, 1) (zset M 235 0 ((M 235 0) + 1))) ∧ (x5 < 4 → (-2147483648 ≤ 4 * x3 ∧ 4 * x3 ≤ 2147483647) ∧ (-2147483648 ≤ (4 * x3) + x5 ∧ (4 * x3) + x5 ≤ 2147483647) ∧ (-2147483648 ≤ x2 + 8 ∧ x2 + 8 ≤ 2147483647) ∧ (-2147483648 ≤ (x2 + 8) + x5 ∧ (x2 + 8) + x5 ≤ 2147483647) ∧ (0 ≤ ((x2 + 8) + x5) ∧ ((x2 + 8) + x5) < 3556) ∧ (0 ≤ ((4 * x3) + x5) ∧ ((4 * x3) + x5) < 48) ∧ (-2147483648 ≤ x5 + 1 ∧ x5 + 1 ≤ 2147483647) ∧ Y G d mX12_askMore 116 [(2, 234), (0, x1), (0, x2), (0, x3), (0, x4), (0, (x5 + 1))] [] (zset M 248 ((4 * x3) + x5) (M 240 ((x2 + 8) + x5))) Q))) :
    Y G d mX12_askMore 116 [(2, 234), (0, x1), (0, x2), (0, x3), (0, x4), (0, x5)] [] M Q := by
  refine z_iload dX12_askMore_116 rfl ?_
  refine z_iconst dX12_askMore_118 ki_4 ?_
  refine z_icmpge (tgt := 151) dX12_askMore_119 rfl (fun q => ?_) (fun q => ?_)
  · replace h := h.1 q
    refine z_aloadn dX12_askMore_151 rfl (Or.inl rfl) ?_
    refine y_getr (v := 235) hG dX12_askMore_152 fX12_7 sh234 (by decide) rfl (by decide +kernel) (by decide) ?_
    refine z_iconst dX12_askMore_155 ki_0 ?_
    refine z_dup2 dX12_askMore_156 (show (0 : Nat) ≠ 1 by decide) (show (2 : Nat) ≠ 1 by decide) ?_
    refine y_iald (x := (M 235 0)) dX12_askMore_157 sh235 ⟨by decide, by decide⟩ rfl ?_
    refine z_iconst dX12_askMore_158 ki_1 ?_
    obtain ⟨q1, h⟩ := h
    refine z_iadd dX12_askMore_159 q1 ?_
    refine y_iast hG dX12_askMore_160 sh235 ⟨by decide, by decide⟩ ?_
    refine z_iconst dX12_askMore_161 ki_1 ?_
    exact z_ireturn dX12_askMore_162 (Or.inr ⟨rfl, ⟨by decide, by decide⟩⟩) rfl h
  · replace h := h.2 q
    refine z_aloadn dX12_askMore_122 rfl (Or.inl rfl) ?_
    refine y_getr (v := 248) hG dX12_askMore_123 fX12_56 sh234 (by decide) rfl (by decide +kernel) (by decide) ?_
    refine z_iconst dX12_askMore_126 ki_4 ?_
    refine z_iloadn dX12_askMore_127 rfl ?_
    obtain ⟨q2, h⟩ := h
    refine z_imul dX12_askMore_128 q2 ?_
    refine z_iload dX12_askMore_129 rfl ?_
    obtain ⟨q3, h⟩ := h
    refine z_iadd dX12_askMore_131 q3 ?_
    refine z_aloadn dX12_askMore_132 rfl (Or.inl rfl) ?_
    refine y_getr (v := 240) hG dX12_askMore_133 fX12_32 sh234 (by decide) rfl (by decide +kernel) (by decide) ?_
    refine z_iloadn dX12_askMore_136 rfl ?_
    refine z_bipush dX12_askMore_137 kb_8 ?_
    obtain ⟨q4, h⟩ := h
    refine z_iadd dX12_askMore_139 q4 ?_
    refine z_iload dX12_askMore_140 rfl ?_
    obtain ⟨q5, h⟩ := h
    refine z_iadd dX12_askMore_142 q5 ?_
    obtain ⟨q6, h⟩ := h
    refine y_iald (x := (M 240 ((x2 + 8) + x5))) dX12_askMore_143 sh240 q6 rfl ?_
    obtain ⟨q7, h⟩ := h
    refine y_iast hG dX12_askMore_144 sh248 q7 ?_
    obtain ⟨q8, h⟩ := h
    refine y_iinc (ls' := [(2, 234), (0, x1), (0, x2), (0, x3), (0, x4), (0, (x5 + 1))]) dX12_askMore_145 rfl rfl q8 rfl ?_
    refine z_goto (tgt := 116) dX12_askMore_148 rfl ?_
    exact h
set_option maxRecDepth 20000 in
set_option maxHeartbeats 4000000 in
theorem bX12_isPlayed_0 {G : zG} {d : Nat} {M : zM} {Q : zV → zM → Prop} (hG : zP G) {x1 x2 : Int}
    (h : (0 ≤ x2 ∧ x2 < 3556) ∧ ((((M 240 x2) = 0) → Y G d mX12_askMore 0 [(2, 234), (0, x1), (0, x2), (9, 0), (9, 0), (9, 0)] [] M (fun r M' => Y G (d + 1) mX12_isPlayed 58 [(2, 234), (0, x1), (0, x2)] (zpush r []) M' Q)) ∧ (((M 240 x2) = 1) → (-2147483648 ≤ x2 + 1 ∧ x2 + 1 ≤ 2147483647) ∧ (0 ≤ (x2 + 1) ∧ (x2 + 1) < 3556) ∧ (-2147483648 ≤ x2 + 2 ∧ x2 + 2 ≤ 2147483647) ∧ (0 ≤ (x2 + 2) ∧ (x2 + 2) < 3556) ∧ Y G d mX12_thing 0 [(2, 234), (0, (M 240 (x2 + 1))), (0, (M 240 (x2 + 2)))] [] M (fun r M' => Y G (d + 1) mX12_isPlayed 79 [(2, 234), (0, x1), (0, x2)] (zpush r []) M' Q)) ∧ (((M 240 x2) = 2) → (-2147483648 ≤ x2 + 1 ∧ x2 + 1 ≤ 2147483647) ∧ (0 ≤ (x2 + 1) ∧ (x2 + 1) < 3556) ∧ (-2147483648 ≤ x2 + 2 ∧ x2 + 2 ≤ 2147483647) ∧ (0 ≤ (x2 + 2) ∧ (x2 + 2) < 3556) ∧ (-2147483648 ≤ x2 + 3 ∧ x2 + 3 ≤ 2147483647) ∧ (0 ≤ (x2 + 3) ∧ (x2 + 3) < 3556) ∧ Y G d mX12_person 0 [(2, 234), (0, (M 240 (x2 + 1))), (0, (M 240 (x2 + 2))), (0, (M 240 (x2 + 3))), (9, 0)] [] M (fun r M' => Y G (d + 1) mX12_isPlayed 108 [(2, 234), (0, x1), (0, x2)] (zpush r []) M' Q)) ∧ (((M 240 x2) = 3) → (-2147483648 ≤ x2 + 1 ∧ x2 + 1 ≤ 2147483647) ∧ (0 ≤ (x2 + 1) ∧ (x2 + 1) < 3556) ∧ (-2147483648 ≤ x2 + 2 ∧ x2 + 2 ≤ 2147483647) ∧ (0 ≤ (x2 + 2) ∧ (x2 + 2) < 3556) ∧ (-2147483648 ≤ x2 + 3 ∧ x2 + 3 ≤ 2147483647) ∧ (0 ≤ (x2 + 3) ∧ (x2 + 3) < 3556) ∧ Y G d mX12_road 0 [(2, 234), (0, (M 240 (x2 + 1))), (0, (M 240 (x2 + 2))), (0, (M 240 (x2 + 3)))] [] M (fun r M' => Y G (d + 1) mX12_isPlayed 145 [(2, 234), (0, x1), (0, x2)] (zpush r []) M' Q)) ∧ (((M 240 x2) = 4) → (-2147483648 ≤ x2 + 1 ∧ x2 + 1 ≤ 2147483647) ∧ (0 ≤ (x2 + 1) ∧ (x2 + 1) < 3556) ∧ Y G d mX12_equalities 0 [(2, 234), (0, (M 240 (x2 + 1)))] [] M (fun r M' => Y G (d + 1) mX12_isPlayed 158 [(2, 234), (0, x1), (0, x2)] (zpush r []) M' Q)) ∧ (((M 240 x2) = 5) → (-2147483648 ≤ x2 + 1 ∧ x2 + 1 ≤ 2147483647) ∧ (0 ≤ (x2 + 1) ∧ (x2 + 1) < 3556) ∧ (-2147483648 ≤ x2 + 2 ∧ x2 + 2 ≤ 2147483647) ∧ (0 ≤ (x2 + 2) ∧ (x2 + 2) < 3556) ∧ (-2147483648 ≤ x2 + 3 ∧ x2 + 3 ≤ 2147483647) ∧ (0 ≤ (x2 + 3) ∧ (x2 + 3) < 3556) ∧ (-2147483648 ≤ x2 + 4 ∧ x2 + 4 ≤ 2147483647) ∧ (0 ≤ (x2 + 4) ∧ (x2 + 4) < 3556) ∧ (-2147483648 ≤ x2 + 5 ∧ x2 + 5 ≤ 2147483647) ∧ (0 ≤ (x2 + 5) ∧ (x2 + 5) < 3556) ∧ Y G d mX12_pupil 0 [(2, 234), (0, (M 240 (x2 + 1))), (0, (M 240 (x2 + 2))), (0, (M 240 (x2 + 3))), (0, (M 240 (x2 + 4))), (0, (M 240 (x2 + 5))), (9, 0)] [] M (fun r M' => Y G (d + 1) mX12_isPlayed 203 [(2, 234), (0, x1), (0, x2)] (zpush r []) M' Q)) ∧ (((M 240 x2) = 6) → (-2147483648 ≤ x2 + 1 ∧ x2 + 1 ≤ 2147483647) ∧ (0 ≤ (x2 + 1) ∧ (x2 + 1) < 3556) ∧ Y G d mX12_answer 0 [(2, 234), (0, (M 240 (x2 + 1)))] [] M (fun r M' => Y G (d + 1) mX12_isPlayed 224 [(2, 234), (0, x1), (0, x2)] (zpush r []) M' Q)) ∧ (((M 240 x2) = 7) → (-2147483648 ≤ x2 + 1 ∧ x2 + 1 ≤ 2147483647) ∧ (0 ≤ (x2 + 1) ∧ (x2 + 1) < 3556) ∧ (-2147483648 ≤ x2 + 2 ∧ x2 + 2 ≤ 2147483647) ∧ (0 ≤ (x2 + 2) ∧ (x2 + 2) < 3556) ∧ Y G d mX12_ask 0 [(2, 234), (0, (M 240 (x2 + 1))), (0, (M 240 (x2 + 2)))] [] M (fun r M' => Y G (d + 1) mX12_isPlayed 245 [(2, 234), (0, x1), (0, x2)] (zpush r []) M' Q)) ∧ (((M 240 x2) < 0 ∨ 7 < (M 240 x2)) → Y G d mX12_morning 0 [(2, 234), (0, (-1)), (9, 0), (9, 0), (9, 0), (9, 0)] [] M (fun r M' => Y G (d + 1) mX12_isPlayed 259 [(2, 234), (0, x1), (0, x2)] (zpush r []) M' Q)))) :
    Y G (d + 1) mX12_isPlayed 0 [(2, 234), (0, x1), (0, x2)] [] M Q := by
  refine z_aloadn dX12_isPlayed_0 rfl (Or.inl rfl) ?_
  refine y_getr (v := 240) hG dX12_isPlayed_1 fX12_32 sh234 (by decide) rfl (by decide +kernel) (by decide) ?_
  refine z_iloadn dX12_isPlayed_4 rfl ?_
  obtain ⟨q1, h⟩ := h
  refine y_iald (x := (M 240 x2)) dX12_isPlayed_5 sh240 q1 rfl ?_
  rcases (show (M 240 x2) < 0 ∨ 7 < (M 240 x2) ∨ (M 240 x2) = 0 ∨ (M 240 x2) = 1 ∨ (M 240 x2) = 2 ∨ (M 240 x2) = 3 ∨ (M 240 x2) = 4 ∨ (M 240 x2) = 5 ∨ (M 240 x2) = 6 ∨ (M 240 x2) = 7 by omega) with q | q | q | q | q | q | q | q | q | q
  · replace h := h.2.2.2.2.2.2.2.2 (Or.inl q)
    refine z_tswOut (tgt := 254) dX12_isPlayed_6 (Or.inl q) rfl ?_
    refine z_aloadn dX12_isPlayed_254 rfl (Or.inl rfl) ?_
    refine z_iconst dX12_isPlayed_255 ki_m1 ?_
    refine y_cv (mt2 := mX12_morning) (en := [(2, 234), (0, (-1)), (9, 0), (9, 0), (9, 0), (9, 0)]) (st := []) (as := [(0, (-1))]) dX12_isPlayed_256 lX12_361 kX12_morning iX12_morning eX12_morning rfl sh234 (by decide +kernel) (Nat.le_of_ble_eq_true rfl) (Nat.le_of_ble_eq_true rfl) rfl ?_
    exact h
  · replace h := h.2.2.2.2.2.2.2.2 (Or.inr q)
    refine z_tswOut (tgt := 254) dX12_isPlayed_6 (Or.inr q) rfl ?_
    refine z_aloadn dX12_isPlayed_254 rfl (Or.inl rfl) ?_
    refine z_iconst dX12_isPlayed_255 ki_m1 ?_
    refine y_cv (mt2 := mX12_morning) (en := [(2, 234), (0, (-1)), (9, 0), (9, 0), (9, 0), (9, 0)]) (st := []) (as := [(0, (-1))]) dX12_isPlayed_256 lX12_361 kX12_morning iX12_morning eX12_morning rfl sh234 (by decide +kernel) (Nat.le_of_ble_eq_true rfl) (Nat.le_of_ble_eq_true rfl) rfl ?_
    exact h
  · replace h := h.1 q
    refine y_tsw (tgt := 52) (k := 0) dX12_isPlayed_6 q (by decide) rfl rfl ?_
    refine z_aloadn dX12_isPlayed_52 rfl (Or.inl rfl) ?_
    refine z_iloadn dX12_isPlayed_53 rfl ?_
    refine z_iloadn dX12_isPlayed_54 rfl ?_
    refine y_cv (mt2 := mX12_askMore) (en := [(2, 234), (0, x1), (0, x2), (9, 0), (9, 0), (9, 0)]) (st := []) (as := [(0, x1), (0, x2)]) dX12_isPlayed_55 lX12_336 kX12_askMore iX12_askMore eX12_askMore rfl sh234 (by decide +kernel) (Nat.le_of_ble_eq_true rfl) (Nat.le_of_ble_eq_true rfl) rfl ?_
    exact h
  · replace h := h.2.1 q
    refine y_tsw (tgt := 59) (k := 1) dX12_isPlayed_6 q (by decide) rfl rfl ?_
    refine z_aloadn dX12_isPlayed_59 rfl (Or.inl rfl) ?_
    refine z_aloadn dX12_isPlayed_60 rfl (Or.inl rfl) ?_
    refine y_getr (v := 240) hG dX12_isPlayed_61 fX12_32 sh234 (by decide) rfl (by decide +kernel) (by decide) ?_
    refine z_iloadn dX12_isPlayed_64 rfl ?_
    refine z_iconst dX12_isPlayed_65 ki_1 ?_
    obtain ⟨q2, h⟩ := h
    refine z_iadd dX12_isPlayed_66 q2 ?_
    obtain ⟨q3, h⟩ := h
    refine y_iald (x := (M 240 (x2 + 1))) dX12_isPlayed_67 sh240 q3 rfl ?_
    refine z_aloadn dX12_isPlayed_68 rfl (Or.inl rfl) ?_
    refine y_getr (v := 240) hG dX12_isPlayed_69 fX12_32 sh234 (by decide) rfl (by decide +kernel) (by decide) ?_
    refine z_iloadn dX12_isPlayed_72 rfl ?_
    refine z_iconst dX12_isPlayed_73 ki_2 ?_
    obtain ⟨q4, h⟩ := h
    refine z_iadd dX12_isPlayed_74 q4 ?_
    obtain ⟨q5, h⟩ := h
    refine y_iald (x := (M 240 (x2 + 2))) dX12_isPlayed_75 sh240 q5 rfl ?_
    refine y_cv (mt2 := mX12_thing) (en := [(2, 234), (0, (M 240 (x2 + 1))), (0, (M 240 (x2 + 2)))]) (st := []) (as := [(0, (M 240 (x2 + 1))), (0, (M 240 (x2 + 2)))]) dX12_isPlayed_76 lX12_339 kX12_thing iX12_thing eX12_thing rfl sh234 (by decide +kernel) (Nat.le_of_ble_eq_true rfl) (Nat.le_of_ble_eq_true rfl) rfl ?_
    exact h
  · replace h := h.2.2.1 q
    refine y_tsw (tgt := 80) (k := 2) dX12_isPlayed_6 q (by decide) rfl rfl ?_
    refine z_aloadn dX12_isPlayed_80 rfl (Or.inl rfl) ?_
    refine z_aloadn dX12_isPlayed_81 rfl (Or.inl rfl) ?_
    refine y_getr (v := 240) hG dX12_isPlayed_82 fX12_32 sh234 (by decide) rfl (by decide +kernel) (by decide) ?_
    refine z_iloadn dX12_isPlayed_85 rfl ?_
    refine z_iconst dX12_isPlayed_86 ki_1 ?_
    obtain ⟨q6, h⟩ := h
    refine z_iadd dX12_isPlayed_87 q6 ?_
    obtain ⟨q7, h⟩ := h
    refine y_iald (x := (M 240 (x2 + 1))) dX12_isPlayed_88 sh240 q7 rfl ?_
    refine z_aloadn dX12_isPlayed_89 rfl (Or.inl rfl) ?_
    refine y_getr (v := 240) hG dX12_isPlayed_90 fX12_32 sh234 (by decide) rfl (by decide +kernel) (by decide) ?_
    refine z_iloadn dX12_isPlayed_93 rfl ?_
    refine z_iconst dX12_isPlayed_94 ki_2 ?_
    obtain ⟨q8, h⟩ := h
    refine z_iadd dX12_isPlayed_95 q8 ?_
    obtain ⟨q9, h⟩ := h
    refine y_iald (x := (M 240 (x2 + 2))) dX12_isPlayed_96 sh240 q9 rfl ?_
    refine z_aloadn dX12_isPlayed_97 rfl (Or.inl rfl) ?_
    refine y_getr (v := 240) hG dX12_isPlayed_98 fX12_32 sh234 (by decide) rfl (by decide +kernel) (by decide) ?_
    refine z_iloadn dX12_isPlayed_101 rfl ?_
    refine z_iconst dX12_isPlayed_102 ki_3 ?_
    obtain ⟨q10, h⟩ := h
    refine z_iadd dX12_isPlayed_103 q10 ?_
    obtain ⟨q11, h⟩ := h
    refine y_iald (x := (M 240 (x2 + 3))) dX12_isPlayed_104 sh240 q11 rfl ?_
    refine y_cv (mt2 := mX12_person) (en := [(2, 234), (0, (M 240 (x2 + 1))), (0, (M 240 (x2 + 2))), (0, (M 240 (x2 + 3))), (9, 0)]) (st := []) (as := [(0, (M 240 (x2 + 1))), (0, (M 240 (x2 + 2))), (0, (M 240 (x2 + 3)))]) dX12_isPlayed_105 lX12_342 kX12_person iX12_person eX12_person rfl sh234 (by decide +kernel) (Nat.le_of_ble_eq_true rfl) (Nat.le_of_ble_eq_true rfl) rfl ?_
    exact h
  · replace h := h.2.2.2.1 q
    refine y_tsw (tgt := 117) (k := 3) dX12_isPlayed_6 q (by decide) rfl rfl ?_
    refine z_aloadn dX12_isPlayed_117 rfl (Or.inl rfl) ?_
    refine z_aloadn dX12_isPlayed_118 rfl (Or.inl rfl) ?_
    refine y_getr (v := 240) hG dX12_isPlayed_119 fX12_32 sh234 (by decide) rfl (by decide +kernel) (by decide) ?_
    refine z_iloadn dX12_isPlayed_122 rfl ?_
    refine z_iconst dX12_isPlayed_123 ki_1 ?_
    obtain ⟨q12, h⟩ := h
    refine z_iadd dX12_isPlayed_124 q12 ?_
    obtain ⟨q13, h⟩ := h
    refine y_iald (x := (M 240 (x2 + 1))) dX12_isPlayed_125 sh240 q13 rfl ?_
    refine z_aloadn dX12_isPlayed_126 rfl (Or.inl rfl) ?_
    refine y_getr (v := 240) hG dX12_isPlayed_127 fX12_32 sh234 (by decide) rfl (by decide +kernel) (by decide) ?_
    refine z_iloadn dX12_isPlayed_130 rfl ?_
    refine z_iconst dX12_isPlayed_131 ki_2 ?_
    obtain ⟨q14, h⟩ := h
    refine z_iadd dX12_isPlayed_132 q14 ?_
    obtain ⟨q15, h⟩ := h
    refine y_iald (x := (M 240 (x2 + 2))) dX12_isPlayed_133 sh240 q15 rfl ?_
    refine z_aloadn dX12_isPlayed_134 rfl (Or.inl rfl) ?_
    refine y_getr (v := 240) hG dX12_isPlayed_135 fX12_32 sh234 (by decide) rfl (by decide +kernel) (by decide) ?_
    refine z_iloadn dX12_isPlayed_138 rfl ?_
    refine z_iconst dX12_isPlayed_139 ki_3 ?_
    obtain ⟨q16, h⟩ := h
    refine z_iadd dX12_isPlayed_140 q16 ?_
    obtain ⟨q17, h⟩ := h
    refine y_iald (x := (M 240 (x2 + 3))) dX12_isPlayed_141 sh240 q17 rfl ?_
    refine y_cv (mt2 := mX12_road) (en := [(2, 234), (0, (M 240 (x2 + 1))), (0, (M 240 (x2 + 2))), (0, (M 240 (x2 + 3)))]) (st := []) (as := [(0, (M 240 (x2 + 1))), (0, (M 240 (x2 + 2))), (0, (M 240 (x2 + 3)))]) dX12_isPlayed_142 lX12_345 kX12_road iX12_road eX12_road rfl sh234 (by decide +kernel) (Nat.le_of_ble_eq_true rfl) (Nat.le_of_ble_eq_true rfl) rfl ?_
    exact h
  · replace h := h.2.2.2.2.1 q
    refine y_tsw (tgt := 146) (k := 4) dX12_isPlayed_6 q (by decide) rfl rfl ?_
    refine z_aloadn dX12_isPlayed_146 rfl (Or.inl rfl) ?_
    refine z_aloadn dX12_isPlayed_147 rfl (Or.inl rfl) ?_
    refine y_getr (v := 240) hG dX12_isPlayed_148 fX12_32 sh234 (by decide) rfl (by decide +kernel) (by decide) ?_
    refine z_iloadn dX12_isPlayed_151 rfl ?_
    refine z_iconst dX12_isPlayed_152 ki_1 ?_
    obtain ⟨q18, h⟩ := h
    refine z_iadd dX12_isPlayed_153 q18 ?_
    obtain ⟨q19, h⟩ := h
    refine y_iald (x := (M 240 (x2 + 1))) dX12_isPlayed_154 sh240 q19 rfl ?_
    refine y_cv (mt2 := mX12_equalities) (en := [(2, 234), (0, (M 240 (x2 + 1)))]) (st := []) (as := [(0, (M 240 (x2 + 1)))]) dX12_isPlayed_155 lX12_348 kX12_equalities iX12_equalities eX12_equalities rfl sh234 (by decide +kernel) (Nat.le_of_ble_eq_true rfl) (Nat.le_of_ble_eq_true rfl) rfl ?_
    exact h
  · replace h := h.2.2.2.2.2.1 q
    refine y_tsw (tgt := 159) (k := 5) dX12_isPlayed_6 q (by decide) rfl rfl ?_
    refine z_aloadn dX12_isPlayed_159 rfl (Or.inl rfl) ?_
    refine z_aloadn dX12_isPlayed_160 rfl (Or.inl rfl) ?_
    refine y_getr (v := 240) hG dX12_isPlayed_161 fX12_32 sh234 (by decide) rfl (by decide +kernel) (by decide) ?_
    refine z_iloadn dX12_isPlayed_164 rfl ?_
    refine z_iconst dX12_isPlayed_165 ki_1 ?_
    obtain ⟨q20, h⟩ := h
    refine z_iadd dX12_isPlayed_166 q20 ?_
    obtain ⟨q21, h⟩ := h
    refine y_iald (x := (M 240 (x2 + 1))) dX12_isPlayed_167 sh240 q21 rfl ?_
    refine z_aloadn dX12_isPlayed_168 rfl (Or.inl rfl) ?_
    refine y_getr (v := 240) hG dX12_isPlayed_169 fX12_32 sh234 (by decide) rfl (by decide +kernel) (by decide) ?_
    refine z_iloadn dX12_isPlayed_172 rfl ?_
    refine z_iconst dX12_isPlayed_173 ki_2 ?_
    obtain ⟨q22, h⟩ := h
    refine z_iadd dX12_isPlayed_174 q22 ?_
    obtain ⟨q23, h⟩ := h
    refine y_iald (x := (M 240 (x2 + 2))) dX12_isPlayed_175 sh240 q23 rfl ?_
    refine z_aloadn dX12_isPlayed_176 rfl (Or.inl rfl) ?_
    refine y_getr (v := 240) hG dX12_isPlayed_177 fX12_32 sh234 (by decide) rfl (by decide +kernel) (by decide) ?_
    refine z_iloadn dX12_isPlayed_180 rfl ?_
    refine z_iconst dX12_isPlayed_181 ki_3 ?_
    obtain ⟨q24, h⟩ := h
    refine z_iadd dX12_isPlayed_182 q24 ?_
    obtain ⟨q25, h⟩ := h
    refine y_iald (x := (M 240 (x2 + 3))) dX12_isPlayed_183 sh240 q25 rfl ?_
    refine z_aloadn dX12_isPlayed_184 rfl (Or.inl rfl) ?_
    refine y_getr (v := 240) hG dX12_isPlayed_185 fX12_32 sh234 (by decide) rfl (by decide +kernel) (by decide) ?_
    refine z_iloadn dX12_isPlayed_188 rfl ?_
    refine z_iconst dX12_isPlayed_189 ki_4 ?_
    obtain ⟨q26, h⟩ := h
    refine z_iadd dX12_isPlayed_190 q26 ?_
    obtain ⟨q27, h⟩ := h
    refine y_iald (x := (M 240 (x2 + 4))) dX12_isPlayed_191 sh240 q27 rfl ?_
    refine z_aloadn dX12_isPlayed_192 rfl (Or.inl rfl) ?_
    refine y_getr (v := 240) hG dX12_isPlayed_193 fX12_32 sh234 (by decide) rfl (by decide +kernel) (by decide) ?_
    refine z_iloadn dX12_isPlayed_196 rfl ?_
    refine z_iconst dX12_isPlayed_197 ki_5 ?_
    obtain ⟨q28, h⟩ := h
    refine z_iadd dX12_isPlayed_198 q28 ?_
    obtain ⟨q29, h⟩ := h
    refine y_iald (x := (M 240 (x2 + 5))) dX12_isPlayed_199 sh240 q29 rfl ?_
    refine y_cv (mt2 := mX12_pupil) (en := [(2, 234), (0, (M 240 (x2 + 1))), (0, (M 240 (x2 + 2))), (0, (M 240 (x2 + 3))), (0, (M 240 (x2 + 4))), (0, (M 240 (x2 + 5))), (9, 0)]) (st := []) (as := [(0, (M 240 (x2 + 1))), (0, (M 240 (x2 + 2))), (0, (M 240 (x2 + 3))), (0, (M 240 (x2 + 4))), (0, (M 240 (x2 + 5)))]) dX12_isPlayed_200 lX12_351 kX12_pupil iX12_pupil eX12_pupil rfl sh234 (by decide +kernel) (Nat.le_of_ble_eq_true rfl) (Nat.le_of_ble_eq_true rfl) rfl ?_
    exact h
  · replace h := h.2.2.2.2.2.2.1 q
    refine y_tsw (tgt := 212) (k := 6) dX12_isPlayed_6 q (by decide) rfl rfl ?_
    refine z_aloadn dX12_isPlayed_212 rfl (Or.inl rfl) ?_
    refine z_aloadn dX12_isPlayed_213 rfl (Or.inl rfl) ?_
    refine y_getr (v := 240) hG dX12_isPlayed_214 fX12_32 sh234 (by decide) rfl (by decide +kernel) (by decide) ?_
    refine z_iloadn dX12_isPlayed_217 rfl ?_
    refine z_iconst dX12_isPlayed_218 ki_1 ?_
    obtain ⟨q30, h⟩ := h
    refine z_iadd dX12_isPlayed_219 q30 ?_
    obtain ⟨q31, h⟩ := h
    refine y_iald (x := (M 240 (x2 + 1))) dX12_isPlayed_220 sh240 q31 rfl ?_
    refine y_cv (mt2 := mX12_answer) (en := [(2, 234), (0, (M 240 (x2 + 1)))]) (st := []) (as := [(0, (M 240 (x2 + 1)))]) dX12_isPlayed_221 lX12_355 kX12_answer iX12_answer eX12_answer rfl sh234 (by decide +kernel) (Nat.le_of_ble_eq_true rfl) (Nat.le_of_ble_eq_true rfl) rfl ?_
    exact h
  · replace h := h.2.2.2.2.2.2.2.1 q
    refine y_tsw (tgt := 225) (k := 7) dX12_isPlayed_6 q (by decide) rfl rfl ?_
    refine z_aloadn dX12_isPlayed_225 rfl (Or.inl rfl) ?_
    refine z_aloadn dX12_isPlayed_226 rfl (Or.inl rfl) ?_
    refine y_getr (v := 240) hG dX12_isPlayed_227 fX12_32 sh234 (by decide) rfl (by decide +kernel) (by decide) ?_
    refine z_iloadn dX12_isPlayed_230 rfl ?_
    refine z_iconst dX12_isPlayed_231 ki_1 ?_
    obtain ⟨q32, h⟩ := h
    refine z_iadd dX12_isPlayed_232 q32 ?_
    obtain ⟨q33, h⟩ := h
    refine y_iald (x := (M 240 (x2 + 1))) dX12_isPlayed_233 sh240 q33 rfl ?_
    refine z_aloadn dX12_isPlayed_234 rfl (Or.inl rfl) ?_
    refine y_getr (v := 240) hG dX12_isPlayed_235 fX12_32 sh234 (by decide) rfl (by decide +kernel) (by decide) ?_
    refine z_iloadn dX12_isPlayed_238 rfl ?_
    refine z_iconst dX12_isPlayed_239 ki_2 ?_
    obtain ⟨q34, h⟩ := h
    refine z_iadd dX12_isPlayed_240 q34 ?_
    obtain ⟨q35, h⟩ := h
    refine y_iald (x := (M 240 (x2 + 2))) dX12_isPlayed_241 sh240 q35 rfl ?_
    refine y_cv (mt2 := mX12_ask) (en := [(2, 234), (0, (M 240 (x2 + 1))), (0, (M 240 (x2 + 2)))]) (st := []) (as := [(0, (M 240 (x2 + 1))), (0, (M 240 (x2 + 2)))]) dX12_isPlayed_242 lX12_358 kX12_ask iX12_ask eX12_ask rfl sh234 (by decide +kernel) (Nat.le_of_ble_eq_true rfl) (Nat.le_of_ble_eq_true rfl) rfl ?_
    exact h
set_option maxRecDepth 20000 in
set_option maxHeartbeats 4000000 in
theorem bX12_isPlayed_58 {G : zG} {d : Nat} {M : zM} {Q : zV → zM → Prop} (hG : zP G) {x1 x2 x49 : Int}
    (h : (0 ≤ x49 ∧ x49 ≤ 1) ∧ Q (0, x49) M) :
    Y G (d + 1) mX12_isPlayed 58 [(2, 234), (0, x1), (0, x2)] [(0, x49)] M Q := by
  obtain ⟨q1, h⟩ := h
  exact z_ireturn dX12_isPlayed_58 (Or.inr ⟨rfl, q1⟩) rfl h
set_option maxRecDepth 20000 in
set_option maxHeartbeats 4000000 in
theorem bX12_isPlayed_79 {G : zG} {d : Nat} {M : zM} {Q : zV → zM → Prop} (hG : zP G) {x1 x2 x49 : Int}
    (h : (0 ≤ x49 ∧ x49 ≤ 1) ∧ Q (0, x49) M) :
    Y G (d + 1) mX12_isPlayed 79 [(2, 234), (0, x1), (0, x2)] [(0, x49)] M Q := by
  obtain ⟨q1, h⟩ := h
  exact z_ireturn dX12_isPlayed_79 (Or.inr ⟨rfl, q1⟩) rfl h
set_option maxRecDepth 20000 in
set_option maxHeartbeats 4000000 in
theorem bX12_isPlayed_108 {G : zG} {d : Nat} {M : zM} {Q : zV → zM → Prop} (hG : zP G) {x1 x2 x49 : Int}
    (h : ((x49 < 0 → Q (0, 0) M) ∧ (0 ≤ x49 → Q (0, 1) M))) :
    Y G (d + 1) mX12_isPlayed 108 [(2, 234), (0, x1), (0, x2)] [(0, x49)] M Q := by
  refine z_iflt (tgt := 115) dX12_isPlayed_108 rfl (fun q => ?_) (fun q => ?_)
  · replace h := h.1 q
    refine z_iconst dX12_isPlayed_115 ki_0 ?_
    exact z_ireturn dX12_isPlayed_116 (Or.inr ⟨rfl, ⟨by decide, by decide⟩⟩) rfl h
  · replace h := h.2 q
    refine z_iconst dX12_isPlayed_111 ki_1 ?_
    refine z_goto (tgt := 116) dX12_isPlayed_112 rfl ?_
    exact z_ireturn dX12_isPlayed_116 (Or.inr ⟨rfl, ⟨by decide, by decide⟩⟩) rfl h
set_option maxRecDepth 20000 in
set_option maxHeartbeats 4000000 in
theorem bX12_isPlayed_145 {G : zG} {d : Nat} {M : zM} {Q : zV → zM → Prop} (hG : zP G) {x1 x2 x49 : Int}
    (h : (0 ≤ x49 ∧ x49 ≤ 1) ∧ Q (0, x49) M) :
    Y G (d + 1) mX12_isPlayed 145 [(2, 234), (0, x1), (0, x2)] [(0, x49)] M Q := by
  obtain ⟨q1, h⟩ := h
  exact z_ireturn dX12_isPlayed_145 (Or.inr ⟨rfl, q1⟩) rfl h
set_option maxRecDepth 20000 in
set_option maxHeartbeats 4000000 in
theorem bX12_isPlayed_158 {G : zG} {d : Nat} {M : zM} {Q : zV → zM → Prop} (hG : zP G) {x1 x2 x49 : Int}
    (h : (0 ≤ x49 ∧ x49 ≤ 1) ∧ Q (0, x49) M) :
    Y G (d + 1) mX12_isPlayed 158 [(2, 234), (0, x1), (0, x2)] [(0, x49)] M Q := by
  obtain ⟨q1, h⟩ := h
  exact z_ireturn dX12_isPlayed_158 (Or.inr ⟨rfl, q1⟩) rfl h
set_option maxRecDepth 20000 in
set_option maxHeartbeats 4000000 in
theorem bX12_isPlayed_203 {G : zG} {d : Nat} {M : zM} {Q : zV → zM → Prop} (hG : zP G) {x1 x2 x49 : Int}
    (h : ((x49 < 0 → Q (0, 0) M) ∧ (0 ≤ x49 → Q (0, 1) M))) :
    Y G (d + 1) mX12_isPlayed 203 [(2, 234), (0, x1), (0, x2)] [(0, x49)] M Q := by
  refine z_iflt (tgt := 210) dX12_isPlayed_203 rfl (fun q => ?_) (fun q => ?_)
  · replace h := h.1 q
    refine z_iconst dX12_isPlayed_210 ki_0 ?_
    exact z_ireturn dX12_isPlayed_211 (Or.inr ⟨rfl, ⟨by decide, by decide⟩⟩) rfl h
  · replace h := h.2 q
    refine z_iconst dX12_isPlayed_206 ki_1 ?_
    refine z_goto (tgt := 211) dX12_isPlayed_207 rfl ?_
    exact z_ireturn dX12_isPlayed_211 (Or.inr ⟨rfl, ⟨by decide, by decide⟩⟩) rfl h
set_option maxRecDepth 20000 in
set_option maxHeartbeats 4000000 in
theorem bX12_isPlayed_224 {G : zG} {d : Nat} {M : zM} {Q : zV → zM → Prop} (hG : zP G) {x1 x2 x49 : Int}
    (h : (0 ≤ x49 ∧ x49 ≤ 1) ∧ Q (0, x49) M) :
    Y G (d + 1) mX12_isPlayed 224 [(2, 234), (0, x1), (0, x2)] [(0, x49)] M Q := by
  obtain ⟨q1, h⟩ := h
  exact z_ireturn dX12_isPlayed_224 (Or.inr ⟨rfl, q1⟩) rfl h
set_option maxRecDepth 20000 in
set_option maxHeartbeats 4000000 in
theorem bX12_isPlayed_245 {G : zG} {d : Nat} {M : zM} {Q : zV → zM → Prop} (hG : zP G) {x1 x2 x49 : Int}
    (h : ((x49 < 0 → Q (0, 0) M) ∧ (0 ≤ x49 → Q (0, 1) M))) :
    Y G (d + 1) mX12_isPlayed 245 [(2, 234), (0, x1), (0, x2)] [(0, x49)] M Q := by
  refine z_iflt (tgt := 252) dX12_isPlayed_245 rfl (fun q => ?_) (fun q => ?_)
  · replace h := h.1 q
    refine z_iconst dX12_isPlayed_252 ki_0 ?_
    exact z_ireturn dX12_isPlayed_253 (Or.inr ⟨rfl, ⟨by decide, by decide⟩⟩) rfl h
  · replace h := h.2 q
    refine z_iconst dX12_isPlayed_248 ki_1 ?_
    refine z_goto (tgt := 253) dX12_isPlayed_249 rfl ?_
    exact z_ireturn dX12_isPlayed_253 (Or.inr ⟨rfl, ⟨by decide, by decide⟩⟩) rfl h
set_option maxRecDepth 20000 in
set_option maxHeartbeats 4000000 in
theorem bX12_isPlayed_259 {G : zG} {d : Nat} {M : zM} {Q : zV → zM → Prop} (hG : zP G) {x1 x2 x49 : Int}
    (h : ((x49 < 0 → Q (0, 0) M) ∧ (0 ≤ x49 → Q (0, 1) M))) :
    Y G (d + 1) mX12_isPlayed 259 [(2, 234), (0, x1), (0, x2)] [(0, x49)] M Q := by
  refine z_iflt (tgt := 266) dX12_isPlayed_259 rfl (fun q => ?_) (fun q => ?_)
  · replace h := h.1 q
    refine z_iconst dX12_isPlayed_266 ki_0 ?_
    exact z_ireturn dX12_isPlayed_267 (Or.inr ⟨rfl, ⟨by decide, by decide⟩⟩) rfl h
  · replace h := h.2 q
    refine z_iconst dX12_isPlayed_262 ki_1 ?_
    refine z_goto (tgt := 267) dX12_isPlayed_263 rfl ?_
    exact z_ireturn dX12_isPlayed_267 (Or.inr ⟨rfl, ⟨by decide, by decide⟩⟩) rfl h
set_option maxRecDepth 20000 in
set_option maxHeartbeats 4000000 in
theorem bX12_played_0 {G : zG} {d : Nat} {M : zM} {Q : zV → zM → Prop} (hG : zP G) {x1 : Int}
    (h : (-2147483648 ≤ (M 235 6) - 1 ∧ (M 235 6) - 1 ≤ 2147483647) ∧ ((0 ≤ x1 ∧ x1 ≤ ((M 235 6) - 1) → Y G (d + 1) mX12_played 22 [(2, 234), (0, x1), (0, 0)] [] M Q) ∧ (¬ (0 ≤ x1 ∧ x1 ≤ ((M 235 6) - 1)) → Q (0, (-2)) M))) :
    Y G (d + 1) mX12_played 0 [(2, 234), (0, x1), (9, 0)] [] M Q := by
  refine z_iloadn dX12_played_0 rfl ?_
  refine z_iconst dX12_played_1 ki_0 ?_
  refine z_aloadn dX12_played_2 rfl (Or.inl rfl) ?_
  refine y_getr (v := 235) hG dX12_played_3 fX12_7 sh234 (by decide) rfl (by decide +kernel) (by decide) ?_
  refine z_bipush dX12_played_6 kb_6 ?_
  refine y_iald (x := (M 235 6)) dX12_played_8 sh235 ⟨by decide, by decide⟩ rfl ?_
  refine z_iconst dX12_played_9 ki_1 ?_
  obtain ⟨q1, h⟩ := h
  refine z_isub dX12_played_10 q1 ?_
  refine y_cs (mt2 := mX12_isIn) (en := [(0, x1), (0, 0), (0, ((M 235 6) - 1))]) (st := []) (as := [(0, x1), (0, 0), (0, ((M 235 6) - 1))]) dX12_played_11 lX12_126 kX12_isIn tX12_isIn rfl (Nat.le_of_ble_eq_true rfl) (Nat.le_of_ble_eq_true rfl) rfl (s_isIn hG (fun q => ?_) (fun q => ?_))
  · replace h := h.1 q
    show Y G (d + 1) mX12_played 14 [(2, 234), (0, x1), (9, 0)] [(0, 1)] M Q
    refine z_ifne (tgt := 20) dX12_played_14 rfl (fun _ => ?_) (fun q => absurd q (by decide))
    refine z_iconst dX12_played_20 ki_0 ?_
    refine y_istoren (ls' := [(2, 234), (0, x1), (0, 0)]) dX12_played_21 rfl rfl ?_
    exact h
  · replace h := h.2 q
    show Y G (d + 1) mX12_played 14 [(2, 234), (0, x1), (9, 0)] [(0, 0)] M Q
    refine z_ifne (tgt := 20) dX12_played_14 rfl (fun q => absurd q (by decide)) (fun _ => ?_)
    refine z_bipush dX12_played_17 kb_m2 ?_
    exact z_ireturn dX12_played_19 (Or.inl rfl) rfl h
set_option maxRecDepth 20000 in
set_option maxHeartbeats 4000000 in
theorem bX12_played_22 {G : zG} {d : Nat} {M : zM} {Q : zV → zM → Prop} (hG : zP G) {x1 x2 : Int}
    (h : (-2147483648 ≤ 889 * x1 ∧ 889 * x1 ≤ 2147483647) ∧ (0 ≤ (889 * x1) ∧ (889 * x1) < 3556) ∧ (((M 240 (889 * x1)) ≤ x2 → Q (0, (-1)) M) ∧ (x2 < (M 240 (889 * x1)) → (-2147483648 ≤ 889 * x1 ∧ 889 * x1 ≤ 2147483647) ∧ (-2147483648 ≤ (889 * x1) + 1 ∧ (889 * x1) + 1 ≤ 2147483647) ∧ (-2147483648 ≤ 12 * x2 ∧ 12 * x2 ≤ 2147483647) ∧ (-2147483648 ≤ ((889 * x1) + 1) + (12 * x2) ∧ ((889 * x1) + 1) + (12 * x2) ≤ 2147483647) ∧ Y G d mX12_isPlayed 0 [(2, 234), (0, x1), (0, (((889 * x1) + 1) + (12 * x2)))] [] M (fun r M' => Y G (d + 1) mX12_played 53 [(2, 234), (0, x1), (0, x2)] (zpush r []) M' Q)))) :
    Y G (d + 1) mX12_played 22 [(2, 234), (0, x1), (0, x2)] [] M Q := by
  refine z_iloadn dX12_played_22 rfl ?_
  refine z_aloadn dX12_played_23 rfl (Or.inl rfl) ?_
  refine y_getr (v := 240) hG dX12_played_24 fX12_32 sh234 (by decide) rfl (by decide +kernel) (by decide) ?_
  refine z_sipush dX12_played_27 ks_889 ?_
  refine z_iloadn dX12_played_30 rfl ?_
  obtain ⟨q1, h⟩ := h
  refine z_imul dX12_played_31 q1 ?_
  obtain ⟨q2, h⟩ := h
  refine y_iald (x := (M 240 (889 * x1))) dX12_played_32 sh240 q2 rfl ?_
  refine z_icmpge (tgt := 64) dX12_played_33 rfl (fun q => ?_) (fun q => ?_)
  · replace h := h.1 q
    refine z_iconst dX12_played_64 ki_m1 ?_
    exact z_ireturn dX12_played_65 (Or.inl rfl) rfl h
  · replace h := h.2 q
    refine z_aloadn dX12_played_36 rfl (Or.inl rfl) ?_
    refine z_iloadn dX12_played_37 rfl ?_
    refine z_sipush dX12_played_38 ks_889 ?_
    refine z_iloadn dX12_played_41 rfl ?_
    obtain ⟨q3, h⟩ := h
    refine z_imul dX12_played_42 q3 ?_
    refine z_iconst dX12_played_43 ki_1 ?_
    obtain ⟨q4, h⟩ := h
    refine z_iadd dX12_played_44 q4 ?_
    refine z_bipush dX12_played_45 kb_12 ?_
    refine z_iloadn dX12_played_47 rfl ?_
    obtain ⟨q5, h⟩ := h
    refine z_imul dX12_played_48 q5 ?_
    obtain ⟨q6, h⟩ := h
    refine z_iadd dX12_played_49 q6 ?_
    refine y_cv (mt2 := mX12_isPlayed) (en := [(2, 234), (0, x1), (0, (((889 * x1) + 1) + (12 * x2)))]) (st := []) (as := [(0, x1), (0, (((889 * x1) + 1) + (12 * x2)))]) dX12_played_50 lX12_364 kX12_isPlayed iX12_isPlayed eX12_isPlayed rfl sh234 (by decide +kernel) (Nat.le_of_ble_eq_true rfl) (Nat.le_of_ble_eq_true rfl) rfl ?_
    exact h
set_option maxRecDepth 20000 in
set_option maxHeartbeats 4000000 in
theorem bX12_played_53 {G : zG} {d : Nat} {M : zM} {Q : zV → zM → Prop} (hG : zP G) {x1 x2 x49 : Int}
    (h : ((¬ x49 = 0 → (-2147483648 ≤ x2 + 1 ∧ x2 + 1 ≤ 2147483647) ∧ Y G (d + 1) mX12_played 22 [(2, 234), (0, x1), (0, (x2 + 1))] [] M Q) ∧ (x49 = 0 → Q (0, x2) M))) :
    Y G (d + 1) mX12_played 53 [(2, 234), (0, x1), (0, x2)] [(0, x49)] M Q := by
  refine z_ifne (tgt := 58) dX12_played_53 rfl (fun q => ?_) (fun q => ?_)
  · replace h := h.1 q
    obtain ⟨q1, h⟩ := h
    refine y_iinc (ls' := [(2, 234), (0, x1), (0, (x2 + 1))]) dX12_played_58 rfl rfl q1 rfl ?_
    refine z_goto (tgt := 22) dX12_played_61 rfl ?_
    exact h
  · replace h := h.2 q
    refine z_iloadn dX12_played_56 rfl ?_
    exact z_ireturn dX12_played_57 (Or.inl rfl) rfl h
set_option maxRecDepth 20000 in
set_option maxHeartbeats 4000000 in
theorem bX12_equalities_0 {G : zG} {d : Nat} {M : zM} {Q : zV → zM → Prop} (hG : zP G) {x1 : Int}
    (h : ((0 ≤ x1 ∧ x1 ≤ 255 → Q (0, 1) (zset M 235 4 x1)) ∧ (¬ (0 ≤ x1 ∧ x1 ≤ 255) → Q (0, 0) M))) :
    Y G (d + 1) mX12_equalities 0 [(2, 234), (0, x1)] [] M Q := by
  refine z_iloadn dX12_equalities_0 rfl ?_
  refine z_iconst dX12_equalities_1 ki_0 ?_
  refine z_sipush dX12_equalities_2 ks_255 ?_
  refine y_cs (mt2 := mX12_isIn) (en := [(0, x1), (0, 0), (0, 255)]) (st := []) (as := [(0, x1), (0, 0), (0, 255)]) dX12_equalities_5 lX12_126 kX12_isIn tX12_isIn rfl (Nat.le_of_ble_eq_true rfl) (Nat.le_of_ble_eq_true rfl) rfl (s_isIn hG (fun q => ?_) (fun q => ?_))
  · replace h := h.1 q
    show Y G (d + 1) mX12_equalities 8 [(2, 234), (0, x1)] [(0, 1)] M Q
    refine z_ifne (tgt := 13) dX12_equalities_8 rfl (fun _ => ?_) (fun q => absurd q (by decide))
    refine z_aloadn dX12_equalities_13 rfl (Or.inl rfl) ?_
    refine y_getr (v := 235) hG dX12_equalities_14 fX12_7 sh234 (by decide) rfl (by decide +kernel) (by decide) ?_
    refine z_iconst dX12_equalities_17 ki_4 ?_
    refine z_iloadn dX12_equalities_18 rfl ?_
    refine y_iast hG dX12_equalities_19 sh235 ⟨by decide, by decide⟩ ?_
    refine z_iconst dX12_equalities_20 ki_1 ?_
    exact z_ireturn dX12_equalities_21 (Or.inr ⟨rfl, ⟨by decide, by decide⟩⟩) rfl h
  · replace h := h.2 q
    show Y G (d + 1) mX12_equalities 8 [(2, 234), (0, x1)] [(0, 0)] M Q
    refine z_ifne (tgt := 13) dX12_equalities_8 rfl (fun q => absurd q (by decide)) (fun _ => ?_)
    refine z_iconst dX12_equalities_11 ki_0 ?_
    exact z_ireturn dX12_equalities_12 (Or.inr ⟨rfl, ⟨by decide, by decide⟩⟩) rfl h
set_option maxRecDepth 20000 in
set_option maxHeartbeats 4000000 in
theorem bX12_pupil_0 {G : zG} {d : Nat} {M : zM} {Q : zV → zM → Prop} (hG : zP G) {x1 x2 x3 x4 x5 : Int}
    (h : ((1 ≤ x1 ∧ x1 ≤ 99 → ((0 ≤ x2 ∧ x2 ≤ 32767 → ((0 ≤ x3 ∧ x3 ≤ 99 → ((0 ≤ x4 ∧ x4 ≤ 8 → ((1 ≤ x5 ∧ x5 ≤ 16 → ((¬ (M 235 2) = 6 → (-2147483648 ≤ 5 * (M 235 2) ∧ 5 * (M 235 2) ≤ 2147483647) ∧ (-2147483648 ≤ 74 + (5 * (M 235 2)) ∧ 74 + (5 * (M 235 2)) ≤ 2147483647) ∧ (0 ≤ (74 + (5 * (M 235 2))) ∧ (74 + (5 * (M 235 2))) < 156) ∧ (-2147483648 ≤ (74 + (5 * (M 235 2))) + 1 ∧ (74 + (5 * (M 235 2))) + 1 ≤ 2147483647) ∧ (0 ≤ ((74 + (5 * (M 235 2))) + 1) ∧ ((74 + (5 * (M 235 2))) + 1) < 156) ∧ (-2147483648 ≤ (74 + (5 * (M 235 2))) + 2 ∧ (74 + (5 * (M 235 2))) + 2 ≤ 2147483647) ∧ (0 ≤ ((74 + (5 * (M 235 2))) + 2) ∧ ((74 + (5 * (M 235 2))) + 2) < 156) ∧ (-2147483648 ≤ (74 + (5 * (M 235 2))) + 3 ∧ (74 + (5 * (M 235 2))) + 3 ≤ 2147483647) ∧ (0 ≤ ((74 + (5 * (M 235 2))) + 3) ∧ ((74 + (5 * (M 235 2))) + 3) < 156) ∧ (-2147483648 ≤ (74 + (5 * (M 235 2))) + 4 ∧ (74 + (5 * (M 235 2))) + 4 ≤ 2147483647) ∧ (0 ≤ ((74 + (5 * (M 235 2))) + 4) ∧ ((74 + (5 * (M 235 2))) + 4) < 156) ∧ (¬ 2 = ((74 + (5 * (M 235 2))) + 4)) ∧ (¬ 2 = ((74 + (5 * (M 235 2))) + 3)) ∧ (¬ 2 = ((74 + (5 * (M 235 2))) + 2)) ∧ (¬ 2 = ((74 + (5 * (M 235 2))) + 1)) ∧ (¬ 2 = (74 + (5 * (M 235 2)))) ∧ (-2147483648 ≤ (M 235 2) + 1 ∧ (M 235 2) + 1 ≤ 2147483647) ∧ (-2147483648 ≤ ((M 235 2) + 1) - 1 ∧ ((M 235 2) + 1) - 1 ≤ 2147483647) ∧ Q (0, (((M 235 2) + 1) - 1)) (zset (zset (zset (zset (zset (zset M 235 (74 + (5 * (M 235 2))) x1) 235 ((74 + (5 * (M 235 2))) + 1) x2) 235 ((74 + (5 * (M 235 2))) + 2) x3) 235 ((74 + (5 * (M 235 2))) + 3) x4) 235 ((74 + (5 * (M 235 2))) + 4) x5) 235 2 ((M 235 2) + 1))) ∧ ((M 235 2) = 6 → Q (0, (-1)) M))) ∧ (¬ (1 ≤ x5 ∧ x5 ≤ 16) → Q (0, (-1)) M))) ∧ (¬ (0 ≤ x4 ∧ x4 ≤ 8) → Q (0, (-1)) M))) ∧ (¬ (0 ≤ x3 ∧ x3 ≤ 99) → Q (0, (-1)) M))) ∧ (¬ (0 ≤ x2 ∧ x2 ≤ 32767) → Q (0, (-1)) M))) ∧ (¬ (1 ≤ x1 ∧ x1 ≤ 99) → Q (0, (-1)) M))) :
    Y G (d + 1) mX12_pupil 0 [(2, 234), (0, x1), (0, x2), (0, x3), (0, x4), (0, x5), (9, 0)] [] M Q := by
  refine z_iloadn dX12_pupil_0 rfl ?_
  refine z_iconst dX12_pupil_1 ki_1 ?_
  refine z_bipush dX12_pupil_2 kb_99 ?_
  refine y_cs (mt2 := mX12_isIn) (en := [(0, x1), (0, 1), (0, 99)]) (st := []) (as := [(0, x1), (0, 1), (0, 99)]) dX12_pupil_4 lX12_126 kX12_isIn tX12_isIn rfl (Nat.le_of_ble_eq_true rfl) (Nat.le_of_ble_eq_true rfl) rfl (s_isIn hG (fun q => ?_) (fun q => ?_))
  · replace h := h.1 q
    show Y G (d + 1) mX12_pupil 7 [(2, 234), (0, x1), (0, x2), (0, x3), (0, x4), (0, x5), (9, 0)] [(0, 1)] M Q
    refine z_ifeq (tgt := 64) dX12_pupil_7 rfl (fun q => absurd q (by decide)) (fun _ => ?_)
    refine z_iloadn dX12_pupil_10 rfl ?_
    refine z_iconst dX12_pupil_11 ki_0 ?_
    refine z_sipush dX12_pupil_12 ks_32767 ?_
    refine y_cs (mt2 := mX12_isIn) (en := [(0, x2), (0, 0), (0, 32767)]) (st := []) (as := [(0, x2), (0, 0), (0, 32767)]) dX12_pupil_15 lX12_126 kX12_isIn tX12_isIn rfl (Nat.le_of_ble_eq_true rfl) (Nat.le_of_ble_eq_true rfl) rfl (s_isIn hG (fun q => ?_) (fun q => ?_))
    · replace h := h.1 q
      show Y G (d + 1) mX12_pupil 18 [(2, 234), (0, x1), (0, x2), (0, x3), (0, x4), (0, x5), (9, 0)] [(0, 1)] M Q
      refine z_ifeq (tgt := 64) dX12_pupil_18 rfl (fun q => absurd q (by decide)) (fun _ => ?_)
      refine z_iloadn dX12_pupil_21 rfl ?_
      refine z_iconst dX12_pupil_22 ki_0 ?_
      refine z_bipush dX12_pupil_23 kb_99 ?_
      refine y_cs (mt2 := mX12_isIn) (en := [(0, x3), (0, 0), (0, 99)]) (st := []) (as := [(0, x3), (0, 0), (0, 99)]) dX12_pupil_25 lX12_126 kX12_isIn tX12_isIn rfl (Nat.le_of_ble_eq_true rfl) (Nat.le_of_ble_eq_true rfl) rfl (s_isIn hG (fun q => ?_) (fun q => ?_))
      · replace h := h.1 q
        show Y G (d + 1) mX12_pupil 28 [(2, 234), (0, x1), (0, x2), (0, x3), (0, x4), (0, x5), (9, 0)] [(0, 1)] M Q
        refine z_ifeq (tgt := 64) dX12_pupil_28 rfl (fun q => absurd q (by decide)) (fun _ => ?_)
        refine z_iload dX12_pupil_31 rfl ?_
        refine z_iconst dX12_pupil_33 ki_0 ?_
        refine z_bipush dX12_pupil_34 kb_8 ?_
        refine y_cs (mt2 := mX12_isIn) (en := [(0, x4), (0, 0), (0, 8)]) (st := []) (as := [(0, x4), (0, 0), (0, 8)]) dX12_pupil_36 lX12_126 kX12_isIn tX12_isIn rfl (Nat.le_of_ble_eq_true rfl) (Nat.le_of_ble_eq_true rfl) rfl (s_isIn hG (fun q => ?_) (fun q => ?_))
        · replace h := h.1 q
          show Y G (d + 1) mX12_pupil 39 [(2, 234), (0, x1), (0, x2), (0, x3), (0, x4), (0, x5), (9, 0)] [(0, 1)] M Q
          refine z_ifeq (tgt := 64) dX12_pupil_39 rfl (fun q => absurd q (by decide)) (fun _ => ?_)
          refine z_iload dX12_pupil_42 rfl ?_
          refine z_iconst dX12_pupil_44 ki_1 ?_
          refine z_bipush dX12_pupil_45 kb_16 ?_
          refine y_cs (mt2 := mX12_isIn) (en := [(0, x5), (0, 1), (0, 16)]) (st := []) (as := [(0, x5), (0, 1), (0, 16)]) dX12_pupil_47 lX12_126 kX12_isIn tX12_isIn rfl (Nat.le_of_ble_eq_true rfl) (Nat.le_of_ble_eq_true rfl) rfl (s_isIn hG (fun q => ?_) (fun q => ?_))
          · replace h := h.1 q
            show Y G (d + 1) mX12_pupil 50 [(2, 234), (0, x1), (0, x2), (0, x3), (0, x4), (0, x5), (9, 0)] [(0, 1)] M Q
            refine z_ifeq (tgt := 64) dX12_pupil_50 rfl (fun q => absurd q (by decide)) (fun _ => ?_)
            refine z_aloadn dX12_pupil_53 rfl (Or.inl rfl) ?_
            refine y_getr (v := 235) hG dX12_pupil_54 fX12_7 sh234 (by decide) rfl (by decide +kernel) (by decide) ?_
            refine z_iconst dX12_pupil_57 ki_2 ?_
            refine y_iald (x := (M 235 2)) dX12_pupil_58 sh235 ⟨by decide, by decide⟩ rfl ?_
            refine z_bipush dX12_pupil_59 kb_6 ?_
            refine z_icmpne (tgt := 66) dX12_pupil_61 rfl (fun q => ?_) (fun q => ?_)
            · replace h := h.1 q
              refine z_bipush dX12_pupil_66 kb_74 ?_
              refine z_iconst dX12_pupil_68 ki_5 ?_
              refine z_aloadn dX12_pupil_69 rfl (Or.inl rfl) ?_
              refine y_getr (v := 235) hG dX12_pupil_70 fX12_7 sh234 (by decide) rfl (by decide +kernel) (by decide) ?_
              refine z_iconst dX12_pupil_73 ki_2 ?_
              refine y_iald (x := (M 235 2)) dX12_pupil_74 sh235 ⟨by decide, by decide⟩ rfl ?_
              obtain ⟨q1, h⟩ := h
              refine z_imul dX12_pupil_75 q1 ?_
              obtain ⟨q2, h⟩ := h
              refine z_iadd dX12_pupil_76 q2 ?_
              refine y_istore (ls' := [(2, 234), (0, x1), (0, x2), (0, x3), (0, x4), (0, x5), (0, (74 + (5 * (M 235 2))))]) dX12_pupil_77 rfl rfl ?_
              refine z_aloadn dX12_pupil_79 rfl (Or.inl rfl) ?_
              refine y_getr (v := 235) hG dX12_pupil_80 fX12_7 sh234 (by decide) rfl (by decide +kernel) (by decide) ?_
              refine z_iload dX12_pupil_83 rfl ?_
              refine z_iloadn dX12_pupil_85 rfl ?_
              obtain ⟨q3, h⟩ := h
              refine y_iast hG dX12_pupil_86 sh235 q3 ?_
              refine z_aloadn dX12_pupil_87 rfl (Or.inl rfl) ?_
              refine y_getr (v := 235) hG dX12_pupil_88 fX12_7 sh234 (by decide) rfl (by decide +kernel) (by decide) ?_
              refine z_iload dX12_pupil_91 rfl ?_
              refine z_iconst dX12_pupil_93 ki_1 ?_
              obtain ⟨q4, h⟩ := h
              refine z_iadd dX12_pupil_94 q4 ?_
              refine z_iloadn dX12_pupil_95 rfl ?_
              obtain ⟨q5, h⟩ := h
              refine y_iast hG dX12_pupil_96 sh235 q5 ?_
              refine z_aloadn dX12_pupil_97 rfl (Or.inl rfl) ?_
              refine y_getr (v := 235) hG dX12_pupil_98 fX12_7 sh234 (by decide) rfl (by decide +kernel) (by decide) ?_
              refine z_iload dX12_pupil_101 rfl ?_
              refine z_iconst dX12_pupil_103 ki_2 ?_
              obtain ⟨q6, h⟩ := h
              refine z_iadd dX12_pupil_104 q6 ?_
              refine z_iloadn dX12_pupil_105 rfl ?_
              obtain ⟨q7, h⟩ := h
              refine y_iast hG dX12_pupil_106 sh235 q7 ?_
              refine z_aloadn dX12_pupil_107 rfl (Or.inl rfl) ?_
              refine y_getr (v := 235) hG dX12_pupil_108 fX12_7 sh234 (by decide) rfl (by decide +kernel) (by decide) ?_
              refine z_iload dX12_pupil_111 rfl ?_
              refine z_iconst dX12_pupil_113 ki_3 ?_
              obtain ⟨q8, h⟩ := h
              refine z_iadd dX12_pupil_114 q8 ?_
              refine z_iload dX12_pupil_115 rfl ?_
              obtain ⟨q9, h⟩ := h
              refine y_iast hG dX12_pupil_117 sh235 q9 ?_
              refine z_aloadn dX12_pupil_118 rfl (Or.inl rfl) ?_
              refine y_getr (v := 235) hG dX12_pupil_119 fX12_7 sh234 (by decide) rfl (by decide +kernel) (by decide) ?_
              refine z_iload dX12_pupil_122 rfl ?_
              refine z_iconst dX12_pupil_124 ki_4 ?_
              obtain ⟨q10, h⟩ := h
              refine z_iadd dX12_pupil_125 q10 ?_
              refine z_iload dX12_pupil_126 rfl ?_
              obtain ⟨q11, h⟩ := h
              refine y_iast hG dX12_pupil_128 sh235 q11 ?_
              refine z_aloadn dX12_pupil_129 rfl (Or.inl rfl) ?_
              refine y_getr (v := 235) hG dX12_pupil_130 fX12_7 sh234 (by decide) rfl (by decide +kernel) (by decide) ?_
              refine z_iconst dX12_pupil_133 ki_2 ?_
              refine z_dup2 dX12_pupil_134 (show (0 : Nat) ≠ 1 by decide) (show (2 : Nat) ≠ 1 by decide) ?_
              obtain ⟨q12, h⟩ := h
              obtain ⟨q13, h⟩ := h
              obtain ⟨q14, h⟩ := h
              obtain ⟨q15, h⟩ := h
              obtain ⟨q16, h⟩ := h
              refine y_iald (x := (M 235 2)) dX12_pupil_135 sh235 ⟨by decide, by decide⟩ (((zset_ne (fun q => absurd q.2 q12)).trans (((zset_ne (fun q => absurd q.2 q13)).trans (((zset_ne (fun q => absurd q.2 q14)).trans (((zset_ne (fun q => absurd q.2 q15)).trans (zset_ne (fun q => absurd q.2 q16)))))))))) ?_
              refine z_iconst dX12_pupil_136 ki_1 ?_
              obtain ⟨q17, h⟩ := h
              refine z_iadd dX12_pupil_137 q17 ?_
              refine y_iast hG dX12_pupil_138 sh235 ⟨by decide, by decide⟩ ?_
              refine z_aloadn dX12_pupil_139 rfl (Or.inl rfl) ?_
              refine y_getr (v := 235) hG dX12_pupil_140 fX12_7 sh234 (by decide) rfl (by decide +kernel) (by decide) ?_
              refine z_iconst dX12_pupil_143 ki_2 ?_
              refine y_iald (x := ((M 235 2) + 1)) dX12_pupil_144 sh235 ⟨by decide, by decide⟩ zset_same ?_
              refine z_iconst dX12_pupil_145 ki_1 ?_
              obtain ⟨q18, h⟩ := h
              refine z_isub dX12_pupil_146 q18 ?_
              exact z_ireturn dX12_pupil_147 (Or.inl rfl) rfl h
            · replace h := h.2 q
              refine z_iconst dX12_pupil_64 ki_m1 ?_
              exact z_ireturn dX12_pupil_65 (Or.inl rfl) rfl h
          · replace h := h.2 q
            show Y G (d + 1) mX12_pupil 50 [(2, 234), (0, x1), (0, x2), (0, x3), (0, x4), (0, x5), (9, 0)] [(0, 0)] M Q
            refine z_ifeq (tgt := 64) dX12_pupil_50 rfl (fun _ => ?_) (fun q => absurd q (by decide))
            refine z_iconst dX12_pupil_64 ki_m1 ?_
            exact z_ireturn dX12_pupil_65 (Or.inl rfl) rfl h
        · replace h := h.2 q
          show Y G (d + 1) mX12_pupil 39 [(2, 234), (0, x1), (0, x2), (0, x3), (0, x4), (0, x5), (9, 0)] [(0, 0)] M Q
          refine z_ifeq (tgt := 64) dX12_pupil_39 rfl (fun _ => ?_) (fun q => absurd q (by decide))
          refine z_iconst dX12_pupil_64 ki_m1 ?_
          exact z_ireturn dX12_pupil_65 (Or.inl rfl) rfl h
      · replace h := h.2 q
        show Y G (d + 1) mX12_pupil 28 [(2, 234), (0, x1), (0, x2), (0, x3), (0, x4), (0, x5), (9, 0)] [(0, 0)] M Q
        refine z_ifeq (tgt := 64) dX12_pupil_28 rfl (fun _ => ?_) (fun q => absurd q (by decide))
        refine z_iconst dX12_pupil_64 ki_m1 ?_
        exact z_ireturn dX12_pupil_65 (Or.inl rfl) rfl h
    · replace h := h.2 q
      show Y G (d + 1) mX12_pupil 18 [(2, 234), (0, x1), (0, x2), (0, x3), (0, x4), (0, x5), (9, 0)] [(0, 0)] M Q
      refine z_ifeq (tgt := 64) dX12_pupil_18 rfl (fun _ => ?_) (fun q => absurd q (by decide))
      refine z_iconst dX12_pupil_64 ki_m1 ?_
      exact z_ireturn dX12_pupil_65 (Or.inl rfl) rfl h
  · replace h := h.2 q
    show Y G (d + 1) mX12_pupil 7 [(2, 234), (0, x1), (0, x2), (0, x3), (0, x4), (0, x5), (9, 0)] [(0, 0)] M Q
    refine z_ifeq (tgt := 64) dX12_pupil_7 rfl (fun _ => ?_) (fun q => absurd q (by decide))
    refine z_iconst dX12_pupil_64 ki_m1 ?_
    exact z_ireturn dX12_pupil_65 (Or.inl rfl) rfl h
set_option maxRecDepth 20000 in
set_option maxHeartbeats 4000000 in
theorem bX12_answer_0 {G : zG} {d : Nat} {M : zM} {Q : zV → zM → Prop} (hG : zP G) {x1 : Int}
    (h : (((-1000000) ≤ x1 ∧ x1 ≤ 1000000 → Q (0, 1) (zset M 235 3 x1)) ∧ (¬ ((-1000000) ≤ x1 ∧ x1 ≤ 1000000) → Q (0, 0) M))) :
    Y G (d + 1) mX12_answer 0 [(2, 234), (0, x1)] [] M Q := by
  refine z_iloadn dX12_answer_0 rfl ?_
  refine z_ldcw (k := (-1000000)) (v := (-1000000)) dX12_answer_1 ⟨by decide, ⟨by decide, by decide⟩⟩ qX12_367 ?_
  refine z_ldcw (k := 1000000) (v := 1000000) dX12_answer_4 ⟨by decide, ⟨by decide, by decide⟩⟩ qX12_368 ?_
  refine y_cs (mt2 := mX12_isIn) (en := [(0, x1), (0, (-1000000)), (0, 1000000)]) (st := []) (as := [(0, x1), (0, (-1000000)), (0, 1000000)]) dX12_answer_7 lX12_126 kX12_isIn tX12_isIn rfl (Nat.le_of_ble_eq_true rfl) (Nat.le_of_ble_eq_true rfl) rfl (s_isIn hG (fun q => ?_) (fun q => ?_))
  · replace h := h.1 q
    show Y G (d + 1) mX12_answer 10 [(2, 234), (0, x1)] [(0, 1)] M Q
    refine z_ifne (tgt := 15) dX12_answer_10 rfl (fun _ => ?_) (fun q => absurd q (by decide))
    refine z_aloadn dX12_answer_15 rfl (Or.inl rfl) ?_
    refine y_getr (v := 235) hG dX12_answer_16 fX12_7 sh234 (by decide) rfl (by decide +kernel) (by decide) ?_
    refine z_iconst dX12_answer_19 ki_3 ?_
    refine z_iloadn dX12_answer_20 rfl ?_
    refine y_iast hG dX12_answer_21 sh235 ⟨by decide, by decide⟩ ?_
    refine z_iconst dX12_answer_22 ki_1 ?_
    exact z_ireturn dX12_answer_23 (Or.inr ⟨rfl, ⟨by decide, by decide⟩⟩) rfl h
  · replace h := h.2 q
    show Y G (d + 1) mX12_answer 10 [(2, 234), (0, x1)] [(0, 0)] M Q
    refine z_ifne (tgt := 15) dX12_answer_10 rfl (fun q => absurd q (by decide)) (fun _ => ?_)
    refine z_iconst dX12_answer_13 ki_0 ?_
    exact z_ireturn dX12_answer_14 (Or.inr ⟨rfl, ⟨by decide, by decide⟩⟩) rfl h
set_option maxRecDepth 20000 in
set_option maxHeartbeats 4000000 in
theorem bX12_worldNow_0 {G : zG} {d : Nat} {M : zM} {Q : zV → zM → Prop} (hG : zP G)
    (h : Y G (d + 1) mX12_worldNow 2 [(2, 234), (0, 0)] [] M Q) :
    Y G (d + 1) mX12_worldNow 0 [(2, 234), (9, 0)] [] M Q := by
  refine z_iconst dX12_worldNow_0 ki_0 ?_
  refine y_istoren (ls' := [(2, 234), (0, 0)]) dX12_worldNow_1 rfl rfl ?_
  exact h
set_option maxRecDepth 20000 in
set_option maxHeartbeats 4000000 in
theorem bX12_worldNow_2 {G : zG} {d : Nat} {M : zM} {Q : zV → zM → Prop} (hG : zP G) {x1 : Int}
    (h : ((4 ≤ x1 → Y G d mX12_findKin 0 [(2, 234), (9, 0), (9, 0), (9, 0)] [] M (fun r M' => Y G (d + 1) mX12_worldNow 32 [(2, 234), (0, x1)] (zpush r []) M' Q)) ∧ (x1 < 4 → (-2147483648 ≤ 10 + x1 ∧ 10 + x1 ≤ 2147483647) ∧ (0 ≤ (10 + x1) ∧ (10 + x1) < 156) ∧ (0 ≤ x1 ∧ x1 < 4) ∧ (-2147483648 ≤ x1 + 1 ∧ x1 + 1 ≤ 2147483647) ∧ Y G (d + 1) mX12_worldNow 2 [(2, 234), (0, (x1 + 1))] [] (zset M 249 x1 (M 235 (10 + x1))) Q))) :
    Y G (d + 1) mX12_worldNow 2 [(2, 234), (0, x1)] [] M Q := by
  refine z_iloadn dX12_worldNow_2 rfl ?_
  refine z_iconst dX12_worldNow_3 ki_4 ?_
  refine z_icmpge (tgt := 28) dX12_worldNow_4 rfl (fun q => ?_) (fun q => ?_)
  · replace h := h.1 q
    refine z_aloadn dX12_worldNow_28 rfl (Or.inl rfl) ?_
    refine y_cv (mt2 := mX12_findKin) (en := [(2, 234), (9, 0), (9, 0), (9, 0)]) (st := []) (as := []) dX12_worldNow_29 lX12_146 kX12_findKin iX12_findKin eX12_findKin rfl sh234 (by decide +kernel) (Nat.le_of_ble_eq_true rfl) (Nat.le_of_ble_eq_true rfl) rfl ?_
    exact h
  · replace h := h.2 q
    refine z_aloadn dX12_worldNow_7 rfl (Or.inl rfl) ?_
    refine y_getr (v := 249) hG dX12_worldNow_8 fX12_59 sh234 (by decide) rfl (by decide +kernel) (by decide) ?_
    refine z_iloadn dX12_worldNow_11 rfl ?_
    refine z_aloadn dX12_worldNow_12 rfl (Or.inl rfl) ?_
    refine y_getr (v := 235) hG dX12_worldNow_13 fX12_7 sh234 (by decide) rfl (by decide +kernel) (by decide) ?_
    refine z_bipush dX12_worldNow_16 kb_10 ?_
    refine z_iloadn dX12_worldNow_18 rfl ?_
    obtain ⟨q1, h⟩ := h
    refine z_iadd dX12_worldNow_19 q1 ?_
    obtain ⟨q2, h⟩ := h
    refine y_iald (x := (M 235 (10 + x1))) dX12_worldNow_20 sh235 q2 rfl ?_
    obtain ⟨q3, h⟩ := h
    refine y_iast hG dX12_worldNow_21 sh249 q3 ?_
    obtain ⟨q4, h⟩ := h
    refine y_iinc (ls' := [(2, 234), (0, (x1 + 1))]) dX12_worldNow_22 rfl rfl q4 rfl ?_
    refine z_goto (tgt := 2) dX12_worldNow_25 rfl ?_
    exact h
set_option maxRecDepth 20000 in
set_option maxHeartbeats 4000000 in
theorem bX12_worldNow_32 {G : zG} {d : Nat} {M : zM} {Q : zV → zM → Prop} (hG : zP G) {x1 : Int}
    (h : Q (9, 0) M) :
    Y G (d + 1) mX12_worldNow 32 [(2, 234), (0, x1)] [] M Q := by
  exact z_return dX12_worldNow_32 rfl rfl h
set_option maxRecDepth 20000 in
set_option maxHeartbeats 4000000 in
theorem bX12_ofOne_0 {G : zG} {d : Nat} {M : zM} {Q : zV → zM → Prop} (hG : zP G) {x1 x2 : Int}
    (h : (((zlcmp x2 0) < 0 → Q (1, (-1)) M) ∧ (0 ≤ (zlcmp x2 0) → (((zlcmp x2 (M 235 1)) < 0 → ((¬ x1 = 4 → Y G (d + 1) mX12_ofOne 51 [(2, 234), (0, x1), (1, x2), (9, 0), (0, (zw x2)), (0, 0), (0, 0)] [] M Q) ∧ (x1 = 4 → (-2147483648 ≤ 3 * (zw x2) ∧ 3 * (zw x2) ≤ 2147483647) ∧ (-2147483648 ≤ 14 + (3 * (zw x2)) ∧ 14 + (3 * (zw x2)) ≤ 2147483647) ∧ (0 ≤ (14 + (3 * (zw x2))) ∧ (14 + (3 * (zw x2))) < 156) ∧ Q (1, (M 235 (14 + (3 * (zw x2))))) M))) ∧ (0 ≤ (zlcmp x2 (M 235 1)) → Q (1, (-1)) M))))) :
    Y G (d + 1) mX12_ofOne 0 [(2, 234), (0, x1), (1, x2), (9, 0), (9, 0), (9, 0), (9, 0)] [] M Q := by
  refine z_lloadn dX12_ofOne_0 rfl ?_
  refine z_lconst (k := 0) dX12_ofOne_1 ⟨by decide, ⟨by decide, by decide⟩⟩ ?_
  refine z_lcmp dX12_ofOne_2 ?_
  refine z_iflt (tgt := 18) dX12_ofOne_3 rfl (fun q => ?_) (fun q => ?_)
  · replace h := h.1 q
    refine z_ldc2 (k := (-1)) (v := (-1)) dX12_ofOne_18 ⟨by decide, ⟨by decide, by decide⟩⟩ qlX12_369 ?_
    exact z_lreturn dX12_ofOne_21 rfl rfl h
  · replace h := h.2 q
    refine z_lloadn dX12_ofOne_6 rfl ?_
    refine z_aloadn dX12_ofOne_7 rfl (Or.inl rfl) ?_
    refine y_getr (v := 235) hG dX12_ofOne_8 fX12_7 sh234 (by decide) rfl (by decide +kernel) (by decide) ?_
    refine z_iconst dX12_ofOne_11 ki_1 ?_
    refine y_iald (x := (M 235 1)) dX12_ofOne_12 sh235 ⟨by decide, by decide⟩ rfl ?_
    refine z_i2l dX12_ofOne_13 ?_
    refine z_lcmp dX12_ofOne_14 ?_
    refine z_iflt (tgt := 22) dX12_ofOne_15 rfl (fun q => ?_) (fun q => ?_)
    · replace h := h.1 q
      refine z_lloadn dX12_ofOne_22 rfl ?_
      refine z_l2i dX12_ofOne_23 ?_
      refine y_istore (ls' := [(2, 234), (0, x1), (1, x2), (9, 0), (0, (zw x2)), (9, 0), (9, 0)]) dX12_ofOne_24 rfl rfl ?_
      refine z_iloadn dX12_ofOne_26 rfl ?_
      refine z_iconst dX12_ofOne_27 ki_4 ?_
      refine z_icmpne (tgt := 45) dX12_ofOne_28 rfl (fun q => ?_) (fun q => ?_)
      · replace h := h.1 q
        refine z_iconst dX12_ofOne_45 ki_0 ?_
        refine y_istore (ls' := [(2, 234), (0, x1), (1, x2), (9, 0), (0, (zw x2)), (0, 0), (9, 0)]) dX12_ofOne_46 rfl rfl ?_
        refine z_iconst dX12_ofOne_48 ki_0 ?_
        refine y_istore (ls' := [(2, 234), (0, x1), (1, x2), (9, 0), (0, (zw x2)), (0, 0), (0, 0)]) dX12_ofOne_49 rfl rfl ?_
        exact h
      · replace h := h.2 q
        refine z_aloadn dX12_ofOne_31 rfl (Or.inl rfl) ?_
        refine y_getr (v := 235) hG dX12_ofOne_32 fX12_7 sh234 (by decide) rfl (by decide +kernel) (by decide) ?_
        refine z_bipush dX12_ofOne_35 kb_14 ?_
        refine z_iconst dX12_ofOne_37 ki_3 ?_
        refine z_iload dX12_ofOne_38 rfl ?_
        obtain ⟨q1, h⟩ := h
        refine z_imul dX12_ofOne_40 q1 ?_
        obtain ⟨q2, h⟩ := h
        refine z_iadd dX12_ofOne_41 q2 ?_
        obtain ⟨q3, h⟩ := h
        refine y_iald (x := (M 235 (14 + (3 * (zw x2))))) dX12_ofOne_42 sh235 q3 rfl ?_
        refine z_i2l dX12_ofOne_43 ?_
        exact z_lreturn dX12_ofOne_44 rfl rfl h
    · replace h := h.2 q
      refine z_ldc2 (k := (-1)) (v := (-1)) dX12_ofOne_18 ⟨by decide, ⟨by decide, by decide⟩⟩ qlX12_369 ?_
      exact z_lreturn dX12_ofOne_21 rfl rfl h
set_option maxRecDepth 20000 in
set_option maxHeartbeats 4000000 in
theorem bX12_ofOne_51 {G : zG} {d : Nat} {M : zM} {Q : zV → zM → Prop} (hG : zP G) {x1 x2 x4 x5 x6 : Int}
    (h : (((M 235 1) ≤ x6 → Q (1, x5) M) ∧ (x6 < (M 235 1) → Y G d mX12_isChild 0 [(2, 234), (0, x6), (0, x4)] [] M (fun r M' => Y G (d + 1) mX12_ofOne 72 [(2, 234), (0, x1), (1, x2), (9, 0), (0, x4), (0, x5), (0, x6)] (zpush r [(0, x5)]) M' Q)))) :
    Y G (d + 1) mX12_ofOne 51 [(2, 234), (0, x1), (1, x2), (9, 0), (0, x4), (0, x5), (0, x6)] [] M Q := by
  refine z_iload dX12_ofOne_51 rfl ?_
  refine z_aloadn dX12_ofOne_53 rfl (Or.inl rfl) ?_
  refine y_getr (v := 235) hG dX12_ofOne_54 fX12_7 sh234 (by decide) rfl (by decide +kernel) (by decide) ?_
  refine z_iconst dX12_ofOne_57 ki_1 ?_
  refine y_iald (x := (M 235 1)) dX12_ofOne_58 sh235 ⟨by decide, by decide⟩ rfl ?_
  refine z_icmpge (tgt := 89) dX12_ofOne_59 rfl (fun q => ?_) (fun q => ?_)
  · replace h := h.1 q
    refine z_iload dX12_ofOne_89 rfl ?_
    refine z_i2l dX12_ofOne_91 ?_
    exact z_lreturn dX12_ofOne_92 rfl rfl h
  · replace h := h.2 q
    refine z_iload dX12_ofOne_62 rfl ?_
    refine z_aloadn dX12_ofOne_64 rfl (Or.inl rfl) ?_
    refine z_iload dX12_ofOne_65 rfl ?_
    refine z_iload dX12_ofOne_67 rfl ?_
    refine y_cv (mt2 := mX12_isChild) (en := [(2, 234), (0, x6), (0, x4)]) (st := [(0, x5)]) (as := [(0, x6), (0, x4)]) dX12_ofOne_69 lX12_137 kX12_isChild iX12_isChild eX12_isChild rfl sh234 (by decide +kernel) (Nat.le_of_ble_eq_true rfl) (Nat.le_of_ble_eq_true rfl) rfl ?_
    exact h
set_option maxRecDepth 20000 in
set_option maxHeartbeats 4000000 in
theorem bX12_ofOne_72 {G : zG} {d : Nat} {M : zM} {Q : zV → zM → Prop} (hG : zP G) {x1 x2 x4 x5 x6 x49 x50 : Int}
    (h : ((x49 = 0 → (-2147483648 ≤ x50 + 0 ∧ x50 + 0 ≤ 2147483647) ∧ (-2147483648 ≤ x6 + 1 ∧ x6 + 1 ≤ 2147483647) ∧ Y G (d + 1) mX12_ofOne 51 [(2, 234), (0, x1), (1, x2), (9, 0), (0, x4), (0, (x50 + 0)), (0, (x6 + 1))] [] M Q) ∧ (¬ x49 = 0 → (-2147483648 ≤ x50 + 1 ∧ x50 + 1 ≤ 2147483647) ∧ (-2147483648 ≤ x6 + 1 ∧ x6 + 1 ≤ 2147483647) ∧ Y G (d + 1) mX12_ofOne 51 [(2, 234), (0, x1), (1, x2), (9, 0), (0, x4), (0, (x50 + 1)), (0, (x6 + 1))] [] M Q))) :
    Y G (d + 1) mX12_ofOne 72 [(2, 234), (0, x1), (1, x2), (9, 0), (0, x4), (0, x5), (0, x6)] [(0, x49), (0, x50)] M Q := by
  refine z_ifeq (tgt := 79) dX12_ofOne_72 rfl (fun q => ?_) (fun q => ?_)
  · replace h := h.1 q
    refine z_iconst dX12_ofOne_79 ki_0 ?_
    obtain ⟨q1, h⟩ := h
    refine z_iadd dX12_ofOne_80 q1 ?_
    refine y_istore (ls' := [(2, 234), (0, x1), (1, x2), (9, 0), (0, x4), (0, (x50 + 0)), (0, x6)]) dX12_ofOne_81 rfl rfl ?_
    obtain ⟨q2, h⟩ := h
    refine y_iinc (ls' := [(2, 234), (0, x1), (1, x2), (9, 0), (0, x4), (0, (x50 + 0)), (0, (x6 + 1))]) dX12_ofOne_83 rfl rfl q2 rfl ?_
    refine z_goto (tgt := 51) dX12_ofOne_86 rfl ?_
    exact h
  · replace h := h.2 q
    refine z_iconst dX12_ofOne_75 ki_1 ?_
    refine z_goto (tgt := 80) dX12_ofOne_76 rfl ?_
    obtain ⟨q3, h⟩ := h
    refine z_iadd dX12_ofOne_80 q3 ?_
    refine y_istore (ls' := [(2, 234), (0, x1), (1, x2), (9, 0), (0, x4), (0, (x50 + 1)), (0, x6)]) dX12_ofOne_81 rfl rfl ?_
    obtain ⟨q4, h⟩ := h
    refine y_iinc (ls' := [(2, 234), (0, x1), (1, x2), (9, 0), (0, x4), (0, (x50 + 1)), (0, (x6 + 1))]) dX12_ofOne_83 rfl rfl q4 rfl ?_
    refine z_goto (tgt := 51) dX12_ofOne_86 rfl ?_
    exact h
set_option maxRecDepth 20000 in
set_option maxHeartbeats 4000000 in
theorem bX12_ofTwo_0 {G : zG} {d : Nat} {M : zM} {Q : zV → zM → Prop} (hG : zP G) {x1 x2 x4 : Int}
    (h : (((x1 = 6) → (((zlcmp x2 0) < 0 → Q (1, (-1)) M) ∧ (0 ≤ (zlcmp x2 0) → (((zlcmp x4 0) < 0 → Q (1, (-1)) M) ∧ (0 ≤ (zlcmp x4 0) → ((0 ≤ (zlcmp x2 (M 235 1)) → Q (1, (-1)) M) ∧ ((zlcmp x2 (M 235 1)) < 0 → (((zlcmp x4 (M 235 1)) < 0 → (-2147483648 ≤ 8 * (zw x2) ∧ 8 * (zw x2) ≤ 2147483647) ∧ (-2147483648 ≤ (8 * (zw x2)) + (zw x4) ∧ (8 * (zw x2)) + (zw x4) ≤ 2147483647) ∧ (0 ≤ ((8 * (zw x2)) + (zw x4)) ∧ ((8 * (zw x2)) + (zw x4)) < 64) ∧ Q (1, (zkn (M 237 ((8 * (zw x2)) + (zw x4))))) M) ∧ (0 ≤ (zlcmp x4 (M 235 1)) → Q (1, (-1)) M))))))))) ∧ ((x1 = 7) → (((zlcmp x2 0) < 0 → Q (1, (-1)) M) ∧ (0 ≤ (zlcmp x2 0) → (((zlcmp x4 0) < 0 → Q (1, (-1)) M) ∧ (0 ≤ (zlcmp x4 0) → ((0 < (zlcmp x2 5) → Q (1, (-1)) M) ∧ ((zlcmp x2 5) ≤ 0 → (((zlcmp x4 5) ≤ 0 → (-2147483648 ≤ 6 * (zw x2) ∧ 6 * (zw x2) ≤ 2147483647) ∧ (-2147483648 ≤ (6 * (zw x2)) + (zw x4) ∧ (6 * (zw x2)) + (zw x4) ≤ 2147483647) ∧ (0 ≤ ((6 * (zw x2)) + (zw x4)) ∧ ((6 * (zw x2)) + (zw x4)) < 36) ∧ Q (1, (zkn (M 238 ((6 * (zw x2)) + (zw x4))))) M) ∧ (0 < (zlcmp x4 5) → Q (1, (-1)) M))))))))) ∧ ((x1 = 8) → (((zlcmp x2 x4) ≤ 0 → Q (1, x4) M) ∧ (0 < (zlcmp x2 x4) → Q (1, x2) M))) ∧ ((x1 < 6 ∨ 8 < x1) → ((0 ≤ (zlcmp x2 x4) → Q (1, x4) M) ∧ ((zlcmp x2 x4) < 0 → Q (1, x2) M))))) :
    Y G (d + 1) mX12_ofTwo 0 [(2, 234), (0, x1), (1, x2), (9, 0), (1, x4), (9, 0)] [] M Q := by
  refine z_iloadn dX12_ofTwo_0 rfl ?_
  rcases (show x1 < 6 ∨ 8 < x1 ∨ x1 = 6 ∨ x1 = 7 ∨ x1 = 8 by omega) with q | q | q | q | q
  · replace h := h.2.2.2 (Or.inl q)
    refine z_tswOut (tgt := 160) dX12_ofTwo_1 (Or.inl q) rfl ?_
    refine z_lloadn dX12_ofTwo_160 rfl ?_
    refine z_lload dX12_ofTwo_161 rfl ?_
    refine z_lcmp dX12_ofTwo_163 ?_
    refine z_ifge (tgt := 171) dX12_ofTwo_164 rfl (fun q => ?_) (fun q => ?_)
    · replace h := h.1 q
      refine z_lload dX12_ofTwo_171 rfl ?_
      exact z_lreturn dX12_ofTwo_173 rfl rfl h
    · replace h := h.2 q
      refine z_lloadn dX12_ofTwo_167 rfl ?_
      refine z_goto (tgt := 173) dX12_ofTwo_168 rfl ?_
      exact z_lreturn dX12_ofTwo_173 rfl rfl h
  · replace h := h.2.2.2 (Or.inr q)
    refine z_tswOut (tgt := 160) dX12_ofTwo_1 (Or.inr q) rfl ?_
    refine z_lloadn dX12_ofTwo_160 rfl ?_
    refine z_lload dX12_ofTwo_161 rfl ?_
    refine z_lcmp dX12_ofTwo_163 ?_
    refine z_ifge (tgt := 171) dX12_ofTwo_164 rfl (fun q => ?_) (fun q => ?_)
    · replace h := h.1 q
      refine z_lload dX12_ofTwo_171 rfl ?_
      exact z_lreturn dX12_ofTwo_173 rfl rfl h
    · replace h := h.2 q
      refine z_lloadn dX12_ofTwo_167 rfl ?_
      refine z_goto (tgt := 173) dX12_ofTwo_168 rfl ?_
      exact z_lreturn dX12_ofTwo_173 rfl rfl h
  · replace h := h.1 q
    refine y_tsw (tgt := 28) (k := 6) dX12_ofTwo_1 q (by decide) rfl rfl ?_
    refine z_lloadn dX12_ofTwo_28 rfl ?_
    refine z_lconst (k := 0) dX12_ofTwo_29 ⟨by decide, ⟨by decide, by decide⟩⟩ ?_
    refine z_lcmp dX12_ofTwo_30 ?_
    refine z_iflt (tgt := 66) dX12_ofTwo_31 rfl (fun q => ?_) (fun q => ?_)
    · replace h := h.1 q
      refine z_ldc2 (k := (-1)) (v := (-1)) dX12_ofTwo_66 ⟨by decide, ⟨by decide, by decide⟩⟩ qlX12_369 ?_
      refine z_goto (tgt := 90) dX12_ofTwo_69 rfl ?_
      exact z_lreturn dX12_ofTwo_90 rfl rfl h
    · replace h := h.2 q
      refine z_lload dX12_ofTwo_34 rfl ?_
      refine z_lconst (k := 0) dX12_ofTwo_36 ⟨by decide, ⟨by decide, by decide⟩⟩ ?_
      refine z_lcmp dX12_ofTwo_37 ?_
      refine z_iflt (tgt := 66) dX12_ofTwo_38 rfl (fun q => ?_) (fun q => ?_)
      · replace h := h.1 q
        refine z_ldc2 (k := (-1)) (v := (-1)) dX12_ofTwo_66 ⟨by decide, ⟨by decide, by decide⟩⟩ qlX12_369 ?_
        refine z_goto (tgt := 90) dX12_ofTwo_69 rfl ?_
        exact z_lreturn dX12_ofTwo_90 rfl rfl h
      · replace h := h.2 q
        refine z_lloadn dX12_ofTwo_41 rfl ?_
        refine z_aloadn dX12_ofTwo_42 rfl (Or.inl rfl) ?_
        refine y_getr (v := 235) hG dX12_ofTwo_43 fX12_7 sh234 (by decide) rfl (by decide +kernel) (by decide) ?_
        refine z_iconst dX12_ofTwo_46 ki_1 ?_
        refine y_iald (x := (M 235 1)) dX12_ofTwo_47 sh235 ⟨by decide, by decide⟩ rfl ?_
        refine z_i2l dX12_ofTwo_48 ?_
        refine z_lcmp dX12_ofTwo_49 ?_
        refine z_ifge (tgt := 66) dX12_ofTwo_50 rfl (fun q => ?_) (fun q => ?_)
        · replace h := h.1 q
          refine z_ldc2 (k := (-1)) (v := (-1)) dX12_ofTwo_66 ⟨by decide, ⟨by decide, by decide⟩⟩ qlX12_369 ?_
          refine z_goto (tgt := 90) dX12_ofTwo_69 rfl ?_
          exact z_lreturn dX12_ofTwo_90 rfl rfl h
        · replace h := h.2 q
          refine z_lload dX12_ofTwo_53 rfl ?_
          refine z_aloadn dX12_ofTwo_55 rfl (Or.inl rfl) ?_
          refine y_getr (v := 235) hG dX12_ofTwo_56 fX12_7 sh234 (by decide) rfl (by decide +kernel) (by decide) ?_
          refine z_iconst dX12_ofTwo_59 ki_1 ?_
          refine y_iald (x := (M 235 1)) dX12_ofTwo_60 sh235 ⟨by decide, by decide⟩ rfl ?_
          refine z_i2l dX12_ofTwo_61 ?_
          refine z_lcmp dX12_ofTwo_62 ?_
          refine z_iflt (tgt := 72) dX12_ofTwo_63 rfl (fun q => ?_) (fun q => ?_)
          · replace h := h.1 q
            refine z_aloadn dX12_ofTwo_72 rfl (Or.inl rfl) ?_
            refine y_getr (v := 237) hG dX12_ofTwo_73 fX12_16 sh234 (by decide) rfl (by decide +kernel) (by decide) ?_
            refine z_bipush dX12_ofTwo_76 kb_8 ?_
            refine z_lloadn dX12_ofTwo_78 rfl ?_
            refine z_l2i dX12_ofTwo_79 ?_
            obtain ⟨q1, h⟩ := h
            refine z_imul dX12_ofTwo_80 q1 ?_
            refine z_lload dX12_ofTwo_81 rfl ?_
            refine z_l2i dX12_ofTwo_83 ?_
            obtain ⟨q2, h⟩ := h
            refine z_iadd dX12_ofTwo_84 q2 ?_
            obtain ⟨q3, h⟩ := h
            refine y_iald (x := (M 237 ((8 * (zw x2)) + (zw x4)))) dX12_ofTwo_85 sh237 q3 rfl ?_
            refine y_cs (mt2 := mX12_known) (en := [(0, (M 237 ((8 * (zw x2)) + (zw x4))))]) (st := []) (as := [(0, (M 237 ((8 * (zw x2)) + (zw x4))))]) dX12_ofTwo_86 lX12_149 kX12_known tX12_known rfl (Nat.le_of_ble_eq_true rfl) (Nat.le_of_ble_eq_true rfl) rfl (s_known hG ?_)
            show Y G (d + 1) mX12_ofTwo 89 [(2, 234), (0, x1), (1, x2), (9, 0), (1, x4), (9, 0)] [(0, (zkn (M 237 ((8 * (zw x2)) + (zw x4)))))] M Q
            refine z_i2l dX12_ofTwo_89 ?_
            exact z_lreturn dX12_ofTwo_90 rfl rfl h
          · replace h := h.2 q
            refine z_ldc2 (k := (-1)) (v := (-1)) dX12_ofTwo_66 ⟨by decide, ⟨by decide, by decide⟩⟩ qlX12_369 ?_
            refine z_goto (tgt := 90) dX12_ofTwo_69 rfl ?_
            exact z_lreturn dX12_ofTwo_90 rfl rfl h
  · replace h := h.2.1 q
    refine y_tsw (tgt := 91) (k := 7) dX12_ofTwo_1 q (by decide) rfl rfl ?_
    refine z_lloadn dX12_ofTwo_91 rfl ?_
    refine z_lconst (k := 0) dX12_ofTwo_92 ⟨by decide, ⟨by decide, by decide⟩⟩ ?_
    refine z_lcmp dX12_ofTwo_93 ?_
    refine z_iflt (tgt := 121) dX12_ofTwo_94 rfl (fun q => ?_) (fun q => ?_)
    · replace h := h.1 q
      refine z_ldc2 (k := (-1)) (v := (-1)) dX12_ofTwo_121 ⟨by decide, ⟨by decide, by decide⟩⟩ qlX12_369 ?_
      refine z_goto (tgt := 145) dX12_ofTwo_124 rfl ?_
      exact z_lreturn dX12_ofTwo_145 rfl rfl h
    · replace h := h.2 q
      refine z_lload dX12_ofTwo_97 rfl ?_
      refine z_lconst (k := 0) dX12_ofTwo_99 ⟨by decide, ⟨by decide, by decide⟩⟩ ?_
      refine z_lcmp dX12_ofTwo_100 ?_
      refine z_iflt (tgt := 121) dX12_ofTwo_101 rfl (fun q => ?_) (fun q => ?_)
      · replace h := h.1 q
        refine z_ldc2 (k := (-1)) (v := (-1)) dX12_ofTwo_121 ⟨by decide, ⟨by decide, by decide⟩⟩ qlX12_369 ?_
        refine z_goto (tgt := 145) dX12_ofTwo_124 rfl ?_
        exact z_lreturn dX12_ofTwo_145 rfl rfl h
      · replace h := h.2 q
        refine z_lloadn dX12_ofTwo_104 rfl ?_
        refine z_ldc2 (k := 5) (v := 5) dX12_ofTwo_105 ⟨by decide, ⟨by decide, by decide⟩⟩ qlX12_371 ?_
        refine z_lcmp dX12_ofTwo_108 ?_
        refine z_ifgt (tgt := 121) dX12_ofTwo_109 rfl (fun q => ?_) (fun q => ?_)
        · replace h := h.1 q
          refine z_ldc2 (k := (-1)) (v := (-1)) dX12_ofTwo_121 ⟨by decide, ⟨by decide, by decide⟩⟩ qlX12_369 ?_
          refine z_goto (tgt := 145) dX12_ofTwo_124 rfl ?_
          exact z_lreturn dX12_ofTwo_145 rfl rfl h
        · replace h := h.2 q
          refine z_lload dX12_ofTwo_112 rfl ?_
          refine z_ldc2 (k := 5) (v := 5) dX12_ofTwo_114 ⟨by decide, ⟨by decide, by decide⟩⟩ qlX12_371 ?_
          refine z_lcmp dX12_ofTwo_117 ?_
          refine z_ifle (tgt := 127) dX12_ofTwo_118 rfl (fun q => ?_) (fun q => ?_)
          · replace h := h.1 q
            refine z_aloadn dX12_ofTwo_127 rfl (Or.inl rfl) ?_
            refine y_getr (v := 238) hG dX12_ofTwo_128 fX12_19 sh234 (by decide) rfl (by decide +kernel) (by decide) ?_
            refine z_bipush dX12_ofTwo_131 kb_6 ?_
            refine z_lloadn dX12_ofTwo_133 rfl ?_
            refine z_l2i dX12_ofTwo_134 ?_
            obtain ⟨q4, h⟩ := h
            refine z_imul dX12_ofTwo_135 q4 ?_
            refine z_lload dX12_ofTwo_136 rfl ?_
            refine z_l2i dX12_ofTwo_138 ?_
            obtain ⟨q5, h⟩ := h
            refine z_iadd dX12_ofTwo_139 q5 ?_
            obtain ⟨q6, h⟩ := h
            refine y_iald (x := (M 238 ((6 * (zw x2)) + (zw x4)))) dX12_ofTwo_140 sh238 q6 rfl ?_
            refine y_cs (mt2 := mX12_known) (en := [(0, (M 238 ((6 * (zw x2)) + (zw x4))))]) (st := []) (as := [(0, (M 238 ((6 * (zw x2)) + (zw x4))))]) dX12_ofTwo_141 lX12_149 kX12_known tX12_known rfl (Nat.le_of_ble_eq_true rfl) (Nat.le_of_ble_eq_true rfl) rfl (s_known hG ?_)
            show Y G (d + 1) mX12_ofTwo 144 [(2, 234), (0, x1), (1, x2), (9, 0), (1, x4), (9, 0)] [(0, (zkn (M 238 ((6 * (zw x2)) + (zw x4)))))] M Q
            refine z_i2l dX12_ofTwo_144 ?_
            exact z_lreturn dX12_ofTwo_145 rfl rfl h
          · replace h := h.2 q
            refine z_ldc2 (k := (-1)) (v := (-1)) dX12_ofTwo_121 ⟨by decide, ⟨by decide, by decide⟩⟩ qlX12_369 ?_
            refine z_goto (tgt := 145) dX12_ofTwo_124 rfl ?_
            exact z_lreturn dX12_ofTwo_145 rfl rfl h
  · replace h := h.2.2.1 q
    refine y_tsw (tgt := 146) (k := 8) dX12_ofTwo_1 q (by decide) rfl rfl ?_
    refine z_lloadn dX12_ofTwo_146 rfl ?_
    refine z_lload dX12_ofTwo_147 rfl ?_
    refine z_lcmp dX12_ofTwo_149 ?_
    refine z_ifle (tgt := 157) dX12_ofTwo_150 rfl (fun q => ?_) (fun q => ?_)
    · replace h := h.1 q
      refine z_lload dX12_ofTwo_157 rfl ?_
      exact z_lreturn dX12_ofTwo_159 rfl rfl h
    · replace h := h.2 q
      refine z_lloadn dX12_ofTwo_153 rfl ?_
      refine z_goto (tgt := 159) dX12_ofTwo_154 rfl ?_
      exact z_lreturn dX12_ofTwo_159 rfl rfl h
set_option maxRecDepth 20000 in
set_option maxHeartbeats 4000000 in
theorem bX12_answerOf_0 {G : zG} {d : Nat} {M : zM} {Q : zV → zM → Prop} (hG : zP G) {x1 : Int}
    (h : Y G (d + 1) mX12_answerOf 4 [(2, 234), (0, x1), (0, 0), (0, 0), (9, 0), (9, 0), (9, 0), (9, 0), (9, 0), (9, 0)] [] M Q) :
    Y G (d + 1) mX12_answerOf 0 [(2, 234), (0, x1), (9, 0), (9, 0), (9, 0), (9, 0), (9, 0), (9, 0), (9, 0), (9, 0)] [] M Q := by
  refine z_iconst dX12_answerOf_0 ki_0 ?_
  refine y_istoren (ls' := [(2, 234), (0, x1), (0, 0), (9, 0), (9, 0), (9, 0), (9, 0), (9, 0), (9, 0), (9, 0)]) dX12_answerOf_1 rfl rfl ?_
  refine z_iconst dX12_answerOf_2 ki_0 ?_
  refine y_istoren (ls' := [(2, 234), (0, x1), (0, 0), (0, 0), (9, 0), (9, 0), (9, 0), (9, 0), (9, 0), (9, 0)]) dX12_answerOf_3 rfl rfl ?_
  exact h
set_option maxRecDepth 20000 in
set_option maxHeartbeats 4000000 in
theorem bX12_answerOf_4 {G : zG} {d : Nat} {M : zM} {Q : zV → zM → Prop} (hG : zP G) {x1 x2 x3 : Int}
    (h : (0 ≤ x1 ∧ x1 < 12) ∧ (((M 246 x1) ≤ x3 → Q (1, (M 250 0)) M) ∧ (x3 < (M 246 x1) → (-2147483648 ≤ 240 * x1 ∧ 240 * x1 ≤ 2147483647) ∧ (-2147483648 ≤ 2 * x3 ∧ 2 * x3 ≤ 2147483647) ∧ (-2147483648 ≤ (240 * x1) + (2 * x3) ∧ (240 * x1) + (2 * x3) ≤ 2147483647) ∧ (0 ≤ ((240 * x1) + (2 * x3)) ∧ ((240 * x1) + (2 * x3)) < 2880) ∧ (-2147483648 ≤ 240 * x1 ∧ 240 * x1 ≤ 2147483647) ∧ (-2147483648 ≤ 2 * x3 ∧ 2 * x3 ≤ 2147483647) ∧ (-2147483648 ≤ (240 * x1) + (2 * x3) ∧ (240 * x1) + (2 * x3) ≤ 2147483647) ∧ (-2147483648 ≤ ((240 * x1) + (2 * x3)) + 1 ∧ ((240 * x1) + (2 * x3)) + 1 ≤ 2147483647) ∧ (0 ≤ (((240 * x1) + (2 * x3)) + 1) ∧ (((240 * x1) + (2 * x3)) + 1) < 2880) ∧ ((2 ≤ (M 247 ((240 * x1) + (2 * x3))) → ((¬ (M 247 ((240 * x1) + (2 * x3))) = 2 → ((¬ (M 247 ((240 * x1) + (2 * x3))) = 3 → ((6 ≤ (M 247 ((240 * x1) + (2 * x3))) → ((10 ≤ (M 247 ((240 * x1) + (2 * x3))) → (-2147483648 ≤ x2 - 4 ∧ x2 - 4 ≤ 2147483647) ∧ ((¬ (M 247 ((240 * x1) + (2 * x3))) = 0 → ((¬ (M 247 ((240 * x1) + (2 * x3))) = 1 → (0 ≤ (x2 - 4) ∧ (x2 - 4) < 130) ∧ (((M 247 ((240 * x1) + (2 * x3))) = 2 → Y G (d + 1) mX12_answerOf 162 [(2, 234), (0, x1), (0, (x2 - 4)), (0, x3), (0, (M 247 ((240 * x1) + (2 * x3)))), (0, (M 247 (((240 * x1) + (2 * x3)) + 1))), (0, 4), (1, (M 250 (x2 - 4))), (9, 0), (9, 0)] [] M Q) ∧ (¬ (M 247 ((240 * x1) + (2 * x3))) = 2 → ((¬ (M 247 ((240 * x1) + (2 * x3))) = 3 → (((M 247 ((240 * x1) + (2 * x3))) = 4 → Y G (d + 1) mX12_answerOf 259 [(2, 234), (0, x1), (0, (x2 - 4)), (0, x3), (0, (M 247 ((240 * x1) + (2 * x3)))), (0, (M 247 (((240 * x1) + (2 * x3)) + 1))), (0, 4), (1, (M 250 (x2 - 4))), (9, 0), (9, 0)] [] M Q) ∧ (¬ (M 247 ((240 * x1) + (2 * x3))) = 4 → ((¬ (M 247 ((240 * x1) + (2 * x3))) = 5 → ((¬ (M 247 ((240 * x1) + (2 * x3))) = 10 → (((M 247 ((240 * x1) + (2 * x3))) ≤ 5 → Y G (d + 1) mX12_answerOf 345 [(2, 234), (0, x1), (0, (x2 - 4)), (0, x3), (0, (M 247 ((240 * x1) + (2 * x3)))), (0, (M 247 (((240 * x1) + (2 * x3)) + 1))), (0, 4), (1, (M 250 (x2 - 4))), (9, 0), (9, 0)] [] M Q) ∧ (5 < (M 247 ((240 * x1) + (2 * x3))) → (-2147483648 ≤ (x2 - 4) + 1 ∧ (x2 - 4) + 1 ≤ 2147483647) ∧ (0 ≤ ((x2 - 4) + 1) ∧ ((x2 - 4) + 1) < 130) ∧ Y G d mX12_ofTwo 0 [(2, 234), (0, (M 247 ((240 * x1) + (2 * x3)))), (1, (M 250 (x2 - 4))), (9, 0), (1, (M 250 ((x2 - 4) + 1))), (9, 0)] [] M (fun r M' => Y G (d + 1) mX12_answerOf 343 [(2, 234), (0, x1), (0, (x2 - 4)), (0, x3), (0, (M 247 ((240 * x1) + (2 * x3)))), (0, (M 247 (((240 * x1) + (2 * x3)) + 1))), (0, 4), (1, (M 250 (x2 - 4))), (9, 0), (9, 0)] (zpush r []) M' Q)))) ∧ ((M 247 ((240 * x1) + (2 * x3))) = 10 → (-2147483648 ≤ (x2 - 4) + 1 ∧ (x2 - 4) + 1 ≤ 2147483647) ∧ (0 ≤ ((x2 - 4) + 1) ∧ ((x2 - 4) + 1) < 130) ∧ Y G d mX12_isSo 0 [(0, (M 247 (((240 * x1) + (2 * x3)) + 1))), (1, (M 250 (x2 - 4))), (9, 0), (1, (M 250 ((x2 - 4) + 1))), (9, 0)] [] M (fun r M' => Y G (d + 1) mX12_answerOf 294 [(2, 234), (0, x1), (0, (x2 - 4)), (0, x3), (0, (M 247 ((240 * x1) + (2 * x3)))), (0, (M 247 (((240 * x1) + (2 * x3)) + 1))), (0, 4), (1, (M 250 (x2 - 4))), (9, 0), (9, 0)] (zpush r []) M' Q)))) ∧ ((M 247 ((240 * x1) + (2 * x3))) = 5 → Y G (d + 1) mX12_answerOf 259 [(2, 234), (0, x1), (0, (x2 - 4)), (0, x3), (0, (M 247 ((240 * x1) + (2 * x3)))), (0, (M 247 (((240 * x1) + (2 * x3)) + 1))), (0, 4), (1, (M 250 (x2 - 4))), (9, 0), (9, 0)] [] M Q))))) ∧ ((M 247 ((240 * x1) + (2 * x3))) = 3 → Y G (d + 1) mX12_answerOf 162 [(2, 234), (0, x1), (0, (x2 - 4)), (0, x3), (0, (M 247 ((240 * x1) + (2 * x3)))), (0, (M 247 (((240 * x1) + (2 * x3)) + 1))), (0, 4), (1, (M 250 (x2 - 4))), (9, 0), (9, 0)] [] M Q))))) ∧ ((M 247 ((240 * x1) + (2 * x3))) = 1 → (0 ≤ (M 247 (((240 * x1) + (2 * x3)) + 1)) ∧ (M 247 (((240 * x1) + (2 * x3)) + 1)) < 4) ∧ (((M 247 ((240 * x1) + (2 * x3))) = 2 → Y G (d + 1) mX12_answerOf 162 [(2, 234), (0, x1), (0, (x2 - 4)), (0, x3), (0, (M 247 ((240 * x1) + (2 * x3)))), (0, (M 247 (((240 * x1) + (2 * x3)) + 1))), (0, 4), (1, (M 249 (M 247 (((240 * x1) + (2 * x3)) + 1)))), (9, 0), (9, 0)] [] M Q) ∧ (¬ (M 247 ((240 * x1) + (2 * x3))) = 2 → ((¬ (M 247 ((240 * x1) + (2 * x3))) = 3 → (((M 247 ((240 * x1) + (2 * x3))) = 4 → Y G (d + 1) mX12_answerOf 259 [(2, 234), (0, x1), (0, (x2 - 4)), (0, x3), (0, (M 247 ((240 * x1) + (2 * x3)))), (0, (M 247 (((240 * x1) + (2 * x3)) + 1))), (0, 4), (1, (M 249 (M 247 (((240 * x1) + (2 * x3)) + 1)))), (9, 0), (9, 0)] [] M Q) ∧ (¬ (M 247 ((240 * x1) + (2 * x3))) = 4 → ((¬ (M 247 ((240 * x1) + (2 * x3))) = 5 → ((¬ (M 247 ((240 * x1) + (2 * x3))) = 10 → (((M 247 ((240 * x1) + (2 * x3))) ≤ 5 → Y G (d + 1) mX12_answerOf 345 [(2, 234), (0, x1), (0, (x2 - 4)), (0, x3), (0, (M 247 ((240 * x1) + (2 * x3)))), (0, (M 247 (((240 * x1) + (2 * x3)) + 1))), (0, 4), (1, (M 249 (M 247 (((240 * x1) + (2 * x3)) + 1)))), (9, 0), (9, 0)] [] M Q) ∧ (5 < (M 247 ((240 * x1) + (2 * x3))) → (-2147483648 ≤ (x2 - 4) + 1 ∧ (x2 - 4) + 1 ≤ 2147483647) ∧ (0 ≤ ((x2 - 4) + 1) ∧ ((x2 - 4) + 1) < 130) ∧ Y G d mX12_ofTwo 0 [(2, 234), (0, (M 247 ((240 * x1) + (2 * x3)))), (1, (M 249 (M 247 (((240 * x1) + (2 * x3)) + 1)))), (9, 0), (1, (M 250 ((x2 - 4) + 1))), (9, 0)] [] M (fun r M' => Y G (d + 1) mX12_answerOf 343 [(2, 234), (0, x1), (0, (x2 - 4)), (0, x3), (0, (M 247 ((240 * x1) + (2 * x3)))), (0, (M 247 (((240 * x1) + (2 * x3)) + 1))), (0, 4), (1, (M 249 (M 247 (((240 * x1) + (2 * x3)) + 1)))), (9, 0), (9, 0)] (zpush r []) M' Q)))) ∧ ((M 247 ((240 * x1) + (2 * x3))) = 10 → (-2147483648 ≤ (x2 - 4) + 1 ∧ (x2 - 4) + 1 ≤ 2147483647) ∧ (0 ≤ ((x2 - 4) + 1) ∧ ((x2 - 4) + 1) < 130) ∧ Y G d mX12_isSo 0 [(0, (M 247 (((240 * x1) + (2 * x3)) + 1))), (1, (M 249 (M 247 (((240 * x1) + (2 * x3)) + 1)))), (9, 0), (1, (M 250 ((x2 - 4) + 1))), (9, 0)] [] M (fun r M' => Y G (d + 1) mX12_answerOf 294 [(2, 234), (0, x1), (0, (x2 - 4)), (0, x3), (0, (M 247 ((240 * x1) + (2 * x3)))), (0, (M 247 (((240 * x1) + (2 * x3)) + 1))), (0, 4), (1, (M 249 (M 247 (((240 * x1) + (2 * x3)) + 1)))), (9, 0), (9, 0)] (zpush r []) M' Q)))) ∧ ((M 247 ((240 * x1) + (2 * x3))) = 5 → Y G (d + 1) mX12_answerOf 259 [(2, 234), (0, x1), (0, (x2 - 4)), (0, x3), (0, (M 247 ((240 * x1) + (2 * x3)))), (0, (M 247 (((240 * x1) + (2 * x3)) + 1))), (0, 4), (1, (M 249 (M 247 (((240 * x1) + (2 * x3)) + 1)))), (9, 0), (9, 0)] [] M Q))))) ∧ ((M 247 ((240 * x1) + (2 * x3))) = 3 → Y G (d + 1) mX12_answerOf 162 [(2, 234), (0, x1), (0, (x2 - 4)), (0, x3), (0, (M 247 ((240 * x1) + (2 * x3)))), (0, (M 247 (((240 * x1) + (2 * x3)) + 1))), (0, 4), (1, (M 249 (M 247 (((240 * x1) + (2 * x3)) + 1)))), (9, 0), (9, 0)] [] M Q))))))) ∧ ((M 247 ((240 * x1) + (2 * x3))) = 0 → (((M 247 ((240 * x1) + (2 * x3))) = 2 → Y G (d + 1) mX12_answerOf 162 [(2, 234), (0, x1), (0, (x2 - 4)), (0, x3), (0, (M 247 ((240 * x1) + (2 * x3)))), (0, (M 247 (((240 * x1) + (2 * x3)) + 1))), (0, 4), (1, (M 247 (((240 * x1) + (2 * x3)) + 1))), (9, 0), (9, 0)] [] M Q) ∧ (¬ (M 247 ((240 * x1) + (2 * x3))) = 2 → ((¬ (M 247 ((240 * x1) + (2 * x3))) = 3 → (((M 247 ((240 * x1) + (2 * x3))) = 4 → Y G (d + 1) mX12_answerOf 259 [(2, 234), (0, x1), (0, (x2 - 4)), (0, x3), (0, (M 247 ((240 * x1) + (2 * x3)))), (0, (M 247 (((240 * x1) + (2 * x3)) + 1))), (0, 4), (1, (M 247 (((240 * x1) + (2 * x3)) + 1))), (9, 0), (9, 0)] [] M Q) ∧ (¬ (M 247 ((240 * x1) + (2 * x3))) = 4 → ((¬ (M 247 ((240 * x1) + (2 * x3))) = 5 → ((¬ (M 247 ((240 * x1) + (2 * x3))) = 10 → (((M 247 ((240 * x1) + (2 * x3))) ≤ 5 → Y G (d + 1) mX12_answerOf 345 [(2, 234), (0, x1), (0, (x2 - 4)), (0, x3), (0, (M 247 ((240 * x1) + (2 * x3)))), (0, (M 247 (((240 * x1) + (2 * x3)) + 1))), (0, 4), (1, (M 247 (((240 * x1) + (2 * x3)) + 1))), (9, 0), (9, 0)] [] M Q) ∧ (5 < (M 247 ((240 * x1) + (2 * x3))) → (-2147483648 ≤ (x2 - 4) + 1 ∧ (x2 - 4) + 1 ≤ 2147483647) ∧ (0 ≤ ((x2 - 4) + 1) ∧ ((x2 - 4) + 1) < 130) ∧ Y G d mX12_ofTwo 0 [(2, 234), (0, (M 247 ((240 * x1) + (2 * x3)))), (1, (M 247 (((240 * x1) + (2 * x3)) + 1))), (9, 0), (1, (M 250 ((x2 - 4) + 1))), (9, 0)] [] M (fun r M' => Y G (d + 1) mX12_answerOf 343 [(2, 234), (0, x1), (0, (x2 - 4)), (0, x3), (0, (M 247 ((240 * x1) + (2 * x3)))), (0, (M 247 (((240 * x1) + (2 * x3)) + 1))), (0, 4), (1, (M 247 (((240 * x1) + (2 * x3)) + 1))), (9, 0), (9, 0)] (zpush r []) M' Q)))) ∧ ((M 247 ((240 * x1) + (2 * x3))) = 10 → (-2147483648 ≤ (x2 - 4) + 1 ∧ (x2 - 4) + 1 ≤ 2147483647) ∧ (0 ≤ ((x2 - 4) + 1) ∧ ((x2 - 4) + 1) < 130) ∧ Y G d mX12_isSo 0 [(0, (M 247 (((240 * x1) + (2 * x3)) + 1))), (1, (M 247 (((240 * x1) + (2 * x3)) + 1))), (9, 0), (1, (M 250 ((x2 - 4) + 1))), (9, 0)] [] M (fun r M' => Y G (d + 1) mX12_answerOf 294 [(2, 234), (0, x1), (0, (x2 - 4)), (0, x3), (0, (M 247 ((240 * x1) + (2 * x3)))), (0, (M 247 (((240 * x1) + (2 * x3)) + 1))), (0, 4), (1, (M 247 (((240 * x1) + (2 * x3)) + 1))), (9, 0), (9, 0)] (zpush r []) M' Q)))) ∧ ((M 247 ((240 * x1) + (2 * x3))) = 5 → Y G (d + 1) mX12_answerOf 259 [(2, 234), (0, x1), (0, (x2 - 4)), (0, x3), (0, (M 247 ((240 * x1) + (2 * x3)))), (0, (M 247 (((240 * x1) + (2 * x3)) + 1))), (0, 4), (1, (M 247 (((240 * x1) + (2 * x3)) + 1))), (9, 0), (9, 0)] [] M Q))))) ∧ ((M 247 ((240 * x1) + (2 * x3))) = 3 → Y G (d + 1) mX12_answerOf 162 [(2, 234), (0, x1), (0, (x2 - 4)), (0, x3), (0, (M 247 ((240 * x1) + (2 * x3)))), (0, (M 247 (((240 * x1) + (2 * x3)) + 1))), (0, 4), (1, (M 247 (((240 * x1) + (2 * x3)) + 1))), (9, 0), (9, 0)] [] M Q))))))) ∧ ((M 247 ((240 * x1) + (2 * x3))) < 10 → (-2147483648 ≤ x2 - 2 ∧ x2 - 2 ≤ 2147483647) ∧ ((¬ (M 247 ((240 * x1) + (2 * x3))) = 0 → ((¬ (M 247 ((240 * x1) + (2 * x3))) = 1 → (0 ≤ (x2 - 2) ∧ (x2 - 2) < 130) ∧ (((M 247 ((240 * x1) + (2 * x3))) = 2 → Y G (d + 1) mX12_answerOf 162 [(2, 234), (0, x1), (0, (x2 - 2)), (0, x3), (0, (M 247 ((240 * x1) + (2 * x3)))), (0, (M 247 (((240 * x1) + (2 * x3)) + 1))), (0, 2), (1, (M 250 (x2 - 2))), (9, 0), (9, 0)] [] M Q) ∧ (¬ (M 247 ((240 * x1) + (2 * x3))) = 2 → ((¬ (M 247 ((240 * x1) + (2 * x3))) = 3 → (((M 247 ((240 * x1) + (2 * x3))) = 4 → Y G (d + 1) mX12_answerOf 259 [(2, 234), (0, x1), (0, (x2 - 2)), (0, x3), (0, (M 247 ((240 * x1) + (2 * x3)))), (0, (M 247 (((240 * x1) + (2 * x3)) + 1))), (0, 2), (1, (M 250 (x2 - 2))), (9, 0), (9, 0)] [] M Q) ∧ (¬ (M 247 ((240 * x1) + (2 * x3))) = 4 → ((¬ (M 247 ((240 * x1) + (2 * x3))) = 5 → ((¬ (M 247 ((240 * x1) + (2 * x3))) = 10 → (((M 247 ((240 * x1) + (2 * x3))) ≤ 5 → Y G (d + 1) mX12_answerOf 345 [(2, 234), (0, x1), (0, (x2 - 2)), (0, x3), (0, (M 247 ((240 * x1) + (2 * x3)))), (0, (M 247 (((240 * x1) + (2 * x3)) + 1))), (0, 2), (1, (M 250 (x2 - 2))), (9, 0), (9, 0)] [] M Q) ∧ (5 < (M 247 ((240 * x1) + (2 * x3))) → (-2147483648 ≤ (x2 - 2) + 1 ∧ (x2 - 2) + 1 ≤ 2147483647) ∧ (0 ≤ ((x2 - 2) + 1) ∧ ((x2 - 2) + 1) < 130) ∧ Y G d mX12_ofTwo 0 [(2, 234), (0, (M 247 ((240 * x1) + (2 * x3)))), (1, (M 250 (x2 - 2))), (9, 0), (1, (M 250 ((x2 - 2) + 1))), (9, 0)] [] M (fun r M' => Y G (d + 1) mX12_answerOf 343 [(2, 234), (0, x1), (0, (x2 - 2)), (0, x3), (0, (M 247 ((240 * x1) + (2 * x3)))), (0, (M 247 (((240 * x1) + (2 * x3)) + 1))), (0, 2), (1, (M 250 (x2 - 2))), (9, 0), (9, 0)] (zpush r []) M' Q)))) ∧ ((M 247 ((240 * x1) + (2 * x3))) = 10 → (-2147483648 ≤ (x2 - 2) + 1 ∧ (x2 - 2) + 1 ≤ 2147483647) ∧ (0 ≤ ((x2 - 2) + 1) ∧ ((x2 - 2) + 1) < 130) ∧ Y G d mX12_isSo 0 [(0, (M 247 (((240 * x1) + (2 * x3)) + 1))), (1, (M 250 (x2 - 2))), (9, 0), (1, (M 250 ((x2 - 2) + 1))), (9, 0)] [] M (fun r M' => Y G (d + 1) mX12_answerOf 294 [(2, 234), (0, x1), (0, (x2 - 2)), (0, x3), (0, (M 247 ((240 * x1) + (2 * x3)))), (0, (M 247 (((240 * x1) + (2 * x3)) + 1))), (0, 2), (1, (M 250 (x2 - 2))), (9, 0), (9, 0)] (zpush r []) M' Q)))) ∧ ((M 247 ((240 * x1) + (2 * x3))) = 5 → Y G (d + 1) mX12_answerOf 259 [(2, 234), (0, x1), (0, (x2 - 2)), (0, x3), (0, (M 247 ((240 * x1) + (2 * x3)))), (0, (M 247 (((240 * x1) + (2 * x3)) + 1))), (0, 2), (1, (M 250 (x2 - 2))), (9, 0), (9, 0)] [] M Q))))) ∧ ((M 247 ((240 * x1) + (2 * x3))) = 3 → Y G (d + 1) mX12_answerOf 162 [(2, 234), (0, x1), (0, (x2 - 2)), (0, x3), (0, (M 247 ((240 * x1) + (2 * x3)))), (0, (M 247 (((240 * x1) + (2 * x3)) + 1))), (0, 2), (1, (M 250 (x2 - 2))), (9, 0), (9, 0)] [] M Q))))) ∧ ((M 247 ((240 * x1) + (2 * x3))) = 1 → (0 ≤ (M 247 (((240 * x1) + (2 * x3)) + 1)) ∧ (M 247 (((240 * x1) + (2 * x3)) + 1)) < 4) ∧ (((M 247 ((240 * x1) + (2 * x3))) = 2 → Y G (d + 1) mX12_answerOf 162 [(2, 234), (0, x1), (0, (x2 - 2)), (0, x3), (0, (M 247 ((240 * x1) + (2 * x3)))), (0, (M 247 (((240 * x1) + (2 * x3)) + 1))), (0, 2), (1, (M 249 (M 247 (((240 * x1) + (2 * x3)) + 1)))), (9, 0), (9, 0)] [] M Q) ∧ (¬ (M 247 ((240 * x1) + (2 * x3))) = 2 → ((¬ (M 247 ((240 * x1) + (2 * x3))) = 3 → (((M 247 ((240 * x1) + (2 * x3))) = 4 → Y G (d + 1) mX12_answerOf 259 [(2, 234), (0, x1), (0, (x2 - 2)), (0, x3), (0, (M 247 ((240 * x1) + (2 * x3)))), (0, (M 247 (((240 * x1) + (2 * x3)) + 1))), (0, 2), (1, (M 249 (M 247 (((240 * x1) + (2 * x3)) + 1)))), (9, 0), (9, 0)] [] M Q) ∧ (¬ (M 247 ((240 * x1) + (2 * x3))) = 4 → ((¬ (M 247 ((240 * x1) + (2 * x3))) = 5 → ((¬ (M 247 ((240 * x1) + (2 * x3))) = 10 → (((M 247 ((240 * x1) + (2 * x3))) ≤ 5 → Y G (d + 1) mX12_answerOf 345 [(2, 234), (0, x1), (0, (x2 - 2)), (0, x3), (0, (M 247 ((240 * x1) + (2 * x3)))), (0, (M 247 (((240 * x1) + (2 * x3)) + 1))), (0, 2), (1, (M 249 (M 247 (((240 * x1) + (2 * x3)) + 1)))), (9, 0), (9, 0)] [] M Q) ∧ (5 < (M 247 ((240 * x1) + (2 * x3))) → (-2147483648 ≤ (x2 - 2) + 1 ∧ (x2 - 2) + 1 ≤ 2147483647) ∧ (0 ≤ ((x2 - 2) + 1) ∧ ((x2 - 2) + 1) < 130) ∧ Y G d mX12_ofTwo 0 [(2, 234), (0, (M 247 ((240 * x1) + (2 * x3)))), (1, (M 249 (M 247 (((240 * x1) + (2 * x3)) + 1)))), (9, 0), (1, (M 250 ((x2 - 2) + 1))), (9, 0)] [] M (fun r M' => Y G (d + 1) mX12_answerOf 343 [(2, 234), (0, x1), (0, (x2 - 2)), (0, x3), (0, (M 247 ((240 * x1) + (2 * x3)))), (0, (M 247 (((240 * x1) + (2 * x3)) + 1))), (0, 2), (1, (M 249 (M 247 (((240 * x1) + (2 * x3)) + 1)))), (9, 0), (9, 0)] (zpush r []) M' Q)))) ∧ ((M 247 ((240 * x1) + (2 * x3))) = 10 → (-2147483648 ≤ (x2 - 2) + 1 ∧ (x2 - 2) + 1 ≤ 2147483647) ∧ (0 ≤ ((x2 - 2) + 1) ∧ ((x2 - 2) + 1) < 130) ∧ Y G d mX12_isSo 0 [(0, (M 247 (((240 * x1) + (2 * x3)) + 1))), (1, (M 249 (M 247 (((240 * x1) + (2 * x3)) + 1)))), (9, 0), (1, (M 250 ((x2 - 2) + 1))), (9, 0)] [] M (fun r M' => Y G (d + 1) mX12_answerOf 294 [(2, 234), (0, x1), (0, (x2 - 2)), (0, x3), (0, (M 247 ((240 * x1) + (2 * x3)))), (0, (M 247 (((240 * x1) + (2 * x3)) + 1))), (0, 2), (1, (M 249 (M 247 (((240 * x1) + (2 * x3)) + 1)))), (9, 0), (9, 0)] (zpush r []) M' Q)))) ∧ ((M 247 ((240 * x1) + (2 * x3))) = 5 → Y G (d + 1) mX12_answerOf 259 [(2, 234), (0, x1), (0, (x2 - 2)), (0, x3), (0, (M 247 ((240 * x1) + (2 * x3)))), (0, (M 247 (((240 * x1) + (2 * x3)) + 1))), (0, 2), (1, (M 249 (M 247 (((240 * x1) + (2 * x3)) + 1)))), (9, 0), (9, 0)] [] M Q))))) ∧ ((M 247 ((240 * x1) + (2 * x3))) = 3 → Y G (d + 1) mX12_answerOf 162 [(2, 234), (0, x1), (0, (x2 - 2)), (0, x3), (0, (M 247 ((240 * x1) + (2 * x3)))), (0, (M 247 (((240 * x1) + (2 * x3)) + 1))), (0, 2), (1, (M 249 (M 247 (((240 * x1) + (2 * x3)) + 1)))), (9, 0), (9, 0)] [] M Q))))))) ∧ ((M 247 ((240 * x1) + (2 * x3))) = 0 → (((M 247 ((240 * x1) + (2 * x3))) = 2 → Y G (d + 1) mX12_answerOf 162 [(2, 234), (0, x1), (0, (x2 - 2)), (0, x3), (0, (M 247 ((240 * x1) + (2 * x3)))), (0, (M 247 (((240 * x1) + (2 * x3)) + 1))), (0, 2), (1, (M 247 (((240 * x1) + (2 * x3)) + 1))), (9, 0), (9, 0)] [] M Q) ∧ (¬ (M 247 ((240 * x1) + (2 * x3))) = 2 → ((¬ (M 247 ((240 * x1) + (2 * x3))) = 3 → (((M 247 ((240 * x1) + (2 * x3))) = 4 → Y G (d + 1) mX12_answerOf 259 [(2, 234), (0, x1), (0, (x2 - 2)), (0, x3), (0, (M 247 ((240 * x1) + (2 * x3)))), (0, (M 247 (((240 * x1) + (2 * x3)) + 1))), (0, 2), (1, (M 247 (((240 * x1) + (2 * x3)) + 1))), (9, 0), (9, 0)] [] M Q) ∧ (¬ (M 247 ((240 * x1) + (2 * x3))) = 4 → ((¬ (M 247 ((240 * x1) + (2 * x3))) = 5 → ((¬ (M 247 ((240 * x1) + (2 * x3))) = 10 → (((M 247 ((240 * x1) + (2 * x3))) ≤ 5 → Y G (d + 1) mX12_answerOf 345 [(2, 234), (0, x1), (0, (x2 - 2)), (0, x3), (0, (M 247 ((240 * x1) + (2 * x3)))), (0, (M 247 (((240 * x1) + (2 * x3)) + 1))), (0, 2), (1, (M 247 (((240 * x1) + (2 * x3)) + 1))), (9, 0), (9, 0)] [] M Q) ∧ (5 < (M 247 ((240 * x1) + (2 * x3))) → (-2147483648 ≤ (x2 - 2) + 1 ∧ (x2 - 2) + 1 ≤ 2147483647) ∧ (0 ≤ ((x2 - 2) + 1) ∧ ((x2 - 2) + 1) < 130) ∧ Y G d mX12_ofTwo 0 [(2, 234), (0, (M 247 ((240 * x1) + (2 * x3)))), (1, (M 247 (((240 * x1) + (2 * x3)) + 1))), (9, 0), (1, (M 250 ((x2 - 2) + 1))), (9, 0)] [] M (fun r M' => Y G (d + 1) mX12_answerOf 343 [(2, 234), (0, x1), (0, (x2 - 2)), (0, x3), (0, (M 247 ((240 * x1) + (2 * x3)))), (0, (M 247 (((240 * x1) + (2 * x3)) + 1))), (0, 2), (1, (M 247 (((240 * x1) + (2 * x3)) + 1))), (9, 0), (9, 0)] (zpush r []) M' Q)))) ∧ ((M 247 ((240 * x1) + (2 * x3))) = 10 → (-2147483648 ≤ (x2 - 2) + 1 ∧ (x2 - 2) + 1 ≤ 2147483647) ∧ (0 ≤ ((x2 - 2) + 1) ∧ ((x2 - 2) + 1) < 130) ∧ Y G d mX12_isSo 0 [(0, (M 247 (((240 * x1) + (2 * x3)) + 1))), (1, (M 247 (((240 * x1) + (2 * x3)) + 1))), (9, 0), (1, (M 250 ((x2 - 2) + 1))), (9, 0)] [] M (fun r M' => Y G (d + 1) mX12_answerOf 294 [(2, 234), (0, x1), (0, (x2 - 2)), (0, x3), (0, (M 247 ((240 * x1) + (2 * x3)))), (0, (M 247 (((240 * x1) + (2 * x3)) + 1))), (0, 2), (1, (M 247 (((240 * x1) + (2 * x3)) + 1))), (9, 0), (9, 0)] (zpush r []) M' Q)))) ∧ ((M 247 ((240 * x1) + (2 * x3))) = 5 → Y G (d + 1) mX12_answerOf 259 [(2, 234), (0, x1), (0, (x2 - 2)), (0, x3), (0, (M 247 ((240 * x1) + (2 * x3)))), (0, (M 247 (((240 * x1) + (2 * x3)) + 1))), (0, 2), (1, (M 247 (((240 * x1) + (2 * x3)) + 1))), (9, 0), (9, 0)] [] M Q))))) ∧ ((M 247 ((240 * x1) + (2 * x3))) = 3 → Y G (d + 1) mX12_answerOf 162 [(2, 234), (0, x1), (0, (x2 - 2)), (0, x3), (0, (M 247 ((240 * x1) + (2 * x3)))), (0, (M 247 (((240 * x1) + (2 * x3)) + 1))), (0, 2), (1, (M 247 (((240 * x1) + (2 * x3)) + 1))), (9, 0), (9, 0)] [] M Q))))))))) ∧ ((M 247 ((240 * x1) + (2 * x3))) < 6 → (-2147483648 ≤ x2 - 1 ∧ x2 - 1 ≤ 2147483647) ∧ ((¬ (M 247 ((240 * x1) + (2 * x3))) = 0 → ((¬ (M 247 ((240 * x1) + (2 * x3))) = 1 → (0 ≤ (x2 - 1) ∧ (x2 - 1) < 130) ∧ (((M 247 ((240 * x1) + (2 * x3))) = 2 → Y G (d + 1) mX12_answerOf 162 [(2, 234), (0, x1), (0, (x2 - 1)), (0, x3), (0, (M 247 ((240 * x1) + (2 * x3)))), (0, (M 247 (((240 * x1) + (2 * x3)) + 1))), (0, 1), (1, (M 250 (x2 - 1))), (9, 0), (9, 0)] [] M Q) ∧ (¬ (M 247 ((240 * x1) + (2 * x3))) = 2 → ((¬ (M 247 ((240 * x1) + (2 * x3))) = 3 → (((M 247 ((240 * x1) + (2 * x3))) = 4 → Y G (d + 1) mX12_answerOf 259 [(2, 234), (0, x1), (0, (x2 - 1)), (0, x3), (0, (M 247 ((240 * x1) + (2 * x3)))), (0, (M 247 (((240 * x1) + (2 * x3)) + 1))), (0, 1), (1, (M 250 (x2 - 1))), (9, 0), (9, 0)] [] M Q) ∧ (¬ (M 247 ((240 * x1) + (2 * x3))) = 4 → ((¬ (M 247 ((240 * x1) + (2 * x3))) = 5 → ((¬ (M 247 ((240 * x1) + (2 * x3))) = 10 → (((M 247 ((240 * x1) + (2 * x3))) ≤ 5 → Y G (d + 1) mX12_answerOf 345 [(2, 234), (0, x1), (0, (x2 - 1)), (0, x3), (0, (M 247 ((240 * x1) + (2 * x3)))), (0, (M 247 (((240 * x1) + (2 * x3)) + 1))), (0, 1), (1, (M 250 (x2 - 1))), (9, 0), (9, 0)] [] M Q) ∧ (5 < (M 247 ((240 * x1) + (2 * x3))) → (-2147483648 ≤ (x2 - 1) + 1 ∧ (x2 - 1) + 1 ≤ 2147483647) ∧ (0 ≤ ((x2 - 1) + 1) ∧ ((x2 - 1) + 1) < 130) ∧ Y G d mX12_ofTwo 0 [(2, 234), (0, (M 247 ((240 * x1) + (2 * x3)))), (1, (M 250 (x2 - 1))), (9, 0), (1, (M 250 ((x2 - 1) + 1))), (9, 0)] [] M (fun r M' => Y G (d + 1) mX12_answerOf 343 [(2, 234), (0, x1), (0, (x2 - 1)), (0, x3), (0, (M 247 ((240 * x1) + (2 * x3)))), (0, (M 247 (((240 * x1) + (2 * x3)) + 1))), (0, 1), (1, (M 250 (x2 - 1))), (9, 0), (9, 0)] (zpush r []) M' Q)))) ∧ ((M 247 ((240 * x1) + (2 * x3))) = 10 → (-2147483648 ≤ (x2 - 1) + 1 ∧ (x2 - 1) + 1 ≤ 2147483647) ∧ (0 ≤ ((x2 - 1) + 1) ∧ ((x2 - 1) + 1) < 130) ∧ Y G d mX12_isSo 0 [(0, (M 247 (((240 * x1) + (2 * x3)) + 1))), (1, (M 250 (x2 - 1))), (9, 0), (1, (M 250 ((x2 - 1) + 1))), (9, 0)] [] M (fun r M' => Y G (d + 1) mX12_answerOf 294 [(2, 234), (0, x1), (0, (x2 - 1)), (0, x3), (0, (M 247 ((240 * x1) + (2 * x3)))), (0, (M 247 (((240 * x1) + (2 * x3)) + 1))), (0, 1), (1, (M 250 (x2 - 1))), (9, 0), (9, 0)] (zpush r []) M' Q)))) ∧ ((M 247 ((240 * x1) + (2 * x3))) = 5 → Y G (d + 1) mX12_answerOf 259 [(2, 234), (0, x1), (0, (x2 - 1)), (0, x3), (0, (M 247 ((240 * x1) + (2 * x3)))), (0, (M 247 (((240 * x1) + (2 * x3)) + 1))), (0, 1), (1, (M 250 (x2 - 1))), (9, 0), (9, 0)] [] M Q))))) ∧ ((M 247 ((240 * x1) + (2 * x3))) = 3 → Y G (d + 1) mX12_answerOf 162 [(2, 234), (0, x1), (0, (x2 - 1)), (0, x3), (0, (M 247 ((240 * x1) + (2 * x3)))), (0, (M 247 (((240 * x1) + (2 * x3)) + 1))), (0, 1), (1, (M 250 (x2 - 1))), (9, 0), (9, 0)] [] M Q))))) ∧ ((M 247 ((240 * x1) + (2 * x3))) = 1 → (0 ≤ (M 247 (((240 * x1) + (2 * x3)) + 1)) ∧ (M 247 (((240 * x1) + (2 * x3)) + 1)) < 4) ∧ (((M 247 ((240 * x1) + (2 * x3))) = 2 → Y G (d + 1) mX12_answerOf 162 [(2, 234), (0, x1), (0, (x2 - 1)), (0, x3), (0, (M 247 ((240 * x1) + (2 * x3)))), (0, (M 247 (((240 * x1) + (2 * x3)) + 1))), (0, 1), (1, (M 249 (M 247 (((240 * x1) + (2 * x3)) + 1)))), (9, 0), (9, 0)] [] M Q) ∧ (¬ (M 247 ((240 * x1) + (2 * x3))) = 2 → ((¬ (M 247 ((240 * x1) + (2 * x3))) = 3 → (((M 247 ((240 * x1) + (2 * x3))) = 4 → Y G (d + 1) mX12_answerOf 259 [(2, 234), (0, x1), (0, (x2 - 1)), (0, x3), (0, (M 247 ((240 * x1) + (2 * x3)))), (0, (M 247 (((240 * x1) + (2 * x3)) + 1))), (0, 1), (1, (M 249 (M 247 (((240 * x1) + (2 * x3)) + 1)))), (9, 0), (9, 0)] [] M Q) ∧ (¬ (M 247 ((240 * x1) + (2 * x3))) = 4 → ((¬ (M 247 ((240 * x1) + (2 * x3))) = 5 → ((¬ (M 247 ((240 * x1) + (2 * x3))) = 10 → (((M 247 ((240 * x1) + (2 * x3))) ≤ 5 → Y G (d + 1) mX12_answerOf 345 [(2, 234), (0, x1), (0, (x2 - 1)), (0, x3), (0, (M 247 ((240 * x1) + (2 * x3)))), (0, (M 247 (((240 * x1) + (2 * x3)) + 1))), (0, 1), (1, (M 249 (M 247 (((240 * x1) + (2 * x3)) + 1)))), (9, 0), (9, 0)] [] M Q) ∧ (5 < (M 247 ((240 * x1) + (2 * x3))) → (-2147483648 ≤ (x2 - 1) + 1 ∧ (x2 - 1) + 1 ≤ 2147483647) ∧ (0 ≤ ((x2 - 1) + 1) ∧ ((x2 - 1) + 1) < 130) ∧ Y G d mX12_ofTwo 0 [(2, 234), (0, (M 247 ((240 * x1) + (2 * x3)))), (1, (M 249 (M 247 (((240 * x1) + (2 * x3)) + 1)))), (9, 0), (1, (M 250 ((x2 - 1) + 1))), (9, 0)] [] M (fun r M' => Y G (d + 1) mX12_answerOf 343 [(2, 234), (0, x1), (0, (x2 - 1)), (0, x3), (0, (M 247 ((240 * x1) + (2 * x3)))), (0, (M 247 (((240 * x1) + (2 * x3)) + 1))), (0, 1), (1, (M 249 (M 247 (((240 * x1) + (2 * x3)) + 1)))), (9, 0), (9, 0)] (zpush r []) M' Q)))) ∧ ((M 247 ((240 * x1) + (2 * x3))) = 10 → (-2147483648 ≤ (x2 - 1) + 1 ∧ (x2 - 1) + 1 ≤ 2147483647) ∧ (0 ≤ ((x2 - 1) + 1) ∧ ((x2 - 1) + 1) < 130) ∧ Y G d mX12_isSo 0 [(0, (M 247 (((240 * x1) + (2 * x3)) + 1))), (1, (M 249 (M 247 (((240 * x1) + (2 * x3)) + 1)))), (9, 0), (1, (M 250 ((x2 - 1) + 1))), (9, 0)] [] M (fun r M' => Y G (d + 1) mX12_answerOf 294 [(2, 234), (0, x1), (0, (x2 - 1)), (0, x3), (0, (M 247 ((240 * x1) + (2 * x3)))), (0, (M 247 (((240 * x1) + (2 * x3)) + 1))), (0, 1), (1, (M 249 (M 247 (((240 * x1) + (2 * x3)) + 1)))), (9, 0), (9, 0)] (zpush r []) M' Q)))) ∧ ((M 247 ((240 * x1) + (2 * x3))) = 5 → Y G (d + 1) mX12_answerOf 259 [(2, 234), (0, x1), (0, (x2 - 1)), (0, x3), (0, (M 247 ((240 * x1) + (2 * x3)))), (0, (M 247 (((240 * x1) + (2 * x3)) + 1))), (0, 1), (1, (M 249 (M 247 (((240 * x1) + (2 * x3)) + 1)))), (9, 0), (9, 0)] [] M Q))))) ∧ ((M 247 ((240 * x1) + (2 * x3))) = 3 → Y G (d + 1) mX12_answerOf 162 [(2, 234), (0, x1), (0, (x2 - 1)), (0, x3), (0, (M 247 ((240 * x1) + (2 * x3)))), (0, (M 247 (((240 * x1) + (2 * x3)) + 1))), (0, 1), (1, (M 249 (M 247 (((240 * x1) + (2 * x3)) + 1)))), (9, 0), (9, 0)] [] M Q))))))) ∧ ((M 247 ((240 * x1) + (2 * x3))) = 0 → (((M 247 ((240 * x1) + (2 * x3))) = 2 → Y G (d + 1) mX12_answerOf 162 [(2, 234), (0, x1), (0, (x2 - 1)), (0, x3), (0, (M 247 ((240 * x1) + (2 * x3)))), (0, (M 247 (((240 * x1) + (2 * x3)) + 1))), (0, 1), (1, (M 247 (((240 * x1) + (2 * x3)) + 1))), (9, 0), (9, 0)] [] M Q) ∧ (¬ (M 247 ((240 * x1) + (2 * x3))) = 2 → ((¬ (M 247 ((240 * x1) + (2 * x3))) = 3 → (((M 247 ((240 * x1) + (2 * x3))) = 4 → Y G (d + 1) mX12_answerOf 259 [(2, 234), (0, x1), (0, (x2 - 1)), (0, x3), (0, (M 247 ((240 * x1) + (2 * x3)))), (0, (M 247 (((240 * x1) + (2 * x3)) + 1))), (0, 1), (1, (M 247 (((240 * x1) + (2 * x3)) + 1))), (9, 0), (9, 0)] [] M Q) ∧ (¬ (M 247 ((240 * x1) + (2 * x3))) = 4 → ((¬ (M 247 ((240 * x1) + (2 * x3))) = 5 → ((¬ (M 247 ((240 * x1) + (2 * x3))) = 10 → (((M 247 ((240 * x1) + (2 * x3))) ≤ 5 → Y G (d + 1) mX12_answerOf 345 [(2, 234), (0, x1), (0, (x2 - 1)), (0, x3), (0, (M 247 ((240 * x1) + (2 * x3)))), (0, (M 247 (((240 * x1) + (2 * x3)) + 1))), (0, 1), (1, (M 247 (((240 * x1) + (2 * x3)) + 1))), (9, 0), (9, 0)] [] M Q) ∧ (5 < (M 247 ((240 * x1) + (2 * x3))) → (-2147483648 ≤ (x2 - 1) + 1 ∧ (x2 - 1) + 1 ≤ 2147483647) ∧ (0 ≤ ((x2 - 1) + 1) ∧ ((x2 - 1) + 1) < 130) ∧ Y G d mX12_ofTwo 0 [(2, 234), (0, (M 247 ((240 * x1) + (2 * x3)))), (1, (M 247 (((240 * x1) + (2 * x3)) + 1))), (9, 0), (1, (M 250 ((x2 - 1) + 1))), (9, 0)] [] M (fun r M' => Y G (d + 1) mX12_answerOf 343 [(2, 234), (0, x1), (0, (x2 - 1)), (0, x3), (0, (M 247 ((240 * x1) + (2 * x3)))), (0, (M 247 (((240 * x1) + (2 * x3)) + 1))), (0, 1), (1, (M 247 (((240 * x1) + (2 * x3)) + 1))), (9, 0), (9, 0)] (zpush r []) M' Q)))) ∧ ((M 247 ((240 * x1) + (2 * x3))) = 10 → (-2147483648 ≤ (x2 - 1) + 1 ∧ (x2 - 1) + 1 ≤ 2147483647) ∧ (0 ≤ ((x2 - 1) + 1) ∧ ((x2 - 1) + 1) < 130) ∧ Y G d mX12_isSo 0 [(0, (M 247 (((240 * x1) + (2 * x3)) + 1))), (1, (M 247 (((240 * x1) + (2 * x3)) + 1))), (9, 0), (1, (M 250 ((x2 - 1) + 1))), (9, 0)] [] M (fun r M' => Y G (d + 1) mX12_answerOf 294 [(2, 234), (0, x1), (0, (x2 - 1)), (0, x3), (0, (M 247 ((240 * x1) + (2 * x3)))), (0, (M 247 (((240 * x1) + (2 * x3)) + 1))), (0, 1), (1, (M 247 (((240 * x1) + (2 * x3)) + 1))), (9, 0), (9, 0)] (zpush r []) M' Q)))) ∧ ((M 247 ((240 * x1) + (2 * x3))) = 5 → Y G (d + 1) mX12_answerOf 259 [(2, 234), (0, x1), (0, (x2 - 1)), (0, x3), (0, (M 247 ((240 * x1) + (2 * x3)))), (0, (M 247 (((240 * x1) + (2 * x3)) + 1))), (0, 1), (1, (M 247 (((240 * x1) + (2 * x3)) + 1))), (9, 0), (9, 0)] [] M Q))))) ∧ ((M 247 ((240 * x1) + (2 * x3))) = 3 → Y G (d + 1) mX12_answerOf 162 [(2, 234), (0, x1), (0, (x2 - 1)), (0, x3), (0, (M 247 ((240 * x1) + (2 * x3)))), (0, (M 247 (((240 * x1) + (2 * x3)) + 1))), (0, 1), (1, (M 247 (((240 * x1) + (2 * x3)) + 1))), (9, 0), (9, 0)] [] M Q))))))))) ∧ ((M 247 ((240 * x1) + (2 * x3))) = 3 → (-2147483648 ≤ x2 - (M 247 (((240 * x1) + (2 * x3)) + 1)) ∧ x2 - (M 247 (((240 * x1) + (2 * x3)) + 1)) ≤ 2147483647) ∧ ((¬ (M 247 ((240 * x1) + (2 * x3))) = 0 → ((¬ (M 247 ((240 * x1) + (2 * x3))) = 1 → (0 ≤ (x2 - (M 247 (((240 * x1) + (2 * x3)) + 1))) ∧ (x2 - (M 247 (((240 * x1) + (2 * x3)) + 1))) < 130) ∧ (((M 247 ((240 * x1) + (2 * x3))) = 2 → Y G (d + 1) mX12_answerOf 162 [(2, 234), (0, x1), (0, (x2 - (M 247 (((240 * x1) + (2 * x3)) + 1)))), (0, x3), (0, (M 247 ((240 * x1) + (2 * x3)))), (0, (M 247 (((240 * x1) + (2 * x3)) + 1))), (0, (M 247 (((240 * x1) + (2 * x3)) + 1))), (1, (M 250 (x2 - (M 247 (((240 * x1) + (2 * x3)) + 1))))), (9, 0), (9, 0)] [] M Q) ∧ (¬ (M 247 ((240 * x1) + (2 * x3))) = 2 → ((¬ (M 247 ((240 * x1) + (2 * x3))) = 3 → (((M 247 ((240 * x1) + (2 * x3))) = 4 → Y G (d + 1) mX12_answerOf 259 [(2, 234), (0, x1), (0, (x2 - (M 247 (((240 * x1) + (2 * x3)) + 1)))), (0, x3), (0, (M 247 ((240 * x1) + (2 * x3)))), (0, (M 247 (((240 * x1) + (2 * x3)) + 1))), (0, (M 247 (((240 * x1) + (2 * x3)) + 1))), (1, (M 250 (x2 - (M 247 (((240 * x1) + (2 * x3)) + 1))))), (9, 0), (9, 0)] [] M Q) ∧ (¬ (M 247 ((240 * x1) + (2 * x3))) = 4 → ((¬ (M 247 ((240 * x1) + (2 * x3))) = 5 → ((¬ (M 247 ((240 * x1) + (2 * x3))) = 10 → (((M 247 ((240 * x1) + (2 * x3))) ≤ 5 → Y G (d + 1) mX12_answerOf 345 [(2, 234), (0, x1), (0, (x2 - (M 247 (((240 * x1) + (2 * x3)) + 1)))), (0, x3), (0, (M 247 ((240 * x1) + (2 * x3)))), (0, (M 247 (((240 * x1) + (2 * x3)) + 1))), (0, (M 247 (((240 * x1) + (2 * x3)) + 1))), (1, (M 250 (x2 - (M 247 (((240 * x1) + (2 * x3)) + 1))))), (9, 0), (9, 0)] [] M Q) ∧ (5 < (M 247 ((240 * x1) + (2 * x3))) → (-2147483648 ≤ (x2 - (M 247 (((240 * x1) + (2 * x3)) + 1))) + 1 ∧ (x2 - (M 247 (((240 * x1) + (2 * x3)) + 1))) + 1 ≤ 2147483647) ∧ (0 ≤ ((x2 - (M 247 (((240 * x1) + (2 * x3)) + 1))) + 1) ∧ ((x2 - (M 247 (((240 * x1) + (2 * x3)) + 1))) + 1) < 130) ∧ Y G d mX12_ofTwo 0 [(2, 234), (0, (M 247 ((240 * x1) + (2 * x3)))), (1, (M 250 (x2 - (M 247 (((240 * x1) + (2 * x3)) + 1))))), (9, 0), (1, (M 250 ((x2 - (M 247 (((240 * x1) + (2 * x3)) + 1))) + 1))), (9, 0)] [] M (fun r M' => Y G (d + 1) mX12_answerOf 343 [(2, 234), (0, x1), (0, (x2 - (M 247 (((240 * x1) + (2 * x3)) + 1)))), (0, x3), (0, (M 247 ((240 * x1) + (2 * x3)))), (0, (M 247 (((240 * x1) + (2 * x3)) + 1))), (0, (M 247 (((240 * x1) + (2 * x3)) + 1))), (1, (M 250 (x2 - (M 247 (((240 * x1) + (2 * x3)) + 1))))), (9, 0), (9, 0)] (zpush r []) M' Q)))) ∧ ((M 247 ((240 * x1) + (2 * x3))) = 10 → (-2147483648 ≤ (x2 - (M 247 (((240 * x1) + (2 * x3)) + 1))) + 1 ∧ (x2 - (M 247 (((240 * x1) + (2 * x3)) + 1))) + 1 ≤ 2147483647) ∧ (0 ≤ ((x2 - (M 247 (((240 * x1) + (2 * x3)) + 1))) + 1) ∧ ((x2 - (M 247 (((240 * x1) + (2 * x3)) + 1))) + 1) < 130) ∧ Y G d mX12_isSo 0 [(0, (M 247 (((240 * x1) + (2 * x3)) + 1))), (1, (M 250 (x2 - (M 247 (((240 * x1) + (2 * x3)) + 1))))), (9, 0), (1, (M 250 ((x2 - (M 247 (((240 * x1) + (2 * x3)) + 1))) + 1))), (9, 0)] [] M (fun r M' => Y G (d + 1) mX12_answerOf 294 [(2, 234), (0, x1), (0, (x2 - (M 247 (((240 * x1) + (2 * x3)) + 1)))), (0, x3), (0, (M 247 ((240 * x1) + (2 * x3)))), (0, (M 247 (((240 * x1) + (2 * x3)) + 1))), (0, (M 247 (((240 * x1) + (2 * x3)) + 1))), (1, (M 250 (x2 - (M 247 (((240 * x1) + (2 * x3)) + 1))))), (9, 0), (9, 0)] (zpush r []) M' Q)))) ∧ ((M 247 ((240 * x1) + (2 * x3))) = 5 → Y G (d + 1) mX12_answerOf 259 [(2, 234), (0, x1), (0, (x2 - (M 247 (((240 * x1) + (2 * x3)) + 1)))), (0, x3), (0, (M 247 ((240 * x1) + (2 * x3)))), (0, (M 247 (((240 * x1) + (2 * x3)) + 1))), (0, (M 247 (((240 * x1) + (2 * x3)) + 1))), (1, (M 250 (x2 - (M 247 (((240 * x1) + (2 * x3)) + 1))))), (9, 0), (9, 0)] [] M Q))))) ∧ ((M 247 ((240 * x1) + (2 * x3))) = 3 → Y G (d + 1) mX12_answerOf 162 [(2, 234), (0, x1), (0, (x2 - (M 247 (((240 * x1) + (2 * x3)) + 1)))), (0, x3), (0, (M 247 ((240 * x1) + (2 * x3)))), (0, (M 247 (((240 * x1) + (2 * x3)) + 1))), (0, (M 247 (((240 * x1) + (2 * x3)) + 1))), (1, (M 250 (x2 - (M 247 (((240 * x1) + (2 * x3)) + 1))))), (9, 0), (9, 0)] [] M Q))))) ∧ ((M 247 ((240 * x1) + (2 * x3))) = 1 → (0 ≤ (M 247 (((240 * x1) + (2 * x3)) + 1)) ∧ (M 247 (((240 * x1) + (2 * x3)) + 1)) < 4) ∧ (((M 247 ((240 * x1) + (2 * x3))) = 2 → Y G (d + 1) mX12_answerOf 162 [(2, 234), (0, x1), (0, (x2 - (M 247 (((240 * x1) + (2 * x3)) + 1)))), (0, x3), (0, (M 247 ((240 * x1) + (2 * x3)))), (0, (M 247 (((240 * x1) + (2 * x3)) + 1))), (0, (M 247 (((240 * x1) + (2 * x3)) + 1))), (1, (M 249 (M 247 (((240 * x1) + (2 * x3)) + 1)))), (9, 0), (9, 0)] [] M Q) ∧ (¬ (M 247 ((240 * x1) + (2 * x3))) = 2 → ((¬ (M 247 ((240 * x1) + (2 * x3))) = 3 → (((M 247 ((240 * x1) + (2 * x3))) = 4 → Y G (d + 1) mX12_answerOf 259 [(2, 234), (0, x1), (0, (x2 - (M 247 (((240 * x1) + (2 * x3)) + 1)))), (0, x3), (0, (M 247 ((240 * x1) + (2 * x3)))), (0, (M 247 (((240 * x1) + (2 * x3)) + 1))), (0, (M 247 (((240 * x1) + (2 * x3)) + 1))), (1, (M 249 (M 247 (((240 * x1) + (2 * x3)) + 1)))), (9, 0), (9, 0)] [] M Q) ∧ (¬ (M 247 ((240 * x1) + (2 * x3))) = 4 → ((¬ (M 247 ((240 * x1) + (2 * x3))) = 5 → ((¬ (M 247 ((240 * x1) + (2 * x3))) = 10 → (((M 247 ((240 * x1) + (2 * x3))) ≤ 5 → Y G (d + 1) mX12_answerOf 345 [(2, 234), (0, x1), (0, (x2 - (M 247 (((240 * x1) + (2 * x3)) + 1)))), (0, x3), (0, (M 247 ((240 * x1) + (2 * x3)))), (0, (M 247 (((240 * x1) + (2 * x3)) + 1))), (0, (M 247 (((240 * x1) + (2 * x3)) + 1))), (1, (M 249 (M 247 (((240 * x1) + (2 * x3)) + 1)))), (9, 0), (9, 0)] [] M Q) ∧ (5 < (M 247 ((240 * x1) + (2 * x3))) → (-2147483648 ≤ (x2 - (M 247 (((240 * x1) + (2 * x3)) + 1))) + 1 ∧ (x2 - (M 247 (((240 * x1) + (2 * x3)) + 1))) + 1 ≤ 2147483647) ∧ (0 ≤ ((x2 - (M 247 (((240 * x1) + (2 * x3)) + 1))) + 1) ∧ ((x2 - (M 247 (((240 * x1) + (2 * x3)) + 1))) + 1) < 130) ∧ Y G d mX12_ofTwo 0 [(2, 234), (0, (M 247 ((240 * x1) + (2 * x3)))), (1, (M 249 (M 247 (((240 * x1) + (2 * x3)) + 1)))), (9, 0), (1, (M 250 ((x2 - (M 247 (((240 * x1) + (2 * x3)) + 1))) + 1))), (9, 0)] [] M (fun r M' => Y G (d + 1) mX12_answerOf 343 [(2, 234), (0, x1), (0, (x2 - (M 247 (((240 * x1) + (2 * x3)) + 1)))), (0, x3), (0, (M 247 ((240 * x1) + (2 * x3)))), (0, (M 247 (((240 * x1) + (2 * x3)) + 1))), (0, (M 247 (((240 * x1) + (2 * x3)) + 1))), (1, (M 249 (M 247 (((240 * x1) + (2 * x3)) + 1)))), (9, 0), (9, 0)] (zpush r []) M' Q)))) ∧ ((M 247 ((240 * x1) + (2 * x3))) = 10 → (-2147483648 ≤ (x2 - (M 247 (((240 * x1) + (2 * x3)) + 1))) + 1 ∧ (x2 - (M 247 (((240 * x1) + (2 * x3)) + 1))) + 1 ≤ 2147483647) ∧ (0 ≤ ((x2 - (M 247 (((240 * x1) + (2 * x3)) + 1))) + 1) ∧ ((x2 - (M 247 (((240 * x1) + (2 * x3)) + 1))) + 1) < 130) ∧ Y G d mX12_isSo 0 [(0, (M 247 (((240 * x1) + (2 * x3)) + 1))), (1, (M 249 (M 247 (((240 * x1) + (2 * x3)) + 1)))), (9, 0), (1, (M 250 ((x2 - (M 247 (((240 * x1) + (2 * x3)) + 1))) + 1))), (9, 0)] [] M (fun r M' => Y G (d + 1) mX12_answerOf 294 [(2, 234), (0, x1), (0, (x2 - (M 247 (((240 * x1) + (2 * x3)) + 1)))), (0, x3), (0, (M 247 ((240 * x1) + (2 * x3)))), (0, (M 247 (((240 * x1) + (2 * x3)) + 1))), (0, (M 247 (((240 * x1) + (2 * x3)) + 1))), (1, (M 249 (M 247 (((240 * x1) + (2 * x3)) + 1)))), (9, 0), (9, 0)] (zpush r []) M' Q)))) ∧ ((M 247 ((240 * x1) + (2 * x3))) = 5 → Y G (d + 1) mX12_answerOf 259 [(2, 234), (0, x1), (0, (x2 - (M 247 (((240 * x1) + (2 * x3)) + 1)))), (0, x3), (0, (M 247 ((240 * x1) + (2 * x3)))), (0, (M 247 (((240 * x1) + (2 * x3)) + 1))), (0, (M 247 (((240 * x1) + (2 * x3)) + 1))), (1, (M 249 (M 247 (((240 * x1) + (2 * x3)) + 1)))), (9, 0), (9, 0)] [] M Q))))) ∧ ((M 247 ((240 * x1) + (2 * x3))) = 3 → Y G (d + 1) mX12_answerOf 162 [(2, 234), (0, x1), (0, (x2 - (M 247 (((240 * x1) + (2 * x3)) + 1)))), (0, x3), (0, (M 247 ((240 * x1) + (2 * x3)))), (0, (M 247 (((240 * x1) + (2 * x3)) + 1))), (0, (M 247 (((240 * x1) + (2 * x3)) + 1))), (1, (M 249 (M 247 (((240 * x1) + (2 * x3)) + 1)))), (9, 0), (9, 0)] [] M Q))))))) ∧ ((M 247 ((240 * x1) + (2 * x3))) = 0 → (((M 247 ((240 * x1) + (2 * x3))) = 2 → Y G (d + 1) mX12_answerOf 162 [(2, 234), (0, x1), (0, (x2 - (M 247 (((240 * x1) + (2 * x3)) + 1)))), (0, x3), (0, (M 247 ((240 * x1) + (2 * x3)))), (0, (M 247 (((240 * x1) + (2 * x3)) + 1))), (0, (M 247 (((240 * x1) + (2 * x3)) + 1))), (1, (M 247 (((240 * x1) + (2 * x3)) + 1))), (9, 0), (9, 0)] [] M Q) ∧ (¬ (M 247 ((240 * x1) + (2 * x3))) = 2 → ((¬ (M 247 ((240 * x1) + (2 * x3))) = 3 → (((M 247 ((240 * x1) + (2 * x3))) = 4 → Y G (d + 1) mX12_answerOf 259 [(2, 234), (0, x1), (0, (x2 - (M 247 (((240 * x1) + (2 * x3)) + 1)))), (0, x3), (0, (M 247 ((240 * x1) + (2 * x3)))), (0, (M 247 (((240 * x1) + (2 * x3)) + 1))), (0, (M 247 (((240 * x1) + (2 * x3)) + 1))), (1, (M 247 (((240 * x1) + (2 * x3)) + 1))), (9, 0), (9, 0)] [] M Q) ∧ (¬ (M 247 ((240 * x1) + (2 * x3))) = 4 → ((¬ (M 247 ((240 * x1) + (2 * x3))) = 5 → ((¬ (M 247 ((240 * x1) + (2 * x3))) = 10 → (((M 247 ((240 * x1) + (2 * x3))) ≤ 5 → Y G (d + 1) mX12_answerOf 345 [(2, 234), (0, x1), (0, (x2 - (M 247 (((240 * x1) + (2 * x3)) + 1)))), (0, x3), (0, (M 247 ((240 * x1) + (2 * x3)))), (0, (M 247 (((240 * x1) + (2 * x3)) + 1))), (0, (M 247 (((240 * x1) + (2 * x3)) + 1))), (1, (M 247 (((240 * x1) + (2 * x3)) + 1))), (9, 0), (9, 0)] [] M Q) ∧ (5 < (M 247 ((240 * x1) + (2 * x3))) → (-2147483648 ≤ (x2 - (M 247 (((240 * x1) + (2 * x3)) + 1))) + 1 ∧ (x2 - (M 247 (((240 * x1) + (2 * x3)) + 1))) + 1 ≤ 2147483647) ∧ (0 ≤ ((x2 - (M 247 (((240 * x1) + (2 * x3)) + 1))) + 1) ∧ ((x2 - (M 247 (((240 * x1) + (2 * x3)) + 1))) + 1) < 130) ∧ Y G d mX12_ofTwo 0 [(2, 234), (0, (M 247 ((240 * x1) + (2 * x3)))), (1, (M 247 (((240 * x1) + (2 * x3)) + 1))), (9, 0), (1, (M 250 ((x2 - (M 247 (((240 * x1) + (2 * x3)) + 1))) + 1))), (9, 0)] [] M (fun r M' => Y G (d + 1) mX12_answerOf 343 [(2, 234), (0, x1), (0, (x2 - (M 247 (((240 * x1) + (2 * x3)) + 1)))), (0, x3), (0, (M 247 ((240 * x1) + (2 * x3)))), (0, (M 247 (((240 * x1) + (2 * x3)) + 1))), (0, (M 247 (((240 * x1) + (2 * x3)) + 1))), (1, (M 247 (((240 * x1) + (2 * x3)) + 1))), (9, 0), (9, 0)] (zpush r []) M' Q)))) ∧ ((M 247 ((240 * x1) + (2 * x3))) = 10 → (-2147483648 ≤ (x2 - (M 247 (((240 * x1) + (2 * x3)) + 1))) + 1 ∧ (x2 - (M 247 (((240 * x1) + (2 * x3)) + 1))) + 1 ≤ 2147483647) ∧ (0 ≤ ((x2 - (M 247 (((240 * x1) + (2 * x3)) + 1))) + 1) ∧ ((x2 - (M 247 (((240 * x1) + (2 * x3)) + 1))) + 1) < 130) ∧ Y G d mX12_isSo 0 [(0, (M 247 (((240 * x1) + (2 * x3)) + 1))), (1, (M 247 (((240 * x1) + (2 * x3)) + 1))), (9, 0), (1, (M 250 ((x2 - (M 247 (((240 * x1) + (2 * x3)) + 1))) + 1))), (9, 0)] [] M (fun r M' => Y G (d + 1) mX12_answerOf 294 [(2, 234), (0, x1), (0, (x2 - (M 247 (((240 * x1) + (2 * x3)) + 1)))), (0, x3), (0, (M 247 ((240 * x1) + (2 * x3)))), (0, (M 247 (((240 * x1) + (2 * x3)) + 1))), (0, (M 247 (((240 * x1) + (2 * x3)) + 1))), (1, (M 247 (((240 * x1) + (2 * x3)) + 1))), (9, 0), (9, 0)] (zpush r []) M' Q)))) ∧ ((M 247 ((240 * x1) + (2 * x3))) = 5 → Y G (d + 1) mX12_answerOf 259 [(2, 234), (0, x1), (0, (x2 - (M 247 (((240 * x1) + (2 * x3)) + 1)))), (0, x3), (0, (M 247 ((240 * x1) + (2 * x3)))), (0, (M 247 (((240 * x1) + (2 * x3)) + 1))), (0, (M 247 (((240 * x1) + (2 * x3)) + 1))), (1, (M 247 (((240 * x1) + (2 * x3)) + 1))), (9, 0), (9, 0)] [] M Q))))) ∧ ((M 247 ((240 * x1) + (2 * x3))) = 3 → Y G (d + 1) mX12_answerOf 162 [(2, 234), (0, x1), (0, (x2 - (M 247 (((240 * x1) + (2 * x3)) + 1)))), (0, x3), (0, (M 247 ((240 * x1) + (2 * x3)))), (0, (M 247 (((240 * x1) + (2 * x3)) + 1))), (0, (M 247 (((240 * x1) + (2 * x3)) + 1))), (1, (M 247 (((240 * x1) + (2 * x3)) + 1))), (9, 0), (9, 0)] [] M Q))))))))) ∧ ((M 247 ((240 * x1) + (2 * x3))) = 2 → (-2147483648 ≤ x2 - (zand (M 247 (((240 * x1) + (2 * x3)) + 1)) 255) ∧ x2 - (zand (M 247 (((240 * x1) + (2 * x3)) + 1)) 255) ≤ 2147483647) ∧ ((¬ (M 247 ((240 * x1) + (2 * x3))) = 0 → ((¬ (M 247 ((240 * x1) + (2 * x3))) = 1 → (0 ≤ (x2 - (zand (M 247 (((240 * x1) + (2 * x3)) + 1)) 255)) ∧ (x2 - (zand (M 247 (((240 * x1) + (2 * x3)) + 1)) 255)) < 130) ∧ (((M 247 ((240 * x1) + (2 * x3))) = 2 → Y G (d + 1) mX12_answerOf 162 [(2, 234), (0, x1), (0, (x2 - (zand (M 247 (((240 * x1) + (2 * x3)) + 1)) 255))), (0, x3), (0, (M 247 ((240 * x1) + (2 * x3)))), (0, (M 247 (((240 * x1) + (2 * x3)) + 1))), (0, (zand (M 247 (((240 * x1) + (2 * x3)) + 1)) 255)), (1, (M 250 (x2 - (zand (M 247 (((240 * x1) + (2 * x3)) + 1)) 255)))), (9, 0), (9, 0)] [] M Q) ∧ (¬ (M 247 ((240 * x1) + (2 * x3))) = 2 → ((¬ (M 247 ((240 * x1) + (2 * x3))) = 3 → (((M 247 ((240 * x1) + (2 * x3))) = 4 → Y G (d + 1) mX12_answerOf 259 [(2, 234), (0, x1), (0, (x2 - (zand (M 247 (((240 * x1) + (2 * x3)) + 1)) 255))), (0, x3), (0, (M 247 ((240 * x1) + (2 * x3)))), (0, (M 247 (((240 * x1) + (2 * x3)) + 1))), (0, (zand (M 247 (((240 * x1) + (2 * x3)) + 1)) 255)), (1, (M 250 (x2 - (zand (M 247 (((240 * x1) + (2 * x3)) + 1)) 255)))), (9, 0), (9, 0)] [] M Q) ∧ (¬ (M 247 ((240 * x1) + (2 * x3))) = 4 → ((¬ (M 247 ((240 * x1) + (2 * x3))) = 5 → ((¬ (M 247 ((240 * x1) + (2 * x3))) = 10 → (((M 247 ((240 * x1) + (2 * x3))) ≤ 5 → Y G (d + 1) mX12_answerOf 345 [(2, 234), (0, x1), (0, (x2 - (zand (M 247 (((240 * x1) + (2 * x3)) + 1)) 255))), (0, x3), (0, (M 247 ((240 * x1) + (2 * x3)))), (0, (M 247 (((240 * x1) + (2 * x3)) + 1))), (0, (zand (M 247 (((240 * x1) + (2 * x3)) + 1)) 255)), (1, (M 250 (x2 - (zand (M 247 (((240 * x1) + (2 * x3)) + 1)) 255)))), (9, 0), (9, 0)] [] M Q) ∧ (5 < (M 247 ((240 * x1) + (2 * x3))) → (-2147483648 ≤ (x2 - (zand (M 247 (((240 * x1) + (2 * x3)) + 1)) 255)) + 1 ∧ (x2 - (zand (M 247 (((240 * x1) + (2 * x3)) + 1)) 255)) + 1 ≤ 2147483647) ∧ (0 ≤ ((x2 - (zand (M 247 (((240 * x1) + (2 * x3)) + 1)) 255)) + 1) ∧ ((x2 - (zand (M 247 (((240 * x1) + (2 * x3)) + 1)) 255)) + 1) < 130) ∧ Y G d mX12_ofTwo 0 [(2, 234), (0, (M 247 ((240 * x1) + (2 * x3)))), (1, (M 250 (x2 - (zand (M 247 (((240 * x1) + (2 * x3)) + 1)) 255)))), (9, 0), (1, (M 250 ((x2 - (zand (M 247 (((240 * x1) + (2 * x3)) + 1)) 255)) + 1))), (9, 0)] [] M (fun r M' => Y G (d + 1) mX12_answerOf 343 [(2, 234), (0, x1), (0, (x2 - (zand (M 247 (((240 * x1) + (2 * x3)) + 1)) 255))), (0, x3), (0, (M 247 ((240 * x1) + (2 * x3)))), (0, (M 247 (((240 * x1) + (2 * x3)) + 1))), (0, (zand (M 247 (((240 * x1) + (2 * x3)) + 1)) 255)), (1, (M 250 (x2 - (zand (M 247 (((240 * x1) + (2 * x3)) + 1)) 255)))), (9, 0), (9, 0)] (zpush r []) M' Q)))) ∧ ((M 247 ((240 * x1) + (2 * x3))) = 10 → (-2147483648 ≤ (x2 - (zand (M 247 (((240 * x1) + (2 * x3)) + 1)) 255)) + 1 ∧ (x2 - (zand (M 247 (((240 * x1) + (2 * x3)) + 1)) 255)) + 1 ≤ 2147483647) ∧ (0 ≤ ((x2 - (zand (M 247 (((240 * x1) + (2 * x3)) + 1)) 255)) + 1) ∧ ((x2 - (zand (M 247 (((240 * x1) + (2 * x3)) + 1)) 255)) + 1) < 130) ∧ Y G d mX12_isSo 0 [(0, (M 247 (((240 * x1) + (2 * x3)) + 1))), (1, (M 250 (x2 - (zand (M 247 (((240 * x1) + (2 * x3)) + 1)) 255)))), (9, 0), (1, (M 250 ((x2 - (zand (M 247 (((240 * x1) + (2 * x3)) + 1)) 255)) + 1))), (9, 0)] [] M (fun r M' => Y G (d + 1) mX12_answerOf 294 [(2, 234), (0, x1), (0, (x2 - (zand (M 247 (((240 * x1) + (2 * x3)) + 1)) 255))), (0, x3), (0, (M 247 ((240 * x1) + (2 * x3)))), (0, (M 247 (((240 * x1) + (2 * x3)) + 1))), (0, (zand (M 247 (((240 * x1) + (2 * x3)) + 1)) 255)), (1, (M 250 (x2 - (zand (M 247 (((240 * x1) + (2 * x3)) + 1)) 255)))), (9, 0), (9, 0)] (zpush r []) M' Q)))) ∧ ((M 247 ((240 * x1) + (2 * x3))) = 5 → Y G (d + 1) mX12_answerOf 259 [(2, 234), (0, x1), (0, (x2 - (zand (M 247 (((240 * x1) + (2 * x3)) + 1)) 255))), (0, x3), (0, (M 247 ((240 * x1) + (2 * x3)))), (0, (M 247 (((240 * x1) + (2 * x3)) + 1))), (0, (zand (M 247 (((240 * x1) + (2 * x3)) + 1)) 255)), (1, (M 250 (x2 - (zand (M 247 (((240 * x1) + (2 * x3)) + 1)) 255)))), (9, 0), (9, 0)] [] M Q))))) ∧ ((M 247 ((240 * x1) + (2 * x3))) = 3 → Y G (d + 1) mX12_answerOf 162 [(2, 234), (0, x1), (0, (x2 - (zand (M 247 (((240 * x1) + (2 * x3)) + 1)) 255))), (0, x3), (0, (M 247 ((240 * x1) + (2 * x3)))), (0, (M 247 (((240 * x1) + (2 * x3)) + 1))), (0, (zand (M 247 (((240 * x1) + (2 * x3)) + 1)) 255)), (1, (M 250 (x2 - (zand (M 247 (((240 * x1) + (2 * x3)) + 1)) 255)))), (9, 0), (9, 0)] [] M Q))))) ∧ ((M 247 ((240 * x1) + (2 * x3))) = 1 → (0 ≤ (M 247 (((240 * x1) + (2 * x3)) + 1)) ∧ (M 247 (((240 * x1) + (2 * x3)) + 1)) < 4) ∧ (((M 247 ((240 * x1) + (2 * x3))) = 2 → Y G (d + 1) mX12_answerOf 162 [(2, 234), (0, x1), (0, (x2 - (zand (M 247 (((240 * x1) + (2 * x3)) + 1)) 255))), (0, x3), (0, (M 247 ((240 * x1) + (2 * x3)))), (0, (M 247 (((240 * x1) + (2 * x3)) + 1))), (0, (zand (M 247 (((240 * x1) + (2 * x3)) + 1)) 255)), (1, (M 249 (M 247 (((240 * x1) + (2 * x3)) + 1)))), (9, 0), (9, 0)] [] M Q) ∧ (¬ (M 247 ((240 * x1) + (2 * x3))) = 2 → ((¬ (M 247 ((240 * x1) + (2 * x3))) = 3 → (((M 247 ((240 * x1) + (2 * x3))) = 4 → Y G (d + 1) mX12_answerOf 259 [(2, 234), (0, x1), (0, (x2 - (zand (M 247 (((240 * x1) + (2 * x3)) + 1)) 255))), (0, x3), (0, (M 247 ((240 * x1) + (2 * x3)))), (0, (M 247 (((240 * x1) + (2 * x3)) + 1))), (0, (zand (M 247 (((240 * x1) + (2 * x3)) + 1)) 255)), (1, (M 249 (M 247 (((240 * x1) + (2 * x3)) + 1)))), (9, 0), (9, 0)] [] M Q) ∧ (¬ (M 247 ((240 * x1) + (2 * x3))) = 4 → ((¬ (M 247 ((240 * x1) + (2 * x3))) = 5 → ((¬ (M 247 ((240 * x1) + (2 * x3))) = 10 → (((M 247 ((240 * x1) + (2 * x3))) ≤ 5 → Y G (d + 1) mX12_answerOf 345 [(2, 234), (0, x1), (0, (x2 - (zand (M 247 (((240 * x1) + (2 * x3)) + 1)) 255))), (0, x3), (0, (M 247 ((240 * x1) + (2 * x3)))), (0, (M 247 (((240 * x1) + (2 * x3)) + 1))), (0, (zand (M 247 (((240 * x1) + (2 * x3)) + 1)) 255)), (1, (M 249 (M 247 (((240 * x1) + (2 * x3)) + 1)))), (9, 0), (9, 0)] [] M Q) ∧ (5 < (M 247 ((240 * x1) + (2 * x3))) → (-2147483648 ≤ (x2 - (zand (M 247 (((240 * x1) + (2 * x3)) + 1)) 255)) + 1 ∧ (x2 - (zand (M 247 (((240 * x1) + (2 * x3)) + 1)) 255)) + 1 ≤ 2147483647) ∧ (0 ≤ ((x2 - (zand (M 247 (((240 * x1) + (2 * x3)) + 1)) 255)) + 1) ∧ ((x2 - (zand (M 247 (((240 * x1) + (2 * x3)) + 1)) 255)) + 1) < 130) ∧ Y G d mX12_ofTwo 0 [(2, 234), (0, (M 247 ((240 * x1) + (2 * x3)))), (1, (M 249 (M 247 (((240 * x1) + (2 * x3)) + 1)))), (9, 0), (1, (M 250 ((x2 - (zand (M 247 (((240 * x1) + (2 * x3)) + 1)) 255)) + 1))), (9, 0)] [] M (fun r M' => Y G (d + 1) mX12_answerOf 343 [(2, 234), (0, x1), (0, (x2 - (zand (M 247 (((240 * x1) + (2 * x3)) + 1)) 255))), (0, x3), (0, (M 247 ((240 * x1) + (2 * x3)))), (0, (M 247 (((240 * x1) + (2 * x3)) + 1))), (0, (zand (M 247 (((240 * x1) + (2 * x3)) + 1)) 255)), (1, (M 249 (M 247 (((240 * x1) + (2 * x3)) + 1)))), (9, 0), (9, 0)] (zpush r []) M' Q)))) ∧ ((M 247 ((240 * x1) + (2 * x3))) = 10 → (-2147483648 ≤ (x2 - (zand (M 247 (((240 * x1) + (2 * x3)) + 1)) 255)) + 1 ∧ (x2 - (zand (M 247 (((240 * x1) + (2 * x3)) + 1)) 255)) + 1 ≤ 2147483647) ∧ (0 ≤ ((x2 - (zand (M 247 (((240 * x1) + (2 * x3)) + 1)) 255)) + 1) ∧ ((x2 - (zand (M 247 (((240 * x1) + (2 * x3)) + 1)) 255)) + 1) < 130) ∧ Y G d mX12_isSo 0 [(0, (M 247 (((240 * x1) + (2 * x3)) + 1))), (1, (M 249 (M 247 (((240 * x1) + (2 * x3)) + 1)))), (9, 0), (1, (M 250 ((x2 - (zand (M 247 (((240 * x1) + (2 * x3)) + 1)) 255)) + 1))), (9, 0)] [] M (fun r M' => Y G (d + 1) mX12_answerOf 294 [(2, 234), (0, x1), (0, (x2 - (zand (M 247 (((240 * x1) + (2 * x3)) + 1)) 255))), (0, x3), (0, (M 247 ((240 * x1) + (2 * x3)))), (0, (M 247 (((240 * x1) + (2 * x3)) + 1))), (0, (zand (M 247 (((240 * x1) + (2 * x3)) + 1)) 255)), (1, (M 249 (M 247 (((240 * x1) + (2 * x3)) + 1)))), (9, 0), (9, 0)] (zpush r []) M' Q)))) ∧ ((M 247 ((240 * x1) + (2 * x3))) = 5 → Y G (d + 1) mX12_answerOf 259 [(2, 234), (0, x1), (0, (x2 - (zand (M 247 (((240 * x1) + (2 * x3)) + 1)) 255))), (0, x3), (0, (M 247 ((240 * x1) + (2 * x3)))), (0, (M 247 (((240 * x1) + (2 * x3)) + 1))), (0, (zand (M 247 (((240 * x1) + (2 * x3)) + 1)) 255)), (1, (M 249 (M 247 (((240 * x1) + (2 * x3)) + 1)))), (9, 0), (9, 0)] [] M Q))))) ∧ ((M 247 ((240 * x1) + (2 * x3))) = 3 → Y G (d + 1) mX12_answerOf 162 [(2, 234), (0, x1), (0, (x2 - (zand (M 247 (((240 * x1) + (2 * x3)) + 1)) 255))), (0, x3), (0, (M 247 ((240 * x1) + (2 * x3)))), (0, (M 247 (((240 * x1) + (2 * x3)) + 1))), (0, (zand (M 247 (((240 * x1) + (2 * x3)) + 1)) 255)), (1, (M 249 (M 247 (((240 * x1) + (2 * x3)) + 1)))), (9, 0), (9, 0)] [] M Q))))))) ∧ ((M 247 ((240 * x1) + (2 * x3))) = 0 → (((M 247 ((240 * x1) + (2 * x3))) = 2 → Y G (d + 1) mX12_answerOf 162 [(2, 234), (0, x1), (0, (x2 - (zand (M 247 (((240 * x1) + (2 * x3)) + 1)) 255))), (0, x3), (0, (M 247 ((240 * x1) + (2 * x3)))), (0, (M 247 (((240 * x1) + (2 * x3)) + 1))), (0, (zand (M 247 (((240 * x1) + (2 * x3)) + 1)) 255)), (1, (M 247 (((240 * x1) + (2 * x3)) + 1))), (9, 0), (9, 0)] [] M Q) ∧ (¬ (M 247 ((240 * x1) + (2 * x3))) = 2 → ((¬ (M 247 ((240 * x1) + (2 * x3))) = 3 → (((M 247 ((240 * x1) + (2 * x3))) = 4 → Y G (d + 1) mX12_answerOf 259 [(2, 234), (0, x1), (0, (x2 - (zand (M 247 (((240 * x1) + (2 * x3)) + 1)) 255))), (0, x3), (0, (M 247 ((240 * x1) + (2 * x3)))), (0, (M 247 (((240 * x1) + (2 * x3)) + 1))), (0, (zand (M 247 (((240 * x1) + (2 * x3)) + 1)) 255)), (1, (M 247 (((240 * x1) + (2 * x3)) + 1))), (9, 0), (9, 0)] [] M Q) ∧ (¬ (M 247 ((240 * x1) + (2 * x3))) = 4 → ((¬ (M 247 ((240 * x1) + (2 * x3))) = 5 → ((¬ (M 247 ((240 * x1) + (2 * x3))) = 10 → (((M 247 ((240 * x1) + (2 * x3))) ≤ 5 → Y G (d + 1) mX12_answerOf 345 [(2, 234), (0, x1), (0, (x2 - (zand (M 247 (((240 * x1) + (2 * x3)) + 1)) 255))), (0, x3), (0, (M 247 ((240 * x1) + (2 * x3)))), (0, (M 247 (((240 * x1) + (2 * x3)) + 1))), (0, (zand (M 247 (((240 * x1) + (2 * x3)) + 1)) 255)), (1, (M 247 (((240 * x1) + (2 * x3)) + 1))), (9, 0), (9, 0)] [] M Q) ∧ (5 < (M 247 ((240 * x1) + (2 * x3))) → (-2147483648 ≤ (x2 - (zand (M 247 (((240 * x1) + (2 * x3)) + 1)) 255)) + 1 ∧ (x2 - (zand (M 247 (((240 * x1) + (2 * x3)) + 1)) 255)) + 1 ≤ 2147483647) ∧ (0 ≤ ((x2 - (zand (M 247 (((240 * x1) + (2 * x3)) + 1)) 255)) + 1) ∧ ((x2 - (zand (M 247 (((240 * x1) + (2 * x3)) + 1)) 255)) + 1) < 130) ∧ Y G d mX12_ofTwo 0 [(2, 234), (0, (M 247 ((240 * x1) + (2 * x3)))), (1, (M 247 (((240 * x1) + (2 * x3)) + 1))), (9, 0), (1, (M 250 ((x2 - (zand (M 247 (((240 * x1) + (2 * x3)) + 1)) 255)) + 1))), (9, 0)] [] M (fun r M' => Y G (d + 1) mX12_answerOf 343 [(2, 234), (0, x1), (0, (x2 - (zand (M 247 (((240 * x1) + (2 * x3)) + 1)) 255))), (0, x3), (0, (M 247 ((240 * x1) + (2 * x3)))), (0, (M 247 (((240 * x1) + (2 * x3)) + 1))), (0, (zand (M 247 (((240 * x1) + (2 * x3)) + 1)) 255)), (1, (M 247 (((240 * x1) + (2 * x3)) + 1))), (9, 0), (9, 0)] (zpush r []) M' Q)))) ∧ ((M 247 ((240 * x1) + (2 * x3))) = 10 → (-2147483648 ≤ (x2 - (zand (M 247 (((240 * x1) + (2 * x3)) + 1)) 255)) + 1 ∧ (x2 - (zand (M 247 (((240 * x1) + (2 * x3)) + 1)) 255)) + 1 ≤ 2147483647) ∧ (0 ≤ ((x2 - (zand (M 247 (((240 * x1) + (2 * x3)) + 1)) 255)) + 1) ∧ ((x2 - (zand (M 247 (((240 * x1) + (2 * x3)) + 1)) 255)) + 1) < 130) ∧ Y G d mX12_isSo 0 [(0, (M 247 (((240 * x1) + (2 * x3)) + 1))), (1, (M 247 (((240 * x1) + (2 * x3)) + 1))), (9, 0), (1, (M 250 ((x2 - (zand (M 247 (((240 * x1) + (2 * x3)) + 1)) 255)) + 1))), (9, 0)] [] M (fun r M' => Y G (d + 1) mX12_answerOf 294 [(2, 234), (0, x1), (0, (x2 - (zand (M 247 (((240 * x1) + (2 * x3)) + 1)) 255))), (0, x3), (0, (M 247 ((240 * x1) + (2 * x3)))), (0, (M 247 (((240 * x1) + (2 * x3)) + 1))), (0, (zand (M 247 (((240 * x1) + (2 * x3)) + 1)) 255)), (1, (M 247 (((240 * x1) + (2 * x3)) + 1))), (9, 0), (9, 0)] (zpush r []) M' Q)))) ∧ ((M 247 ((240 * x1) + (2 * x3))) = 5 → Y G (d + 1) mX12_answerOf 259 [(2, 234), (0, x1), (0, (x2 - (zand (M 247 (((240 * x1) + (2 * x3)) + 1)) 255))), (0, x3), (0, (M 247 ((240 * x1) + (2 * x3)))), (0, (M 247 (((240 * x1) + (2 * x3)) + 1))), (0, (zand (M 247 (((240 * x1) + (2 * x3)) + 1)) 255)), (1, (M 247 (((240 * x1) + (2 * x3)) + 1))), (9, 0), (9, 0)] [] M Q))))) ∧ ((M 247 ((240 * x1) + (2 * x3))) = 3 → Y G (d + 1) mX12_answerOf 162 [(2, 234), (0, x1), (0, (x2 - (zand (M 247 (((240 * x1) + (2 * x3)) + 1)) 255))), (0, x3), (0, (M 247 ((240 * x1) + (2 * x3)))), (0, (M 247 (((240 * x1) + (2 * x3)) + 1))), (0, (zand (M 247 (((240 * x1) + (2 * x3)) + 1)) 255)), (1, (M 247 (((240 * x1) + (2 * x3)) + 1))), (9, 0), (9, 0)] [] M Q))))))))) ∧ ((M 247 ((240 * x1) + (2 * x3))) < 2 → (-2147483648 ≤ x2 - 0 ∧ x2 - 0 ≤ 2147483647) ∧ ((¬ (M 247 ((240 * x1) + (2 * x3))) = 0 → ((¬ (M 247 ((240 * x1) + (2 * x3))) = 1 → (0 ≤ (x2 - 0) ∧ (x2 - 0) < 130) ∧ (((M 247 ((240 * x1) + (2 * x3))) = 2 → Y G (d + 1) mX12_answerOf 162 [(2, 234), (0, x1), (0, (x2 - 0)), (0, x3), (0, (M 247 ((240 * x1) + (2 * x3)))), (0, (M 247 (((240 * x1) + (2 * x3)) + 1))), (0, 0), (1, (M 250 (x2 - 0))), (9, 0), (9, 0)] [] M Q) ∧ (¬ (M 247 ((240 * x1) + (2 * x3))) = 2 → ((¬ (M 247 ((240 * x1) + (2 * x3))) = 3 → (((M 247 ((240 * x1) + (2 * x3))) = 4 → Y G (d + 1) mX12_answerOf 259 [(2, 234), (0, x1), (0, (x2 - 0)), (0, x3), (0, (M 247 ((240 * x1) + (2 * x3)))), (0, (M 247 (((240 * x1) + (2 * x3)) + 1))), (0, 0), (1, (M 250 (x2 - 0))), (9, 0), (9, 0)] [] M Q) ∧ (¬ (M 247 ((240 * x1) + (2 * x3))) = 4 → ((¬ (M 247 ((240 * x1) + (2 * x3))) = 5 → ((¬ (M 247 ((240 * x1) + (2 * x3))) = 10 → (((M 247 ((240 * x1) + (2 * x3))) ≤ 5 → Y G (d + 1) mX12_answerOf 345 [(2, 234), (0, x1), (0, (x2 - 0)), (0, x3), (0, (M 247 ((240 * x1) + (2 * x3)))), (0, (M 247 (((240 * x1) + (2 * x3)) + 1))), (0, 0), (1, (M 250 (x2 - 0))), (9, 0), (9, 0)] [] M Q) ∧ (5 < (M 247 ((240 * x1) + (2 * x3))) → (-2147483648 ≤ (x2 - 0) + 1 ∧ (x2 - 0) + 1 ≤ 2147483647) ∧ (0 ≤ ((x2 - 0) + 1) ∧ ((x2 - 0) + 1) < 130) ∧ Y G d mX12_ofTwo 0 [(2, 234), (0, (M 247 ((240 * x1) + (2 * x3)))), (1, (M 250 (x2 - 0))), (9, 0), (1, (M 250 ((x2 - 0) + 1))), (9, 0)] [] M (fun r M' => Y G (d + 1) mX12_answerOf 343 [(2, 234), (0, x1), (0, (x2 - 0)), (0, x3), (0, (M 247 ((240 * x1) + (2 * x3)))), (0, (M 247 (((240 * x1) + (2 * x3)) + 1))), (0, 0), (1, (M 250 (x2 - 0))), (9, 0), (9, 0)] (zpush r []) M' Q)))) ∧ ((M 247 ((240 * x1) + (2 * x3))) = 10 → (-2147483648 ≤ (x2 - 0) + 1 ∧ (x2 - 0) + 1 ≤ 2147483647) ∧ (0 ≤ ((x2 - 0) + 1) ∧ ((x2 - 0) + 1) < 130) ∧ Y G d mX12_isSo 0 [(0, (M 247 (((240 * x1) + (2 * x3)) + 1))), (1, (M 250 (x2 - 0))), (9, 0), (1, (M 250 ((x2 - 0) + 1))), (9, 0)] [] M (fun r M' => Y G (d + 1) mX12_answerOf 294 [(2, 234), (0, x1), (0, (x2 - 0)), (0, x3), (0, (M 247 ((240 * x1) + (2 * x3)))), (0, (M 247 (((240 * x1) + (2 * x3)) + 1))), (0, 0), (1, (M 250 (x2 - 0))), (9, 0), (9, 0)] (zpush r []) M' Q)))) ∧ ((M 247 ((240 * x1) + (2 * x3))) = 5 → Y G (d + 1) mX12_answerOf 259 [(2, 234), (0, x1), (0, (x2 - 0)), (0, x3), (0, (M 247 ((240 * x1) + (2 * x3)))), (0, (M 247 (((240 * x1) + (2 * x3)) + 1))), (0, 0), (1, (M 250 (x2 - 0))), (9, 0), (9, 0)] [] M Q))))) ∧ ((M 247 ((240 * x1) + (2 * x3))) = 3 → Y G (d + 1) mX12_answerOf 162 [(2, 234), (0, x1), (0, (x2 - 0)), (0, x3), (0, (M 247 ((240 * x1) + (2 * x3)))), (0, (M 247 (((240 * x1) + (2 * x3)) + 1))), (0, 0), (1, (M 250 (x2 - 0))), (9, 0), (9, 0)] [] M Q))))) ∧ ((M 247 ((240 * x1) + (2 * x3))) = 1 → (0 ≤ (M 247 (((240 * x1) + (2 * x3)) + 1)) ∧ (M 247 (((240 * x1) + (2 * x3)) + 1)) < 4) ∧ (((M 247 ((240 * x1) + (2 * x3))) = 2 → Y G (d + 1) mX12_answerOf 162 [(2, 234), (0, x1), (0, (x2 - 0)), (0, x3), (0, (M 247 ((240 * x1) + (2 * x3)))), (0, (M 247 (((240 * x1) + (2 * x3)) + 1))), (0, 0), (1, (M 249 (M 247 (((240 * x1) + (2 * x3)) + 1)))), (9, 0), (9, 0)] [] M Q) ∧ (¬ (M 247 ((240 * x1) + (2 * x3))) = 2 → ((¬ (M 247 ((240 * x1) + (2 * x3))) = 3 → (((M 247 ((240 * x1) + (2 * x3))) = 4 → Y G (d + 1) mX12_answerOf 259 [(2, 234), (0, x1), (0, (x2 - 0)), (0, x3), (0, (M 247 ((240 * x1) + (2 * x3)))), (0, (M 247 (((240 * x1) + (2 * x3)) + 1))), (0, 0), (1, (M 249 (M 247 (((240 * x1) + (2 * x3)) + 1)))), (9, 0), (9, 0)] [] M Q) ∧ (¬ (M 247 ((240 * x1) + (2 * x3))) = 4 → ((¬ (M 247 ((240 * x1) + (2 * x3))) = 5 → ((¬ (M 247 ((240 * x1) + (2 * x3))) = 10 → (((M 247 ((240 * x1) + (2 * x3))) ≤ 5 → Y G (d + 1) mX12_answerOf 345 [(2, 234), (0, x1), (0, (x2 - 0)), (0, x3), (0, (M 247 ((240 * x1) + (2 * x3)))), (0, (M 247 (((240 * x1) + (2 * x3)) + 1))), (0, 0), (1, (M 249 (M 247 (((240 * x1) + (2 * x3)) + 1)))), (9, 0), (9, 0)] [] M Q) ∧ (5 < (M 247 ((240 * x1) + (2 * x3))) → (-2147483648 ≤ (x2 - 0) + 1 ∧ (x2 - 0) + 1 ≤ 2147483647) ∧ (0 ≤ ((x2 - 0) + 1) ∧ ((x2 - 0) + 1) < 130) ∧ Y G d mX12_ofTwo 0 [(2, 234), (0, (M 247 ((240 * x1) + (2 * x3)))), (1, (M 249 (M 247 (((240 * x1) + (2 * x3)) + 1)))), (9, 0), (1, (M 250 ((x2 - 0) + 1))), (9, 0)] [] M (fun r M' => Y G (d + 1) mX12_answerOf 343 [(2, 234), (0, x1), (0, (x2 - 0)), (0, x3), (0, (M 247 ((240 * x1) + (2 * x3)))), (0, (M 247 (((240 * x1) + (2 * x3)) + 1))), (0, 0), (1, (M 249 (M 247 (((240 * x1) + (2 * x3)) + 1)))), (9, 0), (9, 0)] (zpush r []) M' Q)))) ∧ ((M 247 ((240 * x1) + (2 * x3))) = 10 → (-2147483648 ≤ (x2 - 0) + 1 ∧ (x2 - 0) + 1 ≤ 2147483647) ∧ (0 ≤ ((x2 - 0) + 1) ∧ ((x2 - 0) + 1) < 130) ∧ Y G d mX12_isSo 0 [(0, (M 247 (((240 * x1) + (2 * x3)) + 1))), (1, (M 249 (M 247 (((240 * x1) + (2 * x3)) + 1)))), (9, 0), (1, (M 250 ((x2 - 0) + 1))), (9, 0)] [] M (fun r M' => Y G (d + 1) mX12_answerOf 294 [(2, 234), (0, x1), (0, (x2 - 0)), (0, x3), (0, (M 247 ((240 * x1) + (2 * x3)))), (0, (M 247 (((240 * x1) + (2 * x3)) + 1))), (0, 0), (1, (M 249 (M 247 (((240 * x1) + (2 * x3)) + 1)))), (9, 0), (9, 0)] (zpush r []) M' Q)))) ∧ ((M 247 ((240 * x1) + (2 * x3))) = 5 → Y G (d + 1) mX12_answerOf 259 [(2, 234), (0, x1), (0, (x2 - 0)), (0, x3), (0, (M 247 ((240 * x1) + (2 * x3)))), (0, (M 247 (((240 * x1) + (2 * x3)) + 1))), (0, 0), (1, (M 249 (M 247 (((240 * x1) + (2 * x3)) + 1)))), (9, 0), (9, 0)] [] M Q))))) ∧ ((M 247 ((240 * x1) + (2 * x3))) = 3 → Y G (d + 1) mX12_answerOf 162 [(2, 234), (0, x1), (0, (x2 - 0)), (0, x3), (0, (M 247 ((240 * x1) + (2 * x3)))), (0, (M 247 (((240 * x1) + (2 * x3)) + 1))), (0, 0), (1, (M 249 (M 247 (((240 * x1) + (2 * x3)) + 1)))), (9, 0), (9, 0)] [] M Q))))))) ∧ ((M 247 ((240 * x1) + (2 * x3))) = 0 → (((M 247 ((240 * x1) + (2 * x3))) = 2 → Y G (d + 1) mX12_answerOf 162 [(2, 234), (0, x1), (0, (x2 - 0)), (0, x3), (0, (M 247 ((240 * x1) + (2 * x3)))), (0, (M 247 (((240 * x1) + (2 * x3)) + 1))), (0, 0), (1, (M 247 (((240 * x1) + (2 * x3)) + 1))), (9, 0), (9, 0)] [] M Q) ∧ (¬ (M 247 ((240 * x1) + (2 * x3))) = 2 → ((¬ (M 247 ((240 * x1) + (2 * x3))) = 3 → (((M 247 ((240 * x1) + (2 * x3))) = 4 → Y G (d + 1) mX12_answerOf 259 [(2, 234), (0, x1), (0, (x2 - 0)), (0, x3), (0, (M 247 ((240 * x1) + (2 * x3)))), (0, (M 247 (((240 * x1) + (2 * x3)) + 1))), (0, 0), (1, (M 247 (((240 * x1) + (2 * x3)) + 1))), (9, 0), (9, 0)] [] M Q) ∧ (¬ (M 247 ((240 * x1) + (2 * x3))) = 4 → ((¬ (M 247 ((240 * x1) + (2 * x3))) = 5 → ((¬ (M 247 ((240 * x1) + (2 * x3))) = 10 → (((M 247 ((240 * x1) + (2 * x3))) ≤ 5 → Y G (d + 1) mX12_answerOf 345 [(2, 234), (0, x1), (0, (x2 - 0)), (0, x3), (0, (M 247 ((240 * x1) + (2 * x3)))), (0, (M 247 (((240 * x1) + (2 * x3)) + 1))), (0, 0), (1, (M 247 (((240 * x1) + (2 * x3)) + 1))), (9, 0), (9, 0)] [] M Q) ∧ (5 < (M 247 ((240 * x1) + (2 * x3))) → (-2147483648 ≤ (x2 - 0) + 1 ∧ (x2 - 0) + 1 ≤ 2147483647) ∧ (0 ≤ ((x2 - 0) + 1) ∧ ((x2 - 0) + 1) < 130) ∧ Y G d mX12_ofTwo 0 [(2, 234), (0, (M 247 ((240 * x1) + (2 * x3)))), (1, (M 247 (((240 * x1) + (2 * x3)) + 1))), (9, 0), (1, (M 250 ((x2 - 0) + 1))), (9, 0)] [] M (fun r M' => Y G (d + 1) mX12_answerOf 343 [(2, 234), (0, x1), (0, (x2 - 0)), (0, x3), (0, (M 247 ((240 * x1) + (2 * x3)))), (0, (M 247 (((240 * x1) + (2 * x3)) + 1))), (0, 0), (1, (M 247 (((240 * x1) + (2 * x3)) + 1))), (9, 0), (9, 0)] (zpush r []) M' Q)))) ∧ ((M 247 ((240 * x1) + (2 * x3))) = 10 → (-2147483648 ≤ (x2 - 0) + 1 ∧ (x2 - 0) + 1 ≤ 2147483647) ∧ (0 ≤ ((x2 - 0) + 1) ∧ ((x2 - 0) + 1) < 130) ∧ Y G d mX12_isSo 0 [(0, (M 247 (((240 * x1) + (2 * x3)) + 1))), (1, (M 247 (((240 * x1) + (2 * x3)) + 1))), (9, 0), (1, (M 250 ((x2 - 0) + 1))), (9, 0)] [] M (fun r M' => Y G (d + 1) mX12_answerOf 294 [(2, 234), (0, x1), (0, (x2 - 0)), (0, x3), (0, (M 247 ((240 * x1) + (2 * x3)))), (0, (M 247 (((240 * x1) + (2 * x3)) + 1))), (0, 0), (1, (M 247 (((240 * x1) + (2 * x3)) + 1))), (9, 0), (9, 0)] (zpush r []) M' Q)))) ∧ ((M 247 ((240 * x1) + (2 * x3))) = 5 → Y G (d + 1) mX12_answerOf 259 [(2, 234), (0, x1), (0, (x2 - 0)), (0, x3), (0, (M 247 ((240 * x1) + (2 * x3)))), (0, (M 247 (((240 * x1) + (2 * x3)) + 1))), (0, 0), (1, (M 247 (((240 * x1) + (2 * x3)) + 1))), (9, 0), (9, 0)] [] M Q))))) ∧ ((M 247 ((240 * x1) + (2 * x3))) = 3 → Y G (d + 1) mX12_answerOf 162 [(2, 234), (0, x1), (0, (x2 - 0)), (0, x3), (0, (M 247 ((240 * x1) + (2 * x3)))), (0, (M 247 (((240 * x1) + (2 * x3)) + 1))), (0, 0), (1, (M 247 (((240 * x1) + (2 * x3)) + 1))), (9, 0), (9, 0)] [] M Q))))))))))) :
    Y G (d + 1) mX12_answerOf 4 [(2, 234), (0, x1), (0, x2), (0, x3), (9, 0), (9, 0), (9, 0), (9, 0), (9, 0), (9, 0)] [] M Q := by
  refine z_iloadn dX12_answerOf_4 rfl ?_
  refine z_aloadn dX12_answerOf_5 rfl (Or.inl rfl) ?_
  refine y_getr (v := 246) hG dX12_answerOf_6 fX12_50 sh234 (by decide) rfl (by decide +kernel) (by decide) ?_
  refine z_iloadn dX12_answerOf_9 rfl ?_
  obtain ⟨q1, h⟩ := h
  refine y_iald (x := (M 246 x1)) dX12_answerOf_10 sh246 q1 rfl ?_
  refine z_icmpge (tgt := 362) dX12_answerOf_11 rfl (fun q => ?_) (fun q => ?_)
  · replace h := h.1 q
    refine z_aloadn dX12_answerOf_362 rfl (Or.inl rfl) ?_
    refine y_getr (v := 250) hG dX12_answerOf_363 fX12_62 sh234 (by decide) rfl (by decide +kernel) (by decide) ?_
    refine z_iconst dX12_answerOf_366 ki_0 ?_
    refine y_lald (x := (M 250 0)) dX12_answerOf_367 sh250 ⟨by decide, by decide⟩ rfl ?_
    exact z_lreturn dX12_answerOf_368 rfl rfl h
  · replace h := h.2 q
    refine z_aloadn dX12_answerOf_14 rfl (Or.inl rfl) ?_
    refine y_getr (v := 247) hG dX12_answerOf_15 fX12_53 sh234 (by decide) rfl (by decide +kernel) (by decide) ?_
    refine z_sipush dX12_answerOf_18 ks_240 ?_
    refine z_iloadn dX12_answerOf_21 rfl ?_
    obtain ⟨q2, h⟩ := h
    refine z_imul dX12_answerOf_22 q2 ?_
    refine z_iconst dX12_answerOf_23 ki_2 ?_
    refine z_iloadn dX12_answerOf_24 rfl ?_
    obtain ⟨q3, h⟩ := h
    refine z_imul dX12_answerOf_25 q3 ?_
    obtain ⟨q4, h⟩ := h
    refine z_iadd dX12_answerOf_26 q4 ?_
    obtain ⟨q5, h⟩ := h
    refine y_iald (x := (M 247 ((240 * x1) + (2 * x3)))) dX12_answerOf_27 sh247 q5 rfl ?_
    refine y_istore (ls' := [(2, 234), (0, x1), (0, x2), (0, x3), (0, (M 247 ((240 * x1) + (2 * x3)))), (9, 0), (9, 0), (9, 0), (9, 0), (9, 0)]) dX12_answerOf_28 rfl rfl ?_
    refine z_aloadn dX12_answerOf_30 rfl (Or.inl rfl) ?_
    refine y_getr (v := 247) hG dX12_answerOf_31 fX12_53 sh234 (by decide) rfl (by decide +kernel) (by decide) ?_
    refine z_sipush dX12_answerOf_34 ks_240 ?_
    refine z_iloadn dX12_answerOf_37 rfl ?_
    obtain ⟨q6, h⟩ := h
    refine z_imul dX12_answerOf_38 q6 ?_
    refine z_iconst dX12_answerOf_39 ki_2 ?_
    refine z_iloadn dX12_answerOf_40 rfl ?_
    obtain ⟨q7, h⟩ := h
    refine z_imul dX12_answerOf_41 q7 ?_
    obtain ⟨q8, h⟩ := h
    refine z_iadd dX12_answerOf_42 q8 ?_
    refine z_iconst dX12_answerOf_43 ki_1 ?_
    obtain ⟨q9, h⟩ := h
    refine z_iadd dX12_answerOf_44 q9 ?_
    obtain ⟨q10, h⟩ := h
    refine y_iald (x := (M 247 (((240 * x1) + (2 * x3)) + 1))) dX12_answerOf_45 sh247 q10 rfl ?_
    refine y_istore (ls' := [(2, 234), (0, x1), (0, x2), (0, x3), (0, (M 247 ((240 * x1) + (2 * x3)))), (0, (M 247 (((240 * x1) + (2 * x3)) + 1))), (9, 0), (9, 0), (9, 0), (9, 0)]) dX12_answerOf_46 rfl rfl ?_
    refine z_iload dX12_answerOf_48 rfl ?_
    refine z_iconst dX12_answerOf_50 ki_2 ?_
    refine z_icmpge (tgt := 58) dX12_answerOf_51 rfl (fun q => ?_) (fun q => ?_)
    · replace h := h.1 q
      refine z_iload dX12_answerOf_58 rfl ?_
      refine z_iconst dX12_answerOf_60 ki_2 ?_
      refine z_icmpne (tgt := 73) dX12_answerOf_61 rfl (fun q => ?_) (fun q => ?_)
      · replace h := h.1 q
        refine z_iload dX12_answerOf_73 rfl ?_
        refine z_iconst dX12_answerOf_75 ki_3 ?_
        refine z_icmpne (tgt := 84) dX12_answerOf_76 rfl (fun q => ?_) (fun q => ?_)
        · replace h := h.1 q
          refine z_iload dX12_answerOf_84 rfl ?_
          refine z_bipush dX12_answerOf_86 kb_6 ?_
          refine z_icmpge (tgt := 95) dX12_answerOf_88 rfl (fun q => ?_) (fun q => ?_)
          · replace h := h.1 q
            refine z_iload dX12_answerOf_95 rfl ?_
            refine z_bipush dX12_answerOf_97 kb_10 ?_
            refine z_icmpge (tgt := 106) dX12_answerOf_99 rfl (fun q => ?_) (fun q => ?_)
            · replace h := h.1 q
              refine z_iconst dX12_answerOf_106 ki_4 ?_
              refine y_istore (ls' := [(2, 234), (0, x1), (0, x2), (0, x3), (0, (M 247 ((240 * x1) + (2 * x3)))), (0, (M 247 (((240 * x1) + (2 * x3)) + 1))), (0, 4), (9, 0), (9, 0), (9, 0)]) dX12_answerOf_107 rfl rfl ?_
              refine z_iloadn dX12_answerOf_109 rfl ?_
              refine z_iload dX12_answerOf_110 rfl ?_
              obtain ⟨q11, h⟩ := h
              refine z_isub dX12_answerOf_112 q11 ?_
              refine y_istoren (ls' := [(2, 234), (0, x1), (0, (x2 - 4)), (0, x3), (0, (M 247 ((240 * x1) + (2 * x3)))), (0, (M 247 (((240 * x1) + (2 * x3)) + 1))), (0, 4), (9, 0), (9, 0), (9, 0)]) dX12_answerOf_113 rfl rfl ?_
              refine z_iload dX12_answerOf_114 rfl ?_
              refine z_ifne (tgt := 125) dX12_answerOf_116 rfl (fun q => ?_) (fun q => ?_)
              · replace h := h.1 q
                refine z_iload dX12_answerOf_125 rfl ?_
                refine z_iconst dX12_answerOf_127 ki_1 ?_
                refine z_icmpne (tgt := 142) dX12_answerOf_128 rfl (fun q => ?_) (fun q => ?_)
                · replace h := h.1 q
                  refine z_aloadn dX12_answerOf_142 rfl (Or.inl rfl) ?_
                  refine y_getr (v := 250) hG dX12_answerOf_143 fX12_62 sh234 (by decide) rfl (by decide +kernel) (by decide) ?_
                  refine z_iloadn dX12_answerOf_146 rfl ?_
                  obtain ⟨q12, h⟩ := h
                  refine y_lald (x := (M 250 (x2 - 4))) dX12_answerOf_147 sh250 q12 rfl ?_
                  refine y_lstore (ls' := [(2, 234), (0, x1), (0, (x2 - 4)), (0, x3), (0, (M 247 ((240 * x1) + (2 * x3)))), (0, (M 247 (((240 * x1) + (2 * x3)) + 1))), (0, 4), (1, (M 250 (x2 - 4))), (9, 0), (9, 0)]) dX12_answerOf_148 rfl (Nat.le_of_ble_eq_true rfl) rfl ?_
                  refine z_iload dX12_answerOf_150 rfl ?_
                  refine z_iconst dX12_answerOf_152 ki_2 ?_
                  refine z_icmpeq (tgt := 162) dX12_answerOf_153 rfl (fun q => ?_) (fun q => ?_)
                  · replace h := h.1 q
                    exact h
                  · replace h := h.2 q
                    refine z_iload dX12_answerOf_156 rfl ?_
                    refine z_iconst dX12_answerOf_158 ki_3 ?_
                    refine z_icmpne (tgt := 247) dX12_answerOf_159 rfl (fun q => ?_) (fun q => ?_)
                    · replace h := h.1 q
                      refine z_iload dX12_answerOf_247 rfl ?_
                      refine z_iconst dX12_answerOf_249 ki_4 ?_
                      refine z_icmpeq (tgt := 259) dX12_answerOf_250 rfl (fun q => ?_) (fun q => ?_)
                      · replace h := h.1 q
                        exact h
                      · replace h := h.2 q
                        refine z_iload dX12_answerOf_253 rfl ?_
                        refine z_iconst dX12_answerOf_255 ki_5 ?_
                        refine z_icmpne (tgt := 272) dX12_answerOf_256 rfl (fun q => ?_) (fun q => ?_)
                        · replace h := h.1 q
                          refine z_iload dX12_answerOf_272 rfl ?_
                          refine z_bipush dX12_answerOf_274 kb_10 ?_
                          refine z_icmpne (tgt := 321) dX12_answerOf_276 rfl (fun q => ?_) (fun q => ?_)
                          · replace h := h.1 q
                            refine z_iload dX12_answerOf_321 rfl ?_
                            refine z_iconst dX12_answerOf_323 ki_5 ?_
                            refine z_icmple (tgt := 345) dX12_answerOf_324 rfl (fun q => ?_) (fun q => ?_)
                            · replace h := h.1 q
                              exact h
                            · replace h := h.2 q
                              refine z_aloadn dX12_answerOf_327 rfl (Or.inl rfl) ?_
                              refine z_iload dX12_answerOf_328 rfl ?_
                              refine z_lload dX12_answerOf_330 rfl ?_
                              refine z_aloadn dX12_answerOf_332 rfl (Or.inl rfl) ?_
                              refine y_getr (v := 250) hG dX12_answerOf_333 fX12_62 sh234 (by decide) rfl (by decide +kernel) (by decide) ?_
                              refine z_iloadn dX12_answerOf_336 rfl ?_
                              refine z_iconst dX12_answerOf_337 ki_1 ?_
                              obtain ⟨q13, h⟩ := h
                              refine z_iadd dX12_answerOf_338 q13 ?_
                              obtain ⟨q14, h⟩ := h
                              refine y_lald (x := (M 250 ((x2 - 4) + 1))) dX12_answerOf_339 sh250 q14 rfl ?_
                              refine y_cv (mt2 := mX12_ofTwo) (en := [(2, 234), (0, (M 247 ((240 * x1) + (2 * x3)))), (1, (M 250 (x2 - 4))), (9, 0), (1, (M 250 ((x2 - 4) + 1))), (9, 0)]) (st := []) (as := [(0, (M 247 ((240 * x1) + (2 * x3)))), (1, (M 250 (x2 - 4))), (1, (M 250 ((x2 - 4) + 1)))]) dX12_answerOf_340 lX12_388 kX12_ofTwo iX12_ofTwo eX12_ofTwo rfl sh234 (by decide +kernel) (Nat.le_of_ble_eq_true rfl) (Nat.le_of_ble_eq_true rfl) rfl ?_
                              exact h
                          · replace h := h.2 q
                            refine z_iload dX12_answerOf_279 rfl ?_
                            refine z_lload dX12_answerOf_281 rfl ?_
                            refine z_aloadn dX12_answerOf_283 rfl (Or.inl rfl) ?_
                            refine y_getr (v := 250) hG dX12_answerOf_284 fX12_62 sh234 (by decide) rfl (by decide +kernel) (by decide) ?_
                            refine z_iloadn dX12_answerOf_287 rfl ?_
                            refine z_iconst dX12_answerOf_288 ki_1 ?_
                            obtain ⟨q15, h⟩ := h
                            refine z_iadd dX12_answerOf_289 q15 ?_
                            obtain ⟨q16, h⟩ := h
                            refine y_lald (x := (M 250 ((x2 - 4) + 1))) dX12_answerOf_290 sh250 q16 rfl ?_
                            refine y_cs (mt2 := mX12_isSo) (en := [(0, (M 247 (((240 * x1) + (2 * x3)) + 1))), (1, (M 250 (x2 - 4))), (9, 0), (1, (M 250 ((x2 - 4) + 1))), (9, 0)]) (st := []) (as := [(0, (M 247 (((240 * x1) + (2 * x3)) + 1))), (1, (M 250 (x2 - 4))), (1, (M 250 ((x2 - 4) + 1)))]) dX12_answerOf_291 lX12_384 kX12_isSo tX12_isSo rfl (Nat.le_of_ble_eq_true rfl) (Nat.le_of_ble_eq_true rfl) rfl ?_
                            exact h
                        · replace h := h.2 q
                          exact h
                    · replace h := h.2 q
                      exact h
                · replace h := h.2 q
                  refine z_aloadn dX12_answerOf_131 rfl (Or.inl rfl) ?_
                  refine y_getr (v := 249) hG dX12_answerOf_132 fX12_59 sh234 (by decide) rfl (by decide +kernel) (by decide) ?_
                  refine z_iload dX12_answerOf_135 rfl ?_
                  obtain ⟨q17, h⟩ := h
                  refine y_iald (x := (M 249 (M 247 (((240 * x1) + (2 * x3)) + 1)))) dX12_answerOf_137 sh249 q17 rfl ?_
                  refine z_i2l dX12_answerOf_138 ?_
                  refine z_goto (tgt := 148) dX12_answerOf_139 rfl ?_
                  refine y_lstore (ls' := [(2, 234), (0, x1), (0, (x2 - 4)), (0, x3), (0, (M 247 ((240 * x1) + (2 * x3)))), (0, (M 247 (((240 * x1) + (2 * x3)) + 1))), (0, 4), (1, (M 249 (M 247 (((240 * x1) + (2 * x3)) + 1)))), (9, 0), (9, 0)]) dX12_answerOf_148 rfl (Nat.le_of_ble_eq_true rfl) rfl ?_
                  refine z_iload dX12_answerOf_150 rfl ?_
                  refine z_iconst dX12_answerOf_152 ki_2 ?_
                  refine z_icmpeq (tgt := 162) dX12_answerOf_153 rfl (fun q => ?_) (fun q => ?_)
                  · replace h := h.1 q
                    exact h
                  · replace h := h.2 q
                    refine z_iload dX12_answerOf_156 rfl ?_
                    refine z_iconst dX12_answerOf_158 ki_3 ?_
                    refine z_icmpne (tgt := 247) dX12_answerOf_159 rfl (fun q => ?_) (fun q => ?_)
                    · replace h := h.1 q
                      refine z_iload dX12_answerOf_247 rfl ?_
                      refine z_iconst dX12_answerOf_249 ki_4 ?_
                      refine z_icmpeq (tgt := 259) dX12_answerOf_250 rfl (fun q => ?_) (fun q => ?_)
                      · replace h := h.1 q
                        exact h
                      · replace h := h.2 q
                        refine z_iload dX12_answerOf_253 rfl ?_
                        refine z_iconst dX12_answerOf_255 ki_5 ?_
                        refine z_icmpne (tgt := 272) dX12_answerOf_256 rfl (fun q => ?_) (fun q => ?_)
                        · replace h := h.1 q
                          refine z_iload dX12_answerOf_272 rfl ?_
                          refine z_bipush dX12_answerOf_274 kb_10 ?_
                          refine z_icmpne (tgt := 321) dX12_answerOf_276 rfl (fun q => ?_) (fun q => ?_)
                          · replace h := h.1 q
                            refine z_iload dX12_answerOf_321 rfl ?_
                            refine z_iconst dX12_answerOf_323 ki_5 ?_
                            refine z_icmple (tgt := 345) dX12_answerOf_324 rfl (fun q => ?_) (fun q => ?_)
                            · replace h := h.1 q
                              exact h
                            · replace h := h.2 q
                              refine z_aloadn dX12_answerOf_327 rfl (Or.inl rfl) ?_
                              refine z_iload dX12_answerOf_328 rfl ?_
                              refine z_lload dX12_answerOf_330 rfl ?_
                              refine z_aloadn dX12_answerOf_332 rfl (Or.inl rfl) ?_
                              refine y_getr (v := 250) hG dX12_answerOf_333 fX12_62 sh234 (by decide) rfl (by decide +kernel) (by decide) ?_
                              refine z_iloadn dX12_answerOf_336 rfl ?_
                              refine z_iconst dX12_answerOf_337 ki_1 ?_
                              obtain ⟨q18, h⟩ := h
                              refine z_iadd dX12_answerOf_338 q18 ?_
                              obtain ⟨q19, h⟩ := h
                              refine y_lald (x := (M 250 ((x2 - 4) + 1))) dX12_answerOf_339 sh250 q19 rfl ?_
                              refine y_cv (mt2 := mX12_ofTwo) (en := [(2, 234), (0, (M 247 ((240 * x1) + (2 * x3)))), (1, (M 249 (M 247 (((240 * x1) + (2 * x3)) + 1)))), (9, 0), (1, (M 250 ((x2 - 4) + 1))), (9, 0)]) (st := []) (as := [(0, (M 247 ((240 * x1) + (2 * x3)))), (1, (M 249 (M 247 (((240 * x1) + (2 * x3)) + 1)))), (1, (M 250 ((x2 - 4) + 1)))]) dX12_answerOf_340 lX12_388 kX12_ofTwo iX12_ofTwo eX12_ofTwo rfl sh234 (by decide +kernel) (Nat.le_of_ble_eq_true rfl) (Nat.le_of_ble_eq_true rfl) rfl ?_
                              exact h
                          · replace h := h.2 q
                            refine z_iload dX12_answerOf_279 rfl ?_
                            refine z_lload dX12_answerOf_281 rfl ?_
                            refine z_aloadn dX12_answerOf_283 rfl (Or.inl rfl) ?_
                            refine y_getr (v := 250) hG dX12_answerOf_284 fX12_62 sh234 (by decide) rfl (by decide +kernel) (by decide) ?_
                            refine z_iloadn dX12_answerOf_287 rfl ?_
                            refine z_iconst dX12_answerOf_288 ki_1 ?_
                            obtain ⟨q20, h⟩ := h
                            refine z_iadd dX12_answerOf_289 q20 ?_
                            obtain ⟨q21, h⟩ := h
                            refine y_lald (x := (M 250 ((x2 - 4) + 1))) dX12_answerOf_290 sh250 q21 rfl ?_
                            refine y_cs (mt2 := mX12_isSo) (en := [(0, (M 247 (((240 * x1) + (2 * x3)) + 1))), (1, (M 249 (M 247 (((240 * x1) + (2 * x3)) + 1)))), (9, 0), (1, (M 250 ((x2 - 4) + 1))), (9, 0)]) (st := []) (as := [(0, (M 247 (((240 * x1) + (2 * x3)) + 1))), (1, (M 249 (M 247 (((240 * x1) + (2 * x3)) + 1)))), (1, (M 250 ((x2 - 4) + 1)))]) dX12_answerOf_291 lX12_384 kX12_isSo tX12_isSo rfl (Nat.le_of_ble_eq_true rfl) (Nat.le_of_ble_eq_true rfl) rfl ?_
                            exact h
                        · replace h := h.2 q
                          exact h
                    · replace h := h.2 q
                      exact h
              · replace h := h.2 q
                refine z_iload dX12_answerOf_119 rfl ?_
                refine z_i2l dX12_answerOf_121 ?_
                refine z_goto (tgt := 148) dX12_answerOf_122 rfl ?_
                refine y_lstore (ls' := [(2, 234), (0, x1), (0, (x2 - 4)), (0, x3), (0, (M 247 ((240 * x1) + (2 * x3)))), (0, (M 247 (((240 * x1) + (2 * x3)) + 1))), (0, 4), (1, (M 247 (((240 * x1) + (2 * x3)) + 1))), (9, 0), (9, 0)]) dX12_answerOf_148 rfl (Nat.le_of_ble_eq_true rfl) rfl ?_
                refine z_iload dX12_answerOf_150 rfl ?_
                refine z_iconst dX12_answerOf_152 ki_2 ?_
                refine z_icmpeq (tgt := 162) dX12_answerOf_153 rfl (fun q => ?_) (fun q => ?_)
                · replace h := h.1 q
                  exact h
                · replace h := h.2 q
                  refine z_iload dX12_answerOf_156 rfl ?_
                  refine z_iconst dX12_answerOf_158 ki_3 ?_
                  refine z_icmpne (tgt := 247) dX12_answerOf_159 rfl (fun q => ?_) (fun q => ?_)
                  · replace h := h.1 q
                    refine z_iload dX12_answerOf_247 rfl ?_
                    refine z_iconst dX12_answerOf_249 ki_4 ?_
                    refine z_icmpeq (tgt := 259) dX12_answerOf_250 rfl (fun q => ?_) (fun q => ?_)
                    · replace h := h.1 q
                      exact h
                    · replace h := h.2 q
                      refine z_iload dX12_answerOf_253 rfl ?_
                      refine z_iconst dX12_answerOf_255 ki_5 ?_
                      refine z_icmpne (tgt := 272) dX12_answerOf_256 rfl (fun q => ?_) (fun q => ?_)
                      · replace h := h.1 q
                        refine z_iload dX12_answerOf_272 rfl ?_
                        refine z_bipush dX12_answerOf_274 kb_10 ?_
                        refine z_icmpne (tgt := 321) dX12_answerOf_276 rfl (fun q => ?_) (fun q => ?_)
                        · replace h := h.1 q
                          refine z_iload dX12_answerOf_321 rfl ?_
                          refine z_iconst dX12_answerOf_323 ki_5 ?_
                          refine z_icmple (tgt := 345) dX12_answerOf_324 rfl (fun q => ?_) (fun q => ?_)
                          · replace h := h.1 q
                            exact h
                          · replace h := h.2 q
                            refine z_aloadn dX12_answerOf_327 rfl (Or.inl rfl) ?_
                            refine z_iload dX12_answerOf_328 rfl ?_
                            refine z_lload dX12_answerOf_330 rfl ?_
                            refine z_aloadn dX12_answerOf_332 rfl (Or.inl rfl) ?_
                            refine y_getr (v := 250) hG dX12_answerOf_333 fX12_62 sh234 (by decide) rfl (by decide +kernel) (by decide) ?_
                            refine z_iloadn dX12_answerOf_336 rfl ?_
                            refine z_iconst dX12_answerOf_337 ki_1 ?_
                            obtain ⟨q22, h⟩ := h
                            refine z_iadd dX12_answerOf_338 q22 ?_
                            obtain ⟨q23, h⟩ := h
                            refine y_lald (x := (M 250 ((x2 - 4) + 1))) dX12_answerOf_339 sh250 q23 rfl ?_
                            refine y_cv (mt2 := mX12_ofTwo) (en := [(2, 234), (0, (M 247 ((240 * x1) + (2 * x3)))), (1, (M 247 (((240 * x1) + (2 * x3)) + 1))), (9, 0), (1, (M 250 ((x2 - 4) + 1))), (9, 0)]) (st := []) (as := [(0, (M 247 ((240 * x1) + (2 * x3)))), (1, (M 247 (((240 * x1) + (2 * x3)) + 1))), (1, (M 250 ((x2 - 4) + 1)))]) dX12_answerOf_340 lX12_388 kX12_ofTwo iX12_ofTwo eX12_ofTwo rfl sh234 (by decide +kernel) (Nat.le_of_ble_eq_true rfl) (Nat.le_of_ble_eq_true rfl) rfl ?_
                            exact h
                        · replace h := h.2 q
                          refine z_iload dX12_answerOf_279 rfl ?_
                          refine z_lload dX12_answerOf_281 rfl ?_
                          refine z_aloadn dX12_answerOf_283 rfl (Or.inl rfl) ?_
                          refine y_getr (v := 250) hG dX12_answerOf_284 fX12_62 sh234 (by decide) rfl (by decide +kernel) (by decide) ?_
                          refine z_iloadn dX12_answerOf_287 rfl ?_
                          refine z_iconst dX12_answerOf_288 ki_1 ?_
                          obtain ⟨q24, h⟩ := h
                          refine z_iadd dX12_answerOf_289 q24 ?_
                          obtain ⟨q25, h⟩ := h
                          refine y_lald (x := (M 250 ((x2 - 4) + 1))) dX12_answerOf_290 sh250 q25 rfl ?_
                          refine y_cs (mt2 := mX12_isSo) (en := [(0, (M 247 (((240 * x1) + (2 * x3)) + 1))), (1, (M 247 (((240 * x1) + (2 * x3)) + 1))), (9, 0), (1, (M 250 ((x2 - 4) + 1))), (9, 0)]) (st := []) (as := [(0, (M 247 (((240 * x1) + (2 * x3)) + 1))), (1, (M 247 (((240 * x1) + (2 * x3)) + 1))), (1, (M 250 ((x2 - 4) + 1)))]) dX12_answerOf_291 lX12_384 kX12_isSo tX12_isSo rfl (Nat.le_of_ble_eq_true rfl) (Nat.le_of_ble_eq_true rfl) rfl ?_
                          exact h
                      · replace h := h.2 q
                        exact h
                  · replace h := h.2 q
                    exact h
            · replace h := h.2 q
              refine z_iconst dX12_answerOf_102 ki_2 ?_
              refine z_goto (tgt := 107) dX12_answerOf_103 rfl ?_
              refine y_istore (ls' := [(2, 234), (0, x1), (0, x2), (0, x3), (0, (M 247 ((240 * x1) + (2 * x3)))), (0, (M 247 (((240 * x1) + (2 * x3)) + 1))), (0, 2), (9, 0), (9, 0), (9, 0)]) dX12_answerOf_107 rfl rfl ?_
              refine z_iloadn dX12_answerOf_109 rfl ?_
              refine z_iload dX12_answerOf_110 rfl ?_
              obtain ⟨q26, h⟩ := h
              refine z_isub dX12_answerOf_112 q26 ?_
              refine y_istoren (ls' := [(2, 234), (0, x1), (0, (x2 - 2)), (0, x3), (0, (M 247 ((240 * x1) + (2 * x3)))), (0, (M 247 (((240 * x1) + (2 * x3)) + 1))), (0, 2), (9, 0), (9, 0), (9, 0)]) dX12_answerOf_113 rfl rfl ?_
              refine z_iload dX12_answerOf_114 rfl ?_
              refine z_ifne (tgt := 125) dX12_answerOf_116 rfl (fun q => ?_) (fun q => ?_)
              · replace h := h.1 q
                refine z_iload dX12_answerOf_125 rfl ?_
                refine z_iconst dX12_answerOf_127 ki_1 ?_
                refine z_icmpne (tgt := 142) dX12_answerOf_128 rfl (fun q => ?_) (fun q => ?_)
                · replace h := h.1 q
                  refine z_aloadn dX12_answerOf_142 rfl (Or.inl rfl) ?_
                  refine y_getr (v := 250) hG dX12_answerOf_143 fX12_62 sh234 (by decide) rfl (by decide +kernel) (by decide) ?_
                  refine z_iloadn dX12_answerOf_146 rfl ?_
                  obtain ⟨q27, h⟩ := h
                  refine y_lald (x := (M 250 (x2 - 2))) dX12_answerOf_147 sh250 q27 rfl ?_
                  refine y_lstore (ls' := [(2, 234), (0, x1), (0, (x2 - 2)), (0, x3), (0, (M 247 ((240 * x1) + (2 * x3)))), (0, (M 247 (((240 * x1) + (2 * x3)) + 1))), (0, 2), (1, (M 250 (x2 - 2))), (9, 0), (9, 0)]) dX12_answerOf_148 rfl (Nat.le_of_ble_eq_true rfl) rfl ?_
                  refine z_iload dX12_answerOf_150 rfl ?_
                  refine z_iconst dX12_answerOf_152 ki_2 ?_
                  refine z_icmpeq (tgt := 162) dX12_answerOf_153 rfl (fun q => ?_) (fun q => ?_)
                  · replace h := h.1 q
                    exact h
                  · replace h := h.2 q
                    refine z_iload dX12_answerOf_156 rfl ?_
                    refine z_iconst dX12_answerOf_158 ki_3 ?_
                    refine z_icmpne (tgt := 247) dX12_answerOf_159 rfl (fun q => ?_) (fun q => ?_)
                    · replace h := h.1 q
                      refine z_iload dX12_answerOf_247 rfl ?_
                      refine z_iconst dX12_answerOf_249 ki_4 ?_
                      refine z_icmpeq (tgt := 259) dX12_answerOf_250 rfl (fun q => ?_) (fun q => ?_)
                      · replace h := h.1 q
                        exact h
                      · replace h := h.2 q
                        refine z_iload dX12_answerOf_253 rfl ?_
                        refine z_iconst dX12_answerOf_255 ki_5 ?_
                        refine z_icmpne (tgt := 272) dX12_answerOf_256 rfl (fun q => ?_) (fun q => ?_)
                        · replace h := h.1 q
                          refine z_iload dX12_answerOf_272 rfl ?_
                          refine z_bipush dX12_answerOf_274 kb_10 ?_
                          refine z_icmpne (tgt := 321) dX12_answerOf_276 rfl (fun q => ?_) (fun q => ?_)
                          · replace h := h.1 q
                            refine z_iload dX12_answerOf_321 rfl ?_
                            refine z_iconst dX12_answerOf_323 ki_5 ?_
                            refine z_icmple (tgt := 345) dX12_answerOf_324 rfl (fun q => ?_) (fun q => ?_)
                            · replace h := h.1 q
                              exact h
                            · replace h := h.2 q
                              refine z_aloadn dX12_answerOf_327 rfl (Or.inl rfl) ?_
                              refine z_iload dX12_answerOf_328 rfl ?_
                              refine z_lload dX12_answerOf_330 rfl ?_
                              refine z_aloadn dX12_answerOf_332 rfl (Or.inl rfl) ?_
                              refine y_getr (v := 250) hG dX12_answerOf_333 fX12_62 sh234 (by decide) rfl (by decide +kernel) (by decide) ?_
                              refine z_iloadn dX12_answerOf_336 rfl ?_
                              refine z_iconst dX12_answerOf_337 ki_1 ?_
                              obtain ⟨q28, h⟩ := h
                              refine z_iadd dX12_answerOf_338 q28 ?_
                              obtain ⟨q29, h⟩ := h
                              refine y_lald (x := (M 250 ((x2 - 2) + 1))) dX12_answerOf_339 sh250 q29 rfl ?_
                              refine y_cv (mt2 := mX12_ofTwo) (en := [(2, 234), (0, (M 247 ((240 * x1) + (2 * x3)))), (1, (M 250 (x2 - 2))), (9, 0), (1, (M 250 ((x2 - 2) + 1))), (9, 0)]) (st := []) (as := [(0, (M 247 ((240 * x1) + (2 * x3)))), (1, (M 250 (x2 - 2))), (1, (M 250 ((x2 - 2) + 1)))]) dX12_answerOf_340 lX12_388 kX12_ofTwo iX12_ofTwo eX12_ofTwo rfl sh234 (by decide +kernel) (Nat.le_of_ble_eq_true rfl) (Nat.le_of_ble_eq_true rfl) rfl ?_
                              exact h
                          · replace h := h.2 q
                            refine z_iload dX12_answerOf_279 rfl ?_
                            refine z_lload dX12_answerOf_281 rfl ?_
                            refine z_aloadn dX12_answerOf_283 rfl (Or.inl rfl) ?_
                            refine y_getr (v := 250) hG dX12_answerOf_284 fX12_62 sh234 (by decide) rfl (by decide +kernel) (by decide) ?_
                            refine z_iloadn dX12_answerOf_287 rfl ?_
                            refine z_iconst dX12_answerOf_288 ki_1 ?_
                            obtain ⟨q30, h⟩ := h
                            refine z_iadd dX12_answerOf_289 q30 ?_
                            obtain ⟨q31, h⟩ := h
                            refine y_lald (x := (M 250 ((x2 - 2) + 1))) dX12_answerOf_290 sh250 q31 rfl ?_
                            refine y_cs (mt2 := mX12_isSo) (en := [(0, (M 247 (((240 * x1) + (2 * x3)) + 1))), (1, (M 250 (x2 - 2))), (9, 0), (1, (M 250 ((x2 - 2) + 1))), (9, 0)]) (st := []) (as := [(0, (M 247 (((240 * x1) + (2 * x3)) + 1))), (1, (M 250 (x2 - 2))), (1, (M 250 ((x2 - 2) + 1)))]) dX12_answerOf_291 lX12_384 kX12_isSo tX12_isSo rfl (Nat.le_of_ble_eq_true rfl) (Nat.le_of_ble_eq_true rfl) rfl ?_
                            exact h
                        · replace h := h.2 q
                          exact h
                    · replace h := h.2 q
                      exact h
                · replace h := h.2 q
                  refine z_aloadn dX12_answerOf_131 rfl (Or.inl rfl) ?_
                  refine y_getr (v := 249) hG dX12_answerOf_132 fX12_59 sh234 (by decide) rfl (by decide +kernel) (by decide) ?_
                  refine z_iload dX12_answerOf_135 rfl ?_
                  obtain ⟨q32, h⟩ := h
                  refine y_iald (x := (M 249 (M 247 (((240 * x1) + (2 * x3)) + 1)))) dX12_answerOf_137 sh249 q32 rfl ?_
                  refine z_i2l dX12_answerOf_138 ?_
                  refine z_goto (tgt := 148) dX12_answerOf_139 rfl ?_
                  refine y_lstore (ls' := [(2, 234), (0, x1), (0, (x2 - 2)), (0, x3), (0, (M 247 ((240 * x1) + (2 * x3)))), (0, (M 247 (((240 * x1) + (2 * x3)) + 1))), (0, 2), (1, (M 249 (M 247 (((240 * x1) + (2 * x3)) + 1)))), (9, 0), (9, 0)]) dX12_answerOf_148 rfl (Nat.le_of_ble_eq_true rfl) rfl ?_
                  refine z_iload dX12_answerOf_150 rfl ?_
                  refine z_iconst dX12_answerOf_152 ki_2 ?_
                  refine z_icmpeq (tgt := 162) dX12_answerOf_153 rfl (fun q => ?_) (fun q => ?_)
                  · replace h := h.1 q
                    exact h
                  · replace h := h.2 q
                    refine z_iload dX12_answerOf_156 rfl ?_
                    refine z_iconst dX12_answerOf_158 ki_3 ?_
                    refine z_icmpne (tgt := 247) dX12_answerOf_159 rfl (fun q => ?_) (fun q => ?_)
                    · replace h := h.1 q
                      refine z_iload dX12_answerOf_247 rfl ?_
                      refine z_iconst dX12_answerOf_249 ki_4 ?_
                      refine z_icmpeq (tgt := 259) dX12_answerOf_250 rfl (fun q => ?_) (fun q => ?_)
                      · replace h := h.1 q
                        exact h
                      · replace h := h.2 q
                        refine z_iload dX12_answerOf_253 rfl ?_
                        refine z_iconst dX12_answerOf_255 ki_5 ?_
                        refine z_icmpne (tgt := 272) dX12_answerOf_256 rfl (fun q => ?_) (fun q => ?_)
                        · replace h := h.1 q
                          refine z_iload dX12_answerOf_272 rfl ?_
                          refine z_bipush dX12_answerOf_274 kb_10 ?_
                          refine z_icmpne (tgt := 321) dX12_answerOf_276 rfl (fun q => ?_) (fun q => ?_)
                          · replace h := h.1 q
                            refine z_iload dX12_answerOf_321 rfl ?_
                            refine z_iconst dX12_answerOf_323 ki_5 ?_
                            refine z_icmple (tgt := 345) dX12_answerOf_324 rfl (fun q => ?_) (fun q => ?_)
                            · replace h := h.1 q
                              exact h
                            · replace h := h.2 q
                              refine z_aloadn dX12_answerOf_327 rfl (Or.inl rfl) ?_
                              refine z_iload dX12_answerOf_328 rfl ?_
                              refine z_lload dX12_answerOf_330 rfl ?_
                              refine z_aloadn dX12_answerOf_332 rfl (Or.inl rfl) ?_
                              refine y_getr (v := 250) hG dX12_answerOf_333 fX12_62 sh234 (by decide) rfl (by decide +kernel) (by decide) ?_
                              refine z_iloadn dX12_answerOf_336 rfl ?_
                              refine z_iconst dX12_answerOf_337 ki_1 ?_
                              obtain ⟨q33, h⟩ := h
                              refine z_iadd dX12_answerOf_338 q33 ?_
                              obtain ⟨q34, h⟩ := h
                              refine y_lald (x := (M 250 ((x2 - 2) + 1))) dX12_answerOf_339 sh250 q34 rfl ?_
                              refine y_cv (mt2 := mX12_ofTwo) (en := [(2, 234), (0, (M 247 ((240 * x1) + (2 * x3)))), (1, (M 249 (M 247 (((240 * x1) + (2 * x3)) + 1)))), (9, 0), (1, (M 250 ((x2 - 2) + 1))), (9, 0)]) (st := []) (as := [(0, (M 247 ((240 * x1) + (2 * x3)))), (1, (M 249 (M 247 (((240 * x1) + (2 * x3)) + 1)))), (1, (M 250 ((x2 - 2) + 1)))]) dX12_answerOf_340 lX12_388 kX12_ofTwo iX12_ofTwo eX12_ofTwo rfl sh234 (by decide +kernel) (Nat.le_of_ble_eq_true rfl) (Nat.le_of_ble_eq_true rfl) rfl ?_
                              exact h
                          · replace h := h.2 q
                            refine z_iload dX12_answerOf_279 rfl ?_
                            refine z_lload dX12_answerOf_281 rfl ?_
                            refine z_aloadn dX12_answerOf_283 rfl (Or.inl rfl) ?_
                            refine y_getr (v := 250) hG dX12_answerOf_284 fX12_62 sh234 (by decide) rfl (by decide +kernel) (by decide) ?_
                            refine z_iloadn dX12_answerOf_287 rfl ?_
                            refine z_iconst dX12_answerOf_288 ki_1 ?_
                            obtain ⟨q35, h⟩ := h
                            refine z_iadd dX12_answerOf_289 q35 ?_
                            obtain ⟨q36, h⟩ := h
                            refine y_lald (x := (M 250 ((x2 - 2) + 1))) dX12_answerOf_290 sh250 q36 rfl ?_
                            refine y_cs (mt2 := mX12_isSo) (en := [(0, (M 247 (((240 * x1) + (2 * x3)) + 1))), (1, (M 249 (M 247 (((240 * x1) + (2 * x3)) + 1)))), (9, 0), (1, (M 250 ((x2 - 2) + 1))), (9, 0)]) (st := []) (as := [(0, (M 247 (((240 * x1) + (2 * x3)) + 1))), (1, (M 249 (M 247 (((240 * x1) + (2 * x3)) + 1)))), (1, (M 250 ((x2 - 2) + 1)))]) dX12_answerOf_291 lX12_384 kX12_isSo tX12_isSo rfl (Nat.le_of_ble_eq_true rfl) (Nat.le_of_ble_eq_true rfl) rfl ?_
                            exact h
                        · replace h := h.2 q
                          exact h
                    · replace h := h.2 q
                      exact h
              · replace h := h.2 q
                refine z_iload dX12_answerOf_119 rfl ?_
                refine z_i2l dX12_answerOf_121 ?_
                refine z_goto (tgt := 148) dX12_answerOf_122 rfl ?_
                refine y_lstore (ls' := [(2, 234), (0, x1), (0, (x2 - 2)), (0, x3), (0, (M 247 ((240 * x1) + (2 * x3)))), (0, (M 247 (((240 * x1) + (2 * x3)) + 1))), (0, 2), (1, (M 247 (((240 * x1) + (2 * x3)) + 1))), (9, 0), (9, 0)]) dX12_answerOf_148 rfl (Nat.le_of_ble_eq_true rfl) rfl ?_
                refine z_iload dX12_answerOf_150 rfl ?_
                refine z_iconst dX12_answerOf_152 ki_2 ?_
                refine z_icmpeq (tgt := 162) dX12_answerOf_153 rfl (fun q => ?_) (fun q => ?_)
                · replace h := h.1 q
                  exact h
                · replace h := h.2 q
                  refine z_iload dX12_answerOf_156 rfl ?_
                  refine z_iconst dX12_answerOf_158 ki_3 ?_
                  refine z_icmpne (tgt := 247) dX12_answerOf_159 rfl (fun q => ?_) (fun q => ?_)
                  · replace h := h.1 q
                    refine z_iload dX12_answerOf_247 rfl ?_
                    refine z_iconst dX12_answerOf_249 ki_4 ?_
                    refine z_icmpeq (tgt := 259) dX12_answerOf_250 rfl (fun q => ?_) (fun q => ?_)
                    · replace h := h.1 q
                      exact h
                    · replace h := h.2 q
                      refine z_iload dX12_answerOf_253 rfl ?_
                      refine z_iconst dX12_answerOf_255 ki_5 ?_
                      refine z_icmpne (tgt := 272) dX12_answerOf_256 rfl (fun q => ?_) (fun q => ?_)
                      · replace h := h.1 q
                        refine z_iload dX12_answerOf_272 rfl ?_
                        refine z_bipush dX12_answerOf_274 kb_10 ?_
                        refine z_icmpne (tgt := 321) dX12_answerOf_276 rfl (fun q => ?_) (fun q => ?_)
                        · replace h := h.1 q
                          refine z_iload dX12_answerOf_321 rfl ?_
                          refine z_iconst dX12_answerOf_323 ki_5 ?_
                          refine z_icmple (tgt := 345) dX12_answerOf_324 rfl (fun q => ?_) (fun q => ?_)
                          · replace h := h.1 q
                            exact h
                          · replace h := h.2 q
                            refine z_aloadn dX12_answerOf_327 rfl (Or.inl rfl) ?_
                            refine z_iload dX12_answerOf_328 rfl ?_
                            refine z_lload dX12_answerOf_330 rfl ?_
                            refine z_aloadn dX12_answerOf_332 rfl (Or.inl rfl) ?_
                            refine y_getr (v := 250) hG dX12_answerOf_333 fX12_62 sh234 (by decide) rfl (by decide +kernel) (by decide) ?_
                            refine z_iloadn dX12_answerOf_336 rfl ?_
                            refine z_iconst dX12_answerOf_337 ki_1 ?_
                            obtain ⟨q37, h⟩ := h
                            refine z_iadd dX12_answerOf_338 q37 ?_
                            obtain ⟨q38, h⟩ := h
                            refine y_lald (x := (M 250 ((x2 - 2) + 1))) dX12_answerOf_339 sh250 q38 rfl ?_
                            refine y_cv (mt2 := mX12_ofTwo) (en := [(2, 234), (0, (M 247 ((240 * x1) + (2 * x3)))), (1, (M 247 (((240 * x1) + (2 * x3)) + 1))), (9, 0), (1, (M 250 ((x2 - 2) + 1))), (9, 0)]) (st := []) (as := [(0, (M 247 ((240 * x1) + (2 * x3)))), (1, (M 247 (((240 * x1) + (2 * x3)) + 1))), (1, (M 250 ((x2 - 2) + 1)))]) dX12_answerOf_340 lX12_388 kX12_ofTwo iX12_ofTwo eX12_ofTwo rfl sh234 (by decide +kernel) (Nat.le_of_ble_eq_true rfl) (Nat.le_of_ble_eq_true rfl) rfl ?_
                            exact h
                        · replace h := h.2 q
                          refine z_iload dX12_answerOf_279 rfl ?_
                          refine z_lload dX12_answerOf_281 rfl ?_
                          refine z_aloadn dX12_answerOf_283 rfl (Or.inl rfl) ?_
                          refine y_getr (v := 250) hG dX12_answerOf_284 fX12_62 sh234 (by decide) rfl (by decide +kernel) (by decide) ?_
                          refine z_iloadn dX12_answerOf_287 rfl ?_
                          refine z_iconst dX12_answerOf_288 ki_1 ?_
                          obtain ⟨q39, h⟩ := h
                          refine z_iadd dX12_answerOf_289 q39 ?_
                          obtain ⟨q40, h⟩ := h
                          refine y_lald (x := (M 250 ((x2 - 2) + 1))) dX12_answerOf_290 sh250 q40 rfl ?_
                          refine y_cs (mt2 := mX12_isSo) (en := [(0, (M 247 (((240 * x1) + (2 * x3)) + 1))), (1, (M 247 (((240 * x1) + (2 * x3)) + 1))), (9, 0), (1, (M 250 ((x2 - 2) + 1))), (9, 0)]) (st := []) (as := [(0, (M 247 (((240 * x1) + (2 * x3)) + 1))), (1, (M 247 (((240 * x1) + (2 * x3)) + 1))), (1, (M 250 ((x2 - 2) + 1)))]) dX12_answerOf_291 lX12_384 kX12_isSo tX12_isSo rfl (Nat.le_of_ble_eq_true rfl) (Nat.le_of_ble_eq_true rfl) rfl ?_
                          exact h
                      · replace h := h.2 q
                        exact h
                  · replace h := h.2 q
                    exact h
          · replace h := h.2 q
            refine z_iconst dX12_answerOf_91 ki_1 ?_
            refine z_goto (tgt := 107) dX12_answerOf_92 rfl ?_
            refine y_istore (ls' := [(2, 234), (0, x1), (0, x2), (0, x3), (0, (M 247 ((240 * x1) + (2 * x3)))), (0, (M 247 (((240 * x1) + (2 * x3)) + 1))), (0, 1), (9, 0), (9, 0), (9, 0)]) dX12_answerOf_107 rfl rfl ?_
            refine z_iloadn dX12_answerOf_109 rfl ?_
            refine z_iload dX12_answerOf_110 rfl ?_
            obtain ⟨q41, h⟩ := h
            refine z_isub dX12_answerOf_112 q41 ?_
            refine y_istoren (ls' := [(2, 234), (0, x1), (0, (x2 - 1)), (0, x3), (0, (M 247 ((240 * x1) + (2 * x3)))), (0, (M 247 (((240 * x1) + (2 * x3)) + 1))), (0, 1), (9, 0), (9, 0), (9, 0)]) dX12_answerOf_113 rfl rfl ?_
            refine z_iload dX12_answerOf_114 rfl ?_
            refine z_ifne (tgt := 125) dX12_answerOf_116 rfl (fun q => ?_) (fun q => ?_)
            · replace h := h.1 q
              refine z_iload dX12_answerOf_125 rfl ?_
              refine z_iconst dX12_answerOf_127 ki_1 ?_
              refine z_icmpne (tgt := 142) dX12_answerOf_128 rfl (fun q => ?_) (fun q => ?_)
              · replace h := h.1 q
                refine z_aloadn dX12_answerOf_142 rfl (Or.inl rfl) ?_
                refine y_getr (v := 250) hG dX12_answerOf_143 fX12_62 sh234 (by decide) rfl (by decide +kernel) (by decide) ?_
                refine z_iloadn dX12_answerOf_146 rfl ?_
                obtain ⟨q42, h⟩ := h
                refine y_lald (x := (M 250 (x2 - 1))) dX12_answerOf_147 sh250 q42 rfl ?_
                refine y_lstore (ls' := [(2, 234), (0, x1), (0, (x2 - 1)), (0, x3), (0, (M 247 ((240 * x1) + (2 * x3)))), (0, (M 247 (((240 * x1) + (2 * x3)) + 1))), (0, 1), (1, (M 250 (x2 - 1))), (9, 0), (9, 0)]) dX12_answerOf_148 rfl (Nat.le_of_ble_eq_true rfl) rfl ?_
                refine z_iload dX12_answerOf_150 rfl ?_
                refine z_iconst dX12_answerOf_152 ki_2 ?_
                refine z_icmpeq (tgt := 162) dX12_answerOf_153 rfl (fun q => ?_) (fun q => ?_)
                · replace h := h.1 q
                  exact h
                · replace h := h.2 q
                  refine z_iload dX12_answerOf_156 rfl ?_
                  refine z_iconst dX12_answerOf_158 ki_3 ?_
                  refine z_icmpne (tgt := 247) dX12_answerOf_159 rfl (fun q => ?_) (fun q => ?_)
                  · replace h := h.1 q
                    refine z_iload dX12_answerOf_247 rfl ?_
                    refine z_iconst dX12_answerOf_249 ki_4 ?_
                    refine z_icmpeq (tgt := 259) dX12_answerOf_250 rfl (fun q => ?_) (fun q => ?_)
                    · replace h := h.1 q
                      exact h
                    · replace h := h.2 q
                      refine z_iload dX12_answerOf_253 rfl ?_
                      refine z_iconst dX12_answerOf_255 ki_5 ?_
                      refine z_icmpne (tgt := 272) dX12_answerOf_256 rfl (fun q => ?_) (fun q => ?_)
                      · replace h := h.1 q
                        refine z_iload dX12_answerOf_272 rfl ?_
                        refine z_bipush dX12_answerOf_274 kb_10 ?_
                        refine z_icmpne (tgt := 321) dX12_answerOf_276 rfl (fun q => ?_) (fun q => ?_)
                        · replace h := h.1 q
                          refine z_iload dX12_answerOf_321 rfl ?_
                          refine z_iconst dX12_answerOf_323 ki_5 ?_
                          refine z_icmple (tgt := 345) dX12_answerOf_324 rfl (fun q => ?_) (fun q => ?_)
                          · replace h := h.1 q
                            exact h
                          · replace h := h.2 q
                            refine z_aloadn dX12_answerOf_327 rfl (Or.inl rfl) ?_
                            refine z_iload dX12_answerOf_328 rfl ?_
                            refine z_lload dX12_answerOf_330 rfl ?_
                            refine z_aloadn dX12_answerOf_332 rfl (Or.inl rfl) ?_
                            refine y_getr (v := 250) hG dX12_answerOf_333 fX12_62 sh234 (by decide) rfl (by decide +kernel) (by decide) ?_
                            refine z_iloadn dX12_answerOf_336 rfl ?_
                            refine z_iconst dX12_answerOf_337 ki_1 ?_
                            obtain ⟨q43, h⟩ := h
                            refine z_iadd dX12_answerOf_338 q43 ?_
                            obtain ⟨q44, h⟩ := h
                            refine y_lald (x := (M 250 ((x2 - 1) + 1))) dX12_answerOf_339 sh250 q44 rfl ?_
                            refine y_cv (mt2 := mX12_ofTwo) (en := [(2, 234), (0, (M 247 ((240 * x1) + (2 * x3)))), (1, (M 250 (x2 - 1))), (9, 0), (1, (M 250 ((x2 - 1) + 1))), (9, 0)]) (st := []) (as := [(0, (M 247 ((240 * x1) + (2 * x3)))), (1, (M 250 (x2 - 1))), (1, (M 250 ((x2 - 1) + 1)))]) dX12_answerOf_340 lX12_388 kX12_ofTwo iX12_ofTwo eX12_ofTwo rfl sh234 (by decide +kernel) (Nat.le_of_ble_eq_true rfl) (Nat.le_of_ble_eq_true rfl) rfl ?_
                            exact h
                        · replace h := h.2 q
                          refine z_iload dX12_answerOf_279 rfl ?_
                          refine z_lload dX12_answerOf_281 rfl ?_
                          refine z_aloadn dX12_answerOf_283 rfl (Or.inl rfl) ?_
                          refine y_getr (v := 250) hG dX12_answerOf_284 fX12_62 sh234 (by decide) rfl (by decide +kernel) (by decide) ?_
                          refine z_iloadn dX12_answerOf_287 rfl ?_
                          refine z_iconst dX12_answerOf_288 ki_1 ?_
                          obtain ⟨q45, h⟩ := h
                          refine z_iadd dX12_answerOf_289 q45 ?_
                          obtain ⟨q46, h⟩ := h
                          refine y_lald (x := (M 250 ((x2 - 1) + 1))) dX12_answerOf_290 sh250 q46 rfl ?_
                          refine y_cs (mt2 := mX12_isSo) (en := [(0, (M 247 (((240 * x1) + (2 * x3)) + 1))), (1, (M 250 (x2 - 1))), (9, 0), (1, (M 250 ((x2 - 1) + 1))), (9, 0)]) (st := []) (as := [(0, (M 247 (((240 * x1) + (2 * x3)) + 1))), (1, (M 250 (x2 - 1))), (1, (M 250 ((x2 - 1) + 1)))]) dX12_answerOf_291 lX12_384 kX12_isSo tX12_isSo rfl (Nat.le_of_ble_eq_true rfl) (Nat.le_of_ble_eq_true rfl) rfl ?_
                          exact h
                      · replace h := h.2 q
                        exact h
                  · replace h := h.2 q
                    exact h
              · replace h := h.2 q
                refine z_aloadn dX12_answerOf_131 rfl (Or.inl rfl) ?_
                refine y_getr (v := 249) hG dX12_answerOf_132 fX12_59 sh234 (by decide) rfl (by decide +kernel) (by decide) ?_
                refine z_iload dX12_answerOf_135 rfl ?_
                obtain ⟨q47, h⟩ := h
                refine y_iald (x := (M 249 (M 247 (((240 * x1) + (2 * x3)) + 1)))) dX12_answerOf_137 sh249 q47 rfl ?_
                refine z_i2l dX12_answerOf_138 ?_
                refine z_goto (tgt := 148) dX12_answerOf_139 rfl ?_
                refine y_lstore (ls' := [(2, 234), (0, x1), (0, (x2 - 1)), (0, x3), (0, (M 247 ((240 * x1) + (2 * x3)))), (0, (M 247 (((240 * x1) + (2 * x3)) + 1))), (0, 1), (1, (M 249 (M 247 (((240 * x1) + (2 * x3)) + 1)))), (9, 0), (9, 0)]) dX12_answerOf_148 rfl (Nat.le_of_ble_eq_true rfl) rfl ?_
                refine z_iload dX12_answerOf_150 rfl ?_
                refine z_iconst dX12_answerOf_152 ki_2 ?_
                refine z_icmpeq (tgt := 162) dX12_answerOf_153 rfl (fun q => ?_) (fun q => ?_)
                · replace h := h.1 q
                  exact h
                · replace h := h.2 q
                  refine z_iload dX12_answerOf_156 rfl ?_
                  refine z_iconst dX12_answerOf_158 ki_3 ?_
                  refine z_icmpne (tgt := 247) dX12_answerOf_159 rfl (fun q => ?_) (fun q => ?_)
                  · replace h := h.1 q
                    refine z_iload dX12_answerOf_247 rfl ?_
                    refine z_iconst dX12_answerOf_249 ki_4 ?_
                    refine z_icmpeq (tgt := 259) dX12_answerOf_250 rfl (fun q => ?_) (fun q => ?_)
                    · replace h := h.1 q
                      exact h
                    · replace h := h.2 q
                      refine z_iload dX12_answerOf_253 rfl ?_
                      refine z_iconst dX12_answerOf_255 ki_5 ?_
                      refine z_icmpne (tgt := 272) dX12_answerOf_256 rfl (fun q => ?_) (fun q => ?_)
                      · replace h := h.1 q
                        refine z_iload dX12_answerOf_272 rfl ?_
                        refine z_bipush dX12_answerOf_274 kb_10 ?_
                        refine z_icmpne (tgt := 321) dX12_answerOf_276 rfl (fun q => ?_) (fun q => ?_)
                        · replace h := h.1 q
                          refine z_iload dX12_answerOf_321 rfl ?_
                          refine z_iconst dX12_answerOf_323 ki_5 ?_
                          refine z_icmple (tgt := 345) dX12_answerOf_324 rfl (fun q => ?_) (fun q => ?_)
                          · replace h := h.1 q
                            exact h
                          · replace h := h.2 q
                            refine z_aloadn dX12_answerOf_327 rfl (Or.inl rfl) ?_
                            refine z_iload dX12_answerOf_328 rfl ?_
                            refine z_lload dX12_answerOf_330 rfl ?_
                            refine z_aloadn dX12_answerOf_332 rfl (Or.inl rfl) ?_
                            refine y_getr (v := 250) hG dX12_answerOf_333 fX12_62 sh234 (by decide) rfl (by decide +kernel) (by decide) ?_
                            refine z_iloadn dX12_answerOf_336 rfl ?_
                            refine z_iconst dX12_answerOf_337 ki_1 ?_
                            obtain ⟨q48, h⟩ := h
                            refine z_iadd dX12_answerOf_338 q48 ?_
                            obtain ⟨q49, h⟩ := h
                            refine y_lald (x := (M 250 ((x2 - 1) + 1))) dX12_answerOf_339 sh250 q49 rfl ?_
                            refine y_cv (mt2 := mX12_ofTwo) (en := [(2, 234), (0, (M 247 ((240 * x1) + (2 * x3)))), (1, (M 249 (M 247 (((240 * x1) + (2 * x3)) + 1)))), (9, 0), (1, (M 250 ((x2 - 1) + 1))), (9, 0)]) (st := []) (as := [(0, (M 247 ((240 * x1) + (2 * x3)))), (1, (M 249 (M 247 (((240 * x1) + (2 * x3)) + 1)))), (1, (M 250 ((x2 - 1) + 1)))]) dX12_answerOf_340 lX12_388 kX12_ofTwo iX12_ofTwo eX12_ofTwo rfl sh234 (by decide +kernel) (Nat.le_of_ble_eq_true rfl) (Nat.le_of_ble_eq_true rfl) rfl ?_
                            exact h
                        · replace h := h.2 q
                          refine z_iload dX12_answerOf_279 rfl ?_
                          refine z_lload dX12_answerOf_281 rfl ?_
                          refine z_aloadn dX12_answerOf_283 rfl (Or.inl rfl) ?_
                          refine y_getr (v := 250) hG dX12_answerOf_284 fX12_62 sh234 (by decide) rfl (by decide +kernel) (by decide) ?_
                          refine z_iloadn dX12_answerOf_287 rfl ?_
                          refine z_iconst dX12_answerOf_288 ki_1 ?_
                          obtain ⟨q50, h⟩ := h
                          refine z_iadd dX12_answerOf_289 q50 ?_
                          obtain ⟨q51, h⟩ := h
                          refine y_lald (x := (M 250 ((x2 - 1) + 1))) dX12_answerOf_290 sh250 q51 rfl ?_
                          refine y_cs (mt2 := mX12_isSo) (en := [(0, (M 247 (((240 * x1) + (2 * x3)) + 1))), (1, (M 249 (M 247 (((240 * x1) + (2 * x3)) + 1)))), (9, 0), (1, (M 250 ((x2 - 1) + 1))), (9, 0)]) (st := []) (as := [(0, (M 247 (((240 * x1) + (2 * x3)) + 1))), (1, (M 249 (M 247 (((240 * x1) + (2 * x3)) + 1)))), (1, (M 250 ((x2 - 1) + 1)))]) dX12_answerOf_291 lX12_384 kX12_isSo tX12_isSo rfl (Nat.le_of_ble_eq_true rfl) (Nat.le_of_ble_eq_true rfl) rfl ?_
                          exact h
                      · replace h := h.2 q
                        exact h
                  · replace h := h.2 q
                    exact h
            · replace h := h.2 q
              refine z_iload dX12_answerOf_119 rfl ?_
              refine z_i2l dX12_answerOf_121 ?_
              refine z_goto (tgt := 148) dX12_answerOf_122 rfl ?_
              refine y_lstore (ls' := [(2, 234), (0, x1), (0, (x2 - 1)), (0, x3), (0, (M 247 ((240 * x1) + (2 * x3)))), (0, (M 247 (((240 * x1) + (2 * x3)) + 1))), (0, 1), (1, (M 247 (((240 * x1) + (2 * x3)) + 1))), (9, 0), (9, 0)]) dX12_answerOf_148 rfl (Nat.le_of_ble_eq_true rfl) rfl ?_
              refine z_iload dX12_answerOf_150 rfl ?_
              refine z_iconst dX12_answerOf_152 ki_2 ?_
              refine z_icmpeq (tgt := 162) dX12_answerOf_153 rfl (fun q => ?_) (fun q => ?_)
              · replace h := h.1 q
                exact h
              · replace h := h.2 q
                refine z_iload dX12_answerOf_156 rfl ?_
                refine z_iconst dX12_answerOf_158 ki_3 ?_
                refine z_icmpne (tgt := 247) dX12_answerOf_159 rfl (fun q => ?_) (fun q => ?_)
                · replace h := h.1 q
                  refine z_iload dX12_answerOf_247 rfl ?_
                  refine z_iconst dX12_answerOf_249 ki_4 ?_
                  refine z_icmpeq (tgt := 259) dX12_answerOf_250 rfl (fun q => ?_) (fun q => ?_)
                  · replace h := h.1 q
                    exact h
                  · replace h := h.2 q
                    refine z_iload dX12_answerOf_253 rfl ?_
                    refine z_iconst dX12_answerOf_255 ki_5 ?_
                    refine z_icmpne (tgt := 272) dX12_answerOf_256 rfl (fun q => ?_) (fun q => ?_)
                    · replace h := h.1 q
                      refine z_iload dX12_answerOf_272 rfl ?_
                      refine z_bipush dX12_answerOf_274 kb_10 ?_
                      refine z_icmpne (tgt := 321) dX12_answerOf_276 rfl (fun q => ?_) (fun q => ?_)
                      · replace h := h.1 q
                        refine z_iload dX12_answerOf_321 rfl ?_
                        refine z_iconst dX12_answerOf_323 ki_5 ?_
                        refine z_icmple (tgt := 345) dX12_answerOf_324 rfl (fun q => ?_) (fun q => ?_)
                        · replace h := h.1 q
                          exact h
                        · replace h := h.2 q
                          refine z_aloadn dX12_answerOf_327 rfl (Or.inl rfl) ?_
                          refine z_iload dX12_answerOf_328 rfl ?_
                          refine z_lload dX12_answerOf_330 rfl ?_
                          refine z_aloadn dX12_answerOf_332 rfl (Or.inl rfl) ?_
                          refine y_getr (v := 250) hG dX12_answerOf_333 fX12_62 sh234 (by decide) rfl (by decide +kernel) (by decide) ?_
                          refine z_iloadn dX12_answerOf_336 rfl ?_
                          refine z_iconst dX12_answerOf_337 ki_1 ?_
                          obtain ⟨q52, h⟩ := h
                          refine z_iadd dX12_answerOf_338 q52 ?_
                          obtain ⟨q53, h⟩ := h
                          refine y_lald (x := (M 250 ((x2 - 1) + 1))) dX12_answerOf_339 sh250 q53 rfl ?_
                          refine y_cv (mt2 := mX12_ofTwo) (en := [(2, 234), (0, (M 247 ((240 * x1) + (2 * x3)))), (1, (M 247 (((240 * x1) + (2 * x3)) + 1))), (9, 0), (1, (M 250 ((x2 - 1) + 1))), (9, 0)]) (st := []) (as := [(0, (M 247 ((240 * x1) + (2 * x3)))), (1, (M 247 (((240 * x1) + (2 * x3)) + 1))), (1, (M 250 ((x2 - 1) + 1)))]) dX12_answerOf_340 lX12_388 kX12_ofTwo iX12_ofTwo eX12_ofTwo rfl sh234 (by decide +kernel) (Nat.le_of_ble_eq_true rfl) (Nat.le_of_ble_eq_true rfl) rfl ?_
                          exact h
                      · replace h := h.2 q
                        refine z_iload dX12_answerOf_279 rfl ?_
                        refine z_lload dX12_answerOf_281 rfl ?_
                        refine z_aloadn dX12_answerOf_283 rfl (Or.inl rfl) ?_
                        refine y_getr (v := 250) hG dX12_answerOf_284 fX12_62 sh234 (by decide) rfl (by decide +kernel) (by decide) ?_
                        refine z_iloadn dX12_answerOf_287 rfl ?_
                        refine z_iconst dX12_answerOf_288 ki_1 ?_
                        obtain ⟨q54, h⟩ := h
                        refine z_iadd dX12_answerOf_289 q54 ?_
                        obtain ⟨q55, h⟩ := h
                        refine y_lald (x := (M 250 ((x2 - 1) + 1))) dX12_answerOf_290 sh250 q55 rfl ?_
                        refine y_cs (mt2 := mX12_isSo) (en := [(0, (M 247 (((240 * x1) + (2 * x3)) + 1))), (1, (M 247 (((240 * x1) + (2 * x3)) + 1))), (9, 0), (1, (M 250 ((x2 - 1) + 1))), (9, 0)]) (st := []) (as := [(0, (M 247 (((240 * x1) + (2 * x3)) + 1))), (1, (M 247 (((240 * x1) + (2 * x3)) + 1))), (1, (M 250 ((x2 - 1) + 1)))]) dX12_answerOf_291 lX12_384 kX12_isSo tX12_isSo rfl (Nat.le_of_ble_eq_true rfl) (Nat.le_of_ble_eq_true rfl) rfl ?_
                        exact h
                    · replace h := h.2 q
                      exact h
                · replace h := h.2 q
                  exact h
        · replace h := h.2 q
          refine z_iload dX12_answerOf_79 rfl ?_
          refine z_goto (tgt := 107) dX12_answerOf_81 rfl ?_
          refine y_istore (ls' := [(2, 234), (0, x1), (0, x2), (0, x3), (0, (M 247 ((240 * x1) + (2 * x3)))), (0, (M 247 (((240 * x1) + (2 * x3)) + 1))), (0, (M 247 (((240 * x1) + (2 * x3)) + 1))), (9, 0), (9, 0), (9, 0)]) dX12_answerOf_107 rfl rfl ?_
          refine z_iloadn dX12_answerOf_109 rfl ?_
          refine z_iload dX12_answerOf_110 rfl ?_
          obtain ⟨q56, h⟩ := h
          refine z_isub dX12_answerOf_112 q56 ?_
          refine y_istoren (ls' := [(2, 234), (0, x1), (0, (x2 - (M 247 (((240 * x1) + (2 * x3)) + 1)))), (0, x3), (0, (M 247 ((240 * x1) + (2 * x3)))), (0, (M 247 (((240 * x1) + (2 * x3)) + 1))), (0, (M 247 (((240 * x1) + (2 * x3)) + 1))), (9, 0), (9, 0), (9, 0)]) dX12_answerOf_113 rfl rfl ?_
          refine z_iload dX12_answerOf_114 rfl ?_
          refine z_ifne (tgt := 125) dX12_answerOf_116 rfl (fun q => ?_) (fun q => ?_)
          · replace h := h.1 q
            refine z_iload dX12_answerOf_125 rfl ?_
            refine z_iconst dX12_answerOf_127 ki_1 ?_
            refine z_icmpne (tgt := 142) dX12_answerOf_128 rfl (fun q => ?_) (fun q => ?_)
            · replace h := h.1 q
              refine z_aloadn dX12_answerOf_142 rfl (Or.inl rfl) ?_
              refine y_getr (v := 250) hG dX12_answerOf_143 fX12_62 sh234 (by decide) rfl (by decide +kernel) (by decide) ?_
              refine z_iloadn dX12_answerOf_146 rfl ?_
              obtain ⟨q57, h⟩ := h
              refine y_lald (x := (M 250 (x2 - (M 247 (((240 * x1) + (2 * x3)) + 1))))) dX12_answerOf_147 sh250 q57 rfl ?_
              refine y_lstore (ls' := [(2, 234), (0, x1), (0, (x2 - (M 247 (((240 * x1) + (2 * x3)) + 1)))), (0, x3), (0, (M 247 ((240 * x1) + (2 * x3)))), (0, (M 247 (((240 * x1) + (2 * x3)) + 1))), (0, (M 247 (((240 * x1) + (2 * x3)) + 1))), (1, (M 250 (x2 - (M 247 (((240 * x1) + (2 * x3)) + 1))))), (9, 0), (9, 0)]) dX12_answerOf_148 rfl (Nat.le_of_ble_eq_true rfl) rfl ?_
              refine z_iload dX12_answerOf_150 rfl ?_
              refine z_iconst dX12_answerOf_152 ki_2 ?_
              refine z_icmpeq (tgt := 162) dX12_answerOf_153 rfl (fun q => ?_) (fun q => ?_)
              · replace h := h.1 q
                exact h
              · replace h := h.2 q
                refine z_iload dX12_answerOf_156 rfl ?_
                refine z_iconst dX12_answerOf_158 ki_3 ?_
                refine z_icmpne (tgt := 247) dX12_answerOf_159 rfl (fun q => ?_) (fun q => ?_)
                · replace h := h.1 q
                  refine z_iload dX12_answerOf_247 rfl ?_
                  refine z_iconst dX12_answerOf_249 ki_4 ?_
                  refine z_icmpeq (tgt := 259) dX12_answerOf_250 rfl (fun q => ?_) (fun q => ?_)
                  · replace h := h.1 q
                    exact h
                  · replace h := h.2 q
                    refine z_iload dX12_answerOf_253 rfl ?_
                    refine z_iconst dX12_answerOf_255 ki_5 ?_
                    refine z_icmpne (tgt := 272) dX12_answerOf_256 rfl (fun q => ?_) (fun q => ?_)
                    · replace h := h.1 q
                      refine z_iload dX12_answerOf_272 rfl ?_
                      refine z_bipush dX12_answerOf_274 kb_10 ?_
                      refine z_icmpne (tgt := 321) dX12_answerOf_276 rfl (fun q => ?_) (fun q => ?_)
                      · replace h := h.1 q
                        refine z_iload dX12_answerOf_321 rfl ?_
                        refine z_iconst dX12_answerOf_323 ki_5 ?_
                        refine z_icmple (tgt := 345) dX12_answerOf_324 rfl (fun q => ?_) (fun q => ?_)
                        · replace h := h.1 q
                          exact h
                        · replace h := h.2 q
                          refine z_aloadn dX12_answerOf_327 rfl (Or.inl rfl) ?_
                          refine z_iload dX12_answerOf_328 rfl ?_
                          refine z_lload dX12_answerOf_330 rfl ?_
                          refine z_aloadn dX12_answerOf_332 rfl (Or.inl rfl) ?_
                          refine y_getr (v := 250) hG dX12_answerOf_333 fX12_62 sh234 (by decide) rfl (by decide +kernel) (by decide) ?_
                          refine z_iloadn dX12_answerOf_336 rfl ?_
                          refine z_iconst dX12_answerOf_337 ki_1 ?_
                          obtain ⟨q58, h⟩ := h
                          refine z_iadd dX12_answerOf_338 q58 ?_
                          obtain ⟨q59, h⟩ := h
                          refine y_lald (x := (M 250 ((x2 - (M 247 (((240 * x1) + (2 * x3)) + 1))) + 1))) dX12_answerOf_339 sh250 q59 rfl ?_
                          refine y_cv (mt2 := mX12_ofTwo) (en := [(2, 234), (0, (M 247 ((240 * x1) + (2 * x3)))), (1, (M 250 (x2 - (M 247 (((240 * x1) + (2 * x3)) + 1))))), (9, 0), (1, (M 250 ((x2 - (M 247 (((240 * x1) + (2 * x3)) + 1))) + 1))), (9, 0)]) (st := []) (as := [(0, (M 247 ((240 * x1) + (2 * x3)))), (1, (M 250 (x2 - (M 247 (((240 * x1) + (2 * x3)) + 1))))), (1, (M 250 ((x2 - (M 247 (((240 * x1) + (2 * x3)) + 1))) + 1)))]) dX12_answerOf_340 lX12_388 kX12_ofTwo iX12_ofTwo eX12_ofTwo rfl sh234 (by decide +kernel) (Nat.le_of_ble_eq_true rfl) (Nat.le_of_ble_eq_true rfl) rfl ?_
                          exact h
                      · replace h := h.2 q
                        refine z_iload dX12_answerOf_279 rfl ?_
                        refine z_lload dX12_answerOf_281 rfl ?_
                        refine z_aloadn dX12_answerOf_283 rfl (Or.inl rfl) ?_
                        refine y_getr (v := 250) hG dX12_answerOf_284 fX12_62 sh234 (by decide) rfl (by decide +kernel) (by decide) ?_
                        refine z_iloadn dX12_answerOf_287 rfl ?_
                        refine z_iconst dX12_answerOf_288 ki_1 ?_
                        obtain ⟨q60, h⟩ := h
                        refine z_iadd dX12_answerOf_289 q60 ?_
                        obtain ⟨q61, h⟩ := h
                        refine y_lald (x := (M 250 ((x2 - (M 247 (((240 * x1) + (2 * x3)) + 1))) + 1))) dX12_answerOf_290 sh250 q61 rfl ?_
                        refine y_cs (mt2 := mX12_isSo) (en := [(0, (M 247 (((240 * x1) + (2 * x3)) + 1))), (1, (M 250 (x2 - (M 247 (((240 * x1) + (2 * x3)) + 1))))), (9, 0), (1, (M 250 ((x2 - (M 247 (((240 * x1) + (2 * x3)) + 1))) + 1))), (9, 0)]) (st := []) (as := [(0, (M 247 (((240 * x1) + (2 * x3)) + 1))), (1, (M 250 (x2 - (M 247 (((240 * x1) + (2 * x3)) + 1))))), (1, (M 250 ((x2 - (M 247 (((240 * x1) + (2 * x3)) + 1))) + 1)))]) dX12_answerOf_291 lX12_384 kX12_isSo tX12_isSo rfl (Nat.le_of_ble_eq_true rfl) (Nat.le_of_ble_eq_true rfl) rfl ?_
                        exact h
                    · replace h := h.2 q
                      exact h
                · replace h := h.2 q
                  exact h
            · replace h := h.2 q
              refine z_aloadn dX12_answerOf_131 rfl (Or.inl rfl) ?_
              refine y_getr (v := 249) hG dX12_answerOf_132 fX12_59 sh234 (by decide) rfl (by decide +kernel) (by decide) ?_
              refine z_iload dX12_answerOf_135 rfl ?_
              obtain ⟨q62, h⟩ := h
              refine y_iald (x := (M 249 (M 247 (((240 * x1) + (2 * x3)) + 1)))) dX12_answerOf_137 sh249 q62 rfl ?_
              refine z_i2l dX12_answerOf_138 ?_
              refine z_goto (tgt := 148) dX12_answerOf_139 rfl ?_
              refine y_lstore (ls' := [(2, 234), (0, x1), (0, (x2 - (M 247 (((240 * x1) + (2 * x3)) + 1)))), (0, x3), (0, (M 247 ((240 * x1) + (2 * x3)))), (0, (M 247 (((240 * x1) + (2 * x3)) + 1))), (0, (M 247 (((240 * x1) + (2 * x3)) + 1))), (1, (M 249 (M 247 (((240 * x1) + (2 * x3)) + 1)))), (9, 0), (9, 0)]) dX12_answerOf_148 rfl (Nat.le_of_ble_eq_true rfl) rfl ?_
              refine z_iload dX12_answerOf_150 rfl ?_
              refine z_iconst dX12_answerOf_152 ki_2 ?_
              refine z_icmpeq (tgt := 162) dX12_answerOf_153 rfl (fun q => ?_) (fun q => ?_)
              · replace h := h.1 q
                exact h
              · replace h := h.2 q
                refine z_iload dX12_answerOf_156 rfl ?_
                refine z_iconst dX12_answerOf_158 ki_3 ?_
                refine z_icmpne (tgt := 247) dX12_answerOf_159 rfl (fun q => ?_) (fun q => ?_)
                · replace h := h.1 q
                  refine z_iload dX12_answerOf_247 rfl ?_
                  refine z_iconst dX12_answerOf_249 ki_4 ?_
                  refine z_icmpeq (tgt := 259) dX12_answerOf_250 rfl (fun q => ?_) (fun q => ?_)
                  · replace h := h.1 q
                    exact h
                  · replace h := h.2 q
                    refine z_iload dX12_answerOf_253 rfl ?_
                    refine z_iconst dX12_answerOf_255 ki_5 ?_
                    refine z_icmpne (tgt := 272) dX12_answerOf_256 rfl (fun q => ?_) (fun q => ?_)
                    · replace h := h.1 q
                      refine z_iload dX12_answerOf_272 rfl ?_
                      refine z_bipush dX12_answerOf_274 kb_10 ?_
                      refine z_icmpne (tgt := 321) dX12_answerOf_276 rfl (fun q => ?_) (fun q => ?_)
                      · replace h := h.1 q
                        refine z_iload dX12_answerOf_321 rfl ?_
                        refine z_iconst dX12_answerOf_323 ki_5 ?_
                        refine z_icmple (tgt := 345) dX12_answerOf_324 rfl (fun q => ?_) (fun q => ?_)
                        · replace h := h.1 q
                          exact h
                        · replace h := h.2 q
                          refine z_aloadn dX12_answerOf_327 rfl (Or.inl rfl) ?_
                          refine z_iload dX12_answerOf_328 rfl ?_
                          refine z_lload dX12_answerOf_330 rfl ?_
                          refine z_aloadn dX12_answerOf_332 rfl (Or.inl rfl) ?_
                          refine y_getr (v := 250) hG dX12_answerOf_333 fX12_62 sh234 (by decide) rfl (by decide +kernel) (by decide) ?_
                          refine z_iloadn dX12_answerOf_336 rfl ?_
                          refine z_iconst dX12_answerOf_337 ki_1 ?_
                          obtain ⟨q63, h⟩ := h
                          refine z_iadd dX12_answerOf_338 q63 ?_
                          obtain ⟨q64, h⟩ := h
                          refine y_lald (x := (M 250 ((x2 - (M 247 (((240 * x1) + (2 * x3)) + 1))) + 1))) dX12_answerOf_339 sh250 q64 rfl ?_
                          refine y_cv (mt2 := mX12_ofTwo) (en := [(2, 234), (0, (M 247 ((240 * x1) + (2 * x3)))), (1, (M 249 (M 247 (((240 * x1) + (2 * x3)) + 1)))), (9, 0), (1, (M 250 ((x2 - (M 247 (((240 * x1) + (2 * x3)) + 1))) + 1))), (9, 0)]) (st := []) (as := [(0, (M 247 ((240 * x1) + (2 * x3)))), (1, (M 249 (M 247 (((240 * x1) + (2 * x3)) + 1)))), (1, (M 250 ((x2 - (M 247 (((240 * x1) + (2 * x3)) + 1))) + 1)))]) dX12_answerOf_340 lX12_388 kX12_ofTwo iX12_ofTwo eX12_ofTwo rfl sh234 (by decide +kernel) (Nat.le_of_ble_eq_true rfl) (Nat.le_of_ble_eq_true rfl) rfl ?_
                          exact h
                      · replace h := h.2 q
                        refine z_iload dX12_answerOf_279 rfl ?_
                        refine z_lload dX12_answerOf_281 rfl ?_
                        refine z_aloadn dX12_answerOf_283 rfl (Or.inl rfl) ?_
                        refine y_getr (v := 250) hG dX12_answerOf_284 fX12_62 sh234 (by decide) rfl (by decide +kernel) (by decide) ?_
                        refine z_iloadn dX12_answerOf_287 rfl ?_
                        refine z_iconst dX12_answerOf_288 ki_1 ?_
                        obtain ⟨q65, h⟩ := h
                        refine z_iadd dX12_answerOf_289 q65 ?_
                        obtain ⟨q66, h⟩ := h
                        refine y_lald (x := (M 250 ((x2 - (M 247 (((240 * x1) + (2 * x3)) + 1))) + 1))) dX12_answerOf_290 sh250 q66 rfl ?_
                        refine y_cs (mt2 := mX12_isSo) (en := [(0, (M 247 (((240 * x1) + (2 * x3)) + 1))), (1, (M 249 (M 247 (((240 * x1) + (2 * x3)) + 1)))), (9, 0), (1, (M 250 ((x2 - (M 247 (((240 * x1) + (2 * x3)) + 1))) + 1))), (9, 0)]) (st := []) (as := [(0, (M 247 (((240 * x1) + (2 * x3)) + 1))), (1, (M 249 (M 247 (((240 * x1) + (2 * x3)) + 1)))), (1, (M 250 ((x2 - (M 247 (((240 * x1) + (2 * x3)) + 1))) + 1)))]) dX12_answerOf_291 lX12_384 kX12_isSo tX12_isSo rfl (Nat.le_of_ble_eq_true rfl) (Nat.le_of_ble_eq_true rfl) rfl ?_
                        exact h
                    · replace h := h.2 q
                      exact h
                · replace h := h.2 q
                  exact h
          · replace h := h.2 q
            refine z_iload dX12_answerOf_119 rfl ?_
            refine z_i2l dX12_answerOf_121 ?_
            refine z_goto (tgt := 148) dX12_answerOf_122 rfl ?_
            refine y_lstore (ls' := [(2, 234), (0, x1), (0, (x2 - (M 247 (((240 * x1) + (2 * x3)) + 1)))), (0, x3), (0, (M 247 ((240 * x1) + (2 * x3)))), (0, (M 247 (((240 * x1) + (2 * x3)) + 1))), (0, (M 247 (((240 * x1) + (2 * x3)) + 1))), (1, (M 247 (((240 * x1) + (2 * x3)) + 1))), (9, 0), (9, 0)]) dX12_answerOf_148 rfl (Nat.le_of_ble_eq_true rfl) rfl ?_
            refine z_iload dX12_answerOf_150 rfl ?_
            refine z_iconst dX12_answerOf_152 ki_2 ?_
            refine z_icmpeq (tgt := 162) dX12_answerOf_153 rfl (fun q => ?_) (fun q => ?_)
            · replace h := h.1 q
              exact h
            · replace h := h.2 q
              refine z_iload dX12_answerOf_156 rfl ?_
              refine z_iconst dX12_answerOf_158 ki_3 ?_
              refine z_icmpne (tgt := 247) dX12_answerOf_159 rfl (fun q => ?_) (fun q => ?_)
              · replace h := h.1 q
                refine z_iload dX12_answerOf_247 rfl ?_
                refine z_iconst dX12_answerOf_249 ki_4 ?_
                refine z_icmpeq (tgt := 259) dX12_answerOf_250 rfl (fun q => ?_) (fun q => ?_)
                · replace h := h.1 q
                  exact h
                · replace h := h.2 q
                  refine z_iload dX12_answerOf_253 rfl ?_
                  refine z_iconst dX12_answerOf_255 ki_5 ?_
                  refine z_icmpne (tgt := 272) dX12_answerOf_256 rfl (fun q => ?_) (fun q => ?_)
                  · replace h := h.1 q
                    refine z_iload dX12_answerOf_272 rfl ?_
                    refine z_bipush dX12_answerOf_274 kb_10 ?_
                    refine z_icmpne (tgt := 321) dX12_answerOf_276 rfl (fun q => ?_) (fun q => ?_)
                    · replace h := h.1 q
                      refine z_iload dX12_answerOf_321 rfl ?_
                      refine z_iconst dX12_answerOf_323 ki_5 ?_
                      refine z_icmple (tgt := 345) dX12_answerOf_324 rfl (fun q => ?_) (fun q => ?_)
                      · replace h := h.1 q
                        exact h
                      · replace h := h.2 q
                        refine z_aloadn dX12_answerOf_327 rfl (Or.inl rfl) ?_
                        refine z_iload dX12_answerOf_328 rfl ?_
                        refine z_lload dX12_answerOf_330 rfl ?_
                        refine z_aloadn dX12_answerOf_332 rfl (Or.inl rfl) ?_
                        refine y_getr (v := 250) hG dX12_answerOf_333 fX12_62 sh234 (by decide) rfl (by decide +kernel) (by decide) ?_
                        refine z_iloadn dX12_answerOf_336 rfl ?_
                        refine z_iconst dX12_answerOf_337 ki_1 ?_
                        obtain ⟨q67, h⟩ := h
                        refine z_iadd dX12_answerOf_338 q67 ?_
                        obtain ⟨q68, h⟩ := h
                        refine y_lald (x := (M 250 ((x2 - (M 247 (((240 * x1) + (2 * x3)) + 1))) + 1))) dX12_answerOf_339 sh250 q68 rfl ?_
                        refine y_cv (mt2 := mX12_ofTwo) (en := [(2, 234), (0, (M 247 ((240 * x1) + (2 * x3)))), (1, (M 247 (((240 * x1) + (2 * x3)) + 1))), (9, 0), (1, (M 250 ((x2 - (M 247 (((240 * x1) + (2 * x3)) + 1))) + 1))), (9, 0)]) (st := []) (as := [(0, (M 247 ((240 * x1) + (2 * x3)))), (1, (M 247 (((240 * x1) + (2 * x3)) + 1))), (1, (M 250 ((x2 - (M 247 (((240 * x1) + (2 * x3)) + 1))) + 1)))]) dX12_answerOf_340 lX12_388 kX12_ofTwo iX12_ofTwo eX12_ofTwo rfl sh234 (by decide +kernel) (Nat.le_of_ble_eq_true rfl) (Nat.le_of_ble_eq_true rfl) rfl ?_
                        exact h
                    · replace h := h.2 q
                      refine z_iload dX12_answerOf_279 rfl ?_
                      refine z_lload dX12_answerOf_281 rfl ?_
                      refine z_aloadn dX12_answerOf_283 rfl (Or.inl rfl) ?_
                      refine y_getr (v := 250) hG dX12_answerOf_284 fX12_62 sh234 (by decide) rfl (by decide +kernel) (by decide) ?_
                      refine z_iloadn dX12_answerOf_287 rfl ?_
                      refine z_iconst dX12_answerOf_288 ki_1 ?_
                      obtain ⟨q69, h⟩ := h
                      refine z_iadd dX12_answerOf_289 q69 ?_
                      obtain ⟨q70, h⟩ := h
                      refine y_lald (x := (M 250 ((x2 - (M 247 (((240 * x1) + (2 * x3)) + 1))) + 1))) dX12_answerOf_290 sh250 q70 rfl ?_
                      refine y_cs (mt2 := mX12_isSo) (en := [(0, (M 247 (((240 * x1) + (2 * x3)) + 1))), (1, (M 247 (((240 * x1) + (2 * x3)) + 1))), (9, 0), (1, (M 250 ((x2 - (M 247 (((240 * x1) + (2 * x3)) + 1))) + 1))), (9, 0)]) (st := []) (as := [(0, (M 247 (((240 * x1) + (2 * x3)) + 1))), (1, (M 247 (((240 * x1) + (2 * x3)) + 1))), (1, (M 250 ((x2 - (M 247 (((240 * x1) + (2 * x3)) + 1))) + 1)))]) dX12_answerOf_291 lX12_384 kX12_isSo tX12_isSo rfl (Nat.le_of_ble_eq_true rfl) (Nat.le_of_ble_eq_true rfl) rfl ?_
                      exact h
                  · replace h := h.2 q
                    exact h
              · replace h := h.2 q
                exact h
      · replace h := h.2 q
        refine z_iload dX12_answerOf_64 rfl ?_
        refine z_sipush dX12_answerOf_66 ks_255 ?_
        refine z_iand dX12_answerOf_69 ?_
        refine z_goto (tgt := 107) dX12_answerOf_70 rfl ?_
        refine y_istore (ls' := [(2, 234), (0, x1), (0, x2), (0, x3), (0, (M 247 ((240 * x1) + (2 * x3)))), (0, (M 247 (((240 * x1) + (2 * x3)) + 1))), (0, (zand (M 247 (((240 * x1) + (2 * x3)) + 1)) 255)), (9, 0), (9, 0), (9, 0)]) dX12_answerOf_107 rfl rfl ?_
        refine z_iloadn dX12_answerOf_109 rfl ?_
        refine z_iload dX12_answerOf_110 rfl ?_
        obtain ⟨q71, h⟩ := h
        refine z_isub dX12_answerOf_112 q71 ?_
        refine y_istoren (ls' := [(2, 234), (0, x1), (0, (x2 - (zand (M 247 (((240 * x1) + (2 * x3)) + 1)) 255))), (0, x3), (0, (M 247 ((240 * x1) + (2 * x3)))), (0, (M 247 (((240 * x1) + (2 * x3)) + 1))), (0, (zand (M 247 (((240 * x1) + (2 * x3)) + 1)) 255)), (9, 0), (9, 0), (9, 0)]) dX12_answerOf_113 rfl rfl ?_
        refine z_iload dX12_answerOf_114 rfl ?_
        refine z_ifne (tgt := 125) dX12_answerOf_116 rfl (fun q => ?_) (fun q => ?_)
        · replace h := h.1 q
          refine z_iload dX12_answerOf_125 rfl ?_
          refine z_iconst dX12_answerOf_127 ki_1 ?_
          refine z_icmpne (tgt := 142) dX12_answerOf_128 rfl (fun q => ?_) (fun q => ?_)
          · replace h := h.1 q
            refine z_aloadn dX12_answerOf_142 rfl (Or.inl rfl) ?_
            refine y_getr (v := 250) hG dX12_answerOf_143 fX12_62 sh234 (by decide) rfl (by decide +kernel) (by decide) ?_
            refine z_iloadn dX12_answerOf_146 rfl ?_
            obtain ⟨q72, h⟩ := h
            refine y_lald (x := (M 250 (x2 - (zand (M 247 (((240 * x1) + (2 * x3)) + 1)) 255)))) dX12_answerOf_147 sh250 q72 rfl ?_
            refine y_lstore (ls' := [(2, 234), (0, x1), (0, (x2 - (zand (M 247 (((240 * x1) + (2 * x3)) + 1)) 255))), (0, x3), (0, (M 247 ((240 * x1) + (2 * x3)))), (0, (M 247 (((240 * x1) + (2 * x3)) + 1))), (0, (zand (M 247 (((240 * x1) + (2 * x3)) + 1)) 255)), (1, (M 250 (x2 - (zand (M 247 (((240 * x1) + (2 * x3)) + 1)) 255)))), (9, 0), (9, 0)]) dX12_answerOf_148 rfl (Nat.le_of_ble_eq_true rfl) rfl ?_
            refine z_iload dX12_answerOf_150 rfl ?_
            refine z_iconst dX12_answerOf_152 ki_2 ?_
            refine z_icmpeq (tgt := 162) dX12_answerOf_153 rfl (fun q => ?_) (fun q => ?_)
            · replace h := h.1 q
              exact h
            · replace h := h.2 q
              refine z_iload dX12_answerOf_156 rfl ?_
              refine z_iconst dX12_answerOf_158 ki_3 ?_
              refine z_icmpne (tgt := 247) dX12_answerOf_159 rfl (fun q => ?_) (fun q => ?_)
              · replace h := h.1 q
                refine z_iload dX12_answerOf_247 rfl ?_
                refine z_iconst dX12_answerOf_249 ki_4 ?_
                refine z_icmpeq (tgt := 259) dX12_answerOf_250 rfl (fun q => ?_) (fun q => ?_)
                · replace h := h.1 q
                  exact h
                · replace h := h.2 q
                  refine z_iload dX12_answerOf_253 rfl ?_
                  refine z_iconst dX12_answerOf_255 ki_5 ?_
                  refine z_icmpne (tgt := 272) dX12_answerOf_256 rfl (fun q => ?_) (fun q => ?_)
                  · replace h := h.1 q
                    refine z_iload dX12_answerOf_272 rfl ?_
                    refine z_bipush dX12_answerOf_274 kb_10 ?_
                    refine z_icmpne (tgt := 321) dX12_answerOf_276 rfl (fun q => ?_) (fun q => ?_)
                    · replace h := h.1 q
                      refine z_iload dX12_answerOf_321 rfl ?_
                      refine z_iconst dX12_answerOf_323 ki_5 ?_
                      refine z_icmple (tgt := 345) dX12_answerOf_324 rfl (fun q => ?_) (fun q => ?_)
                      · replace h := h.1 q
                        exact h
                      · replace h := h.2 q
                        refine z_aloadn dX12_answerOf_327 rfl (Or.inl rfl) ?_
                        refine z_iload dX12_answerOf_328 rfl ?_
                        refine z_lload dX12_answerOf_330 rfl ?_
                        refine z_aloadn dX12_answerOf_332 rfl (Or.inl rfl) ?_
                        refine y_getr (v := 250) hG dX12_answerOf_333 fX12_62 sh234 (by decide) rfl (by decide +kernel) (by decide) ?_
                        refine z_iloadn dX12_answerOf_336 rfl ?_
                        refine z_iconst dX12_answerOf_337 ki_1 ?_
                        obtain ⟨q73, h⟩ := h
                        refine z_iadd dX12_answerOf_338 q73 ?_
                        obtain ⟨q74, h⟩ := h
                        refine y_lald (x := (M 250 ((x2 - (zand (M 247 (((240 * x1) + (2 * x3)) + 1)) 255)) + 1))) dX12_answerOf_339 sh250 q74 rfl ?_
                        refine y_cv (mt2 := mX12_ofTwo) (en := [(2, 234), (0, (M 247 ((240 * x1) + (2 * x3)))), (1, (M 250 (x2 - (zand (M 247 (((240 * x1) + (2 * x3)) + 1)) 255)))), (9, 0), (1, (M 250 ((x2 - (zand (M 247 (((240 * x1) + (2 * x3)) + 1)) 255)) + 1))), (9, 0)]) (st := []) (as := [(0, (M 247 ((240 * x1) + (2 * x3)))), (1, (M 250 (x2 - (zand (M 247 (((240 * x1) + (2 * x3)) + 1)) 255)))), (1, (M 250 ((x2 - (zand (M 247 (((240 * x1) + (2 * x3)) + 1)) 255)) + 1)))]) dX12_answerOf_340 lX12_388 kX12_ofTwo iX12_ofTwo eX12_ofTwo rfl sh234 (by decide +kernel) (Nat.le_of_ble_eq_true rfl) (Nat.le_of_ble_eq_true rfl) rfl ?_
                        exact h
                    · replace h := h.2 q
                      refine z_iload dX12_answerOf_279 rfl ?_
                      refine z_lload dX12_answerOf_281 rfl ?_
                      refine z_aloadn dX12_answerOf_283 rfl (Or.inl rfl) ?_
                      refine y_getr (v := 250) hG dX12_answerOf_284 fX12_62 sh234 (by decide) rfl (by decide +kernel) (by decide) ?_
                      refine z_iloadn dX12_answerOf_287 rfl ?_
                      refine z_iconst dX12_answerOf_288 ki_1 ?_
                      obtain ⟨q75, h⟩ := h
                      refine z_iadd dX12_answerOf_289 q75 ?_
                      obtain ⟨q76, h⟩ := h
                      refine y_lald (x := (M 250 ((x2 - (zand (M 247 (((240 * x1) + (2 * x3)) + 1)) 255)) + 1))) dX12_answerOf_290 sh250 q76 rfl ?_
                      refine y_cs (mt2 := mX12_isSo) (en := [(0, (M 247 (((240 * x1) + (2 * x3)) + 1))), (1, (M 250 (x2 - (zand (M 247 (((240 * x1) + (2 * x3)) + 1)) 255)))), (9, 0), (1, (M 250 ((x2 - (zand (M 247 (((240 * x1) + (2 * x3)) + 1)) 255)) + 1))), (9, 0)]) (st := []) (as := [(0, (M 247 (((240 * x1) + (2 * x3)) + 1))), (1, (M 250 (x2 - (zand (M 247 (((240 * x1) + (2 * x3)) + 1)) 255)))), (1, (M 250 ((x2 - (zand (M 247 (((240 * x1) + (2 * x3)) + 1)) 255)) + 1)))]) dX12_answerOf_291 lX12_384 kX12_isSo tX12_isSo rfl (Nat.le_of_ble_eq_true rfl) (Nat.le_of_ble_eq_true rfl) rfl ?_
                      exact h
                  · replace h := h.2 q
                    exact h
              · replace h := h.2 q
                exact h
          · replace h := h.2 q
            refine z_aloadn dX12_answerOf_131 rfl (Or.inl rfl) ?_
            refine y_getr (v := 249) hG dX12_answerOf_132 fX12_59 sh234 (by decide) rfl (by decide +kernel) (by decide) ?_
            refine z_iload dX12_answerOf_135 rfl ?_
            obtain ⟨q77, h⟩ := h
            refine y_iald (x := (M 249 (M 247 (((240 * x1) + (2 * x3)) + 1)))) dX12_answerOf_137 sh249 q77 rfl ?_
            refine z_i2l dX12_answerOf_138 ?_
            refine z_goto (tgt := 148) dX12_answerOf_139 rfl ?_
            refine y_lstore (ls' := [(2, 234), (0, x1), (0, (x2 - (zand (M 247 (((240 * x1) + (2 * x3)) + 1)) 255))), (0, x3), (0, (M 247 ((240 * x1) + (2 * x3)))), (0, (M 247 (((240 * x1) + (2 * x3)) + 1))), (0, (zand (M 247 (((240 * x1) + (2 * x3)) + 1)) 255)), (1, (M 249 (M 247 (((240 * x1) + (2 * x3)) + 1)))), (9, 0), (9, 0)]) dX12_answerOf_148 rfl (Nat.le_of_ble_eq_true rfl) rfl ?_
            refine z_iload dX12_answerOf_150 rfl ?_
            refine z_iconst dX12_answerOf_152 ki_2 ?_
            refine z_icmpeq (tgt := 162) dX12_answerOf_153 rfl (fun q => ?_) (fun q => ?_)
            · replace h := h.1 q
              exact h
            · replace h := h.2 q
              refine z_iload dX12_answerOf_156 rfl ?_
              refine z_iconst dX12_answerOf_158 ki_3 ?_
              refine z_icmpne (tgt := 247) dX12_answerOf_159 rfl (fun q => ?_) (fun q => ?_)
              · replace h := h.1 q
                refine z_iload dX12_answerOf_247 rfl ?_
                refine z_iconst dX12_answerOf_249 ki_4 ?_
                refine z_icmpeq (tgt := 259) dX12_answerOf_250 rfl (fun q => ?_) (fun q => ?_)
                · replace h := h.1 q
                  exact h
                · replace h := h.2 q
                  refine z_iload dX12_answerOf_253 rfl ?_
                  refine z_iconst dX12_answerOf_255 ki_5 ?_
                  refine z_icmpne (tgt := 272) dX12_answerOf_256 rfl (fun q => ?_) (fun q => ?_)
                  · replace h := h.1 q
                    refine z_iload dX12_answerOf_272 rfl ?_
                    refine z_bipush dX12_answerOf_274 kb_10 ?_
                    refine z_icmpne (tgt := 321) dX12_answerOf_276 rfl (fun q => ?_) (fun q => ?_)
                    · replace h := h.1 q
                      refine z_iload dX12_answerOf_321 rfl ?_
                      refine z_iconst dX12_answerOf_323 ki_5 ?_
                      refine z_icmple (tgt := 345) dX12_answerOf_324 rfl (fun q => ?_) (fun q => ?_)
                      · replace h := h.1 q
                        exact h
                      · replace h := h.2 q
                        refine z_aloadn dX12_answerOf_327 rfl (Or.inl rfl) ?_
                        refine z_iload dX12_answerOf_328 rfl ?_
                        refine z_lload dX12_answerOf_330 rfl ?_
                        refine z_aloadn dX12_answerOf_332 rfl (Or.inl rfl) ?_
                        refine y_getr (v := 250) hG dX12_answerOf_333 fX12_62 sh234 (by decide) rfl (by decide +kernel) (by decide) ?_
                        refine z_iloadn dX12_answerOf_336 rfl ?_
                        refine z_iconst dX12_answerOf_337 ki_1 ?_
                        obtain ⟨q78, h⟩ := h
                        refine z_iadd dX12_answerOf_338 q78 ?_
                        obtain ⟨q79, h⟩ := h
                        refine y_lald (x := (M 250 ((x2 - (zand (M 247 (((240 * x1) + (2 * x3)) + 1)) 255)) + 1))) dX12_answerOf_339 sh250 q79 rfl ?_
                        refine y_cv (mt2 := mX12_ofTwo) (en := [(2, 234), (0, (M 247 ((240 * x1) + (2 * x3)))), (1, (M 249 (M 247 (((240 * x1) + (2 * x3)) + 1)))), (9, 0), (1, (M 250 ((x2 - (zand (M 247 (((240 * x1) + (2 * x3)) + 1)) 255)) + 1))), (9, 0)]) (st := []) (as := [(0, (M 247 ((240 * x1) + (2 * x3)))), (1, (M 249 (M 247 (((240 * x1) + (2 * x3)) + 1)))), (1, (M 250 ((x2 - (zand (M 247 (((240 * x1) + (2 * x3)) + 1)) 255)) + 1)))]) dX12_answerOf_340 lX12_388 kX12_ofTwo iX12_ofTwo eX12_ofTwo rfl sh234 (by decide +kernel) (Nat.le_of_ble_eq_true rfl) (Nat.le_of_ble_eq_true rfl) rfl ?_
                        exact h
                    · replace h := h.2 q
                      refine z_iload dX12_answerOf_279 rfl ?_
                      refine z_lload dX12_answerOf_281 rfl ?_
                      refine z_aloadn dX12_answerOf_283 rfl (Or.inl rfl) ?_
                      refine y_getr (v := 250) hG dX12_answerOf_284 fX12_62 sh234 (by decide) rfl (by decide +kernel) (by decide) ?_
                      refine z_iloadn dX12_answerOf_287 rfl ?_
                      refine z_iconst dX12_answerOf_288 ki_1 ?_
                      obtain ⟨q80, h⟩ := h
                      refine z_iadd dX12_answerOf_289 q80 ?_
                      obtain ⟨q81, h⟩ := h
                      refine y_lald (x := (M 250 ((x2 - (zand (M 247 (((240 * x1) + (2 * x3)) + 1)) 255)) + 1))) dX12_answerOf_290 sh250 q81 rfl ?_
                      refine y_cs (mt2 := mX12_isSo) (en := [(0, (M 247 (((240 * x1) + (2 * x3)) + 1))), (1, (M 249 (M 247 (((240 * x1) + (2 * x3)) + 1)))), (9, 0), (1, (M 250 ((x2 - (zand (M 247 (((240 * x1) + (2 * x3)) + 1)) 255)) + 1))), (9, 0)]) (st := []) (as := [(0, (M 247 (((240 * x1) + (2 * x3)) + 1))), (1, (M 249 (M 247 (((240 * x1) + (2 * x3)) + 1)))), (1, (M 250 ((x2 - (zand (M 247 (((240 * x1) + (2 * x3)) + 1)) 255)) + 1)))]) dX12_answerOf_291 lX12_384 kX12_isSo tX12_isSo rfl (Nat.le_of_ble_eq_true rfl) (Nat.le_of_ble_eq_true rfl) rfl ?_
                      exact h
                  · replace h := h.2 q
                    exact h
              · replace h := h.2 q
                exact h
        · replace h := h.2 q
          refine z_iload dX12_answerOf_119 rfl ?_
          refine z_i2l dX12_answerOf_121 ?_
          refine z_goto (tgt := 148) dX12_answerOf_122 rfl ?_
          refine y_lstore (ls' := [(2, 234), (0, x1), (0, (x2 - (zand (M 247 (((240 * x1) + (2 * x3)) + 1)) 255))), (0, x3), (0, (M 247 ((240 * x1) + (2 * x3)))), (0, (M 247 (((240 * x1) + (2 * x3)) + 1))), (0, (zand (M 247 (((240 * x1) + (2 * x3)) + 1)) 255)), (1, (M 247 (((240 * x1) + (2 * x3)) + 1))), (9, 0), (9, 0)]) dX12_answerOf_148 rfl (Nat.le_of_ble_eq_true rfl) rfl ?_
          refine z_iload dX12_answerOf_150 rfl ?_
          refine z_iconst dX12_answerOf_152 ki_2 ?_
          refine z_icmpeq (tgt := 162) dX12_answerOf_153 rfl (fun q => ?_) (fun q => ?_)
          · replace h := h.1 q
            exact h
          · replace h := h.2 q
            refine z_iload dX12_answerOf_156 rfl ?_
            refine z_iconst dX12_answerOf_158 ki_3 ?_
            refine z_icmpne (tgt := 247) dX12_answerOf_159 rfl (fun q => ?_) (fun q => ?_)
            · replace h := h.1 q
              refine z_iload dX12_answerOf_247 rfl ?_
              refine z_iconst dX12_answerOf_249 ki_4 ?_
              refine z_icmpeq (tgt := 259) dX12_answerOf_250 rfl (fun q => ?_) (fun q => ?_)
              · replace h := h.1 q
                exact h
              · replace h := h.2 q
                refine z_iload dX12_answerOf_253 rfl ?_
                refine z_iconst dX12_answerOf_255 ki_5 ?_
                refine z_icmpne (tgt := 272) dX12_answerOf_256 rfl (fun q => ?_) (fun q => ?_)
                · replace h := h.1 q
                  refine z_iload dX12_answerOf_272 rfl ?_
                  refine z_bipush dX12_answerOf_274 kb_10 ?_
                  refine z_icmpne (tgt := 321) dX12_answerOf_276 rfl (fun q => ?_) (fun q => ?_)
                  · replace h := h.1 q
                    refine z_iload dX12_answerOf_321 rfl ?_
                    refine z_iconst dX12_answerOf_323 ki_5 ?_
                    refine z_icmple (tgt := 345) dX12_answerOf_324 rfl (fun q => ?_) (fun q => ?_)
                    · replace h := h.1 q
                      exact h
                    · replace h := h.2 q
                      refine z_aloadn dX12_answerOf_327 rfl (Or.inl rfl) ?_
                      refine z_iload dX12_answerOf_328 rfl ?_
                      refine z_lload dX12_answerOf_330 rfl ?_
                      refine z_aloadn dX12_answerOf_332 rfl (Or.inl rfl) ?_
                      refine y_getr (v := 250) hG dX12_answerOf_333 fX12_62 sh234 (by decide) rfl (by decide +kernel) (by decide) ?_
                      refine z_iloadn dX12_answerOf_336 rfl ?_
                      refine z_iconst dX12_answerOf_337 ki_1 ?_
                      obtain ⟨q82, h⟩ := h
                      refine z_iadd dX12_answerOf_338 q82 ?_
                      obtain ⟨q83, h⟩ := h
                      refine y_lald (x := (M 250 ((x2 - (zand (M 247 (((240 * x1) + (2 * x3)) + 1)) 255)) + 1))) dX12_answerOf_339 sh250 q83 rfl ?_
                      refine y_cv (mt2 := mX12_ofTwo) (en := [(2, 234), (0, (M 247 ((240 * x1) + (2 * x3)))), (1, (M 247 (((240 * x1) + (2 * x3)) + 1))), (9, 0), (1, (M 250 ((x2 - (zand (M 247 (((240 * x1) + (2 * x3)) + 1)) 255)) + 1))), (9, 0)]) (st := []) (as := [(0, (M 247 ((240 * x1) + (2 * x3)))), (1, (M 247 (((240 * x1) + (2 * x3)) + 1))), (1, (M 250 ((x2 - (zand (M 247 (((240 * x1) + (2 * x3)) + 1)) 255)) + 1)))]) dX12_answerOf_340 lX12_388 kX12_ofTwo iX12_ofTwo eX12_ofTwo rfl sh234 (by decide +kernel) (Nat.le_of_ble_eq_true rfl) (Nat.le_of_ble_eq_true rfl) rfl ?_
                      exact h
                  · replace h := h.2 q
                    refine z_iload dX12_answerOf_279 rfl ?_
                    refine z_lload dX12_answerOf_281 rfl ?_
                    refine z_aloadn dX12_answerOf_283 rfl (Or.inl rfl) ?_
                    refine y_getr (v := 250) hG dX12_answerOf_284 fX12_62 sh234 (by decide) rfl (by decide +kernel) (by decide) ?_
                    refine z_iloadn dX12_answerOf_287 rfl ?_
                    refine z_iconst dX12_answerOf_288 ki_1 ?_
                    obtain ⟨q84, h⟩ := h
                    refine z_iadd dX12_answerOf_289 q84 ?_
                    obtain ⟨q85, h⟩ := h
                    refine y_lald (x := (M 250 ((x2 - (zand (M 247 (((240 * x1) + (2 * x3)) + 1)) 255)) + 1))) dX12_answerOf_290 sh250 q85 rfl ?_
                    refine y_cs (mt2 := mX12_isSo) (en := [(0, (M 247 (((240 * x1) + (2 * x3)) + 1))), (1, (M 247 (((240 * x1) + (2 * x3)) + 1))), (9, 0), (1, (M 250 ((x2 - (zand (M 247 (((240 * x1) + (2 * x3)) + 1)) 255)) + 1))), (9, 0)]) (st := []) (as := [(0, (M 247 (((240 * x1) + (2 * x3)) + 1))), (1, (M 247 (((240 * x1) + (2 * x3)) + 1))), (1, (M 250 ((x2 - (zand (M 247 (((240 * x1) + (2 * x3)) + 1)) 255)) + 1)))]) dX12_answerOf_291 lX12_384 kX12_isSo tX12_isSo rfl (Nat.le_of_ble_eq_true rfl) (Nat.le_of_ble_eq_true rfl) rfl ?_
                    exact h
                · replace h := h.2 q
                  exact h
            · replace h := h.2 q
              exact h
    · replace h := h.2 q
      refine z_iconst dX12_answerOf_54 ki_0 ?_
      refine z_goto (tgt := 107) dX12_answerOf_55 rfl ?_
      refine y_istore (ls' := [(2, 234), (0, x1), (0, x2), (0, x3), (0, (M 247 ((240 * x1) + (2 * x3)))), (0, (M 247 (((240 * x1) + (2 * x3)) + 1))), (0, 0), (9, 0), (9, 0), (9, 0)]) dX12_answerOf_107 rfl rfl ?_
      refine z_iloadn dX12_answerOf_109 rfl ?_
      refine z_iload dX12_answerOf_110 rfl ?_
      obtain ⟨q86, h⟩ := h
      refine z_isub dX12_answerOf_112 q86 ?_
      refine y_istoren (ls' := [(2, 234), (0, x1), (0, (x2 - 0)), (0, x3), (0, (M 247 ((240 * x1) + (2 * x3)))), (0, (M 247 (((240 * x1) + (2 * x3)) + 1))), (0, 0), (9, 0), (9, 0), (9, 0)]) dX12_answerOf_113 rfl rfl ?_
      refine z_iload dX12_answerOf_114 rfl ?_
      refine z_ifne (tgt := 125) dX12_answerOf_116 rfl (fun q => ?_) (fun q => ?_)
      · replace h := h.1 q
        refine z_iload dX12_answerOf_125 rfl ?_
        refine z_iconst dX12_answerOf_127 ki_1 ?_
        refine z_icmpne (tgt := 142) dX12_answerOf_128 rfl (fun q => ?_) (fun q => ?_)
        · replace h := h.1 q
          refine z_aloadn dX12_answerOf_142 rfl (Or.inl rfl) ?_
          refine y_getr (v := 250) hG dX12_answerOf_143 fX12_62 sh234 (by decide) rfl (by decide +kernel) (by decide) ?_
          refine z_iloadn dX12_answerOf_146 rfl ?_
          obtain ⟨q87, h⟩ := h
          refine y_lald (x := (M 250 (x2 - 0))) dX12_answerOf_147 sh250 q87 rfl ?_
          refine y_lstore (ls' := [(2, 234), (0, x1), (0, (x2 - 0)), (0, x3), (0, (M 247 ((240 * x1) + (2 * x3)))), (0, (M 247 (((240 * x1) + (2 * x3)) + 1))), (0, 0), (1, (M 250 (x2 - 0))), (9, 0), (9, 0)]) dX12_answerOf_148 rfl (Nat.le_of_ble_eq_true rfl) rfl ?_
          refine z_iload dX12_answerOf_150 rfl ?_
          refine z_iconst dX12_answerOf_152 ki_2 ?_
          refine z_icmpeq (tgt := 162) dX12_answerOf_153 rfl (fun q => ?_) (fun q => ?_)
          · replace h := h.1 q
            exact h
          · replace h := h.2 q
            refine z_iload dX12_answerOf_156 rfl ?_
            refine z_iconst dX12_answerOf_158 ki_3 ?_
            refine z_icmpne (tgt := 247) dX12_answerOf_159 rfl (fun q => ?_) (fun q => ?_)
            · replace h := h.1 q
              refine z_iload dX12_answerOf_247 rfl ?_
              refine z_iconst dX12_answerOf_249 ki_4 ?_
              refine z_icmpeq (tgt := 259) dX12_answerOf_250 rfl (fun q => ?_) (fun q => ?_)
              · replace h := h.1 q
                exact h
              · replace h := h.2 q
                refine z_iload dX12_answerOf_253 rfl ?_
                refine z_iconst dX12_answerOf_255 ki_5 ?_
                refine z_icmpne (tgt := 272) dX12_answerOf_256 rfl (fun q => ?_) (fun q => ?_)
                · replace h := h.1 q
                  refine z_iload dX12_answerOf_272 rfl ?_
                  refine z_bipush dX12_answerOf_274 kb_10 ?_
                  refine z_icmpne (tgt := 321) dX12_answerOf_276 rfl (fun q => ?_) (fun q => ?_)
                  · replace h := h.1 q
                    refine z_iload dX12_answerOf_321 rfl ?_
                    refine z_iconst dX12_answerOf_323 ki_5 ?_
                    refine z_icmple (tgt := 345) dX12_answerOf_324 rfl (fun q => ?_) (fun q => ?_)
                    · replace h := h.1 q
                      exact h
                    · replace h := h.2 q
                      refine z_aloadn dX12_answerOf_327 rfl (Or.inl rfl) ?_
                      refine z_iload dX12_answerOf_328 rfl ?_
                      refine z_lload dX12_answerOf_330 rfl ?_
                      refine z_aloadn dX12_answerOf_332 rfl (Or.inl rfl) ?_
                      refine y_getr (v := 250) hG dX12_answerOf_333 fX12_62 sh234 (by decide) rfl (by decide +kernel) (by decide) ?_
                      refine z_iloadn dX12_answerOf_336 rfl ?_
                      refine z_iconst dX12_answerOf_337 ki_1 ?_
                      obtain ⟨q88, h⟩ := h
                      refine z_iadd dX12_answerOf_338 q88 ?_
                      obtain ⟨q89, h⟩ := h
                      refine y_lald (x := (M 250 ((x2 - 0) + 1))) dX12_answerOf_339 sh250 q89 rfl ?_
                      refine y_cv (mt2 := mX12_ofTwo) (en := [(2, 234), (0, (M 247 ((240 * x1) + (2 * x3)))), (1, (M 250 (x2 - 0))), (9, 0), (1, (M 250 ((x2 - 0) + 1))), (9, 0)]) (st := []) (as := [(0, (M 247 ((240 * x1) + (2 * x3)))), (1, (M 250 (x2 - 0))), (1, (M 250 ((x2 - 0) + 1)))]) dX12_answerOf_340 lX12_388 kX12_ofTwo iX12_ofTwo eX12_ofTwo rfl sh234 (by decide +kernel) (Nat.le_of_ble_eq_true rfl) (Nat.le_of_ble_eq_true rfl) rfl ?_
                      exact h
                  · replace h := h.2 q
                    refine z_iload dX12_answerOf_279 rfl ?_
                    refine z_lload dX12_answerOf_281 rfl ?_
                    refine z_aloadn dX12_answerOf_283 rfl (Or.inl rfl) ?_
                    refine y_getr (v := 250) hG dX12_answerOf_284 fX12_62 sh234 (by decide) rfl (by decide +kernel) (by decide) ?_
                    refine z_iloadn dX12_answerOf_287 rfl ?_
                    refine z_iconst dX12_answerOf_288 ki_1 ?_
                    obtain ⟨q90, h⟩ := h
                    refine z_iadd dX12_answerOf_289 q90 ?_
                    obtain ⟨q91, h⟩ := h
                    refine y_lald (x := (M 250 ((x2 - 0) + 1))) dX12_answerOf_290 sh250 q91 rfl ?_
                    refine y_cs (mt2 := mX12_isSo) (en := [(0, (M 247 (((240 * x1) + (2 * x3)) + 1))), (1, (M 250 (x2 - 0))), (9, 0), (1, (M 250 ((x2 - 0) + 1))), (9, 0)]) (st := []) (as := [(0, (M 247 (((240 * x1) + (2 * x3)) + 1))), (1, (M 250 (x2 - 0))), (1, (M 250 ((x2 - 0) + 1)))]) dX12_answerOf_291 lX12_384 kX12_isSo tX12_isSo rfl (Nat.le_of_ble_eq_true rfl) (Nat.le_of_ble_eq_true rfl) rfl ?_
                    exact h
                · replace h := h.2 q
                  exact h
            · replace h := h.2 q
              exact h
        · replace h := h.2 q
          refine z_aloadn dX12_answerOf_131 rfl (Or.inl rfl) ?_
          refine y_getr (v := 249) hG dX12_answerOf_132 fX12_59 sh234 (by decide) rfl (by decide +kernel) (by decide) ?_
          refine z_iload dX12_answerOf_135 rfl ?_
          obtain ⟨q92, h⟩ := h
          refine y_iald (x := (M 249 (M 247 (((240 * x1) + (2 * x3)) + 1)))) dX12_answerOf_137 sh249 q92 rfl ?_
          refine z_i2l dX12_answerOf_138 ?_
          refine z_goto (tgt := 148) dX12_answerOf_139 rfl ?_
          refine y_lstore (ls' := [(2, 234), (0, x1), (0, (x2 - 0)), (0, x3), (0, (M 247 ((240 * x1) + (2 * x3)))), (0, (M 247 (((240 * x1) + (2 * x3)) + 1))), (0, 0), (1, (M 249 (M 247 (((240 * x1) + (2 * x3)) + 1)))), (9, 0), (9, 0)]) dX12_answerOf_148 rfl (Nat.le_of_ble_eq_true rfl) rfl ?_
          refine z_iload dX12_answerOf_150 rfl ?_
          refine z_iconst dX12_answerOf_152 ki_2 ?_
          refine z_icmpeq (tgt := 162) dX12_answerOf_153 rfl (fun q => ?_) (fun q => ?_)
          · replace h := h.1 q
            exact h
          · replace h := h.2 q
            refine z_iload dX12_answerOf_156 rfl ?_
            refine z_iconst dX12_answerOf_158 ki_3 ?_
            refine z_icmpne (tgt := 247) dX12_answerOf_159 rfl (fun q => ?_) (fun q => ?_)
            · replace h := h.1 q
              refine z_iload dX12_answerOf_247 rfl ?_
              refine z_iconst dX12_answerOf_249 ki_4 ?_
              refine z_icmpeq (tgt := 259) dX12_answerOf_250 rfl (fun q => ?_) (fun q => ?_)
              · replace h := h.1 q
                exact h
              · replace h := h.2 q
                refine z_iload dX12_answerOf_253 rfl ?_
                refine z_iconst dX12_answerOf_255 ki_5 ?_
                refine z_icmpne (tgt := 272) dX12_answerOf_256 rfl (fun q => ?_) (fun q => ?_)
                · replace h := h.1 q
                  refine z_iload dX12_answerOf_272 rfl ?_
                  refine z_bipush dX12_answerOf_274 kb_10 ?_
                  refine z_icmpne (tgt := 321) dX12_answerOf_276 rfl (fun q => ?_) (fun q => ?_)
                  · replace h := h.1 q
                    refine z_iload dX12_answerOf_321 rfl ?_
                    refine z_iconst dX12_answerOf_323 ki_5 ?_
                    refine z_icmple (tgt := 345) dX12_answerOf_324 rfl (fun q => ?_) (fun q => ?_)
                    · replace h := h.1 q
                      exact h
                    · replace h := h.2 q
                      refine z_aloadn dX12_answerOf_327 rfl (Or.inl rfl) ?_
                      refine z_iload dX12_answerOf_328 rfl ?_
                      refine z_lload dX12_answerOf_330 rfl ?_
                      refine z_aloadn dX12_answerOf_332 rfl (Or.inl rfl) ?_
                      refine y_getr (v := 250) hG dX12_answerOf_333 fX12_62 sh234 (by decide) rfl (by decide +kernel) (by decide) ?_
                      refine z_iloadn dX12_answerOf_336 rfl ?_
                      refine z_iconst dX12_answerOf_337 ki_1 ?_
                      obtain ⟨q93, h⟩ := h
                      refine z_iadd dX12_answerOf_338 q93 ?_
                      obtain ⟨q94, h⟩ := h
                      refine y_lald (x := (M 250 ((x2 - 0) + 1))) dX12_answerOf_339 sh250 q94 rfl ?_
                      refine y_cv (mt2 := mX12_ofTwo) (en := [(2, 234), (0, (M 247 ((240 * x1) + (2 * x3)))), (1, (M 249 (M 247 (((240 * x1) + (2 * x3)) + 1)))), (9, 0), (1, (M 250 ((x2 - 0) + 1))), (9, 0)]) (st := []) (as := [(0, (M 247 ((240 * x1) + (2 * x3)))), (1, (M 249 (M 247 (((240 * x1) + (2 * x3)) + 1)))), (1, (M 250 ((x2 - 0) + 1)))]) dX12_answerOf_340 lX12_388 kX12_ofTwo iX12_ofTwo eX12_ofTwo rfl sh234 (by decide +kernel) (Nat.le_of_ble_eq_true rfl) (Nat.le_of_ble_eq_true rfl) rfl ?_
                      exact h
                  · replace h := h.2 q
                    refine z_iload dX12_answerOf_279 rfl ?_
                    refine z_lload dX12_answerOf_281 rfl ?_
                    refine z_aloadn dX12_answerOf_283 rfl (Or.inl rfl) ?_
                    refine y_getr (v := 250) hG dX12_answerOf_284 fX12_62 sh234 (by decide) rfl (by decide +kernel) (by decide) ?_
                    refine z_iloadn dX12_answerOf_287 rfl ?_
                    refine z_iconst dX12_answerOf_288 ki_1 ?_
                    obtain ⟨q95, h⟩ := h
                    refine z_iadd dX12_answerOf_289 q95 ?_
                    obtain ⟨q96, h⟩ := h
                    refine y_lald (x := (M 250 ((x2 - 0) + 1))) dX12_answerOf_290 sh250 q96 rfl ?_
                    refine y_cs (mt2 := mX12_isSo) (en := [(0, (M 247 (((240 * x1) + (2 * x3)) + 1))), (1, (M 249 (M 247 (((240 * x1) + (2 * x3)) + 1)))), (9, 0), (1, (M 250 ((x2 - 0) + 1))), (9, 0)]) (st := []) (as := [(0, (M 247 (((240 * x1) + (2 * x3)) + 1))), (1, (M 249 (M 247 (((240 * x1) + (2 * x3)) + 1)))), (1, (M 250 ((x2 - 0) + 1)))]) dX12_answerOf_291 lX12_384 kX12_isSo tX12_isSo rfl (Nat.le_of_ble_eq_true rfl) (Nat.le_of_ble_eq_true rfl) rfl ?_
                    exact h
                · replace h := h.2 q
                  exact h
            · replace h := h.2 q
              exact h
      · replace h := h.2 q
        refine z_iload dX12_answerOf_119 rfl ?_
        refine z_i2l dX12_answerOf_121 ?_
        refine z_goto (tgt := 148) dX12_answerOf_122 rfl ?_
        refine y_lstore (ls' := [(2, 234), (0, x1), (0, (x2 - 0)), (0, x3), (0, (M 247 ((240 * x1) + (2 * x3)))), (0, (M 247 (((240 * x1) + (2 * x3)) + 1))), (0, 0), (1, (M 247 (((240 * x1) + (2 * x3)) + 1))), (9, 0), (9, 0)]) dX12_answerOf_148 rfl (Nat.le_of_ble_eq_true rfl) rfl ?_
        refine z_iload dX12_answerOf_150 rfl ?_
        refine z_iconst dX12_answerOf_152 ki_2 ?_
        refine z_icmpeq (tgt := 162) dX12_answerOf_153 rfl (fun q => ?_) (fun q => ?_)
        · replace h := h.1 q
          exact h
        · replace h := h.2 q
          refine z_iload dX12_answerOf_156 rfl ?_
          refine z_iconst dX12_answerOf_158 ki_3 ?_
          refine z_icmpne (tgt := 247) dX12_answerOf_159 rfl (fun q => ?_) (fun q => ?_)
          · replace h := h.1 q
            refine z_iload dX12_answerOf_247 rfl ?_
            refine z_iconst dX12_answerOf_249 ki_4 ?_
            refine z_icmpeq (tgt := 259) dX12_answerOf_250 rfl (fun q => ?_) (fun q => ?_)
            · replace h := h.1 q
              exact h
            · replace h := h.2 q
              refine z_iload dX12_answerOf_253 rfl ?_
              refine z_iconst dX12_answerOf_255 ki_5 ?_
              refine z_icmpne (tgt := 272) dX12_answerOf_256 rfl (fun q => ?_) (fun q => ?_)
              · replace h := h.1 q
                refine z_iload dX12_answerOf_272 rfl ?_
                refine z_bipush dX12_answerOf_274 kb_10 ?_
                refine z_icmpne (tgt := 321) dX12_answerOf_276 rfl (fun q => ?_) (fun q => ?_)
                · replace h := h.1 q
                  refine z_iload dX12_answerOf_321 rfl ?_
                  refine z_iconst dX12_answerOf_323 ki_5 ?_
                  refine z_icmple (tgt := 345) dX12_answerOf_324 rfl (fun q => ?_) (fun q => ?_)
                  · replace h := h.1 q
                    exact h
                  · replace h := h.2 q
                    refine z_aloadn dX12_answerOf_327 rfl (Or.inl rfl) ?_
                    refine z_iload dX12_answerOf_328 rfl ?_
                    refine z_lload dX12_answerOf_330 rfl ?_
                    refine z_aloadn dX12_answerOf_332 rfl (Or.inl rfl) ?_
                    refine y_getr (v := 250) hG dX12_answerOf_333 fX12_62 sh234 (by decide) rfl (by decide +kernel) (by decide) ?_
                    refine z_iloadn dX12_answerOf_336 rfl ?_
                    refine z_iconst dX12_answerOf_337 ki_1 ?_
                    obtain ⟨q97, h⟩ := h
                    refine z_iadd dX12_answerOf_338 q97 ?_
                    obtain ⟨q98, h⟩ := h
                    refine y_lald (x := (M 250 ((x2 - 0) + 1))) dX12_answerOf_339 sh250 q98 rfl ?_
                    refine y_cv (mt2 := mX12_ofTwo) (en := [(2, 234), (0, (M 247 ((240 * x1) + (2 * x3)))), (1, (M 247 (((240 * x1) + (2 * x3)) + 1))), (9, 0), (1, (M 250 ((x2 - 0) + 1))), (9, 0)]) (st := []) (as := [(0, (M 247 ((240 * x1) + (2 * x3)))), (1, (M 247 (((240 * x1) + (2 * x3)) + 1))), (1, (M 250 ((x2 - 0) + 1)))]) dX12_answerOf_340 lX12_388 kX12_ofTwo iX12_ofTwo eX12_ofTwo rfl sh234 (by decide +kernel) (Nat.le_of_ble_eq_true rfl) (Nat.le_of_ble_eq_true rfl) rfl ?_
                    exact h
                · replace h := h.2 q
                  refine z_iload dX12_answerOf_279 rfl ?_
                  refine z_lload dX12_answerOf_281 rfl ?_
                  refine z_aloadn dX12_answerOf_283 rfl (Or.inl rfl) ?_
                  refine y_getr (v := 250) hG dX12_answerOf_284 fX12_62 sh234 (by decide) rfl (by decide +kernel) (by decide) ?_
                  refine z_iloadn dX12_answerOf_287 rfl ?_
                  refine z_iconst dX12_answerOf_288 ki_1 ?_
                  obtain ⟨q99, h⟩ := h
                  refine z_iadd dX12_answerOf_289 q99 ?_
                  obtain ⟨q100, h⟩ := h
                  refine y_lald (x := (M 250 ((x2 - 0) + 1))) dX12_answerOf_290 sh250 q100 rfl ?_
                  refine y_cs (mt2 := mX12_isSo) (en := [(0, (M 247 (((240 * x1) + (2 * x3)) + 1))), (1, (M 247 (((240 * x1) + (2 * x3)) + 1))), (9, 0), (1, (M 250 ((x2 - 0) + 1))), (9, 0)]) (st := []) (as := [(0, (M 247 (((240 * x1) + (2 * x3)) + 1))), (1, (M 247 (((240 * x1) + (2 * x3)) + 1))), (1, (M 250 ((x2 - 0) + 1)))]) dX12_answerOf_291 lX12_384 kX12_isSo tX12_isSo rfl (Nat.le_of_ble_eq_true rfl) (Nat.le_of_ble_eq_true rfl) rfl ?_
                  exact h
              · replace h := h.2 q
                exact h
          · replace h := h.2 q
            exact h
set_option maxRecDepth 20000 in
set_option maxHeartbeats 4000000 in
theorem bX12_answerOf_162 {G : zG} {d : Nat} {M : zM} {Q : zV → zM → Prop} (hG : zP G) {x1 x2 x3 x4 x5 x6 x7 : Int}
    (h : Y G (d + 1) mX12_answerOf 165 [(2, 234), (0, x1), (0, x2), (0, x3), (0, x4), (0, x5), (0, x6), (1, x7), (9, 0), (0, 1)] [] M Q) :
    Y G (d + 1) mX12_answerOf 162 [(2, 234), (0, x1), (0, x2), (0, x3), (0, x4), (0, x5), (0, x6), (1, x7), (9, 0), (9, 0)] [] M Q := by
  refine z_iconst dX12_answerOf_162 ki_1 ?_
  refine y_istore (ls' := [(2, 234), (0, x1), (0, x2), (0, x3), (0, x4), (0, x5), (0, x6), (1, x7), (9, 0), (0, 1)]) dX12_answerOf_163 rfl rfl ?_
  exact h
set_option maxRecDepth 20000 in
set_option maxHeartbeats 4000000 in
theorem bX12_answerOf_165 {G : zG} {d : Nat} {M : zM} {Q : zV → zM → Prop} (hG : zP G) {x1 x2 x3 x4 x5 x6 x7 x9 : Int}
    (h : ((x6 ≤ x9 → Y G (d + 1) mX12_answerOf 345 [(2, 234), (0, x1), (0, x2), (0, x3), (0, x4), (0, x5), (0, x6), (1, x7), (9, 0), (9, 0)] [] M Q) ∧ (x9 < x6 → ((¬ x4 = 3 → ((zbit (zshr x5 8) x9 → (-2147483648 ≤ x2 + x9 ∧ x2 + x9 ≤ 2147483647) ∧ (0 ≤ (x2 + x9) ∧ (x2 + x9) < 130) ∧ (zin 1 (x7 - (M 250 (x2 + x9)))) ∧ (-2147483648 ≤ x9 + 1 ∧ x9 + 1 ≤ 2147483647) ∧ Y G (d + 1) mX12_answerOf 165 [(2, 234), (0, x1), (0, x2), (0, x3), (0, x4), (0, x5), (0, x6), (1, (zcl (x7 - (M 250 (x2 + x9))))), (9, 0), (0, (x9 + 1))] [] M Q) ∧ (¬ (zbit (zshr x5 8) x9) → (-2147483648 ≤ x2 + x9 ∧ x2 + x9 ≤ 2147483647) ∧ (0 ≤ (x2 + x9) ∧ (x2 + x9) < 130) ∧ (zin 1 (x7 + (M 250 (x2 + x9)))) ∧ (-2147483648 ≤ x9 + 1 ∧ x9 + 1 ≤ 2147483647) ∧ Y G (d + 1) mX12_answerOf 165 [(2, 234), (0, x1), (0, x2), (0, x3), (0, x4), (0, x5), (0, x6), (1, (zcl (x7 + (M 250 (x2 + x9))))), (9, 0), (0, (x9 + 1))] [] M Q))) ∧ (x4 = 3 → (-2147483648 ≤ x2 + x9 ∧ x2 + x9 ≤ 2147483647) ∧ (0 ≤ (x2 + x9) ∧ (x2 + x9) < 130) ∧ (zin 1 (x7 * (M 250 (x2 + x9)))) ∧ (-2147483648 ≤ x9 + 1 ∧ x9 + 1 ≤ 2147483647) ∧ Y G (d + 1) mX12_answerOf 165 [(2, 234), (0, x1), (0, x2), (0, x3), (0, x4), (0, x5), (0, x6), (1, (zcl (x7 * (M 250 (x2 + x9))))), (9, 0), (0, (x9 + 1))] [] M Q))))) :
    Y G (d + 1) mX12_answerOf 165 [(2, 234), (0, x1), (0, x2), (0, x3), (0, x4), (0, x5), (0, x6), (1, x7), (9, 0), (0, x9)] [] M Q := by
  refine z_iload dX12_answerOf_165 rfl ?_
  refine z_iload dX12_answerOf_167 rfl ?_
  refine z_icmpge (tgt := 244) dX12_answerOf_169 rfl (fun q => ?_) (fun q => ?_)
  · replace h := h.1 q
    refine z_goto (tgt := 345) dX12_answerOf_244 rfl ?_
    refine z_sub (ls' := [(2, 234), (0, x1), (0, x2), (0, x3), (0, x4), (0, x5), (0, x6), (1, x7), (9, 0), (9, 0)]) ⟨Or.inl rfl, Or.inl rfl, Or.inl rfl, Or.inl rfl, Or.inl rfl, Or.inl rfl, Or.inl rfl, Or.inl rfl, Or.inl rfl, Or.inr rfl, trivial⟩ ?_
    exact h
  · replace h := h.2 q
    refine z_iload dX12_answerOf_172 rfl ?_
    refine z_iconst dX12_answerOf_174 ki_3 ?_
    refine z_icmpne (tgt := 193) dX12_answerOf_175 rfl (fun q => ?_) (fun q => ?_)
    · replace h := h.1 q
      refine z_iload dX12_answerOf_193 rfl ?_
      refine z_bipush dX12_answerOf_195 kb_8 ?_
      refine z_ishr dX12_answerOf_197 ?_
      refine z_iload dX12_answerOf_198 rfl ?_
      refine y_cs (mt2 := mX12_has) (en := [(0, (zshr x5 8)), (0, x9)]) (st := []) (as := [(0, (zshr x5 8)), (0, x9)]) dX12_answerOf_200 lX12_373 kX12_has tX12_has rfl (Nat.le_of_ble_eq_true rfl) (Nat.le_of_ble_eq_true rfl) rfl (s_has hG (fun q => ?_) (fun q => ?_))
      · replace h := h.1 q
        show Y G (d + 1) mX12_answerOf 203 [(2, 234), (0, x1), (0, x2), (0, x3), (0, x4), (0, x5), (0, x6), (1, x7), (9, 0), (0, x9)] [(0, 1)] M Q
        refine z_ifeq (tgt := 221) dX12_answerOf_203 rfl (fun q => absurd q (by decide)) (fun _ => ?_)
        refine z_lload dX12_answerOf_206 rfl ?_
        refine z_aloadn dX12_answerOf_208 rfl (Or.inl rfl) ?_
        refine y_getr (v := 250) hG dX12_answerOf_209 fX12_62 sh234 (by decide) rfl (by decide +kernel) (by decide) ?_
        refine z_iloadn dX12_answerOf_212 rfl ?_
        refine z_iload dX12_answerOf_213 rfl ?_
        obtain ⟨q1, h⟩ := h
        refine z_iadd dX12_answerOf_215 q1 ?_
        obtain ⟨q2, h⟩ := h
        refine y_lald (x := (M 250 (x2 + x9))) dX12_answerOf_216 sh250 q2 rfl ?_
        obtain ⟨q3, h⟩ := h
        refine z_lsub dX12_answerOf_217 q3 ?_
        refine z_goto (tgt := 233) dX12_answerOf_218 rfl ?_
        refine y_cs (mt2 := mX12_held) (en := [(1, (x7 - (M 250 (x2 + x9)))), (9, 0)]) (st := []) (as := [(1, (x7 - (M 250 (x2 + x9))))]) dX12_answerOf_233 lX12_376 kX12_held tX12_held rfl (Nat.le_of_ble_eq_true rfl) (Nat.le_of_ble_eq_true rfl) rfl (s_held hG ?_)
        show Y G (d + 1) mX12_answerOf 236 [(2, 234), (0, x1), (0, x2), (0, x3), (0, x4), (0, x5), (0, x6), (1, x7), (9, 0), (0, x9)] [(1, (zcl (x7 - (M 250 (x2 + x9)))))] M Q
        refine y_lstore (ls' := [(2, 234), (0, x1), (0, x2), (0, x3), (0, x4), (0, x5), (0, x6), (1, (zcl (x7 - (M 250 (x2 + x9))))), (9, 0), (0, x9)]) dX12_answerOf_236 rfl (Nat.le_of_ble_eq_true rfl) rfl ?_
        obtain ⟨q4, h⟩ := h
        refine y_iinc (ls' := [(2, 234), (0, x1), (0, x2), (0, x3), (0, x4), (0, x5), (0, x6), (1, (zcl (x7 - (M 250 (x2 + x9))))), (9, 0), (0, (x9 + 1))]) dX12_answerOf_238 rfl rfl q4 rfl ?_
        refine z_goto (tgt := 165) dX12_answerOf_241 rfl ?_
        exact h
      · replace h := h.2 q
        show Y G (d + 1) mX12_answerOf 203 [(2, 234), (0, x1), (0, x2), (0, x3), (0, x4), (0, x5), (0, x6), (1, x7), (9, 0), (0, x9)] [(0, 0)] M Q
        refine z_ifeq (tgt := 221) dX12_answerOf_203 rfl (fun _ => ?_) (fun q => absurd q (by decide))
        refine z_lload dX12_answerOf_221 rfl ?_
        refine z_aloadn dX12_answerOf_223 rfl (Or.inl rfl) ?_
        refine y_getr (v := 250) hG dX12_answerOf_224 fX12_62 sh234 (by decide) rfl (by decide +kernel) (by decide) ?_
        refine z_iloadn dX12_answerOf_227 rfl ?_
        refine z_iload dX12_answerOf_228 rfl ?_
        obtain ⟨q5, h⟩ := h
        refine z_iadd dX12_answerOf_230 q5 ?_
        obtain ⟨q6, h⟩ := h
        refine y_lald (x := (M 250 (x2 + x9))) dX12_answerOf_231 sh250 q6 rfl ?_
        obtain ⟨q7, h⟩ := h
        refine z_ladd dX12_answerOf_232 q7 ?_
        refine y_cs (mt2 := mX12_held) (en := [(1, (x7 + (M 250 (x2 + x9)))), (9, 0)]) (st := []) (as := [(1, (x7 + (M 250 (x2 + x9))))]) dX12_answerOf_233 lX12_376 kX12_held tX12_held rfl (Nat.le_of_ble_eq_true rfl) (Nat.le_of_ble_eq_true rfl) rfl (s_held hG ?_)
        show Y G (d + 1) mX12_answerOf 236 [(2, 234), (0, x1), (0, x2), (0, x3), (0, x4), (0, x5), (0, x6), (1, x7), (9, 0), (0, x9)] [(1, (zcl (x7 + (M 250 (x2 + x9)))))] M Q
        refine y_lstore (ls' := [(2, 234), (0, x1), (0, x2), (0, x3), (0, x4), (0, x5), (0, x6), (1, (zcl (x7 + (M 250 (x2 + x9))))), (9, 0), (0, x9)]) dX12_answerOf_236 rfl (Nat.le_of_ble_eq_true rfl) rfl ?_
        obtain ⟨q8, h⟩ := h
        refine y_iinc (ls' := [(2, 234), (0, x1), (0, x2), (0, x3), (0, x4), (0, x5), (0, x6), (1, (zcl (x7 + (M 250 (x2 + x9))))), (9, 0), (0, (x9 + 1))]) dX12_answerOf_238 rfl rfl q8 rfl ?_
        refine z_goto (tgt := 165) dX12_answerOf_241 rfl ?_
        exact h
    · replace h := h.2 q
      refine z_lload dX12_answerOf_178 rfl ?_
      refine z_aloadn dX12_answerOf_180 rfl (Or.inl rfl) ?_
      refine y_getr (v := 250) hG dX12_answerOf_181 fX12_62 sh234 (by decide) rfl (by decide +kernel) (by decide) ?_
      refine z_iloadn dX12_answerOf_184 rfl ?_
      refine z_iload dX12_answerOf_185 rfl ?_
      obtain ⟨q9, h⟩ := h
      refine z_iadd dX12_answerOf_187 q9 ?_
      obtain ⟨q10, h⟩ := h
      refine y_lald (x := (M 250 (x2 + x9))) dX12_answerOf_188 sh250 q10 rfl ?_
      obtain ⟨q11, h⟩ := h
      refine z_lmul dX12_answerOf_189 q11 ?_
      refine z_goto (tgt := 233) dX12_answerOf_190 rfl ?_
      refine y_cs (mt2 := mX12_held) (en := [(1, (x7 * (M 250 (x2 + x9)))), (9, 0)]) (st := []) (as := [(1, (x7 * (M 250 (x2 + x9))))]) dX12_answerOf_233 lX12_376 kX12_held tX12_held rfl (Nat.le_of_ble_eq_true rfl) (Nat.le_of_ble_eq_true rfl) rfl (s_held hG ?_)
      show Y G (d + 1) mX12_answerOf 236 [(2, 234), (0, x1), (0, x2), (0, x3), (0, x4), (0, x5), (0, x6), (1, x7), (9, 0), (0, x9)] [(1, (zcl (x7 * (M 250 (x2 + x9)))))] M Q
      refine y_lstore (ls' := [(2, 234), (0, x1), (0, x2), (0, x3), (0, x4), (0, x5), (0, x6), (1, (zcl (x7 * (M 250 (x2 + x9))))), (9, 0), (0, x9)]) dX12_answerOf_236 rfl (Nat.le_of_ble_eq_true rfl) rfl ?_
      obtain ⟨q12, h⟩ := h
      refine y_iinc (ls' := [(2, 234), (0, x1), (0, x2), (0, x3), (0, x4), (0, x5), (0, x6), (1, (zcl (x7 * (M 250 (x2 + x9))))), (9, 0), (0, (x9 + 1))]) dX12_answerOf_238 rfl rfl q12 rfl ?_
      refine z_goto (tgt := 165) dX12_answerOf_241 rfl ?_
      exact h
set_option maxRecDepth 20000 in
set_option maxHeartbeats 4000000 in
theorem bX12_answerOf_259 {G : zG} {d : Nat} {M : zM} {Q : zV → zM → Prop} (hG : zP G) {x1 x2 x3 x4 x5 x6 x7 : Int}
    (h : Y G d mX12_ofOne 0 [(2, 234), (0, x4), (1, x7), (9, 0), (9, 0), (9, 0), (9, 0)] [] M (fun r M' => Y G (d + 1) mX12_answerOf 267 [(2, 234), (0, x1), (0, x2), (0, x3), (0, x4), (0, x5), (0, x6), (1, x7), (9, 0), (9, 0)] (zpush r []) M' Q)) :
    Y G (d + 1) mX12_answerOf 259 [(2, 234), (0, x1), (0, x2), (0, x3), (0, x4), (0, x5), (0, x6), (1, x7), (9, 0), (9, 0)] [] M Q := by
  refine z_aloadn dX12_answerOf_259 rfl (Or.inl rfl) ?_
  refine z_iload dX12_answerOf_260 rfl ?_
  refine z_lload dX12_answerOf_262 rfl ?_
  refine y_cv (mt2 := mX12_ofOne) (en := [(2, 234), (0, x4), (1, x7), (9, 0), (9, 0), (9, 0), (9, 0)]) (st := []) (as := [(0, x4), (1, x7)]) dX12_answerOf_264 lX12_380 kX12_ofOne iX12_ofOne eX12_ofOne rfl sh234 (by decide +kernel) (Nat.le_of_ble_eq_true rfl) (Nat.le_of_ble_eq_true rfl) rfl ?_
  exact h
set_option maxRecDepth 20000 in
set_option maxHeartbeats 4000000 in
theorem bX12_answerOf_345 {G : zG} {d : Nat} {M : zM} {Q : zV → zM → Prop} (hG : zP G) {x1 x2 x3 x4 x5 x6 x7 : Int}
    (h : (0 ≤ x2 ∧ x2 < 130) ∧ (-2147483648 ≤ x2 + 1 ∧ x2 + 1 ≤ 2147483647) ∧ (-2147483648 ≤ x3 + 1 ∧ x3 + 1 ≤ 2147483647) ∧ Y G (d + 1) mX12_answerOf 4 [(2, 234), (0, x1), (0, (x2 + 1)), (0, (x3 + 1)), (9, 0), (9, 0), (9, 0), (9, 0), (9, 0), (9, 0)] [] (zset M 250 x2 x7) Q) :
    Y G (d + 1) mX12_answerOf 345 [(2, 234), (0, x1), (0, x2), (0, x3), (0, x4), (0, x5), (0, x6), (1, x7), (9, 0), (9, 0)] [] M Q := by
  refine z_aloadn dX12_answerOf_345 rfl (Or.inl rfl) ?_
  refine y_getr (v := 250) hG dX12_answerOf_346 fX12_62 sh234 (by decide) rfl (by decide +kernel) (by decide) ?_
  refine z_iloadn dX12_answerOf_349 rfl ?_
  refine z_lload dX12_answerOf_350 rfl ?_
  obtain ⟨q1, h⟩ := h
  refine y_last hG dX12_answerOf_352 sh250 q1 ?_
  obtain ⟨q2, h⟩ := h
  refine y_iinc (ls' := [(2, 234), (0, x1), (0, (x2 + 1)), (0, x3), (0, x4), (0, x5), (0, x6), (1, x7), (9, 0), (9, 0)]) dX12_answerOf_353 rfl rfl q2 rfl ?_
  obtain ⟨q3, h⟩ := h
  refine y_iinc (ls' := [(2, 234), (0, x1), (0, (x2 + 1)), (0, (x3 + 1)), (0, x4), (0, x5), (0, x6), (1, x7), (9, 0), (9, 0)]) dX12_answerOf_356 rfl rfl q3 rfl ?_
  refine z_goto (tgt := 4) dX12_answerOf_359 rfl ?_
  refine z_sub (ls' := [(2, 234), (0, x1), (0, (x2 + 1)), (0, (x3 + 1)), (9, 0), (9, 0), (9, 0), (9, 0), (9, 0), (9, 0)]) ⟨Or.inl rfl, Or.inl rfl, Or.inl rfl, Or.inl rfl, Or.inr rfl, Or.inr rfl, Or.inr rfl, Or.inr rfl, Or.inl rfl, Or.inl rfl, trivial⟩ ?_
  exact h
set_option maxRecDepth 20000 in
set_option maxHeartbeats 4000000 in
theorem bX12_answerOf_343 {G : zG} {d : Nat} {M : zM} {Q : zV → zM → Prop} (hG : zP G) {x1 x2 x3 x4 x5 x6 x7 x49 : Int}
    (h : Y G (d + 1) mX12_answerOf 345 [(2, 234), (0, x1), (0, x2), (0, x3), (0, x4), (0, x5), (0, x6), (1, x49), (9, 0), (9, 0)] [] M Q) :
    Y G (d + 1) mX12_answerOf 343 [(2, 234), (0, x1), (0, x2), (0, x3), (0, x4), (0, x5), (0, x6), (1, x7), (9, 0), (9, 0)] [(1, x49)] M Q := by
  refine y_lstore (ls' := [(2, 234), (0, x1), (0, x2), (0, x3), (0, x4), (0, x5), (0, x6), (1, x49), (9, 0), (9, 0)]) dX12_answerOf_343 rfl (Nat.le_of_ble_eq_true rfl) rfl ?_
  exact h
set_option maxRecDepth 20000 in
set_option maxHeartbeats 4000000 in
theorem bX12_answerOf_294 {G : zG} {d : Nat} {M : zM} {Q : zV → zM → Prop} (hG : zP G) {x1 x2 x3 x4 x5 x6 x7 x49 : Int}
    (h : ((x49 = 0 → (-2147483648 ≤ x2 + 3 ∧ x2 + 3 ≤ 2147483647) ∧ (0 ≤ (x2 + 3) ∧ (x2 + 3) < 130) ∧ Y G (d + 1) mX12_answerOf 345 [(2, 234), (0, x1), (0, x2), (0, x3), (0, x4), (0, x5), (0, x6), (1, (M 250 (x2 + 3))), (9, 0), (9, 0)] [] M Q) ∧ (¬ x49 = 0 → (-2147483648 ≤ x2 + 2 ∧ x2 + 2 ≤ 2147483647) ∧ (0 ≤ (x2 + 2) ∧ (x2 + 2) < 130) ∧ Y G (d + 1) mX12_answerOf 345 [(2, 234), (0, x1), (0, x2), (0, x3), (0, x4), (0, x5), (0, x6), (1, (M 250 (x2 + 2))), (9, 0), (9, 0)] [] M Q))) :
    Y G (d + 1) mX12_answerOf 294 [(2, 234), (0, x1), (0, x2), (0, x3), (0, x4), (0, x5), (0, x6), (1, x7), (9, 0), (9, 0)] [(0, x49)] M Q := by
  refine z_ifeq (tgt := 308) dX12_answerOf_294 rfl (fun q => ?_) (fun q => ?_)
  · replace h := h.1 q
    refine z_aloadn dX12_answerOf_308 rfl (Or.inl rfl) ?_
    refine y_getr (v := 250) hG dX12_answerOf_309 fX12_62 sh234 (by decide) rfl (by decide +kernel) (by decide) ?_
    refine z_iloadn dX12_answerOf_312 rfl ?_
    refine z_iconst dX12_answerOf_313 ki_3 ?_
    obtain ⟨q1, h⟩ := h
    refine z_iadd dX12_answerOf_314 q1 ?_
    obtain ⟨q2, h⟩ := h
    refine y_lald (x := (M 250 (x2 + 3))) dX12_answerOf_315 sh250 q2 rfl ?_
    refine y_lstore (ls' := [(2, 234), (0, x1), (0, x2), (0, x3), (0, x4), (0, x5), (0, x6), (1, (M 250 (x2 + 3))), (9, 0), (9, 0)]) dX12_answerOf_316 rfl (Nat.le_of_ble_eq_true rfl) rfl ?_
    refine z_goto (tgt := 345) dX12_answerOf_318 rfl ?_
    exact h
  · replace h := h.2 q
    refine z_aloadn dX12_answerOf_297 rfl (Or.inl rfl) ?_
    refine y_getr (v := 250) hG dX12_answerOf_298 fX12_62 sh234 (by decide) rfl (by decide +kernel) (by decide) ?_
    refine z_iloadn dX12_answerOf_301 rfl ?_
    refine z_iconst dX12_answerOf_302 ki_2 ?_
    obtain ⟨q3, h⟩ := h
    refine z_iadd dX12_answerOf_303 q3 ?_
    obtain ⟨q4, h⟩ := h
    refine y_lald (x := (M 250 (x2 + 2))) dX12_answerOf_304 sh250 q4 rfl ?_
    refine z_goto (tgt := 316) dX12_answerOf_305 rfl ?_
    refine y_lstore (ls' := [(2, 234), (0, x1), (0, x2), (0, x3), (0, x4), (0, x5), (0, x6), (1, (M 250 (x2 + 2))), (9, 0), (9, 0)]) dX12_answerOf_316 rfl (Nat.le_of_ble_eq_true rfl) rfl ?_
    refine z_goto (tgt := 345) dX12_answerOf_318 rfl ?_
    exact h
set_option maxRecDepth 20000 in
set_option maxHeartbeats 4000000 in
theorem bX12_answerOf_267 {G : zG} {d : Nat} {M : zM} {Q : zV → zM → Prop} (hG : zP G) {x1 x2 x3 x4 x5 x6 x7 x49 : Int}
    (h : Y G (d + 1) mX12_answerOf 345 [(2, 234), (0, x1), (0, x2), (0, x3), (0, x4), (0, x5), (0, x6), (1, x49), (9, 0), (9, 0)] [] M Q) :
    Y G (d + 1) mX12_answerOf 267 [(2, 234), (0, x1), (0, x2), (0, x3), (0, x4), (0, x5), (0, x6), (1, x7), (9, 0), (9, 0)] [(1, x49)] M Q := by
  refine y_lstore (ls' := [(2, 234), (0, x1), (0, x2), (0, x3), (0, x4), (0, x5), (0, x6), (1, x49), (9, 0), (9, 0)]) dX12_answerOf_267 rfl (Nat.le_of_ble_eq_true rfl) rfl ?_
  refine z_goto (tgt := 345) dX12_answerOf_269 rfl ?_
  exact h
set_option maxRecDepth 20000 in
set_option maxHeartbeats 4000000 in
theorem bX12_of_0 {G : zG} {d : Nat} {M : zM} {Q : zV → zM → Prop} (hG : zP G) {x1 x2 : Int}
    (h : (-1000 ≤ (M 235 0) ∧ (M 235 0) ≤ 1000) ∧ ((0 ≤ x1 ∧ x1 < (M 235 0) → ((0 ≤ x2 ∧ x2 ≤ 4 → Y G (d + 1) mX12_worldNow 0 [(2, 234), (9, 0)] [] M (fun r M' => Y G (d + 2) mX12_of 25 [(2, 234), (0, x1), (0, x2)] (zpush r []) M' Q)) ∧ (¬ (0 ≤ x2 ∧ x2 ≤ 4) → Q (0, (-2000000)) M))) ∧ (¬ (0 ≤ x1 ∧ x1 < (M 235 0)) → Q (0, (-2000000)) M))) :
    Y G (d + 2) mX12_of 0 [(2, 234), (0, x1), (0, x2)] [] M Q := by
  refine z_aloadn dX12_of_0 rfl (Or.inl rfl) ?_
  refine z_iloadn dX12_of_1 rfl ?_
  obtain ⟨q1, h⟩ := h
  refine y_cv (mt2 := mX12_isQuestion) (en := [(2, 234), (0, x1)]) (st := []) (as := [(0, x1)]) dX12_of_2 lX12_392 kX12_isQuestion iX12_isQuestion eX12_isQuestion rfl sh234 (by decide +kernel) (Nat.le_of_ble_eq_true rfl) (Nat.le_of_ble_eq_true rfl) rfl (s_misQuestion hG rfl q1 (fun q => ?_) (fun q => ?_))
  · replace h := h.1 q
    show Y G (d + 2) mX12_of 5 [(2, 234), (0, x1), (0, x2)] [(0, 1)] M Q
    refine z_ifeq (tgt := 17) dX12_of_5 rfl (fun q => absurd q (by decide)) (fun _ => ?_)
    refine z_iloadn dX12_of_8 rfl ?_
    refine z_iconst dX12_of_9 ki_0 ?_
    refine z_iconst dX12_of_10 ki_4 ?_
    refine y_cs (mt2 := mX12_isIn) (en := [(0, x2), (0, 0), (0, 4)]) (st := []) (as := [(0, x2), (0, 0), (0, 4)]) dX12_of_11 lX12_126 kX12_isIn tX12_isIn rfl (Nat.le_of_ble_eq_true rfl) (Nat.le_of_ble_eq_true rfl) rfl (s_isIn hG (fun q => ?_) (fun q => ?_))
    · replace h := h.1 q
      show Y G (d + 2) mX12_of 14 [(2, 234), (0, x1), (0, x2)] [(0, 1)] M Q
      refine z_ifne (tgt := 21) dX12_of_14 rfl (fun _ => ?_) (fun q => absurd q (by decide))
      refine z_aloadn dX12_of_21 rfl (Or.inl rfl) ?_
      refine y_cv (mt2 := mX12_worldNow) (en := [(2, 234), (9, 0)]) (st := []) (as := []) dX12_of_22 lX12_396 kX12_worldNow iX12_worldNow eX12_worldNow rfl sh234 (by decide +kernel) (Nat.le_of_ble_eq_true rfl) (Nat.le_of_ble_eq_true rfl) rfl ?_
      exact h
    · replace h := h.2 q
      show Y G (d + 2) mX12_of 14 [(2, 234), (0, x1), (0, x2)] [(0, 0)] M Q
      refine z_ifne (tgt := 21) dX12_of_14 rfl (fun q => absurd q (by decide)) (fun _ => ?_)
      refine z_ldcw (k := (-2000000)) (v := (-2000000)) dX12_of_17 ⟨by decide, ⟨by decide, by decide⟩⟩ qX12_395 ?_
      exact z_ireturn dX12_of_20 (Or.inl rfl) rfl h
  · replace h := h.2 q
    show Y G (d + 2) mX12_of 5 [(2, 234), (0, x1), (0, x2)] [(0, 0)] M Q
    refine z_ifeq (tgt := 17) dX12_of_5 rfl (fun _ => ?_) (fun q => absurd q (by decide))
    refine z_ldcw (k := (-2000000)) (v := (-2000000)) dX12_of_17 ⟨by decide, ⟨by decide, by decide⟩⟩ qX12_395 ?_
    exact z_ireturn dX12_of_20 (Or.inl rfl) rfl h
set_option maxRecDepth 20000 in
set_option maxHeartbeats 4000000 in
theorem bX12_of_25 {G : zG} {d : Nat} {M : zM} {Q : zV → zM → Prop} (hG : zP G) {x1 x2 : Int}
    (h : (((x2 = 0) → Y G (d + 1) mX12_answerOf 0 [(2, 234), (0, x1), (9, 0), (9, 0), (9, 0), (9, 0), (9, 0), (9, 0), (9, 0), (9, 0)] [] M (fun r M' => Y G (d + 2) mX12_of 61 [(2, 234), (0, x1), (0, x2)] (zpush r []) M' Q)) ∧ ((x2 = 1) → (-2147483648 ≤ 4 * x1 ∧ 4 * x1 ≤ 2147483647) ∧ (-2147483648 ≤ (4 * x1) + 2 ∧ (4 * x1) + 2 ≤ 2147483647) ∧ (0 ≤ ((4 * x1) + 2) ∧ ((4 * x1) + 2) < 48) ∧ Q (0, (M 248 ((4 * x1) + 2))) M) ∧ ((x2 = 2) → (-2147483648 ≤ 4 * x1 ∧ 4 * x1 ≤ 2147483647) ∧ (-2147483648 ≤ (4 * x1) + 1 ∧ (4 * x1) + 1 ≤ 2147483647) ∧ (0 ≤ ((4 * x1) + 1) ∧ ((4 * x1) + 1) < 48) ∧ Q (0, (M 248 ((4 * x1) + 1))) M) ∧ ((x2 = 3) → (-2147483648 ≤ 4 * x1 ∧ 4 * x1 ≤ 2147483647) ∧ (0 ≤ (4 * x1) ∧ (4 * x1) < 48) ∧ Q (0, (M 248 (4 * x1))) M) ∧ ((x2 < 0 ∨ 3 < x2) → (-2147483648 ≤ 4 * x1 ∧ 4 * x1 ≤ 2147483647) ∧ (-2147483648 ≤ (4 * x1) + 3 ∧ (4 * x1) + 3 ≤ 2147483647) ∧ (0 ≤ ((4 * x1) + 3) ∧ ((4 * x1) + 3) < 48) ∧ Q (0, (M 248 ((4 * x1) + 3))) M))) :
    Y G (d + 2) mX12_of 25 [(2, 234), (0, x1), (0, x2)] [] M Q := by
  refine z_iloadn dX12_of_25 rfl ?_
  rcases (show x2 < 0 ∨ 3 < x2 ∨ x2 = 0 ∨ x2 = 1 ∨ x2 = 2 ∨ x2 = 3 by omega) with q | q | q | q | q | q
  · replace h := h.2.2.2.2 (Or.inl q)
    refine z_tswOut (tgt := 94) dX12_of_26 (Or.inl q) rfl ?_
    refine z_aloadn dX12_of_94 rfl (Or.inl rfl) ?_
    refine y_getr (v := 248) hG dX12_of_95 fX12_56 sh234 (by decide) rfl (by decide +kernel) (by decide) ?_
    refine z_iconst dX12_of_98 ki_4 ?_
    refine z_iloadn dX12_of_99 rfl ?_
    obtain ⟨q9, h⟩ := h
    refine z_imul dX12_of_100 q9 ?_
    refine z_iconst dX12_of_101 ki_3 ?_
    obtain ⟨q10, h⟩ := h
    refine z_iadd dX12_of_102 q10 ?_
    obtain ⟨q11, h⟩ := h
    refine y_iald (x := (M 248 ((4 * x1) + 3))) dX12_of_103 sh248 q11 rfl ?_
    exact z_ireturn dX12_of_104 (Or.inl rfl) rfl h
  · replace h := h.2.2.2.2 (Or.inr q)
    refine z_tswOut (tgt := 94) dX12_of_26 (Or.inr q) rfl ?_
    refine z_aloadn dX12_of_94 rfl (Or.inl rfl) ?_
    refine y_getr (v := 248) hG dX12_of_95 fX12_56 sh234 (by decide) rfl (by decide +kernel) (by decide) ?_
    refine z_iconst dX12_of_98 ki_4 ?_
    refine z_iloadn dX12_of_99 rfl ?_
    obtain ⟨q9, h⟩ := h
    refine z_imul dX12_of_100 q9 ?_
    refine z_iconst dX12_of_101 ki_3 ?_
    obtain ⟨q10, h⟩ := h
    refine z_iadd dX12_of_102 q10 ?_
    obtain ⟨q11, h⟩ := h
    refine y_iald (x := (M 248 ((4 * x1) + 3))) dX12_of_103 sh248 q11 rfl ?_
    exact z_ireturn dX12_of_104 (Or.inl rfl) rfl h
  · replace h := h.1 q
    refine y_tsw (tgt := 56) (k := 0) dX12_of_26 q (by decide) rfl rfl ?_
    refine z_aloadn dX12_of_56 rfl (Or.inl rfl) ?_
    refine z_iloadn dX12_of_57 rfl ?_
    refine y_cv (mt2 := mX12_answerOf) (en := [(2, 234), (0, x1), (9, 0), (9, 0), (9, 0), (9, 0), (9, 0), (9, 0), (9, 0), (9, 0)]) (st := []) (as := [(0, x1)]) dX12_of_58 lX12_399 kX12_answerOf iX12_answerOf eX12_answerOf rfl sh234 (by decide +kernel) (Nat.le_of_ble_eq_true rfl) (Nat.le_of_ble_eq_true rfl) rfl ?_
    exact h
  · replace h := h.2.1 q
    refine y_tsw (tgt := 63) (k := 1) dX12_of_26 q (by decide) rfl rfl ?_
    refine z_aloadn dX12_of_63 rfl (Or.inl rfl) ?_
    refine y_getr (v := 248) hG dX12_of_64 fX12_56 sh234 (by decide) rfl (by decide +kernel) (by decide) ?_
    refine z_iconst dX12_of_67 ki_4 ?_
    refine z_iloadn dX12_of_68 rfl ?_
    obtain ⟨q1, h⟩ := h
    refine z_imul dX12_of_69 q1 ?_
    refine z_iconst dX12_of_70 ki_2 ?_
    obtain ⟨q2, h⟩ := h
    refine z_iadd dX12_of_71 q2 ?_
    obtain ⟨q3, h⟩ := h
    refine y_iald (x := (M 248 ((4 * x1) + 2))) dX12_of_72 sh248 q3 rfl ?_
    exact z_ireturn dX12_of_73 (Or.inl rfl) rfl h
  · replace h := h.2.2.1 q
    refine y_tsw (tgt := 74) (k := 2) dX12_of_26 q (by decide) rfl rfl ?_
    refine z_aloadn dX12_of_74 rfl (Or.inl rfl) ?_
    refine y_getr (v := 248) hG dX12_of_75 fX12_56 sh234 (by decide) rfl (by decide +kernel) (by decide) ?_
    refine z_iconst dX12_of_78 ki_4 ?_
    refine z_iloadn dX12_of_79 rfl ?_
    obtain ⟨q4, h⟩ := h
    refine z_imul dX12_of_80 q4 ?_
    refine z_iconst dX12_of_81 ki_1 ?_
    obtain ⟨q5, h⟩ := h
    refine z_iadd dX12_of_82 q5 ?_
    obtain ⟨q6, h⟩ := h
    refine y_iald (x := (M 248 ((4 * x1) + 1))) dX12_of_83 sh248 q6 rfl ?_
    exact z_ireturn dX12_of_84 (Or.inl rfl) rfl h
  · replace h := h.2.2.2.1 q
    refine y_tsw (tgt := 85) (k := 3) dX12_of_26 q (by decide) rfl rfl ?_
    refine z_aloadn dX12_of_85 rfl (Or.inl rfl) ?_
    refine y_getr (v := 248) hG dX12_of_86 fX12_56 sh234 (by decide) rfl (by decide +kernel) (by decide) ?_
    refine z_iconst dX12_of_89 ki_4 ?_
    refine z_iloadn dX12_of_90 rfl ?_
    obtain ⟨q7, h⟩ := h
    refine z_imul dX12_of_91 q7 ?_
    obtain ⟨q8, h⟩ := h
    refine y_iald (x := (M 248 (4 * x1))) dX12_of_92 sh248 q8 rfl ?_
    exact z_ireturn dX12_of_93 (Or.inl rfl) rfl h
set_option maxRecDepth 20000 in
set_option maxHeartbeats 4000000 in
theorem bX12_of_61 {G : zG} {d : Nat} {M : zM} {Q : zV → zM → Prop} (hG : zP G) {x1 x2 x49 : Int}
    (h : Q (0, (zw x49)) M) :
    Y G (d + 2) mX12_of 61 [(2, 234), (0, x1), (0, x2)] [(1, x49)] M Q := by
  refine z_l2i dX12_of_61 ?_
  exact z_ireturn dX12_of_62 (Or.inl rfl) rfl h
set_option maxRecDepth 20000 in
set_option maxHeartbeats 4000000 in
theorem bX12_behind_0 {G : zG} {d : Nat} {M : zM} {Q : zV → zM → Prop} (hG : zP G) {x1 : Int}
    (h : Y G d mX12_behind 4 [(2, 234), (0, x1), (0, x1), (0, 1), (9, 0)] [] M Q) :
    Y G d mX12_behind 0 [(2, 234), (0, x1), (9, 0), (9, 0), (9, 0)] [] M Q := by
  refine z_iloadn dX12_behind_0 rfl ?_
  refine y_istoren (ls' := [(2, 234), (0, x1), (0, x1), (9, 0), (9, 0)]) dX12_behind_1 rfl rfl ?_
  refine z_iconst dX12_behind_2 ki_1 ?_
  refine y_istoren (ls' := [(2, 234), (0, x1), (0, x1), (0, 1), (9, 0)]) dX12_behind_3 rfl rfl ?_
  exact h
set_option maxRecDepth 20000 in
set_option maxHeartbeats 4000000 in
theorem bX12_behind_4 {G : zG} {d : Nat} {M : zM} {Q : zV → zM → Prop} (hG : zP G) {x1 x2 x3 : Int}
    (h : ((x3 ≤ 0 → Q (0, x2) M) ∧ (0 < x3 → (0 ≤ x2 ∧ x2 < 600) ∧ (-2147483648 ≤ x3 + (-1) ∧ x3 + (-1) ≤ 2147483647) ∧ (((M 251 x2) = 2 → Y G d mX12_behind 31 [(2, 234), (0, x1), (0, x2), (0, (x3 + (-1))), (0, (M 251 x2))] [] M Q) ∧ (¬ (M 251 x2) = 2 → ((¬ (M 251 x2) = 3 → (((M 251 x2) = 4 → Y G d mX12_behind 64 [(2, 234), (0, x1), (0, x2), (0, (x3 + (-1))), (0, (M 251 x2))] [] M Q) ∧ (¬ (M 251 x2) = 4 → (((M 251 x2) = 5 → Y G d mX12_behind 64 [(2, 234), (0, x1), (0, x2), (0, (x3 + (-1))), (0, (M 251 x2))] [] M Q) ∧ (¬ (M 251 x2) = 5 → (((M 251 x2) < 100 → (((M 251 x2) ≤ 5 → Y G d mX12_behind 89 [(2, 234), (0, x1), (0, x2), (0, (x3 + (-1))), (0, (M 251 x2))] [] M Q) ∧ (5 < (M 251 x2) → ((10 ≤ (M 251 x2) → Y G d mX12_behind 89 [(2, 234), (0, x1), (0, x2), (0, (x3 + (-1))), (0, (M 251 x2))] [] M Q) ∧ ((M 251 x2) < 10 → (-2147483648 ≤ (x3 + (-1)) + 2 ∧ (x3 + (-1)) + 2 ≤ 2147483647) ∧ Y G d mX12_behind 99 [(2, 234), (0, x1), (0, x2), (0, ((x3 + (-1)) + 2)), (0, (M 251 x2))] [] M Q))))) ∧ (100 ≤ (M 251 x2) → Y G d mX12_behind 64 [(2, 234), (0, x1), (0, x2), (0, (x3 + (-1))), (0, (M 251 x2))] [] M Q))))))) ∧ ((M 251 x2) = 3 → Y G d mX12_behind 31 [(2, 234), (0, x1), (0, x2), (0, (x3 + (-1))), (0, (M 251 x2))] [] M Q))))))) :
    Y G d mX12_behind 4 [(2, 234), (0, x1), (0, x2), (0, x3), (9, 0)] [] M Q := by
  refine z_iloadn dX12_behind_4 rfl ?_
  refine z_ifle (tgt := 123) dX12_behind_5 rfl (fun q => ?_) (fun q => ?_)
  · replace h := h.1 q
    refine z_iloadn dX12_behind_123 rfl ?_
    exact z_ireturn dX12_behind_124 (Or.inl rfl) rfl h
  · replace h := h.2 q
    refine z_aloadn dX12_behind_8 rfl (Or.inl rfl) ?_
    refine y_getr (v := 251) hG dX12_behind_9 fX12_66 sh234 (by decide) rfl (by decide +kernel) (by decide) ?_
    refine z_iloadn dX12_behind_12 rfl ?_
    obtain ⟨q1, h⟩ := h
    refine y_iald (x := (M 251 x2)) dX12_behind_13 sh251 q1 rfl ?_
    refine y_istore (ls' := [(2, 234), (0, x1), (0, x2), (0, x3), (0, (M 251 x2))]) dX12_behind_14 rfl rfl ?_
    obtain ⟨q2, h⟩ := h
    refine y_iinc (ls' := [(2, 234), (0, x1), (0, x2), (0, (x3 + (-1))), (0, (M 251 x2))]) dX12_behind_16 rfl rfl q2 rfl ?_
    refine z_iload dX12_behind_19 rfl ?_
    refine z_iconst dX12_behind_21 ki_2 ?_
    refine z_icmpeq (tgt := 31) dX12_behind_22 rfl (fun q => ?_) (fun q => ?_)
    · replace h := h.1 q
      exact h
    · replace h := h.2 q
      refine z_iload dX12_behind_25 rfl ?_
      refine z_iconst dX12_behind_27 ki_3 ?_
      refine z_icmpne (tgt := 45) dX12_behind_28 rfl (fun q => ?_) (fun q => ?_)
      · replace h := h.1 q
        refine z_iload dX12_behind_45 rfl ?_
        refine z_iconst dX12_behind_47 ki_4 ?_
        refine z_icmpeq (tgt := 64) dX12_behind_48 rfl (fun q => ?_) (fun q => ?_)
        · replace h := h.1 q
          exact h
        · replace h := h.2 q
          refine z_iload dX12_behind_51 rfl ?_
          refine z_iconst dX12_behind_53 ki_5 ?_
          refine z_icmpeq (tgt := 64) dX12_behind_54 rfl (fun q => ?_) (fun q => ?_)
          · replace h := h.1 q
            exact h
          · replace h := h.2 q
            refine z_iload dX12_behind_57 rfl ?_
            refine z_bipush dX12_behind_59 kb_100 ?_
            refine z_icmplt (tgt := 70) dX12_behind_61 rfl (fun q => ?_) (fun q => ?_)
            · replace h := h.1 q
              refine z_iload dX12_behind_70 rfl ?_
              refine z_iconst dX12_behind_72 ki_5 ?_
              refine z_icmple (tgt := 89) dX12_behind_73 rfl (fun q => ?_) (fun q => ?_)
              · replace h := h.1 q
                exact h
              · replace h := h.2 q
                refine z_iload dX12_behind_76 rfl ?_
                refine z_bipush dX12_behind_78 kb_10 ?_
                refine z_icmpge (tgt := 89) dX12_behind_80 rfl (fun q => ?_) (fun q => ?_)
                · replace h := h.1 q
                  exact h
                · replace h := h.2 q
                  obtain ⟨q3, h⟩ := h
                  refine y_iinc (ls' := [(2, 234), (0, x1), (0, x2), (0, ((x3 + (-1)) + 2)), (0, (M 251 x2))]) dX12_behind_83 rfl rfl q3 rfl ?_
                  refine z_goto (tgt := 99) dX12_behind_86 rfl ?_
                  exact h
            · replace h := h.2 q
              exact h
      · replace h := h.2 q
        exact h
set_option maxRecDepth 20000 in
set_option maxHeartbeats 4000000 in
theorem bX12_behind_31 {G : zG} {d : Nat} {M : zM} {Q : zV → zM → Prop} (hG : zP G) {x1 x2 x3 x4 : Int}
    (h : (-2147483648 ≤ x2 + 1 ∧ x2 + 1 ≤ 2147483647) ∧ (0 ≤ (x2 + 1) ∧ (x2 + 1) < 600) ∧ (-2147483648 ≤ x3 + (M 251 (x2 + 1)) ∧ x3 + (M 251 (x2 + 1)) ≤ 2147483647) ∧ Y G d mX12_behind 99 [(2, 234), (0, x1), (0, x2), (0, (x3 + (M 251 (x2 + 1)))), (0, x4)] [] M Q) :
    Y G d mX12_behind 31 [(2, 234), (0, x1), (0, x2), (0, x3), (0, x4)] [] M Q := by
  refine z_iloadn dX12_behind_31 rfl ?_
  refine z_aloadn dX12_behind_32 rfl (Or.inl rfl) ?_
  refine y_getr (v := 251) hG dX12_behind_33 fX12_66 sh234 (by decide) rfl (by decide +kernel) (by decide) ?_
  refine z_iloadn dX12_behind_36 rfl ?_
  refine z_iconst dX12_behind_37 ki_1 ?_
  obtain ⟨q1, h⟩ := h
  refine z_iadd dX12_behind_38 q1 ?_
  obtain ⟨q2, h⟩ := h
  refine y_iald (x := (M 251 (x2 + 1))) dX12_behind_39 sh251 q2 rfl ?_
  obtain ⟨q3, h⟩ := h
  refine z_iadd dX12_behind_40 q3 ?_
  refine y_istoren (ls' := [(2, 234), (0, x1), (0, x2), (0, (x3 + (M 251 (x2 + 1)))), (0, x4)]) dX12_behind_41 rfl rfl ?_
  refine z_goto (tgt := 99) dX12_behind_42 rfl ?_
  exact h
set_option maxRecDepth 20000 in
set_option maxHeartbeats 4000000 in
theorem bX12_behind_64 {G : zG} {d : Nat} {M : zM} {Q : zV → zM → Prop} (hG : zP G) {x1 x2 x3 x4 : Int}
    (h : (-2147483648 ≤ x3 + 1 ∧ x3 + 1 ≤ 2147483647) ∧ Y G d mX12_behind 99 [(2, 234), (0, x1), (0, x2), (0, (x3 + 1)), (0, x4)] [] M Q) :
    Y G d mX12_behind 64 [(2, 234), (0, x1), (0, x2), (0, x3), (0, x4)] [] M Q := by
  obtain ⟨q1, h⟩ := h
  refine y_iinc (ls' := [(2, 234), (0, x1), (0, x2), (0, (x3 + 1)), (0, x4)]) dX12_behind_64 rfl rfl q1 rfl ?_
  refine z_goto (tgt := 99) dX12_behind_67 rfl ?_
  exact h
set_option maxRecDepth 20000 in
set_option maxHeartbeats 4000000 in
theorem bX12_behind_89 {G : zG} {d : Nat} {M : zM} {Q : zV → zM → Prop} (hG : zP G) {x1 x2 x3 x4 : Int}
    (h : ((¬ x4 = 10 → Y G d mX12_behind 99 [(2, 234), (0, x1), (0, x2), (0, x3), (0, x4)] [] M Q) ∧ (x4 = 10 → (-2147483648 ≤ x3 + 4 ∧ x3 + 4 ≤ 2147483647) ∧ Y G d mX12_behind 99 [(2, 234), (0, x1), (0, x2), (0, (x3 + 4)), (0, x4)] [] M Q))) :
    Y G d mX12_behind 89 [(2, 234), (0, x1), (0, x2), (0, x3), (0, x4)] [] M Q := by
  refine z_iload dX12_behind_89 rfl ?_
  refine z_bipush dX12_behind_91 kb_10 ?_
  refine z_icmpne (tgt := 99) dX12_behind_93 rfl (fun q => ?_) (fun q => ?_)
  · replace h := h.1 q
    exact h
  · replace h := h.2 q
    obtain ⟨q1, h⟩ := h
    refine y_iinc (ls' := [(2, 234), (0, x1), (0, x2), (0, (x3 + 4)), (0, x4)]) dX12_behind_96 rfl rfl q1 rfl ?_
    exact h
set_option maxRecDepth 20000 in
set_option maxHeartbeats 4000000 in
theorem bX12_behind_99 {G : zG} {d : Nat} {M : zM} {Q : zV → zM → Prop} (hG : zP G) {x1 x2 x3 x4 : Int}
    (h : ((x4 < 4 → (-2147483648 ≤ x2 + 2 ∧ x2 + 2 ≤ 2147483647) ∧ Y G d mX12_behind 4 [(2, 234), (0, x1), (0, (x2 + 2)), (0, x3), (9, 0)] [] M Q) ∧ (4 ≤ x4 → ((¬ x4 = 10 → (-2147483648 ≤ x2 + 1 ∧ x2 + 1 ≤ 2147483647) ∧ Y G d mX12_behind 4 [(2, 234), (0, x1), (0, (x2 + 1)), (0, x3), (9, 0)] [] M Q) ∧ (x4 = 10 → (-2147483648 ≤ x2 + 2 ∧ x2 + 2 ≤ 2147483647) ∧ Y G d mX12_behind 4 [(2, 234), (0, x1), (0, (x2 + 2)), (0, x3), (9, 0)] [] M Q))))) :
    Y G d mX12_behind 99 [(2, 234), (0, x1), (0, x2), (0, x3), (0, x4)] [] M Q := by
  refine z_iloadn dX12_behind_99 rfl ?_
  refine z_iload dX12_behind_100 rfl ?_
  refine z_iconst dX12_behind_102 ki_4 ?_
  refine z_icmplt (tgt := 113) dX12_behind_103 rfl (fun q => ?_) (fun q => ?_)
  · replace h := h.1 q
    refine z_iconst dX12_behind_113 ki_2 ?_
    refine z_goto (tgt := 118) dX12_behind_114 rfl ?_
    obtain ⟨q1, h⟩ := h
    refine z_iadd dX12_behind_118 q1 ?_
    refine y_istoren (ls' := [(2, 234), (0, x1), (0, (x2 + 2)), (0, x3), (0, x4)]) dX12_behind_119 rfl rfl ?_
    refine z_goto (tgt := 4) dX12_behind_120 rfl ?_
    refine z_sub (ls' := [(2, 234), (0, x1), (0, (x2 + 2)), (0, x3), (9, 0)]) ⟨Or.inl rfl, Or.inl rfl, Or.inl rfl, Or.inl rfl, Or.inr rfl, trivial⟩ ?_
    exact h
  · replace h := h.2 q
    refine z_iload dX12_behind_106 rfl ?_
    refine z_bipush dX12_behind_108 kb_10 ?_
    refine z_icmpne (tgt := 117) dX12_behind_110 rfl (fun q => ?_) (fun q => ?_)
    · replace h := h.1 q
      refine z_iconst dX12_behind_117 ki_1 ?_
      obtain ⟨q2, h⟩ := h
      refine z_iadd dX12_behind_118 q2 ?_
      refine y_istoren (ls' := [(2, 234), (0, x1), (0, (x2 + 1)), (0, x3), (0, x4)]) dX12_behind_119 rfl rfl ?_
      refine z_goto (tgt := 4) dX12_behind_120 rfl ?_
      refine z_sub (ls' := [(2, 234), (0, x1), (0, (x2 + 1)), (0, x3), (9, 0)]) ⟨Or.inl rfl, Or.inl rfl, Or.inl rfl, Or.inl rfl, Or.inr rfl, trivial⟩ ?_
      exact h
    · replace h := h.2 q
      refine z_iconst dX12_behind_113 ki_2 ?_
      refine z_goto (tgt := 118) dX12_behind_114 rfl ?_
      obtain ⟨q3, h⟩ := h
      refine z_iadd dX12_behind_118 q3 ?_
      refine y_istoren (ls' := [(2, 234), (0, x1), (0, (x2 + 2)), (0, x3), (0, x4)]) dX12_behind_119 rfl rfl ?_
      refine z_goto (tgt := 4) dX12_behind_120 rfl ?_
      refine z_sub (ls' := [(2, 234), (0, x1), (0, (x2 + 2)), (0, x3), (9, 0)]) ⟨Or.inl rfl, Or.inl rfl, Or.inl rfl, Or.inl rfl, Or.inr rfl, trivial⟩ ?_
      exact h
set_option maxRecDepth 20000 in
set_option maxHeartbeats 4000000 in
theorem bX12_compared_0 {G : zG} {d : Nat} {M : zM} {Q : zV → zM → Prop} (hG : zP G) {x1 x2 x3 x4 : Int}
    (h : Y G d mX12_compared 3 [(2, 234), (0, x1), (0, x2), (0, x3), (0, x4), (0, 0)] [] M Q) :
    Y G d mX12_compared 0 [(2, 234), (0, x1), (0, x2), (0, x3), (0, x4), (9, 0)] [] M Q := by
  refine z_iconst dX12_compared_0 ki_0 ?_
  refine y_istore (ls' := [(2, 234), (0, x1), (0, x2), (0, x3), (0, x4), (0, 0)]) dX12_compared_1 rfl rfl ?_
  exact h
set_option maxRecDepth 20000 in
set_option maxHeartbeats 4000000 in
theorem bX12_compared_3 {G : zG} {d : Nat} {M : zM} {Q : zV → zM → Prop} (hG : zP G) {x1 x2 x3 x4 x5 : Int}
    (h : ((x2 ≤ x5 → (-2147483648 ≤ x2 - x4 ∧ x2 - x4 ≤ 2147483647) ∧ Q (0, (x2 - x4)) M) ∧ (x5 < x2 → ((x4 ≤ x5 → (-2147483648 ≤ x2 - x4 ∧ x2 - x4 ≤ 2147483647) ∧ Q (0, (x2 - x4)) M) ∧ (x5 < x4 → (-2147483648 ≤ x1 + x5 ∧ x1 + x5 ≤ 2147483647) ∧ (0 ≤ (x1 + x5) ∧ (x1 + x5) < 600) ∧ (-2147483648 ≤ x3 + x5 ∧ x3 + x5 ≤ 2147483647) ∧ (0 ≤ (x3 + x5) ∧ (x3 + x5) < 600) ∧ (((M 251 (x1 + x5)) = (M 251 (x3 + x5)) → (-2147483648 ≤ x5 + 1 ∧ x5 + 1 ≤ 2147483647) ∧ Y G d mX12_compared 3 [(2, 234), (0, x1), (0, x2), (0, x3), (0, x4), (0, (x5 + 1))] [] M Q) ∧ (¬ (M 251 (x1 + x5)) = (M 251 (x3 + x5)) → (-2147483648 ≤ x1 + x5 ∧ x1 + x5 ≤ 2147483647) ∧ (0 ≤ (x1 + x5) ∧ (x1 + x5) < 600) ∧ (-2147483648 ≤ x3 + x5 ∧ x3 + x5 ≤ 2147483647) ∧ (0 ≤ (x3 + x5) ∧ (x3 + x5) < 600) ∧ (((M 251 (x3 + x5)) ≤ (M 251 (x1 + x5)) → Q (0, 1) M) ∧ ((M 251 (x1 + x5)) < (M 251 (x3 + x5)) → Q (0, (-1)) M))))))))) :
    Y G d mX12_compared 3 [(2, 234), (0, x1), (0, x2), (0, x3), (0, x4), (0, x5)] [] M Q := by
  refine z_iload dX12_compared_3 rfl ?_
  refine z_iloadn dX12_compared_5 rfl ?_
  refine z_icmpge (tgt := 70) dX12_compared_6 rfl (fun q => ?_) (fun q => ?_)
  · replace h := h.1 q
    refine z_iloadn dX12_compared_70 rfl ?_
    refine z_iload dX12_compared_71 rfl ?_
    obtain ⟨q1, h⟩ := h
    refine z_isub dX12_compared_73 q1 ?_
    exact z_ireturn dX12_compared_74 (Or.inl rfl) rfl h
  · replace h := h.2 q
    refine z_iload dX12_compared_9 rfl ?_
    refine z_iload dX12_compared_11 rfl ?_
    refine z_icmpge (tgt := 70) dX12_compared_13 rfl (fun q => ?_) (fun q => ?_)
    · replace h := h.1 q
      refine z_iloadn dX12_compared_70 rfl ?_
      refine z_iload dX12_compared_71 rfl ?_
      obtain ⟨q2, h⟩ := h
      refine z_isub dX12_compared_73 q2 ?_
      exact z_ireturn dX12_compared_74 (Or.inl rfl) rfl h
    · replace h := h.2 q
      refine z_aloadn dX12_compared_16 rfl (Or.inl rfl) ?_
      refine y_getr (v := 251) hG dX12_compared_17 fX12_66 sh234 (by decide) rfl (by decide +kernel) (by decide) ?_
      refine z_iloadn dX12_compared_20 rfl ?_
      refine z_iload dX12_compared_21 rfl ?_
      obtain ⟨q3, h⟩ := h
      refine z_iadd dX12_compared_23 q3 ?_
      obtain ⟨q4, h⟩ := h
      refine y_iald (x := (M 251 (x1 + x5))) dX12_compared_24 sh251 q4 rfl ?_
      refine z_aloadn dX12_compared_25 rfl (Or.inl rfl) ?_
      refine y_getr (v := 251) hG dX12_compared_26 fX12_66 sh234 (by decide) rfl (by decide +kernel) (by decide) ?_
      refine z_iloadn dX12_compared_29 rfl ?_
      refine z_iload dX12_compared_30 rfl ?_
      obtain ⟨q5, h⟩ := h
      refine z_iadd dX12_compared_32 q5 ?_
      obtain ⟨q6, h⟩ := h
      refine y_iald (x := (M 251 (x3 + x5))) dX12_compared_33 sh251 q6 rfl ?_
      refine z_icmpeq (tgt := 64) dX12_compared_34 rfl (fun q => ?_) (fun q => ?_)
      · replace h := h.1 q
        obtain ⟨q7, h⟩ := h
        refine y_iinc (ls' := [(2, 234), (0, x1), (0, x2), (0, x3), (0, x4), (0, (x5 + 1))]) dX12_compared_64 rfl rfl q7 rfl ?_
        refine z_goto (tgt := 3) dX12_compared_67 rfl ?_
        exact h
      · replace h := h.2 q
        refine z_aloadn dX12_compared_37 rfl (Or.inl rfl) ?_
        refine y_getr (v := 251) hG dX12_compared_38 fX12_66 sh234 (by decide) rfl (by decide +kernel) (by decide) ?_
        refine z_iloadn dX12_compared_41 rfl ?_
        refine z_iload dX12_compared_42 rfl ?_
        obtain ⟨q8, h⟩ := h
        refine z_iadd dX12_compared_44 q8 ?_
        obtain ⟨q9, h⟩ := h
        refine y_iald (x := (M 251 (x1 + x5))) dX12_compared_45 sh251 q9 rfl ?_
        refine z_aloadn dX12_compared_46 rfl (Or.inl rfl) ?_
        refine y_getr (v := 251) hG dX12_compared_47 fX12_66 sh234 (by decide) rfl (by decide +kernel) (by decide) ?_
        refine z_iloadn dX12_compared_50 rfl ?_
        refine z_iload dX12_compared_51 rfl ?_
        obtain ⟨q10, h⟩ := h
        refine z_iadd dX12_compared_53 q10 ?_
        obtain ⟨q11, h⟩ := h
        refine y_iald (x := (M 251 (x3 + x5))) dX12_compared_54 sh251 q11 rfl ?_
        refine z_icmpge (tgt := 62) dX12_compared_55 rfl (fun q => ?_) (fun q => ?_)
        · replace h := h.1 q
          refine z_iconst dX12_compared_62 ki_1 ?_
          exact z_ireturn dX12_compared_63 (Or.inl rfl) rfl h
        · replace h := h.2 q
          refine z_iconst dX12_compared_58 ki_m1 ?_
          refine z_goto (tgt := 63) dX12_compared_59 rfl ?_
          exact z_ireturn dX12_compared_63 (Or.inl rfl) rfl h
set_option maxRecDepth 20000 in
set_option maxHeartbeats 4000000 in
theorem bX12_addTerm_0 {G : zG} {d : Nat} {M : zM} {Q : zV → zM → Prop} (hG : zP G) {x1 x2 x3 : Int}
    (h : (0 ≤ (M 234 40) ∧ (M 234 40) < 40) ∧ (0 ≤ (M 234 40) ∧ (M 234 40) < 40) ∧ (-2147483648 ≤ x3 - x2 ∧ x3 - x2 ≤ 2147483647) ∧ (0 ≤ (M 234 40) ∧ (M 234 40) < 40) ∧ (-2147483648 ≤ (M 234 40) + 1 ∧ (M 234 40) + 1 ≤ 2147483647) ∧ Q (9, 0) (zset (zset (zset (zset M 254 (M 234 40) x1) 255 (M 234 40) x2) 256 (M 234 40) (x3 - x2)) 234 40 ((M 234 40) + 1))) :
    Y G d mX12_addTerm 0 [(2, 234), (0, x1), (0, x2), (0, x3)] [] M Q := by
  refine z_aloadn dX12_addTerm_0 rfl (Or.inl rfl) ?_
  refine y_getr (v := 254) hG dX12_addTerm_1 fX12_75 sh234 (by decide) rfl (by decide +kernel) (by decide) ?_
  refine z_aloadn dX12_addTerm_4 rfl (Or.inl rfl) ?_
  refine y_getf (x := (M 234 40)) dX12_addTerm_5 fX12_403 sh234 (by decide) rfl rfl ?_
  refine z_iloadn dX12_addTerm_8 rfl ?_
  obtain ⟨q1, h⟩ := h
  refine y_iast hG dX12_addTerm_9 sh254 q1 ?_
  refine z_aloadn dX12_addTerm_10 rfl (Or.inl rfl) ?_
  refine y_getr (v := 255) hG dX12_addTerm_11 fX12_78 sh234 (by decide) rfl (by decide +kernel) (by decide) ?_
  refine z_aloadn dX12_addTerm_14 rfl (Or.inl rfl) ?_
  refine y_getf (x := (M 234 40)) dX12_addTerm_15 fX12_403 sh234 (by decide) rfl (zset_ne (fun q => absurd q.1 (by decide))) ?_
  refine z_iloadn dX12_addTerm_18 rfl ?_
  obtain ⟨q2, h⟩ := h
  refine y_iast hG dX12_addTerm_19 sh255 q2 ?_
  refine z_aloadn dX12_addTerm_20 rfl (Or.inl rfl) ?_
  refine y_getr (v := 256) hG dX12_addTerm_21 fX12_81 sh234 (by decide) rfl (by decide +kernel) (by decide) ?_
  refine z_aloadn dX12_addTerm_24 rfl (Or.inl rfl) ?_
  refine y_getf (x := (M 234 40)) dX12_addTerm_25 fX12_403 sh234 (by decide) rfl (((zset_ne (fun q => absurd q.1 (by decide))).trans (zset_ne (fun q => absurd q.1 (by decide))))) ?_
  refine z_iloadn dX12_addTerm_28 rfl ?_
  refine z_iloadn dX12_addTerm_29 rfl ?_
  obtain ⟨q3, h⟩ := h
  refine z_isub dX12_addTerm_30 q3 ?_
  obtain ⟨q4, h⟩ := h
  refine y_iast hG dX12_addTerm_31 sh256 q4 ?_
  refine z_aloadn dX12_addTerm_32 rfl (Or.inl rfl) ?_
  refine z_dup dX12_addTerm_33 (show (2 : Nat) ≠ 1 by decide) ?_
  refine y_getf (x := (M 234 40)) dX12_addTerm_34 fX12_403 sh234 (by decide) rfl (((zset_ne (fun q => absurd q.1 (by decide))).trans (((zset_ne (fun q => absurd q.1 (by decide))).trans (zset_ne (fun q => absurd q.1 (by decide))))))) ?_
  refine z_iconst dX12_addTerm_37 ki_1 ?_
  obtain ⟨q5, h⟩ := h
  refine z_iadd dX12_addTerm_38 q5 ?_
  refine y_putf (M' := zset (zset (zset (zset M 254 (M 234 40) x1) 255 (M 234 40) x2) 256 (M 234 40) (x3 - x2)) 234 40 ((M 234 40) + 1)) hG dX12_addTerm_39 fX12_403 sh234 (by decide) ⟨rfl, rfl⟩ p12_40 (fun q => absurd q (by decide)) (by decide) rfl ?_
  exact z_return dX12_addTerm_42 rfl rfl h
set_option maxRecDepth 20000 in
set_option maxHeartbeats 4000000 in
theorem bX12_findTerms_0 {G : zG} {d : Nat} {M : zM} {Q : zV → zM → Prop} (hG : zP G) {x1 x2 x3 x4 : Int}
    (h : Y G (d + 1) mX12_findTerms 8 [(2, 234), (0, x1), (0, x2), (0, x3), (0, x4), (0, 0), (9, 0), (9, 0), (9, 0), (9, 0), (9, 0), (9, 0), (9, 0)] [] (zset M 234 40 0) Q) :
    Y G (d + 1) mX12_findTerms 0 [(2, 234), (0, x1), (0, x2), (0, x3), (0, x4), (9, 0), (9, 0), (9, 0), (9, 0), (9, 0), (9, 0), (9, 0), (9, 0)] [] M Q := by
  refine z_aloadn dX12_findTerms_0 rfl (Or.inl rfl) ?_
  refine z_iconst dX12_findTerms_1 ki_0 ?_
  refine y_putf (M' := zset M 234 40 0) hG dX12_findTerms_2 fX12_403 sh234 (by decide) ⟨rfl, rfl⟩ p12_40 (fun q => absurd q (by decide)) (by decide) rfl ?_
  refine z_iconst dX12_findTerms_5 ki_0 ?_
  refine y_istore (ls' := [(2, 234), (0, x1), (0, x2), (0, x3), (0, x4), (0, 0), (9, 0), (9, 0), (9, 0), (9, 0), (9, 0), (9, 0), (9, 0)]) dX12_findTerms_6 rfl rfl ?_
  exact h
set_option maxRecDepth 20000 in
set_option maxHeartbeats 4000000 in
theorem bX12_findTerms_8 {G : zG} {d : Nat} {M : zM} {Q : zV → zM → Prop} (hG : zP G) {x1 x2 x3 x4 x5 : Int}
    (h : ((x2 ≤ x5 → Q (9, 0) M) ∧ (x5 < x2 → (-2147483648 ≤ (M 234 36) - x2 ∧ (M 234 36) - x2 ≤ 2147483647) ∧ (-2147483648 ≤ ((M 234 36) - x2) + x5 ∧ ((M 234 36) - x2) + x5 ≤ 2147483647) ∧ (0 ≤ (((M 234 36) - x2) + x5) ∧ (((M 234 36) - x2) + x5) < 130) ∧ (-2147483648 ≤ x2 - 1 ∧ x2 - 1 ≤ 2147483647) ∧ ((¬ x5 = (x2 - 1) → (-2147483648 ≤ (M 234 36) - x2 ∧ (M 234 36) - x2 ≤ 2147483647) ∧ (-2147483648 ≤ ((M 234 36) - x2) + x5 ∧ ((M 234 36) - x2) + x5 ≤ 2147483647) ∧ (-2147483648 ≤ (((M 234 36) - x2) + x5) + 1 ∧ (((M 234 36) - x2) + x5) + 1 ≤ 2147483647) ∧ (0 ≤ ((((M 234 36) - x2) + x5) + 1) ∧ ((((M 234 36) - x2) + x5) + 1) < 130) ∧ ((x4 = 0 → Y G d mX12_addTerm 0 [(2, 234), (0, (zand (zshr x3 x5) 1)), (0, (M 252 (((M 234 36) - x2) + x5))), (0, (M 252 ((((M 234 36) - x2) + x5) + 1)))] [] M (fun r M' => Y G (d + 1) mX12_findTerms 102 [(2, 234), (0, x1), (0, x2), (0, x3), (0, x4), (0, x5), (0, (M 252 (((M 234 36) - x2) + x5))), (0, (M 252 ((((M 234 36) - x2) + x5) + 1))), (0, (zand (zshr x3 x5) 1)), (9, 0), (9, 0), (9, 0), (9, 0)] (zpush r []) M' Q)) ∧ (¬ x4 = 0 → (0 ≤ (M 252 (((M 234 36) - x2) + x5)) ∧ (M 252 (((M 234 36) - x2) + x5)) < 600) ∧ (((M 251 (M 252 (((M 234 36) - x2) + x5))) = x1 → (-2147483648 ≤ (M 252 (((M 234 36) - x2) + x5)) + 2 ∧ (M 252 (((M 234 36) - x2) + x5)) + 2 ≤ 2147483647) ∧ Y G (d + 1) mX12_findTerms 114 [(2, 234), (0, x1), (0, x2), (0, x3), (0, x4), (0, x5), (0, (M 252 (((M 234 36) - x2) + x5))), (0, (M 252 ((((M 234 36) - x2) + x5) + 1))), (0, (zand (zshr x3 x5) 1)), (0, ((M 252 (((M 234 36) - x2) + x5)) + 2)), (0, 0), (9, 0), (9, 0)] [] M Q) ∧ (¬ (M 251 (M 252 (((M 234 36) - x2) + x5))) = x1 → Y G d mX12_addTerm 0 [(2, 234), (0, (zand (zshr x3 x5) 1)), (0, (M 252 (((M 234 36) - x2) + x5))), (0, (M 252 ((((M 234 36) - x2) + x5) + 1)))] [] M (fun r M' => Y G (d + 1) mX12_findTerms 102 [(2, 234), (0, x1), (0, x2), (0, x3), (0, x4), (0, x5), (0, (M 252 (((M 234 36) - x2) + x5))), (0, (M 252 ((((M 234 36) - x2) + x5) + 1))), (0, (zand (zshr x3 x5) 1)), (9, 0), (9, 0), (9, 0), (9, 0)] (zpush r []) M' Q)))))) ∧ (x5 = (x2 - 1) → (0 ≤ (M 234 36) ∧ (M 234 36) < 130) ∧ ((x4 = 0 → Y G d mX12_addTerm 0 [(2, 234), (0, (zand (zshr x3 x5) 1)), (0, (M 252 (((M 234 36) - x2) + x5))), (0, (M 252 (M 234 36)))] [] M (fun r M' => Y G (d + 1) mX12_findTerms 102 [(2, 234), (0, x1), (0, x2), (0, x3), (0, x4), (0, x5), (0, (M 252 (((M 234 36) - x2) + x5))), (0, (M 252 (M 234 36))), (0, (zand (zshr x3 x5) 1)), (9, 0), (9, 0), (9, 0), (9, 0)] (zpush r []) M' Q)) ∧ (¬ x4 = 0 → (0 ≤ (M 252 (((M 234 36) - x2) + x5)) ∧ (M 252 (((M 234 36) - x2) + x5)) < 600) ∧ (((M 251 (M 252 (((M 234 36) - x2) + x5))) = x1 → (-2147483648 ≤ (M 252 (((M 234 36) - x2) + x5)) + 2 ∧ (M 252 (((M 234 36) - x2) + x5)) + 2 ≤ 2147483647) ∧ Y G (d + 1) mX12_findTerms 114 [(2, 234), (0, x1), (0, x2), (0, x3), (0, x4), (0, x5), (0, (M 252 (((M 234 36) - x2) + x5))), (0, (M 252 (M 234 36))), (0, (zand (zshr x3 x5) 1)), (0, ((M 252 (((M 234 36) - x2) + x5)) + 2)), (0, 0), (9, 0), (9, 0)] [] M Q) ∧ (¬ (M 251 (M 252 (((M 234 36) - x2) + x5))) = x1 → Y G d mX12_addTerm 0 [(2, 234), (0, (zand (zshr x3 x5) 1)), (0, (M 252 (((M 234 36) - x2) + x5))), (0, (M 252 (M 234 36)))] [] M (fun r M' => Y G (d + 1) mX12_findTerms 102 [(2, 234), (0, x1), (0, x2), (0, x3), (0, x4), (0, x5), (0, (M 252 (((M 234 36) - x2) + x5))), (0, (M 252 (M 234 36))), (0, (zand (zshr x3 x5) 1)), (9, 0), (9, 0), (9, 0), (9, 0)] (zpush r []) M' Q)))))))))) :
    Y G (d + 1) mX12_findTerms 8 [(2, 234), (0, x1), (0, x2), (0, x3), (0, x4), (0, x5), (9, 0), (9, 0), (9, 0), (9, 0), (9, 0), (9, 0), (9, 0)] [] M Q := by
  refine z_iload dX12_findTerms_8 rfl ?_
  refine z_iloadn dX12_findTerms_10 rfl ?_
  refine z_icmpge (tgt := 198) dX12_findTerms_11 rfl (fun q => ?_) (fun q => ?_)
  · replace h := h.1 q
    exact z_return dX12_findTerms_198 rfl rfl h
  · replace h := h.2 q
    refine z_aloadn dX12_findTerms_14 rfl (Or.inl rfl) ?_
    refine y_getr (v := 252) hG dX12_findTerms_15 fX12_69 sh234 (by decide) rfl (by decide +kernel) (by decide) ?_
    refine z_aloadn dX12_findTerms_18 rfl (Or.inl rfl) ?_
    refine y_getf (x := (M 234 36)) dX12_findTerms_19 fX12_406 sh234 (by decide) rfl rfl ?_
    refine z_iloadn dX12_findTerms_22 rfl ?_
    obtain ⟨q1, h⟩ := h
    refine z_isub dX12_findTerms_23 q1 ?_
    refine z_iload dX12_findTerms_24 rfl ?_
    obtain ⟨q2, h⟩ := h
    refine z_iadd dX12_findTerms_26 q2 ?_
    obtain ⟨q3, h⟩ := h
    refine y_iald (x := (M 252 (((M 234 36) - x2) + x5))) dX12_findTerms_27 sh252 q3 rfl ?_
    refine y_istore (ls' := [(2, 234), (0, x1), (0, x2), (0, x3), (0, x4), (0, x5), (0, (M 252 (((M 234 36) - x2) + x5))), (9, 0), (9, 0), (9, 0), (9, 0), (9, 0), (9, 0)]) dX12_findTerms_28 rfl rfl ?_
    refine z_iload dX12_findTerms_30 rfl ?_
    refine z_iloadn dX12_findTerms_32 rfl ?_
    refine z_iconst dX12_findTerms_33 ki_1 ?_
    obtain ⟨q4, h⟩ := h
    refine z_isub dX12_findTerms_34 q4 ?_
    refine z_icmpne (tgt := 50) dX12_findTerms_35 rfl (fun q => ?_) (fun q => ?_)
    · replace h := h.1 q
      refine z_aloadn dX12_findTerms_50 rfl (Or.inl rfl) ?_
      refine y_getr (v := 252) hG dX12_findTerms_51 fX12_69 sh234 (by decide) rfl (by decide +kernel) (by decide) ?_
      refine z_aloadn dX12_findTerms_54 rfl (Or.inl rfl) ?_
      refine y_getf (x := (M 234 36)) dX12_findTerms_55 fX12_406 sh234 (by decide) rfl rfl ?_
      refine z_iloadn dX12_findTerms_58 rfl ?_
      obtain ⟨q5, h⟩ := h
      refine z_isub dX12_findTerms_59 q5 ?_
      refine z_iload dX12_findTerms_60 rfl ?_
      obtain ⟨q6, h⟩ := h
      refine z_iadd dX12_findTerms_62 q6 ?_
      refine z_iconst dX12_findTerms_63 ki_1 ?_
      obtain ⟨q7, h⟩ := h
      refine z_iadd dX12_findTerms_64 q7 ?_
      obtain ⟨q8, h⟩ := h
      refine y_iald (x := (M 252 ((((M 234 36) - x2) + x5) + 1))) dX12_findTerms_65 sh252 q8 rfl ?_
      refine y_istore (ls' := [(2, 234), (0, x1), (0, x2), (0, x3), (0, x4), (0, x5), (0, (M 252 (((M 234 36) - x2) + x5))), (0, (M 252 ((((M 234 36) - x2) + x5) + 1))), (9, 0), (9, 0), (9, 0), (9, 0), (9, 0)]) dX12_findTerms_66 rfl rfl ?_
      refine z_iloadn dX12_findTerms_68 rfl ?_
      refine z_iload dX12_findTerms_69 rfl ?_
      refine z_ishr dX12_findTerms_71 ?_
      refine z_iconst dX12_findTerms_72 ki_1 ?_
      refine z_iand dX12_findTerms_73 ?_
      refine y_istore (ls' := [(2, 234), (0, x1), (0, x2), (0, x3), (0, x4), (0, x5), (0, (M 252 (((M 234 36) - x2) + x5))), (0, (M 252 ((((M 234 36) - x2) + x5) + 1))), (0, (zand (zshr x3 x5) 1)), (9, 0), (9, 0), (9, 0), (9, 0)]) dX12_findTerms_74 rfl rfl ?_
      refine z_iload dX12_findTerms_76 rfl ?_
      refine z_ifeq (tgt := 92) dX12_findTerms_78 rfl (fun q => ?_) (fun q => ?_)
      · replace h := h.1 q
        refine z_aloadn dX12_findTerms_92 rfl (Or.inl rfl) ?_
        refine z_iload dX12_findTerms_93 rfl ?_
        refine z_iload dX12_findTerms_95 rfl ?_
        refine z_iload dX12_findTerms_97 rfl ?_
        refine y_cv (mt2 := mX12_addTerm) (en := [(2, 234), (0, (zand (zshr x3 x5) 1)), (0, (M 252 (((M 234 36) - x2) + x5))), (0, (M 252 ((((M 234 36) - x2) + x5) + 1)))]) (st := []) (as := [(0, (zand (zshr x3 x5) 1)), (0, (M 252 (((M 234 36) - x2) + x5))), (0, (M 252 ((((M 234 36) - x2) + x5) + 1)))]) dX12_findTerms_99 lX12_409 kX12_addTerm iX12_addTerm eX12_addTerm rfl sh234 (by decide +kernel) (Nat.le_of_ble_eq_true rfl) (Nat.le_of_ble_eq_true rfl) rfl ?_
        exact h
      · replace h := h.2 q
        refine z_aloadn dX12_findTerms_81 rfl (Or.inl rfl) ?_
        refine y_getr (v := 251) hG dX12_findTerms_82 fX12_66 sh234 (by decide) rfl (by decide +kernel) (by decide) ?_
        refine z_iload dX12_findTerms_85 rfl ?_
        obtain ⟨q9, h⟩ := h
        refine y_iald (x := (M 251 (M 252 (((M 234 36) - x2) + x5)))) dX12_findTerms_87 sh251 q9 rfl ?_
        refine z_iloadn dX12_findTerms_88 rfl ?_
        refine z_icmpeq (tgt := 105) dX12_findTerms_89 rfl (fun q => ?_) (fun q => ?_)
        · replace h := h.1 q
          refine z_iload dX12_findTerms_105 rfl ?_
          refine z_iconst dX12_findTerms_107 ki_2 ?_
          obtain ⟨q10, h⟩ := h
          refine z_iadd dX12_findTerms_108 q10 ?_
          refine y_istore (ls' := [(2, 234), (0, x1), (0, x2), (0, x3), (0, x4), (0, x5), (0, (M 252 (((M 234 36) - x2) + x5))), (0, (M 252 ((((M 234 36) - x2) + x5) + 1))), (0, (zand (zshr x3 x5) 1)), (0, ((M 252 (((M 234 36) - x2) + x5)) + 2)), (9, 0), (9, 0), (9, 0)]) dX12_findTerms_109 rfl rfl ?_
          refine z_iconst dX12_findTerms_111 ki_0 ?_
          refine y_istore (ls' := [(2, 234), (0, x1), (0, x2), (0, x3), (0, x4), (0, x5), (0, (M 252 (((M 234 36) - x2) + x5))), (0, (M 252 ((((M 234 36) - x2) + x5) + 1))), (0, (zand (zshr x3 x5) 1)), (0, ((M 252 (((M 234 36) - x2) + x5)) + 2)), (0, 0), (9, 0), (9, 0)]) dX12_findTerms_112 rfl rfl ?_
          exact h
        · replace h := h.2 q
          refine z_aloadn dX12_findTerms_92 rfl (Or.inl rfl) ?_
          refine z_iload dX12_findTerms_93 rfl ?_
          refine z_iload dX12_findTerms_95 rfl ?_
          refine z_iload dX12_findTerms_97 rfl ?_
          refine y_cv (mt2 := mX12_addTerm) (en := [(2, 234), (0, (zand (zshr x3 x5) 1)), (0, (M 252 (((M 234 36) - x2) + x5))), (0, (M 252 ((((M 234 36) - x2) + x5) + 1)))]) (st := []) (as := [(0, (zand (zshr x3 x5) 1)), (0, (M 252 (((M 234 36) - x2) + x5))), (0, (M 252 ((((M 234 36) - x2) + x5) + 1)))]) dX12_findTerms_99 lX12_409 kX12_addTerm iX12_addTerm eX12_addTerm rfl sh234 (by decide +kernel) (Nat.le_of_ble_eq_true rfl) (Nat.le_of_ble_eq_true rfl) rfl ?_
          exact h
    · replace h := h.2 q
      refine z_aloadn dX12_findTerms_38 rfl (Or.inl rfl) ?_
      refine y_getr (v := 252) hG dX12_findTerms_39 fX12_69 sh234 (by decide) rfl (by decide +kernel) (by decide) ?_
      refine z_aloadn dX12_findTerms_42 rfl (Or.inl rfl) ?_
      refine y_getf (x := (M 234 36)) dX12_findTerms_43 fX12_406 sh234 (by decide) rfl rfl ?_
      obtain ⟨q11, h⟩ := h
      refine y_iald (x := (M 252 (M 234 36))) dX12_findTerms_46 sh252 q11 rfl ?_
      refine z_goto (tgt := 66) dX12_findTerms_47 rfl ?_
      refine y_istore (ls' := [(2, 234), (0, x1), (0, x2), (0, x3), (0, x4), (0, x5), (0, (M 252 (((M 234 36) - x2) + x5))), (0, (M 252 (M 234 36))), (9, 0), (9, 0), (9, 0), (9, 0), (9, 0)]) dX12_findTerms_66 rfl rfl ?_
      refine z_iloadn dX12_findTerms_68 rfl ?_
      refine z_iload dX12_findTerms_69 rfl ?_
      refine z_ishr dX12_findTerms_71 ?_
      refine z_iconst dX12_findTerms_72 ki_1 ?_
      refine z_iand dX12_findTerms_73 ?_
      refine y_istore (ls' := [(2, 234), (0, x1), (0, x2), (0, x3), (0, x4), (0, x5), (0, (M 252 (((M 234 36) - x2) + x5))), (0, (M 252 (M 234 36))), (0, (zand (zshr x3 x5) 1)), (9, 0), (9, 0), (9, 0), (9, 0)]) dX12_findTerms_74 rfl rfl ?_
      refine z_iload dX12_findTerms_76 rfl ?_
      refine z_ifeq (tgt := 92) dX12_findTerms_78 rfl (fun q => ?_) (fun q => ?_)
      · replace h := h.1 q
        refine z_aloadn dX12_findTerms_92 rfl (Or.inl rfl) ?_
        refine z_iload dX12_findTerms_93 rfl ?_
        refine z_iload dX12_findTerms_95 rfl ?_
        refine z_iload dX12_findTerms_97 rfl ?_
        refine y_cv (mt2 := mX12_addTerm) (en := [(2, 234), (0, (zand (zshr x3 x5) 1)), (0, (M 252 (((M 234 36) - x2) + x5))), (0, (M 252 (M 234 36)))]) (st := []) (as := [(0, (zand (zshr x3 x5) 1)), (0, (M 252 (((M 234 36) - x2) + x5))), (0, (M 252 (M 234 36)))]) dX12_findTerms_99 lX12_409 kX12_addTerm iX12_addTerm eX12_addTerm rfl sh234 (by decide +kernel) (Nat.le_of_ble_eq_true rfl) (Nat.le_of_ble_eq_true rfl) rfl ?_
        exact h
      · replace h := h.2 q
        refine z_aloadn dX12_findTerms_81 rfl (Or.inl rfl) ?_
        refine y_getr (v := 251) hG dX12_findTerms_82 fX12_66 sh234 (by decide) rfl (by decide +kernel) (by decide) ?_
        refine z_iload dX12_findTerms_85 rfl ?_
        obtain ⟨q12, h⟩ := h
        refine y_iald (x := (M 251 (M 252 (((M 234 36) - x2) + x5)))) dX12_findTerms_87 sh251 q12 rfl ?_
        refine z_iloadn dX12_findTerms_88 rfl ?_
        refine z_icmpeq (tgt := 105) dX12_findTerms_89 rfl (fun q => ?_) (fun q => ?_)
        · replace h := h.1 q
          refine z_iload dX12_findTerms_105 rfl ?_
          refine z_iconst dX12_findTerms_107 ki_2 ?_
          obtain ⟨q13, h⟩ := h
          refine z_iadd dX12_findTerms_108 q13 ?_
          refine y_istore (ls' := [(2, 234), (0, x1), (0, x2), (0, x3), (0, x4), (0, x5), (0, (M 252 (((M 234 36) - x2) + x5))), (0, (M 252 (M 234 36))), (0, (zand (zshr x3 x5) 1)), (0, ((M 252 (((M 234 36) - x2) + x5)) + 2)), (9, 0), (9, 0), (9, 0)]) dX12_findTerms_109 rfl rfl ?_
          refine z_iconst dX12_findTerms_111 ki_0 ?_
          refine y_istore (ls' := [(2, 234), (0, x1), (0, x2), (0, x3), (0, x4), (0, x5), (0, (M 252 (((M 234 36) - x2) + x5))), (0, (M 252 (M 234 36))), (0, (zand (zshr x3 x5) 1)), (0, ((M 252 (((M 234 36) - x2) + x5)) + 2)), (0, 0), (9, 0), (9, 0)]) dX12_findTerms_112 rfl rfl ?_
          exact h
        · replace h := h.2 q
          refine z_aloadn dX12_findTerms_92 rfl (Or.inl rfl) ?_
          refine z_iload dX12_findTerms_93 rfl ?_
          refine z_iload dX12_findTerms_95 rfl ?_
          refine z_iload dX12_findTerms_97 rfl ?_
          refine y_cv (mt2 := mX12_addTerm) (en := [(2, 234), (0, (zand (zshr x3 x5) 1)), (0, (M 252 (((M 234 36) - x2) + x5))), (0, (M 252 (M 234 36)))]) (st := []) (as := [(0, (zand (zshr x3 x5) 1)), (0, (M 252 (((M 234 36) - x2) + x5))), (0, (M 252 (M 234 36)))]) dX12_findTerms_99 lX12_409 kX12_addTerm iX12_addTerm eX12_addTerm rfl sh234 (by decide +kernel) (Nat.le_of_ble_eq_true rfl) (Nat.le_of_ble_eq_true rfl) rfl ?_
          exact h
set_option maxRecDepth 20000 in
set_option maxHeartbeats 4000000 in
theorem bX12_findTerms_114 {G : zG} {d : Nat} {M : zM} {Q : zV → zM → Prop} (hG : zP G) {x1 x2 x3 x4 x5 x6 x7 x8 x9 x10 : Int}
    (h : (-2147483648 ≤ x6 + 1 ∧ x6 + 1 ≤ 2147483647) ∧ (0 ≤ (x6 + 1) ∧ (x6 + 1) < 600) ∧ (((M 251 (x6 + 1)) ≤ x10 → (-2147483648 ≤ x5 + 1 ∧ x5 + 1 ≤ 2147483647) ∧ Y G (d + 1) mX12_findTerms 8 [(2, 234), (0, x1), (0, x2), (0, x3), (0, x4), (0, (x5 + 1)), (9, 0), (9, 0), (9, 0), (9, 0), (9, 0), (9, 0), (9, 0)] [] M Q) ∧ (x10 < (M 251 (x6 + 1)) → ((¬ x1 = 2 → ((¬ x1 = 2 → Y G d mX12_behind 0 [(2, 234), (0, x9), (9, 0), (9, 0), (9, 0)] [] M (fun r M' => Y G (d + 1) mX12_findTerms 171 [(2, 234), (0, x1), (0, x2), (0, x3), (0, x4), (0, x5), (0, x6), (0, x7), (0, x8), (0, x9), (0, x10), (0, 0), (0, x9)] (zpush r []) M' Q)) ∧ (x1 = 2 → (-2147483648 ≤ x9 + 1 ∧ x9 + 1 ≤ 2147483647) ∧ Y G d mX12_behind 0 [(2, 234), (0, (x9 + 1)), (9, 0), (9, 0), (9, 0)] [] M (fun r M' => Y G (d + 1) mX12_findTerms 171 [(2, 234), (0, x1), (0, x2), (0, x3), (0, x4), (0, x5), (0, x6), (0, x7), (0, x8), (0, x9), (0, x10), (0, 0), (0, (x9 + 1))] (zpush r []) M' Q)))) ∧ (x1 = 2 → (0 ≤ x9 ∧ x9 < 600) ∧ (-2147483648 ≤ (M 251 x9) - 100 ∧ (M 251 x9) - 100 ≤ 2147483647) ∧ ((¬ x1 = 2 → Y G d mX12_behind 0 [(2, 234), (0, x9), (9, 0), (9, 0), (9, 0)] [] M (fun r M' => Y G (d + 1) mX12_findTerms 171 [(2, 234), (0, x1), (0, x2), (0, x3), (0, x4), (0, x5), (0, x6), (0, x7), (0, x8), (0, x9), (0, x10), (0, ((M 251 x9) - 100)), (0, x9)] (zpush r []) M' Q)) ∧ (x1 = 2 → (-2147483648 ≤ x9 + 1 ∧ x9 + 1 ≤ 2147483647) ∧ Y G d mX12_behind 0 [(2, 234), (0, (x9 + 1)), (9, 0), (9, 0), (9, 0)] [] M (fun r M' => Y G (d + 1) mX12_findTerms 171 [(2, 234), (0, x1), (0, x2), (0, x3), (0, x4), (0, x5), (0, x6), (0, x7), (0, x8), (0, x9), (0, x10), (0, ((M 251 x9) - 100)), (0, (x9 + 1))] (zpush r []) M' Q)))))))) :
    Y G (d + 1) mX12_findTerms 114 [(2, 234), (0, x1), (0, x2), (0, x3), (0, x4), (0, x5), (0, x6), (0, x7), (0, x8), (0, x9), (0, x10), (9, 0), (9, 0)] [] M Q := by
  refine z_iload dX12_findTerms_114 rfl ?_
  refine z_aloadn dX12_findTerms_116 rfl (Or.inl rfl) ?_
  refine y_getr (v := 251) hG dX12_findTerms_117 fX12_66 sh234 (by decide) rfl (by decide +kernel) (by decide) ?_
  refine z_iload dX12_findTerms_120 rfl ?_
  refine z_iconst dX12_findTerms_122 ki_1 ?_
  obtain ⟨q1, h⟩ := h
  refine z_iadd dX12_findTerms_123 q1 ?_
  obtain ⟨q2, h⟩ := h
  refine y_iald (x := (M 251 (x6 + 1))) dX12_findTerms_124 sh251 q2 rfl ?_
  refine z_icmpge (tgt := 192) dX12_findTerms_125 rfl (fun q => ?_) (fun q => ?_)
  · replace h := h.1 q
    obtain ⟨q3, h⟩ := h
    refine y_iinc (ls' := [(2, 234), (0, x1), (0, x2), (0, x3), (0, x4), (0, (x5 + 1)), (0, x6), (0, x7), (0, x8), (0, x9), (0, x10), (9, 0), (9, 0)]) dX12_findTerms_192 rfl rfl q3 rfl ?_
    refine z_goto (tgt := 8) dX12_findTerms_195 rfl ?_
    refine z_sub (ls' := [(2, 234), (0, x1), (0, x2), (0, x3), (0, x4), (0, (x5 + 1)), (9, 0), (9, 0), (9, 0), (9, 0), (9, 0), (9, 0), (9, 0)]) ⟨Or.inl rfl, Or.inl rfl, Or.inl rfl, Or.inl rfl, Or.inl rfl, Or.inl rfl, Or.inr rfl, Or.inr rfl, Or.inr rfl, Or.inr rfl, Or.inr rfl, Or.inl rfl, Or.inl rfl, trivial⟩ ?_
    exact h
  · replace h := h.2 q
    refine z_iloadn dX12_findTerms_128 rfl ?_
    refine z_iconst dX12_findTerms_129 ki_2 ?_
    refine z_icmpne (tgt := 146) dX12_findTerms_130 rfl (fun q => ?_) (fun q => ?_)
    · replace h := h.1 q
      refine z_iconst dX12_findTerms_146 ki_0 ?_
      refine y_istore (ls' := [(2, 234), (0, x1), (0, x2), (0, x3), (0, x4), (0, x5), (0, x6), (0, x7), (0, x8), (0, x9), (0, x10), (0, 0), (9, 0)]) dX12_findTerms_147 rfl rfl ?_
      refine z_iloadn dX12_findTerms_149 rfl ?_
      refine z_iconst dX12_findTerms_150 ki_2 ?_
      refine z_icmpne (tgt := 161) dX12_findTerms_151 rfl (fun q => ?_) (fun q => ?_)
      · replace h := h.1 q
        refine z_iload dX12_findTerms_161 rfl ?_
        refine y_istore (ls' := [(2, 234), (0, x1), (0, x2), (0, x3), (0, x4), (0, x5), (0, x6), (0, x7), (0, x8), (0, x9), (0, x10), (0, 0), (0, x9)]) dX12_findTerms_163 rfl rfl ?_
        refine z_aloadn dX12_findTerms_165 rfl (Or.inl rfl) ?_
        refine z_iload dX12_findTerms_166 rfl ?_
        refine y_cv (mt2 := mX12_behind) (en := [(2, 234), (0, x9), (9, 0), (9, 0), (9, 0)]) (st := []) (as := [(0, x9)]) dX12_findTerms_168 lX12_413 kX12_behind iX12_behind eX12_behind rfl sh234 (by decide +kernel) (Nat.le_of_ble_eq_true rfl) (Nat.le_of_ble_eq_true rfl) rfl ?_
        exact h
      · replace h := h.2 q
        refine z_iload dX12_findTerms_154 rfl ?_
        refine z_iconst dX12_findTerms_156 ki_1 ?_
        obtain ⟨q4, h⟩ := h
        refine z_iadd dX12_findTerms_157 q4 ?_
        refine z_goto (tgt := 163) dX12_findTerms_158 rfl ?_
        refine y_istore (ls' := [(2, 234), (0, x1), (0, x2), (0, x3), (0, x4), (0, x5), (0, x6), (0, x7), (0, x8), (0, x9), (0, x10), (0, 0), (0, (x9 + 1))]) dX12_findTerms_163 rfl rfl ?_
        refine z_aloadn dX12_findTerms_165 rfl (Or.inl rfl) ?_
        refine z_iload dX12_findTerms_166 rfl ?_
        refine y_cv (mt2 := mX12_behind) (en := [(2, 234), (0, (x9 + 1)), (9, 0), (9, 0), (9, 0)]) (st := []) (as := [(0, (x9 + 1))]) dX12_findTerms_168 lX12_413 kX12_behind iX12_behind eX12_behind rfl sh234 (by decide +kernel) (Nat.le_of_ble_eq_true rfl) (Nat.le_of_ble_eq_true rfl) rfl ?_
        exact h
    · replace h := h.2 q
      refine z_aloadn dX12_findTerms_133 rfl (Or.inl rfl) ?_
      refine y_getr (v := 251) hG dX12_findTerms_134 fX12_66 sh234 (by decide) rfl (by decide +kernel) (by decide) ?_
      refine z_iload dX12_findTerms_137 rfl ?_
      obtain ⟨q5, h⟩ := h
      refine y_iald (x := (M 251 x9)) dX12_findTerms_139 sh251 q5 rfl ?_
      refine z_bipush dX12_findTerms_140 kb_100 ?_
      obtain ⟨q6, h⟩ := h
      refine z_isub dX12_findTerms_142 q6 ?_
      refine z_goto (tgt := 147) dX12_findTerms_143 rfl ?_
      refine y_istore (ls' := [(2, 234), (0, x1), (0, x2), (0, x3), (0, x4), (0, x5), (0, x6), (0, x7), (0, x8), (0, x9), (0, x10), (0, ((M 251 x9) - 100)), (9, 0)]) dX12_findTerms_147 rfl rfl ?_
      refine z_iloadn dX12_findTerms_149 rfl ?_
      refine z_iconst dX12_findTerms_150 ki_2 ?_
      refine z_icmpne (tgt := 161) dX12_findTerms_151 rfl (fun q => ?_) (fun q => ?_)
      · replace h := h.1 q
        refine z_iload dX12_findTerms_161 rfl ?_
        refine y_istore (ls' := [(2, 234), (0, x1), (0, x2), (0, x3), (0, x4), (0, x5), (0, x6), (0, x7), (0, x8), (0, x9), (0, x10), (0, ((M 251 x9) - 100)), (0, x9)]) dX12_findTerms_163 rfl rfl ?_
        refine z_aloadn dX12_findTerms_165 rfl (Or.inl rfl) ?_
        refine z_iload dX12_findTerms_166 rfl ?_
        refine y_cv (mt2 := mX12_behind) (en := [(2, 234), (0, x9), (9, 0), (9, 0), (9, 0)]) (st := []) (as := [(0, x9)]) dX12_findTerms_168 lX12_413 kX12_behind iX12_behind eX12_behind rfl sh234 (by decide +kernel) (Nat.le_of_ble_eq_true rfl) (Nat.le_of_ble_eq_true rfl) rfl ?_
        exact h
      · replace h := h.2 q
        refine z_iload dX12_findTerms_154 rfl ?_
        refine z_iconst dX12_findTerms_156 ki_1 ?_
        obtain ⟨q7, h⟩ := h
        refine z_iadd dX12_findTerms_157 q7 ?_
        refine z_goto (tgt := 163) dX12_findTerms_158 rfl ?_
        refine y_istore (ls' := [(2, 234), (0, x1), (0, x2), (0, x3), (0, x4), (0, x5), (0, x6), (0, x7), (0, x8), (0, x9), (0, x10), (0, ((M 251 x9) - 100)), (0, (x9 + 1))]) dX12_findTerms_163 rfl rfl ?_
        refine z_aloadn dX12_findTerms_165 rfl (Or.inl rfl) ?_
        refine z_iload dX12_findTerms_166 rfl ?_
        refine y_cv (mt2 := mX12_behind) (en := [(2, 234), (0, (x9 + 1)), (9, 0), (9, 0), (9, 0)]) (st := []) (as := [(0, (x9 + 1))]) dX12_findTerms_168 lX12_413 kX12_behind iX12_behind eX12_behind rfl sh234 (by decide +kernel) (Nat.le_of_ble_eq_true rfl) (Nat.le_of_ble_eq_true rfl) rfl ?_
        exact h
set_option maxRecDepth 20000 in
set_option maxHeartbeats 4000000 in
theorem bX12_findTerms_102 {G : zG} {d : Nat} {M : zM} {Q : zV → zM → Prop} (hG : zP G) {x1 x2 x3 x4 x5 x6 x7 x8 : Int}
    (h : (-2147483648 ≤ x5 + 1 ∧ x5 + 1 ≤ 2147483647) ∧ Y G (d + 1) mX12_findTerms 8 [(2, 234), (0, x1), (0, x2), (0, x3), (0, x4), (0, (x5 + 1)), (9, 0), (9, 0), (9, 0), (9, 0), (9, 0), (9, 0), (9, 0)] [] M Q) :
    Y G (d + 1) mX12_findTerms 102 [(2, 234), (0, x1), (0, x2), (0, x3), (0, x4), (0, x5), (0, x6), (0, x7), (0, x8), (9, 0), (9, 0), (9, 0), (9, 0)] [] M Q := by
  refine z_goto (tgt := 192) dX12_findTerms_102 rfl ?_
  obtain ⟨q1, h⟩ := h
  refine y_iinc (ls' := [(2, 234), (0, x1), (0, x2), (0, x3), (0, x4), (0, (x5 + 1)), (0, x6), (0, x7), (0, x8), (9, 0), (9, 0), (9, 0), (9, 0)]) dX12_findTerms_192 rfl rfl q1 rfl ?_
  refine z_goto (tgt := 8) dX12_findTerms_195 rfl ?_
  refine z_sub (ls' := [(2, 234), (0, x1), (0, x2), (0, x3), (0, x4), (0, (x5 + 1)), (9, 0), (9, 0), (9, 0), (9, 0), (9, 0), (9, 0), (9, 0)]) ⟨Or.inl rfl, Or.inl rfl, Or.inl rfl, Or.inl rfl, Or.inl rfl, Or.inl rfl, Or.inr rfl, Or.inr rfl, Or.inr rfl, Or.inl rfl, Or.inl rfl, Or.inl rfl, Or.inl rfl, trivial⟩ ?_
  exact h
set_option maxRecDepth 20000 in
set_option maxHeartbeats 4000000 in
theorem bX12_findTerms_171 {G : zG} {d : Nat} {M : zM} {Q : zV → zM → Prop} (hG : zP G) {x1 x2 x3 x4 x5 x6 x7 x8 x9 x10 x11 x12 x49 : Int}
    (h : Y G d mX12_addTerm 0 [(2, 234), (0, (zxor x8 x11)), (0, x12), (0, x49)] [] M (fun r M' => Y G (d + 1) mX12_findTerms 186 [(2, 234), (0, x1), (0, x2), (0, x3), (0, x4), (0, x5), (0, x6), (0, x7), (0, x8), (0, x49), (0, x10), (0, x11), (0, x12)] (zpush r []) M' Q)) :
    Y G (d + 1) mX12_findTerms 171 [(2, 234), (0, x1), (0, x2), (0, x3), (0, x4), (0, x5), (0, x6), (0, x7), (0, x8), (0, x9), (0, x10), (0, x11), (0, x12)] [(0, x49)] M Q := by
  refine y_istore (ls' := [(2, 234), (0, x1), (0, x2), (0, x3), (0, x4), (0, x5), (0, x6), (0, x7), (0, x8), (0, x49), (0, x10), (0, x11), (0, x12)]) dX12_findTerms_171 rfl rfl ?_
  refine z_aloadn dX12_findTerms_173 rfl (Or.inl rfl) ?_
  refine z_iload dX12_findTerms_174 rfl ?_
  refine z_iload dX12_findTerms_176 rfl ?_
  refine z_ixor dX12_findTerms_178 ?_
  refine z_iload dX12_findTerms_179 rfl ?_
  refine z_iload dX12_findTerms_181 rfl ?_
  refine y_cv (mt2 := mX12_addTerm) (en := [(2, 234), (0, (zxor x8 x11)), (0, x12), (0, x49)]) (st := []) (as := [(0, (zxor x8 x11)), (0, x12), (0, x49)]) dX12_findTerms_183 lX12_409 kX12_addTerm iX12_addTerm eX12_addTerm rfl sh234 (by decide +kernel) (Nat.le_of_ble_eq_true rfl) (Nat.le_of_ble_eq_true rfl) rfl ?_
  exact h
set_option maxRecDepth 20000 in
set_option maxHeartbeats 4000000 in
theorem bX12_findTerms_186 {G : zG} {d : Nat} {M : zM} {Q : zV → zM → Prop} (hG : zP G) {x1 x2 x3 x4 x5 x6 x7 x8 x9 x10 x11 x12 : Int}
    (h : (-2147483648 ≤ x10 + 1 ∧ x10 + 1 ≤ 2147483647) ∧ Y G (d + 1) mX12_findTerms 114 [(2, 234), (0, x1), (0, x2), (0, x3), (0, x4), (0, x5), (0, x6), (0, x7), (0, x8), (0, x9), (0, (x10 + 1)), (9, 0), (9, 0)] [] M Q) :
    Y G (d + 1) mX12_findTerms 186 [(2, 234), (0, x1), (0, x2), (0, x3), (0, x4), (0, x5), (0, x6), (0, x7), (0, x8), (0, x9), (0, x10), (0, x11), (0, x12)] [] M Q := by
  obtain ⟨q1, h⟩ := h
  refine y_iinc (ls' := [(2, 234), (0, x1), (0, x2), (0, x3), (0, x4), (0, x5), (0, x6), (0, x7), (0, x8), (0, x9), (0, (x10 + 1)), (0, x11), (0, x12)]) dX12_findTerms_186 rfl rfl q1 rfl ?_
  refine z_goto (tgt := 114) dX12_findTerms_189 rfl ?_
  refine z_sub (ls' := [(2, 234), (0, x1), (0, x2), (0, x3), (0, x4), (0, x5), (0, x6), (0, x7), (0, x8), (0, x9), (0, (x10 + 1)), (9, 0), (9, 0)]) ⟨Or.inl rfl, Or.inl rfl, Or.inl rfl, Or.inl rfl, Or.inl rfl, Or.inl rfl, Or.inl rfl, Or.inl rfl, Or.inl rfl, Or.inl rfl, Or.inl rfl, Or.inr rfl, Or.inr rfl, trivial⟩ ?_
  exact h
