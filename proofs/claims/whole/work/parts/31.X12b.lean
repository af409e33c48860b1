set_option maxRecDepth 20000 in
set_option maxHeartbeats 4000000 in
theorem bX12_tell_0 {G : zG} {d : Nat} {M : zM} {Q : zV → zM → Prop} (hG : zP G) {x1 x2 : Int}
    (h : ((¬ x1 = (-1) → (-1000 ≤ (M 235 0) ∧ (M 235 0) ≤ 1000) ∧ ((0 ≤ x1 ∧ x1 < (M 235 0) → (((-1000000) ≤ x2 ∧ x2 ≤ 1000000 → ((¬ (M 235 8) = 12 → (-2147483648 ≤ 2 * (M 235 8) ∧ 2 * (M 235 8) ≤ 2147483647) ∧ (-2147483648 ≤ 132 + (2 * (M 235 8)) ∧ 132 + (2 * (M 235 8)) ≤ 2147483647) ∧ (0 ≤ (132 + (2 * (M 235 8))) ∧ (132 + (2 * (M 235 8))) < 156) ∧ (¬ 8 = (132 + (2 * (M 235 8)))) ∧ (-2147483648 ≤ 2 * (M 235 8) ∧ 2 * (M 235 8) ≤ 2147483647) ∧ (-2147483648 ≤ 132 + (2 * (M 235 8)) ∧ 132 + (2 * (M 235 8)) ≤ 2147483647) ∧ (-2147483648 ≤ (132 + (2 * (M 235 8))) + 1 ∧ (132 + (2 * (M 235 8))) + 1 ≤ 2147483647) ∧ (0 ≤ ((132 + (2 * (M 235 8))) + 1) ∧ ((132 + (2 * (M 235 8))) + 1) < 156) ∧ (¬ 8 = ((132 + (2 * (M 235 8))) + 1)) ∧ (¬ 8 = (132 + (2 * (M 235 8)))) ∧ (-2147483648 ≤ (M 235 8) + 1 ∧ (M 235 8) + 1 ≤ 2147483647) ∧ Q (0, ((M 235 8) + 1)) (zset (zset (zset M 235 (132 + (2 * (M 235 8))) x1) 235 ((132 + (2 * (M 235 8))) + 1) x2) 235 8 ((M 235 8) + 1))) ∧ ((M 235 8) = 12 → Q (0, (-2)) M))) ∧ (¬ ((-1000000) ≤ x2 ∧ x2 ≤ 1000000) → Q (0, (-2)) M))) ∧ (¬ (0 ≤ x1 ∧ x1 < (M 235 0)) → Q (0, (-2)) M))) ∧ (x1 = (-1) → Q (0, 0) (zset M 235 8 0)))) :
    Y G (d + 2) mX12_tell 0 [(2, 234), (0, x1), (0, x2)] [] M Q := by
  refine z_iloadn dX12_tell_0 rfl ?_
  refine z_iconst dX12_tell_1 ki_m1 ?_
  refine z_icmpne (tgt := 15) dX12_tell_2 rfl (fun q => ?_) (fun q => ?_)
  · replace h := h.1 q
    refine z_aloadn dX12_tell_15 rfl (Or.inl rfl) ?_
    refine z_iloadn dX12_tell_16 rfl ?_
    obtain ⟨q1, h⟩ := h
    refine y_cv (mt2 := mX12_isQuestion) (en := [(2, 234), (0, x1)]) (st := []) (as := [(0, x1)]) dX12_tell_17 lX12_392 kX12_isQuestion iX12_isQuestion eX12_isQuestion rfl sh234 (by decide +kernel) (Nat.le_of_ble_eq_true rfl) (Nat.le_of_ble_eq_true rfl) rfl (s_misQuestion hG rfl q1 (fun q => ?_) (fun q => ?_))
    · replace h := h.1 q
      show Y G (d + 2) mX12_tell 20 [(2, 234), (0, x1), (0, x2)] [(0, 1)] M Q
      refine z_ifeq (tgt := 48) dX12_tell_20 rfl (fun q => absurd q (by decide)) (fun _ => ?_)
      refine z_iloadn dX12_tell_23 rfl ?_
      refine z_ldcw (k := (-1000000)) (v := (-1000000)) dX12_tell_24 ⟨by decide, ⟨by decide, by decide⟩⟩ qX12_367 ?_
      refine z_ldcw (k := 1000000) (v := 1000000) dX12_tell_27 ⟨by decide, ⟨by decide, by decide⟩⟩ qX12_368 ?_
      refine y_cs (mt2 := mX12_isIn) (en := [(0, x2), (0, (-1000000)), (0, 1000000)]) (st := []) (as := [(0, x2), (0, (-1000000)), (0, 1000000)]) dX12_tell_30 lX12_126 kX12_isIn tX12_isIn rfl (Nat.le_of_ble_eq_true rfl) (Nat.le_of_ble_eq_true rfl) rfl (s_isIn hG (fun q => ?_) (fun q => ?_))
      · replace h := h.1 q
        show Y G (d + 2) mX12_tell 33 [(2, 234), (0, x1), (0, x2)] [(0, 1)] M Q
        refine z_ifeq (tgt := 48) dX12_tell_33 rfl (fun q => absurd q (by decide)) (fun _ => ?_)
        refine z_aloadn dX12_tell_36 rfl (Or.inl rfl) ?_
        refine y_getr (v := 235) hG dX12_tell_37 fX12_7 sh234 (by decide) rfl (by decide +kernel) (by decide) ?_
        refine z_bipush dX12_tell_40 kb_8 ?_
        refine y_iald (x := (M 235 8)) dX12_tell_42 sh235 ⟨by decide, by decide⟩ rfl ?_
        refine z_bipush dX12_tell_43 kb_12 ?_
        refine z_icmpne (tgt := 51) dX12_tell_45 rfl (fun q => ?_) (fun q => ?_)
        · replace h := h.1 q
          refine z_aloadn dX12_tell_51 rfl (Or.inl rfl) ?_
          refine y_getr (v := 235) hG dX12_tell_52 fX12_7 sh234 (by decide) rfl (by decide +kernel) (by decide) ?_
          refine z_sipush dX12_tell_55 ks_132 ?_
          refine z_iconst dX12_tell_58 ki_2 ?_
          refine z_aloadn dX12_tell_59 rfl (Or.inl rfl) ?_
          refine y_getr (v := 235) hG dX12_tell_60 fX12_7 sh234 (by decide) rfl (by decide +kernel) (by decide) ?_
          refine z_bipush dX12_tell_63 kb_8 ?_
          refine y_iald (x := (M 235 8)) dX12_tell_65 sh235 ⟨by decide, by decide⟩ rfl ?_
          obtain ⟨q2, h⟩ := h
          refine z_imul dX12_tell_66 q2 ?_
          obtain ⟨q3, h⟩ := h
          refine z_iadd dX12_tell_67 q3 ?_
          refine z_iloadn dX12_tell_68 rfl ?_
          obtain ⟨q4, h⟩ := h
          refine y_iast hG dX12_tell_69 sh235 q4 ?_
          refine z_aloadn dX12_tell_70 rfl (Or.inl rfl) ?_
          refine y_getr (v := 235) hG dX12_tell_71 fX12_7 sh234 (by decide) rfl (by decide +kernel) (by decide) ?_
          refine z_sipush dX12_tell_74 ks_132 ?_
          refine z_iconst dX12_tell_77 ki_2 ?_
          refine z_aloadn dX12_tell_78 rfl (Or.inl rfl) ?_
          refine y_getr (v := 235) hG dX12_tell_79 fX12_7 sh234 (by decide) rfl (by decide +kernel) (by decide) ?_
          refine z_bipush dX12_tell_82 kb_8 ?_
          obtain ⟨q5, h⟩ := h
          refine y_iald (x := (M 235 8)) dX12_tell_84 sh235 ⟨by decide, by decide⟩ (zset_ne (fun q => absurd q.2 q5)) ?_
          obtain ⟨q6, h⟩ := h
          refine z_imul dX12_tell_85 q6 ?_
          obtain ⟨q7, h⟩ := h
          refine z_iadd dX12_tell_86 q7 ?_
          refine z_iconst dX12_tell_87 ki_1 ?_
          obtain ⟨q8, h⟩ := h
          refine z_iadd dX12_tell_88 q8 ?_
          refine z_iloadn dX12_tell_89 rfl ?_
          obtain ⟨q9, h⟩ := h
          refine y_iast hG dX12_tell_90 sh235 q9 ?_
          refine z_aloadn dX12_tell_91 rfl (Or.inl rfl) ?_
          refine y_getr (v := 235) hG dX12_tell_92 fX12_7 sh234 (by decide) rfl (by decide +kernel) (by decide) ?_
          refine z_bipush dX12_tell_95 kb_8 ?_
          refine z_dup2 dX12_tell_97 (show (0 : Nat) ≠ 1 by decide) (show (2 : Nat) ≠ 1 by decide) ?_
          obtain ⟨q10, h⟩ := h
          obtain ⟨q11, h⟩ := h
          refine y_iald (x := (M 235 8)) dX12_tell_98 sh235 ⟨by decide, by decide⟩ (((zset_ne (fun q => absurd q.2 q10)).trans (zset_ne (fun q => absurd q.2 q11)))) ?_
          refine z_iconst dX12_tell_99 ki_1 ?_
          obtain ⟨q12, h⟩ := h
          refine z_iadd dX12_tell_100 q12 ?_
          refine y_iast hG dX12_tell_101 sh235 ⟨by decide, by decide⟩ ?_
          refine z_aloadn dX12_tell_102 rfl (Or.inl rfl) ?_
          refine y_getr (v := 235) hG dX12_tell_103 fX12_7 sh234 (by decide) rfl (by decide +kernel) (by decide) ?_
          refine z_bipush dX12_tell_106 kb_8 ?_
          refine y_iald (x := ((M 235 8) + 1)) dX12_tell_108 sh235 ⟨by decide, by decide⟩ zset_same ?_
          exact z_ireturn dX12_tell_109 (Or.inl rfl) rfl h
        · replace h := h.2 q
          refine z_bipush dX12_tell_48 kb_m2 ?_
          exact z_ireturn dX12_tell_50 (Or.inl rfl) rfl h
      · replace h := h.2 q
        show Y G (d + 2) mX12_tell 33 [(2, 234), (0, x1), (0, x2)] [(0, 0)] M Q
        refine z_ifeq (tgt := 48) dX12_tell_33 rfl (fun _ => ?_) (fun q => absurd q (by decide))
        refine z_bipush dX12_tell_48 kb_m2 ?_
        exact z_ireturn dX12_tell_50 (Or.inl rfl) rfl h
    · replace h := h.2 q
      show Y G (d + 2) mX12_tell 20 [(2, 234), (0, x1), (0, x2)] [(0, 0)] M Q
      refine z_ifeq (tgt := 48) dX12_tell_20 rfl (fun _ => ?_) (fun q => absurd q (by decide))
      refine z_bipush dX12_tell_48 kb_m2 ?_
      exact z_ireturn dX12_tell_50 (Or.inl rfl) rfl h
  · replace h := h.2 q
    refine z_aloadn dX12_tell_5 rfl (Or.inl rfl) ?_
    refine y_getr (v := 235) hG dX12_tell_6 fX12_7 sh234 (by decide) rfl (by decide +kernel) (by decide) ?_
    refine z_bipush dX12_tell_9 kb_8 ?_
    refine z_iconst dX12_tell_11 ki_0 ?_
    refine y_iast hG dX12_tell_12 sh235 ⟨by decide, by decide⟩ ?_
    refine z_iconst dX12_tell_13 ki_0 ?_
    exact z_ireturn dX12_tell_14 (Or.inl rfl) rfl h
set_option maxRecDepth 20000 in
set_option maxHeartbeats 4000000 in
theorem bX12_lies_0 {G : zG} {d : Nat} {M : zM} {Q : zV → zM → Prop} (hG : zP G)
    (h : Y G d mX12_worldNow 0 [(2, 234), (9, 0)] [] M (fun r M' => Y G (d + 1) mX12_lies 4 [(2, 234), (9, 0), (9, 0)] (zpush r []) M' Q)) :
    Y G (d + 1) mX12_lies 0 [(2, 234), (9, 0), (9, 0)] [] M Q := by
  refine z_aloadn dX12_lies_0 rfl (Or.inl rfl) ?_
  refine y_cv (mt2 := mX12_worldNow) (en := [(2, 234), (9, 0)]) (st := []) (as := []) dX12_lies_1 lX12_396 kX12_worldNow iX12_worldNow eX12_worldNow rfl sh234 (by decide +kernel) (Nat.le_of_ble_eq_true rfl) (Nat.le_of_ble_eq_true rfl) rfl ?_
  exact h
set_option maxRecDepth 20000 in
set_option maxHeartbeats 4000000 in
theorem bX12_lies_8 {G : zG} {d : Nat} {M : zM} {Q : zV → zM → Prop} (hG : zP G) {x1 x2 : Int}
    (h : (((M 235 8) ≤ x2 → Q (0, x1) M) ∧ (x2 < (M 235 8) → (-2147483648 ≤ 2 * x2 ∧ 2 * x2 ≤ 2147483647) ∧ (-2147483648 ≤ 132 + (2 * x2) ∧ 132 + (2 * x2) ≤ 2147483647) ∧ (0 ≤ (132 + (2 * x2)) ∧ (132 + (2 * x2)) < 156) ∧ Y G d mX12_answerOf 0 [(2, 234), (0, (M 235 (132 + (2 * x2)))), (9, 0), (9, 0), (9, 0), (9, 0), (9, 0), (9, 0), (9, 0), (9, 0)] [] M (fun r M' => Y G (d + 1) mX12_lies 36 [(2, 234), (0, x1), (0, x2)] (zpush r [(0, x1)]) M' Q)))) :
    Y G (d + 1) mX12_lies 8 [(2, 234), (0, x1), (0, x2)] [] M Q := by
  refine z_iloadn dX12_lies_8 rfl ?_
  refine z_aloadn dX12_lies_9 rfl (Or.inl rfl) ?_
  refine y_getr (v := 235) hG dX12_lies_10 fX12_7 sh234 (by decide) rfl (by decide +kernel) (by decide) ?_
  refine z_bipush dX12_lies_13 kb_8 ?_
  refine y_iald (x := (M 235 8)) dX12_lies_15 sh235 ⟨by decide, by decide⟩ rfl ?_
  refine z_icmpge (tgt := 70) dX12_lies_16 rfl (fun q => ?_) (fun q => ?_)
  · replace h := h.1 q
    refine z_iloadn dX12_lies_70 rfl ?_
    exact z_ireturn dX12_lies_71 (Or.inl rfl) rfl h
  · replace h := h.2 q
    refine z_iloadn dX12_lies_19 rfl ?_
    refine z_aloadn dX12_lies_20 rfl (Or.inl rfl) ?_
    refine z_aloadn dX12_lies_21 rfl (Or.inl rfl) ?_
    refine y_getr (v := 235) hG dX12_lies_22 fX12_7 sh234 (by decide) rfl (by decide +kernel) (by decide) ?_
    refine z_sipush dX12_lies_25 ks_132 ?_
    refine z_iconst dX12_lies_28 ki_2 ?_
    refine z_iloadn dX12_lies_29 rfl ?_
    obtain ⟨q1, h⟩ := h
    refine z_imul dX12_lies_30 q1 ?_
    obtain ⟨q2, h⟩ := h
    refine z_iadd dX12_lies_31 q2 ?_
    obtain ⟨q3, h⟩ := h
    refine y_iald (x := (M 235 (132 + (2 * x2)))) dX12_lies_32 sh235 q3 rfl ?_
    refine y_cv (mt2 := mX12_answerOf) (en := [(2, 234), (0, (M 235 (132 + (2 * x2)))), (9, 0), (9, 0), (9, 0), (9, 0), (9, 0), (9, 0), (9, 0), (9, 0)]) (st := [(0, x1)]) (as := [(0, (M 235 (132 + (2 * x2))))]) dX12_lies_33 lX12_399 kX12_answerOf iX12_answerOf eX12_answerOf rfl sh234 (by decide +kernel) (Nat.le_of_ble_eq_true rfl) (Nat.le_of_ble_eq_true rfl) rfl ?_
    exact h
set_option maxRecDepth 20000 in
set_option maxHeartbeats 4000000 in
theorem bX12_lies_4 {G : zG} {d : Nat} {M : zM} {Q : zV → zM → Prop} (hG : zP G)
    (h : Y G (d + 1) mX12_lies 8 [(2, 234), (0, 0), (0, 0)] [] M Q) :
    Y G (d + 1) mX12_lies 4 [(2, 234), (9, 0), (9, 0)] [] M Q := by
  refine z_iconst dX12_lies_4 ki_0 ?_
  refine y_istoren (ls' := [(2, 234), (0, 0), (9, 0)]) dX12_lies_5 rfl rfl ?_
  refine z_iconst dX12_lies_6 ki_0 ?_
  refine y_istoren (ls' := [(2, 234), (0, 0), (0, 0)]) dX12_lies_7 rfl rfl ?_
  exact h
set_option maxRecDepth 20000 in
set_option maxHeartbeats 4000000 in
theorem bX12_lies_36 {G : zG} {d : Nat} {M : zM} {Q : zV → zM → Prop} (hG : zP G) {x1 x2 x49 x50 : Int}
    (h : (-2147483648 ≤ 2 * x2 ∧ 2 * x2 ≤ 2147483647) ∧ (-2147483648 ≤ 132 + (2 * x2) ∧ 132 + (2 * x2) ≤ 2147483647) ∧ (-2147483648 ≤ (132 + (2 * x2)) + 1 ∧ (132 + (2 * x2)) + 1 ≤ 2147483647) ∧ (0 ≤ ((132 + (2 * x2)) + 1) ∧ ((132 + (2 * x2)) + 1) < 156) ∧ (((zlcmp x49 (M 235 ((132 + (2 * x2)) + 1))) = 0 → (-2147483648 ≤ x2 + 1 ∧ x2 + 1 ≤ 2147483647) ∧ Y G (d + 1) mX12_lies 8 [(2, 234), (0, (zor x50 0)), (0, (x2 + 1))] [] M Q) ∧ (¬ (zlcmp x49 (M 235 ((132 + (2 * x2)) + 1))) = 0 → (-2147483648 ≤ x2 + 1 ∧ x2 + 1 ≤ 2147483647) ∧ Y G (d + 1) mX12_lies 8 [(2, 234), (0, (zor x50 (zshl 1 x2))), (0, (x2 + 1))] [] M Q))) :
    Y G (d + 1) mX12_lies 36 [(2, 234), (0, x1), (0, x2)] [(1, x49), (0, x50)] M Q := by
  refine z_aloadn dX12_lies_36 rfl (Or.inl rfl) ?_
  refine y_getr (v := 235) hG dX12_lies_37 fX12_7 sh234 (by decide) rfl (by decide +kernel) (by decide) ?_
  refine z_sipush dX12_lies_40 ks_132 ?_
  refine z_iconst dX12_lies_43 ki_2 ?_
  refine z_iloadn dX12_lies_44 rfl ?_
  obtain ⟨q1, h⟩ := h
  refine z_imul dX12_lies_45 q1 ?_
  obtain ⟨q2, h⟩ := h
  refine z_iadd dX12_lies_46 q2 ?_
  refine z_iconst dX12_lies_47 ki_1 ?_
  obtain ⟨q3, h⟩ := h
  refine z_iadd dX12_lies_48 q3 ?_
  obtain ⟨q4, h⟩ := h
  refine y_iald (x := (M 235 ((132 + (2 * x2)) + 1))) dX12_lies_49 sh235 q4 rfl ?_
  refine z_i2l dX12_lies_50 ?_
  refine z_lcmp dX12_lies_51 ?_
  refine z_ifeq (tgt := 61) dX12_lies_52 rfl (fun q => ?_) (fun q => ?_)
  · replace h := h.1 q
    refine z_iconst dX12_lies_61 ki_0 ?_
    refine z_ior dX12_lies_62 ?_
    refine y_istoren (ls' := [(2, 234), (0, (zor x50 0)), (0, x2)]) dX12_lies_63 rfl rfl ?_
    obtain ⟨q5, h⟩ := h
    refine y_iinc (ls' := [(2, 234), (0, (zor x50 0)), (0, (x2 + 1))]) dX12_lies_64 rfl rfl q5 rfl ?_
    refine z_goto (tgt := 8) dX12_lies_67 rfl ?_
    exact h
  · replace h := h.2 q
    refine z_iconst dX12_lies_55 ki_1 ?_
    refine z_iloadn dX12_lies_56 rfl ?_
    refine z_ishl dX12_lies_57 ?_
    refine z_goto (tgt := 62) dX12_lies_58 rfl ?_
    refine z_ior dX12_lies_62 ?_
    refine y_istoren (ls' := [(2, 234), (0, (zor x50 (zshl 1 x2))), (0, x2)]) dX12_lies_63 rfl rfl ?_
    obtain ⟨q6, h⟩ := h
    refine y_iinc (ls' := [(2, 234), (0, (zor x50 (zshl 1 x2))), (0, (x2 + 1))]) dX12_lies_64 rfl rfl q6 rfl ?_
    refine z_goto (tgt := 8) dX12_lies_67 rfl ?_
    exact h
set_option maxRecDepth 20000 in
set_option maxHeartbeats 4000000 in
theorem bX12_clash_0 {G : zG} {d : Nat} {M : zM} {Q : zV → zM → Prop} (hG : zP G)
    (h : Y G (d + 1) mX12_clash 2 [(2, 234), (0, 0), (9, 0)] [] M Q) :
    Y G (d + 1) mX12_clash 0 [(2, 234), (9, 0), (9, 0)] [] M Q := by
  refine z_iconst dX12_clash_0 ki_0 ?_
  refine y_istoren (ls' := [(2, 234), (0, 0), (9, 0)]) dX12_clash_1 rfl rfl ?_
  exact h
set_option maxRecDepth 20000 in
set_option maxHeartbeats 4000000 in
theorem bX12_clash_2 {G : zG} {d : Nat} {M : zM} {Q : zV → zM → Prop} (hG : zP G) {x1 : Int}
    (h : (((M 235 8) ≤ x1 → Q (0, (-1)) M) ∧ (x1 < (M 235 8) → Y G (d + 1) mX12_clash 15 [(2, 234), (0, x1), (0, 0)] [] M Q))) :
    Y G (d + 1) mX12_clash 2 [(2, 234), (0, x1), (9, 0)] [] M Q := by
  refine z_iloadn dX12_clash_2 rfl ?_
  refine z_aloadn dX12_clash_3 rfl (Or.inl rfl) ?_
  refine y_getr (v := 235) hG dX12_clash_4 fX12_7 sh234 (by decide) rfl (by decide +kernel) (by decide) ?_
  refine z_bipush dX12_clash_7 kb_8 ?_
  refine y_iald (x := (M 235 8)) dX12_clash_9 sh235 ⟨by decide, by decide⟩ rfl ?_
  refine z_icmpge (tgt := 110) dX12_clash_10 rfl (fun q => ?_) (fun q => ?_)
  · replace h := h.1 q
    refine z_iconst dX12_clash_110 ki_m1 ?_
    exact z_ireturn dX12_clash_111 (Or.inl rfl) rfl h
  · replace h := h.2 q
    refine z_iconst dX12_clash_13 ki_0 ?_
    refine y_istoren (ls' := [(2, 234), (0, x1), (0, 0)]) dX12_clash_14 rfl rfl ?_
    exact h
set_option maxRecDepth 20000 in
set_option maxHeartbeats 4000000 in
theorem bX12_clash_15 {G : zG} {d : Nat} {M : zM} {Q : zV → zM → Prop} (hG : zP G) {x1 x2 : Int}
    (h : ((x1 ≤ x2 → (-2147483648 ≤ x1 + 1 ∧ x1 + 1 ≤ 2147483647) ∧ Y G (d + 1) mX12_clash 2 [(2, 234), (0, (x1 + 1)), (9, 0)] [] M Q) ∧ (x2 < x1 → (-2147483648 ≤ 2 * x2 ∧ 2 * x2 ≤ 2147483647) ∧ (-2147483648 ≤ 132 + (2 * x2) ∧ 132 + (2 * x2) ≤ 2147483647) ∧ (-2147483648 ≤ (132 + (2 * x2)) + 1 ∧ (132 + (2 * x2)) + 1 ≤ 2147483647) ∧ (0 ≤ ((132 + (2 * x2)) + 1) ∧ ((132 + (2 * x2)) + 1) < 156) ∧ (-2147483648 ≤ 2 * x1 ∧ 2 * x1 ≤ 2147483647) ∧ (-2147483648 ≤ 132 + (2 * x1) ∧ 132 + (2 * x1) ≤ 2147483647) ∧ (-2147483648 ≤ (132 + (2 * x1)) + 1 ∧ (132 + (2 * x1)) + 1 ≤ 2147483647) ∧ (0 ≤ ((132 + (2 * x1)) + 1) ∧ ((132 + (2 * x1)) + 1) < 156) ∧ ((¬ (M 235 ((132 + (2 * x2)) + 1)) = (M 235 ((132 + (2 * x1)) + 1)) → (-2147483648 ≤ 2 * x2 ∧ 2 * x2 ≤ 2147483647) ∧ (-2147483648 ≤ 132 + (2 * x2) ∧ 132 + (2 * x2) ≤ 2147483647) ∧ (0 ≤ (132 + (2 * x2)) ∧ (132 + (2 * x2)) < 156) ∧ (-2147483648 ≤ 2 * x1 ∧ 2 * x1 ≤ 2147483647) ∧ (-2147483648 ≤ 132 + (2 * x1) ∧ 132 + (2 * x1) ≤ 2147483647) ∧ (0 ≤ (132 + (2 * x1)) ∧ (132 + (2 * x1)) < 156) ∧ Y G d mX12_isAlike 0 [(2, 234), (0, (M 235 (132 + (2 * x2)))), (0, (M 235 (132 + (2 * x1)))), (0, (M 235 4)), (9, 0), (9, 0)] [] M (fun r M' => Y G (d + 1) mX12_clash 88 [(2, 234), (0, x1), (0, x2)] (zpush r []) M' Q)) ∧ ((M 235 ((132 + (2 * x2)) + 1)) = (M 235 ((132 + (2 * x1)) + 1)) → (-2147483648 ≤ x2 + 1 ∧ x2 + 1 ≤ 2147483647) ∧ Y G (d + 1) mX12_clash 15 [(2, 234), (0, x1), (0, (x2 + 1))] [] M Q))))) :
    Y G (d + 1) mX12_clash 15 [(2, 234), (0, x1), (0, x2)] [] M Q := by
  refine z_iloadn dX12_clash_15 rfl ?_
  refine z_iloadn dX12_clash_16 rfl ?_
  refine z_icmpge (tgt := 104) dX12_clash_17 rfl (fun q => ?_) (fun q => ?_)
  · replace h := h.1 q
    obtain ⟨q1, h⟩ := h
    refine y_iinc (ls' := [(2, 234), (0, (x1 + 1)), (0, x2)]) dX12_clash_104 rfl rfl q1 rfl ?_
    refine z_goto (tgt := 2) dX12_clash_107 rfl ?_
    refine z_sub (ls' := [(2, 234), (0, (x1 + 1)), (9, 0)]) ⟨Or.inl rfl, Or.inl rfl, Or.inr rfl, trivial⟩ ?_
    exact h
  · replace h := h.2 q
    refine z_aloadn dX12_clash_20 rfl (Or.inl rfl) ?_
    refine y_getr (v := 235) hG dX12_clash_21 fX12_7 sh234 (by decide) rfl (by decide +kernel) (by decide) ?_
    refine z_sipush dX12_clash_24 ks_132 ?_
    refine z_iconst dX12_clash_27 ki_2 ?_
    refine z_iloadn dX12_clash_28 rfl ?_
    obtain ⟨q2, h⟩ := h
    refine z_imul dX12_clash_29 q2 ?_
    obtain ⟨q3, h⟩ := h
    refine z_iadd dX12_clash_30 q3 ?_
    refine z_iconst dX12_clash_31 ki_1 ?_
    obtain ⟨q4, h⟩ := h
    refine z_iadd dX12_clash_32 q4 ?_
    obtain ⟨q5, h⟩ := h
    refine y_iald (x := (M 235 ((132 + (2 * x2)) + 1))) dX12_clash_33 sh235 q5 rfl ?_
    refine z_aloadn dX12_clash_34 rfl (Or.inl rfl) ?_
    refine y_getr (v := 235) hG dX12_clash_35 fX12_7 sh234 (by decide) rfl (by decide +kernel) (by decide) ?_
    refine z_sipush dX12_clash_38 ks_132 ?_
    refine z_iconst dX12_clash_41 ki_2 ?_
    refine z_iloadn dX12_clash_42 rfl ?_
    obtain ⟨q6, h⟩ := h
    refine z_imul dX12_clash_43 q6 ?_
    obtain ⟨q7, h⟩ := h
    refine z_iadd dX12_clash_44 q7 ?_
    refine z_iconst dX12_clash_45 ki_1 ?_
    obtain ⟨q8, h⟩ := h
    refine z_iadd dX12_clash_46 q8 ?_
    obtain ⟨q9, h⟩ := h
    refine y_iald (x := (M 235 ((132 + (2 * x1)) + 1))) dX12_clash_47 sh235 q9 rfl ?_
    refine z_icmpne (tgt := 54) dX12_clash_48 rfl (fun q => ?_) (fun q => ?_)
    · replace h := h.1 q
      refine z_aloadn dX12_clash_54 rfl (Or.inl rfl) ?_
      refine z_aloadn dX12_clash_55 rfl (Or.inl rfl) ?_
      refine y_getr (v := 235) hG dX12_clash_56 fX12_7 sh234 (by decide) rfl (by decide +kernel) (by decide) ?_
      refine z_sipush dX12_clash_59 ks_132 ?_
      refine z_iconst dX12_clash_62 ki_2 ?_
      refine z_iloadn dX12_clash_63 rfl ?_
      obtain ⟨q10, h⟩ := h
      refine z_imul dX12_clash_64 q10 ?_
      obtain ⟨q11, h⟩ := h
      refine z_iadd dX12_clash_65 q11 ?_
      obtain ⟨q12, h⟩ := h
      refine y_iald (x := (M 235 (132 + (2 * x2)))) dX12_clash_66 sh235 q12 rfl ?_
      refine z_aloadn dX12_clash_67 rfl (Or.inl rfl) ?_
      refine y_getr (v := 235) hG dX12_clash_68 fX12_7 sh234 (by decide) rfl (by decide +kernel) (by decide) ?_
      refine z_sipush dX12_clash_71 ks_132 ?_
      refine z_iconst dX12_clash_74 ki_2 ?_
      refine z_iloadn dX12_clash_75 rfl ?_
      obtain ⟨q13, h⟩ := h
      refine z_imul dX12_clash_76 q13 ?_
      obtain ⟨q14, h⟩ := h
      refine z_iadd dX12_clash_77 q14 ?_
      obtain ⟨q15, h⟩ := h
      refine y_iald (x := (M 235 (132 + (2 * x1)))) dX12_clash_78 sh235 q15 rfl ?_
      refine z_aloadn dX12_clash_79 rfl (Or.inl rfl) ?_
      refine y_getr (v := 235) hG dX12_clash_80 fX12_7 sh234 (by decide) rfl (by decide +kernel) (by decide) ?_
      refine z_iconst dX12_clash_83 ki_4 ?_
      refine y_iald (x := (M 235 4)) dX12_clash_84 sh235 ⟨by decide, by decide⟩ rfl ?_
      refine y_cv (mt2 := mX12_isAlike) (en := [(2, 234), (0, (M 235 (132 + (2 * x2)))), (0, (M 235 (132 + (2 * x1)))), (0, (M 235 4)), (9, 0), (9, 0)]) (st := []) (as := [(0, (M 235 (132 + (2 * x2)))), (0, (M 235 (132 + (2 * x1)))), (0, (M 235 4))]) dX12_clash_85 lX12_471 kX12_isAlike iX12_isAlike eX12_isAlike rfl sh234 (by decide +kernel) (Nat.le_of_ble_eq_true rfl) (Nat.le_of_ble_eq_true rfl) rfl ?_
      exact h
    · replace h := h.2 q
      refine z_goto (tgt := 98) dX12_clash_51 rfl ?_
      obtain ⟨q16, h⟩ := h
      refine y_iinc (ls' := [(2, 234), (0, x1), (0, (x2 + 1))]) dX12_clash_98 rfl rfl q16 rfl ?_
      refine z_goto (tgt := 15) dX12_clash_101 rfl ?_
      exact h
set_option maxRecDepth 20000 in
set_option maxHeartbeats 4000000 in
theorem bX12_clash_88 {G : zG} {d : Nat} {M : zM} {Q : zV → zM → Prop} (hG : zP G) {x1 x2 x49 : Int}
    (h : ((x49 = 0 → (-2147483648 ≤ x2 + 1 ∧ x2 + 1 ≤ 2147483647) ∧ Y G (d + 1) mX12_clash 15 [(2, 234), (0, x1), (0, (x2 + 1))] [] M Q) ∧ (¬ x49 = 0 → (-2147483648 ≤ 12 * x2 ∧ 12 * x2 ≤ 2147483647) ∧ (-2147483648 ≤ (12 * x2) + x1 ∧ (12 * x2) + x1 ≤ 2147483647) ∧ Q (0, ((12 * x2) + x1)) M))) :
    Y G (d + 1) mX12_clash 88 [(2, 234), (0, x1), (0, x2)] [(0, x49)] M Q := by
  refine z_ifeq (tgt := 98) dX12_clash_88 rfl (fun q => ?_) (fun q => ?_)
  · replace h := h.1 q
    obtain ⟨q1, h⟩ := h
    refine y_iinc (ls' := [(2, 234), (0, x1), (0, (x2 + 1))]) dX12_clash_98 rfl rfl q1 rfl ?_
    refine z_goto (tgt := 15) dX12_clash_101 rfl ?_
    exact h
  · replace h := h.2 q
    refine z_bipush dX12_clash_91 kb_12 ?_
    refine z_iloadn dX12_clash_93 rfl ?_
    obtain ⟨q2, h⟩ := h
    refine z_imul dX12_clash_94 q2 ?_
    refine z_iloadn dX12_clash_95 rfl ?_
    obtain ⟨q3, h⟩ := h
    refine z_iadd dX12_clash_96 q3 ?_
    exact z_ireturn dX12_clash_97 (Or.inl rfl) rfl h
set_option maxRecDepth 20000 in
set_option maxHeartbeats 4000000 in
theorem bX12_image_0 {G : zG} {d : Nat} {M : zM} {Q : zV → zM → Prop} (hG : zP G)
    (h : Y G d mX12_copy 0 [(2, 235), (2, 236), (9, 0)] [] M (fun r M' => Y G (d + 1) mX12_image 11 [(2, 234)] (zpush r []) M' Q)) :
    Y G (d + 1) mX12_image 0 [(2, 234)] [] M Q := by
  refine z_aloadn dX12_image_0 rfl (Or.inl rfl) ?_
  refine y_getr (v := 235) hG dX12_image_1 fX12_7 sh234 (by decide) rfl (by decide +kernel) (by decide) ?_
  refine z_aloadn dX12_image_4 rfl (Or.inl rfl) ?_
  refine y_getr (v := 236) hG dX12_image_5 fX12_13 sh234 (by decide) rfl (by decide +kernel) (by decide) ?_
  refine y_cs (mt2 := mX12_copy) (en := [(2, 235), (2, 236), (9, 0)]) (st := []) (as := [(2, 235), (2, 236)]) dX12_image_8 lX12_118 kX12_copy tX12_copy rfl (Nat.le_of_ble_eq_true rfl) (Nat.le_of_ble_eq_true rfl) rfl ?_
  exact h
set_option maxRecDepth 20000 in
set_option maxHeartbeats 4000000 in
theorem bX12_image_11 {G : zG} {d : Nat} {M : zM} {Q : zV → zM → Prop} (hG : zP G)
    (h : Q (0, (M 235 5)) M) :
    Y G (d + 1) mX12_image 11 [(2, 234)] [] M Q := by
  refine z_aloadn dX12_image_11 rfl (Or.inl rfl) ?_
  refine y_getr (v := 235) hG dX12_image_12 fX12_7 sh234 (by decide) rfl (by decide +kernel) (by decide) ?_
  refine z_iconst dX12_image_15 ki_5 ?_
  refine y_iald (x := (M 235 5)) dX12_image_16 sh235 ⟨by decide, by decide⟩ rfl ?_
  exact z_ireturn dX12_image_17 (Or.inl rfl) rfl h
set_option maxRecDepth 20000 in
set_option maxHeartbeats 4000000 in
theorem bX12_back_0 {G : zG} {d : Nat} {M : zM} {Q : zV → zM → Prop} (hG : zP G)
    (h : Y G d mX12_copy 0 [(2, 236), (2, 235), (9, 0)] [] M (fun r M' => Y G (d + 1) mX12_back 11 [(2, 234)] (zpush r []) M' Q)) :
    Y G (d + 1) mX12_back 0 [(2, 234)] [] M Q := by
  refine z_aloadn dX12_back_0 rfl (Or.inl rfl) ?_
  refine y_getr (v := 236) hG dX12_back_1 fX12_13 sh234 (by decide) rfl (by decide +kernel) (by decide) ?_
  refine z_aloadn dX12_back_4 rfl (Or.inl rfl) ?_
  refine y_getr (v := 235) hG dX12_back_5 fX12_7 sh234 (by decide) rfl (by decide +kernel) (by decide) ?_
  refine y_cs (mt2 := mX12_copy) (en := [(2, 236), (2, 235), (9, 0)]) (st := []) (as := [(2, 236), (2, 235)]) dX12_back_8 lX12_118 kX12_copy tX12_copy rfl (Nat.le_of_ble_eq_true rfl) (Nat.le_of_ble_eq_true rfl) rfl ?_
  exact h
set_option maxRecDepth 20000 in
set_option maxHeartbeats 4000000 in
theorem bX12_back_11 {G : zG} {d : Nat} {M : zM} {Q : zV → zM → Prop} (hG : zP G)
    (h : Q (0, (M 235 5)) M) :
    Y G (d + 1) mX12_back 11 [(2, 234)] [] M Q := by
  refine z_aloadn dX12_back_11 rfl (Or.inl rfl) ?_
  refine y_getr (v := 235) hG dX12_back_12 fX12_7 sh234 (by decide) rfl (by decide +kernel) (by decide) ?_
  refine z_iconst dX12_back_15 ki_5 ?_
  refine y_iald (x := (M 235 5)) dX12_back_16 sh235 ⟨by decide, by decide⟩ rfl ?_
  exact z_ireturn dX12_back_17 (Or.inl rfl) rfl h
set_option maxRecDepth 20000 in
set_option maxHeartbeats 4000000 in
theorem bX12_about_0 {G : zG} {d : Nat} {M : zM} {Q : zV → zM → Prop} (hG : zP G) {x1 : Int}
    (h : ((10 ≤ x1 ∧ x1 ≤ 13 → (-2147483648 ≤ 10 + x1 ∧ 10 + x1 ≤ 2147483647) ∧ (-2147483648 ≤ (10 + x1) - 10 ∧ (10 + x1) - 10 ≤ 2147483647) ∧ (0 ≤ ((10 + x1) - 10) ∧ ((10 + x1) - 10) < 156) ∧ Q (0, (M 235 ((10 + x1) - 10))) M) ∧ (¬ (10 ≤ x1 ∧ x1 ≤ 13) → (-2147483648 ≤ 19 + (M 235 2) ∧ 19 + (M 235 2) ≤ 2147483647) ∧ ((20 ≤ x1 ∧ x1 ≤ (19 + (M 235 2)) → (-2147483648 ≤ x1 - 20 ∧ x1 - 20 ≤ 2147483647) ∧ ((0 ≤ (x1 - 20) ∧ (x1 - 20) < 6) ∧ (0 : Int) ≤ 0 ∧ 0 < (5 : Int)) ∧ Q (0, (M 235 (74 + 5 * (x1 - 20) + 0))) M) ∧ (¬ (20 ≤ x1 ∧ x1 ≤ (19 + (M 235 2))) → (-2147483648 ≤ 29 + (M 235 1) ∧ 29 + (M 235 1) ≤ 2147483647) ∧ ((30 ≤ x1 ∧ x1 ≤ (29 + (M 235 1)) → (-2147483648 ≤ x1 - 30 ∧ x1 - 30 ≤ 2147483647) ∧ (-2147483648 ≤ 3 * (x1 - 30) ∧ 3 * (x1 - 30) ≤ 2147483647) ∧ (-2147483648 ≤ 14 + (3 * (x1 - 30)) ∧ 14 + (3 * (x1 - 30)) ≤ 2147483647) ∧ (0 ≤ (14 + (3 * (x1 - 30))) ∧ (14 + (3 * (x1 - 30))) < 156) ∧ Q (0, (M 235 (14 + (3 * (x1 - 30))))) M) ∧ (¬ (30 ≤ x1 ∧ x1 ≤ (29 + (M 235 1))) → (-2147483648 ≤ 39 + (M 235 2) ∧ 39 + (M 235 2) ≤ 2147483647) ∧ ((40 ≤ x1 ∧ x1 ≤ (39 + (M 235 2)) → (-2147483648 ≤ x1 - 40 ∧ x1 - 40 ≤ 2147483647) ∧ ((0 ≤ (x1 - 40) ∧ (x1 - 40) < 6) ∧ (0 : Int) ≤ 1 ∧ 1 < (5 : Int)) ∧ Q (0, (M 235 (74 + 5 * (x1 - 40) + 1))) M) ∧ (¬ (40 ≤ x1 ∧ x1 ≤ (39 + (M 235 2))) → ((0 ≤ x1 ∧ x1 ≤ 8 → (0 ≤ x1 ∧ x1 < 156) ∧ Q (0, (M 235 x1)) M) ∧ (¬ (0 ≤ x1 ∧ x1 ≤ 8) → ((¬ x1 = 9 → Q (0, (-2000000)) M) ∧ (x1 = 9 → Q (0, (M 234 5)) M))))))))))))) :
    Y G (d + 1) mX12_about 0 [(2, 234), (0, x1)] [] M Q := by
  refine z_iloadn dX12_about_0 rfl ?_
  refine z_bipush dX12_about_1 kb_10 ?_
  refine z_bipush dX12_about_3 kb_13 ?_
  refine y_cs (mt2 := mX12_isIn) (en := [(0, x1), (0, 10), (0, 13)]) (st := []) (as := [(0, x1), (0, 10), (0, 13)]) dX12_about_5 lX12_126 kX12_isIn tX12_isIn rfl (Nat.le_of_ble_eq_true rfl) (Nat.le_of_ble_eq_true rfl) rfl (s_isIn hG (fun q => ?_) (fun q => ?_))
  · replace h := h.1 q
    show Y G (d + 1) mX12_about 8 [(2, 234), (0, x1)] [(0, 1)] M Q
    refine z_ifeq (tgt := 24) dX12_about_8 rfl (fun q => absurd q (by decide)) (fun _ => ?_)
    refine z_aloadn dX12_about_11 rfl (Or.inl rfl) ?_
    refine y_getr (v := 235) hG dX12_about_12 fX12_7 sh234 (by decide) rfl (by decide +kernel) (by decide) ?_
    refine z_bipush dX12_about_15 kb_10 ?_
    refine z_iloadn dX12_about_17 rfl ?_
    obtain ⟨q1, h⟩ := h
    refine z_iadd dX12_about_18 q1 ?_
    refine z_bipush dX12_about_19 kb_10 ?_
    obtain ⟨q2, h⟩ := h
    refine z_isub dX12_about_21 q2 ?_
    obtain ⟨q3, h⟩ := h
    refine y_iald (x := (M 235 ((10 + x1) - 10))) dX12_about_22 sh235 q3 rfl ?_
    exact z_ireturn dX12_about_23 (Or.inl rfl) rfl h
  · replace h := h.2 q
    show Y G (d + 1) mX12_about 8 [(2, 234), (0, x1)] [(0, 0)] M Q
    refine z_ifeq (tgt := 24) dX12_about_8 rfl (fun _ => ?_) (fun q => absurd q (by decide))
    refine z_iloadn dX12_about_24 rfl ?_
    refine z_bipush dX12_about_25 kb_20 ?_
    refine z_bipush dX12_about_27 kb_19 ?_
    refine z_aloadn dX12_about_29 rfl (Or.inl rfl) ?_
    refine y_getr (v := 235) hG dX12_about_30 fX12_7 sh234 (by decide) rfl (by decide +kernel) (by decide) ?_
    refine z_iconst dX12_about_33 ki_2 ?_
    refine y_iald (x := (M 235 2)) dX12_about_34 sh235 ⟨by decide, by decide⟩ rfl ?_
    obtain ⟨q4, h⟩ := h
    refine z_iadd dX12_about_35 q4 ?_
    refine y_cs (mt2 := mX12_isIn) (en := [(0, x1), (0, 20), (0, (19 + (M 235 2)))]) (st := []) (as := [(0, x1), (0, 20), (0, (19 + (M 235 2)))]) dX12_about_36 lX12_126 kX12_isIn tX12_isIn rfl (Nat.le_of_ble_eq_true rfl) (Nat.le_of_ble_eq_true rfl) rfl (s_isIn hG (fun q => ?_) (fun q => ?_))
    · replace h := h.1 q
      show Y G (d + 1) mX12_about 39 [(2, 234), (0, x1)] [(0, 1)] M Q
      refine z_ifeq (tgt := 52) dX12_about_39 rfl (fun q => absurd q (by decide)) (fun _ => ?_)
      refine z_aloadn dX12_about_42 rfl (Or.inl rfl) ?_
      refine z_iloadn dX12_about_43 rfl ?_
      refine z_bipush dX12_about_44 kb_20 ?_
      obtain ⟨q5, h⟩ := h
      refine z_isub dX12_about_46 q5 ?_
      refine z_iconst dX12_about_47 ki_0 ?_
      obtain ⟨q6, h⟩ := h
      refine y_cv (mt2 := mX12_pupilOf) (en := [(2, 234), (0, (x1 - 20)), (0, 0)]) (st := []) (as := [(0, (x1 - 20)), (0, 0)]) dX12_about_48 lX12_483 kX12_pupilOf iX12_pupilOf eX12_pupilOf rfl sh234 (by decide +kernel) (Nat.le_of_ble_eq_true rfl) (Nat.le_of_ble_eq_true rfl) rfl (s_pupilOf hG rfl q6 ?_)
      show Y G (d + 1) mX12_about 51 [(2, 234), (0, x1)] [(0, (M 235 (74 + 5 * (x1 - 20) + 0)))] M Q
      exact z_ireturn dX12_about_51 (Or.inl rfl) rfl h
    · replace h := h.2 q
      show Y G (d + 1) mX12_about 39 [(2, 234), (0, x1)] [(0, 0)] M Q
      refine z_ifeq (tgt := 52) dX12_about_39 rfl (fun _ => ?_) (fun q => absurd q (by decide))
      refine z_iloadn dX12_about_52 rfl ?_
      refine z_bipush dX12_about_53 kb_30 ?_
      refine z_bipush dX12_about_55 kb_29 ?_
      refine z_aloadn dX12_about_57 rfl (Or.inl rfl) ?_
      refine y_getr (v := 235) hG dX12_about_58 fX12_7 sh234 (by decide) rfl (by decide +kernel) (by decide) ?_
      refine z_iconst dX12_about_61 ki_1 ?_
      refine y_iald (x := (M 235 1)) dX12_about_62 sh235 ⟨by decide, by decide⟩ rfl ?_
      obtain ⟨q7, h⟩ := h
      refine z_iadd dX12_about_63 q7 ?_
      refine y_cs (mt2 := mX12_isIn) (en := [(0, x1), (0, 30), (0, (29 + (M 235 1)))]) (st := []) (as := [(0, x1), (0, 30), (0, (29 + (M 235 1)))]) dX12_about_64 lX12_126 kX12_isIn tX12_isIn rfl (Nat.le_of_ble_eq_true rfl) (Nat.le_of_ble_eq_true rfl) rfl (s_isIn hG (fun q => ?_) (fun q => ?_))
      · replace h := h.1 q
        show Y G (d + 1) mX12_about 67 [(2, 234), (0, x1)] [(0, 1)] M Q
        refine z_ifeq (tgt := 85) dX12_about_67 rfl (fun q => absurd q (by decide)) (fun _ => ?_)
        refine z_aloadn dX12_about_70 rfl (Or.inl rfl) ?_
        refine y_getr (v := 235) hG dX12_about_71 fX12_7 sh234 (by decide) rfl (by decide +kernel) (by decide) ?_
        refine z_bipush dX12_about_74 kb_14 ?_
        refine z_iconst dX12_about_76 ki_3 ?_
        refine z_iloadn dX12_about_77 rfl ?_
        refine z_bipush dX12_about_78 kb_30 ?_
        obtain ⟨q8, h⟩ := h
        refine z_isub dX12_about_80 q8 ?_
        obtain ⟨q9, h⟩ := h
        refine z_imul dX12_about_81 q9 ?_
        obtain ⟨q10, h⟩ := h
        refine z_iadd dX12_about_82 q10 ?_
        obtain ⟨q11, h⟩ := h
        refine y_iald (x := (M 235 (14 + (3 * (x1 - 30))))) dX12_about_83 sh235 q11 rfl ?_
        exact z_ireturn dX12_about_84 (Or.inl rfl) rfl h
      · replace h := h.2 q
        show Y G (d + 1) mX12_about 67 [(2, 234), (0, x1)] [(0, 0)] M Q
        refine z_ifeq (tgt := 85) dX12_about_67 rfl (fun _ => ?_) (fun q => absurd q (by decide))
        refine z_iloadn dX12_about_85 rfl ?_
        refine z_bipush dX12_about_86 kb_40 ?_
        refine z_bipush dX12_about_88 kb_39 ?_
        refine z_aloadn dX12_about_90 rfl (Or.inl rfl) ?_
        refine y_getr (v := 235) hG dX12_about_91 fX12_7 sh234 (by decide) rfl (by decide +kernel) (by decide) ?_
        refine z_iconst dX12_about_94 ki_2 ?_
        refine y_iald (x := (M 235 2)) dX12_about_95 sh235 ⟨by decide, by decide⟩ rfl ?_
        obtain ⟨q12, h⟩ := h
        refine z_iadd dX12_about_96 q12 ?_
        refine y_cs (mt2 := mX12_isIn) (en := [(0, x1), (0, 40), (0, (39 + (M 235 2)))]) (st := []) (as := [(0, x1), (0, 40), (0, (39 + (M 235 2)))]) dX12_about_97 lX12_126 kX12_isIn tX12_isIn rfl (Nat.le_of_ble_eq_true rfl) (Nat.le_of_ble_eq_true rfl) rfl (s_isIn hG (fun q => ?_) (fun q => ?_))
        · replace h := h.1 q
          show Y G (d + 1) mX12_about 100 [(2, 234), (0, x1)] [(0, 1)] M Q
          refine z_ifeq (tgt := 113) dX12_about_100 rfl (fun q => absurd q (by decide)) (fun _ => ?_)
          refine z_aloadn dX12_about_103 rfl (Or.inl rfl) ?_
          refine z_iloadn dX12_about_104 rfl ?_
          refine z_bipush dX12_about_105 kb_40 ?_
          obtain ⟨q13, h⟩ := h
          refine z_isub dX12_about_107 q13 ?_
          refine z_iconst dX12_about_108 ki_1 ?_
          obtain ⟨q14, h⟩ := h
          refine y_cv (mt2 := mX12_pupilOf) (en := [(2, 234), (0, (x1 - 40)), (0, 1)]) (st := []) (as := [(0, (x1 - 40)), (0, 1)]) dX12_about_109 lX12_483 kX12_pupilOf iX12_pupilOf eX12_pupilOf rfl sh234 (by decide +kernel) (Nat.le_of_ble_eq_true rfl) (Nat.le_of_ble_eq_true rfl) rfl (s_pupilOf hG rfl q14 ?_)
          show Y G (d + 1) mX12_about 112 [(2, 234), (0, x1)] [(0, (M 235 (74 + 5 * (x1 - 40) + 1)))] M Q
          exact z_ireturn dX12_about_112 (Or.inl rfl) rfl h
        · replace h := h.2 q
          show Y G (d + 1) mX12_about 100 [(2, 234), (0, x1)] [(0, 0)] M Q
          refine z_ifeq (tgt := 113) dX12_about_100 rfl (fun _ => ?_) (fun q => absurd q (by decide))
          refine z_iloadn dX12_about_113 rfl ?_
          refine z_iconst dX12_about_114 ki_0 ?_
          refine z_bipush dX12_about_115 kb_8 ?_
          refine y_cs (mt2 := mX12_isIn) (en := [(0, x1), (0, 0), (0, 8)]) (st := []) (as := [(0, x1), (0, 0), (0, 8)]) dX12_about_117 lX12_126 kX12_isIn tX12_isIn rfl (Nat.le_of_ble_eq_true rfl) (Nat.le_of_ble_eq_true rfl) rfl (s_isIn hG (fun q => ?_) (fun q => ?_))
          · replace h := h.1 q
            show Y G (d + 1) mX12_about 120 [(2, 234), (0, x1)] [(0, 1)] M Q
            refine z_ifeq (tgt := 132) dX12_about_120 rfl (fun q => absurd q (by decide)) (fun _ => ?_)
            refine z_aloadn dX12_about_123 rfl (Or.inl rfl) ?_
            refine y_getr (v := 235) hG dX12_about_124 fX12_7 sh234 (by decide) rfl (by decide +kernel) (by decide) ?_
            refine z_iloadn dX12_about_127 rfl ?_
            obtain ⟨q15, h⟩ := h
            refine y_iald (x := (M 235 x1)) dX12_about_128 sh235 q15 rfl ?_
            refine z_goto (tgt := 148) dX12_about_129 rfl ?_
            exact z_ireturn dX12_about_148 (Or.inl rfl) rfl h
          · replace h := h.2 q
            show Y G (d + 1) mX12_about 120 [(2, 234), (0, x1)] [(0, 0)] M Q
            refine z_ifeq (tgt := 132) dX12_about_120 rfl (fun _ => ?_) (fun q => absurd q (by decide))
            refine z_iloadn dX12_about_132 rfl ?_
            refine z_bipush dX12_about_133 kb_9 ?_
            refine z_icmpne (tgt := 145) dX12_about_135 rfl (fun q => ?_) (fun q => ?_)
            · replace h := h.1 q
              refine z_ldcw (k := (-2000000)) (v := (-2000000)) dX12_about_145 ⟨by decide, ⟨by decide, by decide⟩⟩ qX12_395 ?_
              exact z_ireturn dX12_about_148 (Or.inl rfl) rfl h
            · replace h := h.2 q
              refine z_aloadn dX12_about_138 rfl (Or.inl rfl) ?_
              refine y_getf (x := (M 234 5)) dX12_about_139 fX12_153 sh234 (by decide) rfl rfl ?_
              refine z_goto (tgt := 148) dX12_about_142 rfl ?_
              exact z_ireturn dX12_about_148 (Or.inl rfl) rfl h
set_option maxRecDepth 20000 in
set_option maxHeartbeats 4000000 in
theorem bX12_road_0 {G : zG} {d : Nat} {M : zM} {Q : zV → zM → Prop} (hG : zP G) {x1 x2 x3 : Int}
    (h : ((0 ≤ x1 ∧ x1 ≤ 5 → ((0 ≤ x2 ∧ x2 ≤ 5 → ((x1 = x2 → Q (0, 0) M) ∧ (¬ x1 = x2 → ((1 ≤ x3 ∧ x3 ≤ 99 → (-2147483648 ≤ 6 * x1 ∧ 6 * x1 ≤ 2147483647) ∧ (-2147483648 ≤ 38 + (6 * x1) ∧ 38 + (6 * x1) ≤ 2147483647) ∧ (-2147483648 ≤ (38 + (6 * x1)) + x2 ∧ (38 + (6 * x1)) + x2 ≤ 2147483647) ∧ (0 ≤ ((38 + (6 * x1)) + x2) ∧ ((38 + (6 * x1)) + x2) < 156) ∧ (-2147483648 ≤ 6 * x2 ∧ 6 * x2 ≤ 2147483647) ∧ (-2147483648 ≤ 38 + (6 * x2) ∧ 38 + (6 * x2) ≤ 2147483647) ∧ (-2147483648 ≤ (38 + (6 * x2)) + x1 ∧ (38 + (6 * x2)) + x1 ≤ 2147483647) ∧ (0 ≤ ((38 + (6 * x2)) + x1) ∧ ((38 + (6 * x2)) + x1) < 156) ∧ Q (0, 1) (zset (zset M 235 ((38 + (6 * x1)) + x2) x3) 235 ((38 + (6 * x2)) + x1) x3)) ∧ (¬ (1 ≤ x3 ∧ x3 ≤ 99) → Q (0, 0) M))))) ∧ (¬ (0 ≤ x2 ∧ x2 ≤ 5) → Q (0, 0) M))) ∧ (¬ (0 ≤ x1 ∧ x1 ≤ 5) → Q (0, 0) M))) :
    Y G (d + 1) mX12_road 0 [(2, 234), (0, x1), (0, x2), (0, x3)] [] M Q := by
  refine z_iloadn dX12_road_0 rfl ?_
  refine z_iconst dX12_road_1 ki_0 ?_
  refine z_iconst dX12_road_2 ki_5 ?_
  refine y_cs (mt2 := mX12_isIn) (en := [(0, x1), (0, 0), (0, 5)]) (st := []) (as := [(0, x1), (0, 0), (0, 5)]) dX12_road_3 lX12_126 kX12_isIn tX12_isIn rfl (Nat.le_of_ble_eq_true rfl) (Nat.le_of_ble_eq_true rfl) rfl (s_isIn hG (fun q => ?_) (fun q => ?_))
  · replace h := h.1 q
    show Y G (d + 1) mX12_road 6 [(2, 234), (0, x1), (0, x2), (0, x3)] [(0, 1)] M Q
    refine z_ifeq (tgt := 33) dX12_road_6 rfl (fun q => absurd q (by decide)) (fun _ => ?_)
    refine z_iloadn dX12_road_9 rfl ?_
    refine z_iconst dX12_road_10 ki_0 ?_
    refine z_iconst dX12_road_11 ki_5 ?_
    refine y_cs (mt2 := mX12_isIn) (en := [(0, x2), (0, 0), (0, 5)]) (st := []) (as := [(0, x2), (0, 0), (0, 5)]) dX12_road_12 lX12_126 kX12_isIn tX12_isIn rfl (Nat.le_of_ble_eq_true rfl) (Nat.le_of_ble_eq_true rfl) rfl (s_isIn hG (fun q => ?_) (fun q => ?_))
    · replace h := h.1 q
      show Y G (d + 1) mX12_road 15 [(2, 234), (0, x1), (0, x2), (0, x3)] [(0, 1)] M Q
      refine z_ifeq (tgt := 33) dX12_road_15 rfl (fun q => absurd q (by decide)) (fun _ => ?_)
      refine z_iloadn dX12_road_18 rfl ?_
      refine z_iloadn dX12_road_19 rfl ?_
      refine z_icmpeq (tgt := 33) dX12_road_20 rfl (fun q => ?_) (fun q => ?_)
      · replace h := h.1 q
        refine z_iconst dX12_road_33 ki_0 ?_
        exact z_ireturn dX12_road_34 (Or.inr ⟨rfl, ⟨by decide, by decide⟩⟩) rfl h
      · replace h := h.2 q
        refine z_iloadn dX12_road_23 rfl ?_
        refine z_iconst dX12_road_24 ki_1 ?_
        refine z_bipush dX12_road_25 kb_99 ?_
        refine y_cs (mt2 := mX12_isIn) (en := [(0, x3), (0, 1), (0, 99)]) (st := []) (as := [(0, x3), (0, 1), (0, 99)]) dX12_road_27 lX12_126 kX12_isIn tX12_isIn rfl (Nat.le_of_ble_eq_true rfl) (Nat.le_of_ble_eq_true rfl) rfl (s_isIn hG (fun q => ?_) (fun q => ?_))
        · replace h := h.1 q
          show Y G (d + 1) mX12_road 30 [(2, 234), (0, x1), (0, x2), (0, x3)] [(0, 1)] M Q
          refine z_ifne (tgt := 35) dX12_road_30 rfl (fun _ => ?_) (fun q => absurd q (by decide))
          refine z_aloadn dX12_road_35 rfl (Or.inl rfl) ?_
          refine y_getr (v := 235) hG dX12_road_36 fX12_7 sh234 (by decide) rfl (by decide +kernel) (by decide) ?_
          refine z_bipush dX12_road_39 kb_38 ?_
          refine z_bipush dX12_road_41 kb_6 ?_
          refine z_iloadn dX12_road_43 rfl ?_
          obtain ⟨q1, h⟩ := h
          refine z_imul dX12_road_44 q1 ?_
          obtain ⟨q2, h⟩ := h
          refine z_iadd dX12_road_45 q2 ?_
          refine z_iloadn dX12_road_46 rfl ?_
          obtain ⟨q3, h⟩ := h
          refine z_iadd dX12_road_47 q3 ?_
          refine z_iloadn dX12_road_48 rfl ?_
          obtain ⟨q4, h⟩ := h
          refine y_iast hG dX12_road_49 sh235 q4 ?_
          refine z_aloadn dX12_road_50 rfl (Or.inl rfl) ?_
          refine y_getr (v := 235) hG dX12_road_51 fX12_7 sh234 (by decide) rfl (by decide +kernel) (by decide) ?_
          refine z_bipush dX12_road_54 kb_38 ?_
          refine z_bipush dX12_road_56 kb_6 ?_
          refine z_iloadn dX12_road_58 rfl ?_
          obtain ⟨q5, h⟩ := h
          refine z_imul dX12_road_59 q5 ?_
          obtain ⟨q6, h⟩ := h
          refine z_iadd dX12_road_60 q6 ?_
          refine z_iloadn dX12_road_61 rfl ?_
          obtain ⟨q7, h⟩ := h
          refine z_iadd dX12_road_62 q7 ?_
          refine z_iloadn dX12_road_63 rfl ?_
          obtain ⟨q8, h⟩ := h
          refine y_iast hG dX12_road_64 sh235 q8 ?_
          refine z_iconst dX12_road_65 ki_1 ?_
          exact z_ireturn dX12_road_66 (Or.inr ⟨rfl, ⟨by decide, by decide⟩⟩) rfl h
        · replace h := h.2 q
          show Y G (d + 1) mX12_road 30 [(2, 234), (0, x1), (0, x2), (0, x3)] [(0, 0)] M Q
          refine z_ifne (tgt := 35) dX12_road_30 rfl (fun q => absurd q (by decide)) (fun _ => ?_)
          refine z_iconst dX12_road_33 ki_0 ?_
          exact z_ireturn dX12_road_34 (Or.inr ⟨rfl, ⟨by decide, by decide⟩⟩) rfl h
    · replace h := h.2 q
      show Y G (d + 1) mX12_road 15 [(2, 234), (0, x1), (0, x2), (0, x3)] [(0, 0)] M Q
      refine z_ifeq (tgt := 33) dX12_road_15 rfl (fun _ => ?_) (fun q => absurd q (by decide))
      refine z_iconst dX12_road_33 ki_0 ?_
      exact z_ireturn dX12_road_34 (Or.inr ⟨rfl, ⟨by decide, by decide⟩⟩) rfl h
  · replace h := h.2 q
    show Y G (d + 1) mX12_road 6 [(2, 234), (0, x1), (0, x2), (0, x3)] [(0, 0)] M Q
    refine z_ifeq (tgt := 33) dX12_road_6 rfl (fun _ => ?_) (fun q => absurd q (by decide))
    refine z_iconst dX12_road_33 ki_0 ?_
    exact z_ireturn dX12_road_34 (Or.inr ⟨rfl, ⟨by decide, by decide⟩⟩) rfl h
set_option maxRecDepth 20000 in
set_option maxHeartbeats 4000000 in
theorem bX12_close_0 {G : zG} {d : Nat} {M : zM} {Q : zV → zM → Prop} (hG : zP G) {r0 x1 x2 : Int} {nr0 : Nat} (hr0 : zsh r0.toNat = (100, nr0))
    (h : Y G d mX12_close 2 [(2, r0), (0, x1), (0, x2), (0, 0), (9, 0), (9, 0), (9, 0)] [] M Q) :
    Y G d mX12_close 0 [(2, r0), (0, x1), (0, x2), (9, 0), (9, 0), (9, 0), (9, 0)] [] M Q := by
  refine z_iconst dX12_close_0 ki_0 ?_
  refine y_istoren (ls' := [(2, r0), (0, x1), (0, x2), (0, 0), (9, 0), (9, 0), (9, 0)]) dX12_close_1 rfl rfl ?_
  exact h
set_option maxRecDepth 20000 in
set_option maxHeartbeats 4000000 in
theorem bX12_close_2 {G : zG} {d : Nat} {M : zM} {Q : zV → zM → Prop} (hG : zP G) {r0 x1 x2 x3 : Int} {nr0 : Nat} (hr0 : zsh r0.toNat = (100, nr0))
    (h : ((x1 ≤ x3 → Q (9, 0) M) ∧ (x3 < x1 → Y G d mX12_close 10 [(2, r0), (0, x1), (0, x2), (0, x3), (0, 0), (9, 0), (9, 0)] [] M Q))) :
    Y G d mX12_close 2 [(2, r0), (0, x1), (0, x2), (0, x3), (9, 0), (9, 0), (9, 0)] [] M Q := by
  refine z_iloadn dX12_close_2 rfl ?_
  refine z_iloadn dX12_close_3 rfl ?_
  refine z_icmpge (tgt := 87) dX12_close_4 rfl (fun q => ?_) (fun q => ?_)
  · replace h := h.1 q
    exact z_return dX12_close_87 rfl rfl h
  · replace h := h.2 q
    refine z_iconst dX12_close_7 ki_0 ?_
    refine y_istore (ls' := [(2, r0), (0, x1), (0, x2), (0, x3), (0, 0), (9, 0), (9, 0)]) dX12_close_8 rfl rfl ?_
    exact h
set_option maxRecDepth 20000 in
set_option maxHeartbeats 4000000 in
theorem bX12_close_10 {G : zG} {d : Nat} {M : zM} {Q : zV → zM → Prop} (hG : zP G) {r0 x1 x2 x3 x4 : Int} {nr0 : Nat} (hr0 : zsh r0.toNat = (100, nr0))
    (h : ((x1 ≤ x4 → (-2147483648 ≤ x3 + 1 ∧ x3 + 1 ≤ 2147483647) ∧ Y G d mX12_close 2 [(2, r0), (0, x1), (0, x2), (0, (x3 + 1)), (9, 0), (9, 0), (9, 0)] [] M Q) ∧ (x4 < x1 → Y G d mX12_close 19 [(2, r0), (0, x1), (0, x2), (0, x3), (0, x4), (0, 0), (9, 0)] [] M Q))) :
    Y G d mX12_close 10 [(2, r0), (0, x1), (0, x2), (0, x3), (0, x4), (9, 0), (9, 0)] [] M Q := by
  refine z_iload dX12_close_10 rfl ?_
  refine z_iloadn dX12_close_12 rfl ?_
  refine z_icmpge (tgt := 81) dX12_close_13 rfl (fun q => ?_) (fun q => ?_)
  · replace h := h.1 q
    obtain ⟨q1, h⟩ := h
    refine y_iinc (ls' := [(2, r0), (0, x1), (0, x2), (0, (x3 + 1)), (0, x4), (9, 0), (9, 0)]) dX12_close_81 rfl rfl q1 rfl ?_
    refine z_goto (tgt := 2) dX12_close_84 rfl ?_
    refine z_sub (ls' := [(2, r0), (0, x1), (0, x2), (0, (x3 + 1)), (9, 0), (9, 0), (9, 0)]) ⟨Or.inl rfl, Or.inl rfl, Or.inl rfl, Or.inl rfl, Or.inr rfl, Or.inl rfl, Or.inl rfl, trivial⟩ ?_
    exact h
  · replace h := h.2 q
    refine z_iconst dX12_close_16 ki_0 ?_
    refine y_istore (ls' := [(2, r0), (0, x1), (0, x2), (0, x3), (0, x4), (0, 0), (9, 0)]) dX12_close_17 rfl rfl ?_
    exact h
set_option maxRecDepth 20000 in
set_option maxHeartbeats 4000000 in
theorem bX12_close_19 {G : zG} {d : Nat} {M : zM} {Q : zV → zM → Prop} (hG : zP G) {r0 x1 x2 x3 x4 x5 : Int} {nr0 : Nat} (hr0 : zsh r0.toNat = (100, nr0))
    (h : ((x1 ≤ x5 → (-2147483648 ≤ x4 + 1 ∧ x4 + 1 ≤ 2147483647) ∧ Y G d mX12_close 10 [(2, r0), (0, x1), (0, x2), (0, x3), (0, (x4 + 1)), (9, 0), (9, 0)] [] M Q) ∧ (x5 < x1 → (-2147483648 ≤ x2 * x4 ∧ x2 * x4 ≤ 2147483647) ∧ (-2147483648 ≤ (x2 * x4) + x3 ∧ (x2 * x4) + x3 ≤ 2147483647) ∧ (0 ≤ ((x2 * x4) + x3) ∧ ((x2 * x4) + x3) < (nr0 : Int)) ∧ (-2147483648 ≤ x2 * x3 ∧ x2 * x3 ≤ 2147483647) ∧ (-2147483648 ≤ (x2 * x3) + x5 ∧ (x2 * x3) + x5 ≤ 2147483647) ∧ (0 ≤ ((x2 * x3) + x5) ∧ ((x2 * x3) + x5) < (nr0 : Int)) ∧ (-2147483648 ≤ (M r0 ((x2 * x4) + x3)) + (M r0 ((x2 * x3) + x5)) ∧ (M r0 ((x2 * x4) + x3)) + (M r0 ((x2 * x3) + x5)) ≤ 2147483647) ∧ (-2147483648 ≤ x2 * x4 ∧ x2 * x4 ≤ 2147483647) ∧ (-2147483648 ≤ (x2 * x4) + x5 ∧ (x2 * x4) + x5 ≤ 2147483647) ∧ (0 ≤ ((x2 * x4) + x5) ∧ ((x2 * x4) + x5) < (nr0 : Int)) ∧ (((M r0 ((x2 * x4) + x5)) ≤ ((M r0 ((x2 * x4) + x3)) + (M r0 ((x2 * x3) + x5))) → (-2147483648 ≤ x5 + 1 ∧ x5 + 1 ≤ 2147483647) ∧ Y G d mX12_close 19 [(2, r0), (0, x1), (0, x2), (0, x3), (0, x4), (0, (x5 + 1)), (9, 0)] [] M Q) ∧ (((M r0 ((x2 * x4) + x3)) + (M r0 ((x2 * x3) + x5))) < (M r0 ((x2 * x4) + x5)) → (-2147483648 ≤ x2 * x4 ∧ x2 * x4 ≤ 2147483647) ∧ (-2147483648 ≤ (x2 * x4) + x5 ∧ (x2 * x4) + x5 ≤ 2147483647) ∧ (0 ≤ ((x2 * x4) + x5) ∧ ((x2 * x4) + x5) < (nr0 : Int)) ∧ (-2147483648 ≤ x5 + 1 ∧ x5 + 1 ≤ 2147483647) ∧ Y G d mX12_close 19 [(2, r0), (0, x1), (0, x2), (0, x3), (0, x4), (0, (x5 + 1)), (9, 0)] [] (zset M r0 ((x2 * x4) + x5) ((M r0 ((x2 * x4) + x3)) + (M r0 ((x2 * x3) + x5)))) Q))))) :
    Y G d mX12_close 19 [(2, r0), (0, x1), (0, x2), (0, x3), (0, x4), (0, x5), (9, 0)] [] M Q := by
  refine z_iload dX12_close_19 rfl ?_
  refine z_iloadn dX12_close_21 rfl ?_
  refine z_icmpge (tgt := 75) dX12_close_22 rfl (fun q => ?_) (fun q => ?_)
  · replace h := h.1 q
    obtain ⟨q1, h⟩ := h
    refine y_iinc (ls' := [(2, r0), (0, x1), (0, x2), (0, x3), (0, (x4 + 1)), (0, x5), (9, 0)]) dX12_close_75 rfl rfl q1 rfl ?_
    refine z_goto (tgt := 10) dX12_close_78 rfl ?_
    refine z_sub (ls' := [(2, r0), (0, x1), (0, x2), (0, x3), (0, (x4 + 1)), (9, 0), (9, 0)]) ⟨Or.inl rfl, Or.inl rfl, Or.inl rfl, Or.inl rfl, Or.inl rfl, Or.inr rfl, Or.inl rfl, trivial⟩ ?_
    exact h
  · replace h := h.2 q
    refine z_aloadn dX12_close_25 rfl (Or.inl rfl) ?_
    refine z_iloadn dX12_close_26 rfl ?_
    refine z_iload dX12_close_27 rfl ?_
    obtain ⟨q2, h⟩ := h
    refine z_imul dX12_close_29 q2 ?_
    refine z_iloadn dX12_close_30 rfl ?_
    obtain ⟨q3, h⟩ := h
    refine z_iadd dX12_close_31 q3 ?_
    obtain ⟨q4, h⟩ := h
    refine y_iald (x := (M r0 ((x2 * x4) + x3))) dX12_close_32 hr0 q4 rfl ?_
    refine z_aloadn dX12_close_33 rfl (Or.inl rfl) ?_
    refine z_iloadn dX12_close_34 rfl ?_
    refine z_iloadn dX12_close_35 rfl ?_
    obtain ⟨q5, h⟩ := h
    refine z_imul dX12_close_36 q5 ?_
    refine z_iload dX12_close_37 rfl ?_
    obtain ⟨q6, h⟩ := h
    refine z_iadd dX12_close_39 q6 ?_
    obtain ⟨q7, h⟩ := h
    refine y_iald (x := (M r0 ((x2 * x3) + x5))) dX12_close_40 hr0 q7 rfl ?_
    obtain ⟨q8, h⟩ := h
    refine z_iadd dX12_close_41 q8 ?_
    refine y_istore (ls' := [(2, r0), (0, x1), (0, x2), (0, x3), (0, x4), (0, x5), (0, ((M r0 ((x2 * x4) + x3)) + (M r0 ((x2 * x3) + x5))))]) dX12_close_42 rfl rfl ?_
    refine z_iload dX12_close_44 rfl ?_
    refine z_aloadn dX12_close_46 rfl (Or.inl rfl) ?_
    refine z_iloadn dX12_close_47 rfl ?_
    refine z_iload dX12_close_48 rfl ?_
    obtain ⟨q9, h⟩ := h
    refine z_imul dX12_close_50 q9 ?_
    refine z_iload dX12_close_51 rfl ?_
    obtain ⟨q10, h⟩ := h
    refine z_iadd dX12_close_53 q10 ?_
    obtain ⟨q11, h⟩ := h
    refine y_iald (x := (M r0 ((x2 * x4) + x5))) dX12_close_54 hr0 q11 rfl ?_
    refine z_icmpge (tgt := 69) dX12_close_55 rfl (fun q => ?_) (fun q => ?_)
    · replace h := h.1 q
      obtain ⟨q12, h⟩ := h
      refine y_iinc (ls' := [(2, r0), (0, x1), (0, x2), (0, x3), (0, x4), (0, (x5 + 1)), (0, ((M r0 ((x2 * x4) + x3)) + (M r0 ((x2 * x3) + x5))))]) dX12_close_69 rfl rfl q12 rfl ?_
      refine z_goto (tgt := 19) dX12_close_72 rfl ?_
      refine z_sub (ls' := [(2, r0), (0, x1), (0, x2), (0, x3), (0, x4), (0, (x5 + 1)), (9, 0)]) ⟨Or.inl rfl, Or.inl rfl, Or.inl rfl, Or.inl rfl, Or.inl rfl, Or.inl rfl, Or.inr rfl, trivial⟩ ?_
      exact h
    · replace h := h.2 q
      refine z_aloadn dX12_close_58 rfl (Or.inl rfl) ?_
      refine z_iloadn dX12_close_59 rfl ?_
      refine z_iload dX12_close_60 rfl ?_
      obtain ⟨q13, h⟩ := h
      refine z_imul dX12_close_62 q13 ?_
      refine z_iload dX12_close_63 rfl ?_
      obtain ⟨q14, h⟩ := h
      refine z_iadd dX12_close_65 q14 ?_
      refine z_iload dX12_close_66 rfl ?_
      obtain ⟨q15, h⟩ := h
      refine y_iast hG dX12_close_68 hr0 q15 ?_
      obtain ⟨q16, h⟩ := h
      refine y_iinc (ls' := [(2, r0), (0, x1), (0, x2), (0, x3), (0, x4), (0, (x5 + 1)), (0, ((M r0 ((x2 * x4) + x3)) + (M r0 ((x2 * x3) + x5))))]) dX12_close_69 rfl rfl q16 rfl ?_
      refine z_goto (tgt := 19) dX12_close_72 rfl ?_
      refine z_sub (ls' := [(2, r0), (0, x1), (0, x2), (0, x3), (0, x4), (0, (x5 + 1)), (9, 0)]) ⟨Or.inl rfl, Or.inl rfl, Or.inl rfl, Or.inl rfl, Or.inl rfl, Or.inl rfl, Or.inr rfl, trivial⟩ ?_
      exact h
set_option maxRecDepth 20000 in
set_option maxHeartbeats 4000000 in
theorem bX12_findKin_0 {G : zG} {d : Nat} {M : zM} {Q : zV → zM → Prop} (hG : zP G)
    (h : Y G (d + 1) mX12_findKin 9 [(2, 234), (0, (M 235 1)), (0, 0), (9, 0)] [] M Q) :
    Y G (d + 1) mX12_findKin 0 [(2, 234), (9, 0), (9, 0), (9, 0)] [] M Q := by
  refine z_aloadn dX12_findKin_0 rfl (Or.inl rfl) ?_
  refine y_getr (v := 235) hG dX12_findKin_1 fX12_7 sh234 (by decide) rfl (by decide +kernel) (by decide) ?_
  refine z_iconst dX12_findKin_4 ki_1 ?_
  refine y_iald (x := (M 235 1)) dX12_findKin_5 sh235 ⟨by decide, by decide⟩ rfl ?_
  refine y_istoren (ls' := [(2, 234), (0, (M 235 1)), (9, 0), (9, 0)]) dX12_findKin_6 rfl rfl ?_
  refine z_iconst dX12_findKin_7 ki_0 ?_
  refine y_istoren (ls' := [(2, 234), (0, (M 235 1)), (0, 0), (9, 0)]) dX12_findKin_8 rfl rfl ?_
  exact h
set_option maxRecDepth 20000 in
set_option maxHeartbeats 4000000 in
theorem bX12_findKin_9 {G : zG} {d : Nat} {M : zM} {Q : zV → zM → Prop} (hG : zP G) {x1 x2 : Int}
    (h : ((x1 ≤ x2 → Y G d mX12_close 0 [(2, 237), (0, x1), (0, 8), (9, 0), (9, 0), (9, 0), (9, 0)] [] M (fun r M' => Y G (d + 1) mX12_findKin 87 [(2, 234), (0, x1), (0, x2), (9, 0)] (zpush r []) M' Q)) ∧ (x2 < x1 → Y G (d + 1) mX12_findKin 16 [(2, 234), (0, x1), (0, x2), (0, 0)] [] M Q))) :
    Y G (d + 1) mX12_findKin 9 [(2, 234), (0, x1), (0, x2), (9, 0)] [] M Q := by
  refine z_iloadn dX12_findKin_9 rfl ?_
  refine z_iloadn dX12_findKin_10 rfl ?_
  refine z_icmpge (tgt := 77) dX12_findKin_11 rfl (fun q => ?_) (fun q => ?_)
  · replace h := h.1 q
    refine z_aloadn dX12_findKin_77 rfl (Or.inl rfl) ?_
    refine y_getr (v := 237) hG dX12_findKin_78 fX12_16 sh234 (by decide) rfl (by decide +kernel) (by decide) ?_
    refine z_iloadn dX12_findKin_81 rfl ?_
    refine z_bipush dX12_findKin_82 kb_8 ?_
    refine y_cs (mt2 := mX12_close) (en := [(2, 237), (0, x1), (0, 8), (9, 0), (9, 0), (9, 0), (9, 0)]) (st := []) (as := [(2, 237), (0, x1), (0, 8)]) dX12_findKin_84 lX12_142 kX12_close tX12_close rfl (Nat.le_of_ble_eq_true rfl) (Nat.le_of_ble_eq_true rfl) rfl ?_
    exact h
  · replace h := h.2 q
    refine z_iconst dX12_findKin_14 ki_0 ?_
    refine y_istoren (ls' := [(2, 234), (0, x1), (0, x2), (0, 0)]) dX12_findKin_15 rfl rfl ?_
    exact h
set_option maxRecDepth 20000 in
set_option maxHeartbeats 4000000 in
theorem bX12_findKin_16 {G : zG} {d : Nat} {M : zM} {Q : zV → zM → Prop} (hG : zP G) {x1 x2 x3 : Int}
    (h : ((x1 ≤ x3 → (-2147483648 ≤ x2 + 1 ∧ x2 + 1 ≤ 2147483647) ∧ Y G (d + 1) mX12_findKin 9 [(2, 234), (0, x1), (0, (x2 + 1)), (9, 0)] [] M Q) ∧ (x3 < x1 → (-2147483648 ≤ 8 * x2 ∧ 8 * x2 ≤ 2147483647) ∧ (-2147483648 ≤ (8 * x2) + x3 ∧ (8 * x2) + x3 ≤ 2147483647) ∧ ((¬ x2 = x3 → Y G d mX12_isChild 0 [(2, 234), (0, x2), (0, x3)] [] M (fun r M' => Y G (d + 1) mX12_findKin 46 [(2, 234), (0, x1), (0, x2), (0, x3)] (zpush r [(0, ((8 * x2) + x3)), (2, 237)]) M' Q)) ∧ (x2 = x3 → (0 ≤ ((8 * x2) + x3) ∧ ((8 * x2) + x3) < 64) ∧ (-2147483648 ≤ x3 + 1 ∧ x3 + 1 ≤ 2147483647) ∧ Y G (d + 1) mX12_findKin 16 [(2, 234), (0, x1), (0, x2), (0, (x3 + 1))] [] (zset M 237 ((8 * x2) + x3) 0) Q))))) :
    Y G (d + 1) mX12_findKin 16 [(2, 234), (0, x1), (0, x2), (0, x3)] [] M Q := by
  refine z_iloadn dX12_findKin_16 rfl ?_
  refine z_iloadn dX12_findKin_17 rfl ?_
  refine z_icmpge (tgt := 71) dX12_findKin_18 rfl (fun q => ?_) (fun q => ?_)
  · replace h := h.1 q
    obtain ⟨q1, h⟩ := h
    refine y_iinc (ls' := [(2, 234), (0, x1), (0, (x2 + 1)), (0, x3)]) dX12_findKin_71 rfl rfl q1 rfl ?_
    refine z_goto (tgt := 9) dX12_findKin_74 rfl ?_
    refine z_sub (ls' := [(2, 234), (0, x1), (0, (x2 + 1)), (9, 0)]) ⟨Or.inl rfl, Or.inl rfl, Or.inl rfl, Or.inr rfl, trivial⟩ ?_
    exact h
  · replace h := h.2 q
    refine z_aloadn dX12_findKin_21 rfl (Or.inl rfl) ?_
    refine y_getr (v := 237) hG dX12_findKin_22 fX12_16 sh234 (by decide) rfl (by decide +kernel) (by decide) ?_
    refine z_bipush dX12_findKin_25 kb_8 ?_
    refine z_iloadn dX12_findKin_27 rfl ?_
    obtain ⟨q2, h⟩ := h
    refine z_imul dX12_findKin_28 q2 ?_
    refine z_iloadn dX12_findKin_29 rfl ?_
    obtain ⟨q3, h⟩ := h
    refine z_iadd dX12_findKin_30 q3 ?_
    refine z_iloadn dX12_findKin_31 rfl ?_
    refine z_iloadn dX12_findKin_32 rfl ?_
    refine z_icmpne (tgt := 40) dX12_findKin_33 rfl (fun q => ?_) (fun q => ?_)
    · replace h := h.1 q
      refine z_aloadn dX12_findKin_40 rfl (Or.inl rfl) ?_
      refine z_iloadn dX12_findKin_41 rfl ?_
      refine z_iloadn dX12_findKin_42 rfl ?_
      refine y_cv (mt2 := mX12_isChild) (en := [(2, 234), (0, x2), (0, x3)]) (st := [(0, ((8 * x2) + x3)), (2, 237)]) (as := [(0, x2), (0, x3)]) dX12_findKin_43 lX12_137 kX12_isChild iX12_isChild eX12_isChild rfl sh234 (by decide +kernel) (Nat.le_of_ble_eq_true rfl) (Nat.le_of_ble_eq_true rfl) rfl ?_
      exact h
    · replace h := h.2 q
      refine z_iconst dX12_findKin_36 ki_0 ?_
      refine z_goto (tgt := 64) dX12_findKin_37 rfl ?_
      obtain ⟨q4, h⟩ := h
      refine y_iast hG dX12_findKin_64 sh237 q4 ?_
      obtain ⟨q5, h⟩ := h
      refine y_iinc (ls' := [(2, 234), (0, x1), (0, x2), (0, (x3 + 1))]) dX12_findKin_65 rfl rfl q5 rfl ?_
      refine z_goto (tgt := 16) dX12_findKin_68 rfl ?_
      exact h
set_option maxRecDepth 20000 in
set_option maxHeartbeats 4000000 in
theorem bX12_findKin_89 {G : zG} {d : Nat} {M : zM} {Q : zV → zM → Prop} (hG : zP G) {x1 x2 : Int}
    (h : ((6 ≤ x2 → Y G d mX12_close 0 [(2, 238), (0, 6), (0, 6), (9, 0), (9, 0), (9, 0), (9, 0)] [] M (fun r M' => Y G (d + 1) mX12_findKin 182 [(2, 234), (0, x1), (0, x2), (9, 0)] (zpush r []) M' Q)) ∧ (x2 < 6 → Y G (d + 1) mX12_findKin 97 [(2, 234), (0, x1), (0, x2), (0, 0)] [] M Q))) :
    Y G (d + 1) mX12_findKin 89 [(2, 234), (0, x1), (0, x2), (9, 0)] [] M Q := by
  refine z_iloadn dX12_findKin_89 rfl ?_
  refine z_bipush dX12_findKin_90 kb_6 ?_
  refine z_icmpge (tgt := 171) dX12_findKin_92 rfl (fun q => ?_) (fun q => ?_)
  · replace h := h.1 q
    refine z_aloadn dX12_findKin_171 rfl (Or.inl rfl) ?_
    refine y_getr (v := 238) hG dX12_findKin_172 fX12_19 sh234 (by decide) rfl (by decide +kernel) (by decide) ?_
    refine z_bipush dX12_findKin_175 kb_6 ?_
    refine z_bipush dX12_findKin_177 kb_6 ?_
    refine y_cs (mt2 := mX12_close) (en := [(2, 238), (0, 6), (0, 6), (9, 0), (9, 0), (9, 0), (9, 0)]) (st := []) (as := [(2, 238), (0, 6), (0, 6)]) dX12_findKin_179 lX12_142 kX12_close tX12_close rfl (Nat.le_of_ble_eq_true rfl) (Nat.le_of_ble_eq_true rfl) rfl ?_
    exact h
  · replace h := h.2 q
    refine z_iconst dX12_findKin_95 ki_0 ?_
    refine y_istoren (ls' := [(2, 234), (0, x1), (0, x2), (0, 0)]) dX12_findKin_96 rfl rfl ?_
    exact h
set_option maxRecDepth 20000 in
set_option maxHeartbeats 4000000 in
theorem bX12_findKin_97 {G : zG} {d : Nat} {M : zM} {Q : zV → zM → Prop} (hG : zP G) {x1 x2 x3 : Int}
    (h : ((6 ≤ x3 → (-2147483648 ≤ x2 + 1 ∧ x2 + 1 ≤ 2147483647) ∧ Y G (d + 1) mX12_findKin 89 [(2, 234), (0, x1), (0, (x2 + 1)), (9, 0)] [] M Q) ∧ (x3 < 6 → (-2147483648 ≤ 6 * x2 ∧ 6 * x2 ≤ 2147483647) ∧ (-2147483648 ≤ (6 * x2) + x3 ∧ (6 * x2) + x3 ≤ 2147483647) ∧ ((¬ x2 = x3 → (-2147483648 ≤ 6 * x2 ∧ 6 * x2 ≤ 2147483647) ∧ (-2147483648 ≤ 38 + (6 * x2) ∧ 38 + (6 * x2) ≤ 2147483647) ∧ (-2147483648 ≤ (38 + (6 * x2)) + x3 ∧ (38 + (6 * x2)) + x3 ≤ 2147483647) ∧ (0 ≤ ((38 + (6 * x2)) + x3) ∧ ((38 + (6 * x2)) + x3) < 156) ∧ (((M 235 ((38 + (6 * x2)) + x3)) ≤ 0 → (0 ≤ ((6 * x2) + x3) ∧ ((6 * x2) + x3) < 36) ∧ (-2147483648 ≤ x3 + 1 ∧ x3 + 1 ≤ 2147483647) ∧ Y G (d + 1) mX12_findKin 97 [(2, 234), (0, x1), (0, x2), (0, (x3 + 1))] [] (zset M 238 ((6 * x2) + x3) 100000) Q) ∧ (0 < (M 235 ((38 + (6 * x2)) + x3)) → (-2147483648 ≤ 6 * x2 ∧ 6 * x2 ≤ 2147483647) ∧ (-2147483648 ≤ 38 + (6 * x2) ∧ 38 + (6 * x2) ≤ 2147483647) ∧ (-2147483648 ≤ (38 + (6 * x2)) + x3 ∧ (38 + (6 * x2)) + x3 ≤ 2147483647) ∧ (0 ≤ ((38 + (6 * x2)) + x3) ∧ ((38 + (6 * x2)) + x3) < 156) ∧ (0 ≤ ((6 * x2) + x3) ∧ ((6 * x2) + x3) < 36) ∧ (-2147483648 ≤ x3 + 1 ∧ x3 + 1 ≤ 2147483647) ∧ Y G (d + 1) mX12_findKin 97 [(2, 234), (0, x1), (0, x2), (0, (x3 + 1))] [] (zset M 238 ((6 * x2) + x3) (M 235 ((38 + (6 * x2)) + x3))) Q))) ∧ (x2 = x3 → (0 ≤ ((6 * x2) + x3) ∧ ((6 * x2) + x3) < 36) ∧ (-2147483648 ≤ x3 + 1 ∧ x3 + 1 ≤ 2147483647) ∧ Y G (d + 1) mX12_findKin 97 [(2, 234), (0, x1), (0, x2), (0, (x3 + 1))] [] (zset M 238 ((6 * x2) + x3) 0) Q))))) :
    Y G (d + 1) mX12_findKin 97 [(2, 234), (0, x1), (0, x2), (0, x3)] [] M Q := by
  refine z_iloadn dX12_findKin_97 rfl ?_
  refine z_bipush dX12_findKin_98 kb_6 ?_
  refine z_icmpge (tgt := 165) dX12_findKin_100 rfl (fun q => ?_) (fun q => ?_)
  · replace h := h.1 q
    obtain ⟨q1, h⟩ := h
    refine y_iinc (ls' := [(2, 234), (0, x1), (0, (x2 + 1)), (0, x3)]) dX12_findKin_165 rfl rfl q1 rfl ?_
    refine z_goto (tgt := 89) dX12_findKin_168 rfl ?_
    refine z_sub (ls' := [(2, 234), (0, x1), (0, (x2 + 1)), (9, 0)]) ⟨Or.inl rfl, Or.inl rfl, Or.inl rfl, Or.inr rfl, trivial⟩ ?_
    exact h
  · replace h := h.2 q
    refine z_aloadn dX12_findKin_103 rfl (Or.inl rfl) ?_
    refine y_getr (v := 238) hG dX12_findKin_104 fX12_19 sh234 (by decide) rfl (by decide +kernel) (by decide) ?_
    refine z_bipush dX12_findKin_107 kb_6 ?_
    refine z_iloadn dX12_findKin_109 rfl ?_
    obtain ⟨q2, h⟩ := h
    refine z_imul dX12_findKin_110 q2 ?_
    refine z_iloadn dX12_findKin_111 rfl ?_
    obtain ⟨q3, h⟩ := h
    refine z_iadd dX12_findKin_112 q3 ?_
    refine z_iloadn dX12_findKin_113 rfl ?_
    refine z_iloadn dX12_findKin_114 rfl ?_
    refine z_icmpne (tgt := 122) dX12_findKin_115 rfl (fun q => ?_) (fun q => ?_)
    · replace h := h.1 q
      refine z_aloadn dX12_findKin_122 rfl (Or.inl rfl) ?_
      refine y_getr (v := 235) hG dX12_findKin_123 fX12_7 sh234 (by decide) rfl (by decide +kernel) (by decide) ?_
      refine z_bipush dX12_findKin_126 kb_38 ?_
      refine z_bipush dX12_findKin_128 kb_6 ?_
      refine z_iloadn dX12_findKin_130 rfl ?_
      obtain ⟨q4, h⟩ := h
      refine z_imul dX12_findKin_131 q4 ?_
      obtain ⟨q5, h⟩ := h
      refine z_iadd dX12_findKin_132 q5 ?_
      refine z_iloadn dX12_findKin_133 rfl ?_
      obtain ⟨q6, h⟩ := h
      refine z_iadd dX12_findKin_134 q6 ?_
      obtain ⟨q7, h⟩ := h
      refine y_iald (x := (M 235 ((38 + (6 * x2)) + x3))) dX12_findKin_135 sh235 q7 rfl ?_
      refine z_ifle (tgt := 156) dX12_findKin_136 rfl (fun q => ?_) (fun q => ?_)
      · replace h := h.1 q
        refine z_ldc (k := 100000) (v := 100000) dX12_findKin_156 ⟨by decide, ⟨by decide, by decide⟩⟩ qX12_141 ?_
        obtain ⟨q8, h⟩ := h
        refine y_iast hG dX12_findKin_158 sh238 q8 ?_
        obtain ⟨q9, h⟩ := h
        refine y_iinc (ls' := [(2, 234), (0, x1), (0, x2), (0, (x3 + 1))]) dX12_findKin_159 rfl rfl q9 rfl ?_
        refine z_goto (tgt := 97) dX12_findKin_162 rfl ?_
        exact h
      · replace h := h.2 q
        refine z_aloadn dX12_findKin_139 rfl (Or.inl rfl) ?_
        refine y_getr (v := 235) hG dX12_findKin_140 fX12_7 sh234 (by decide) rfl (by decide +kernel) (by decide) ?_
        refine z_bipush dX12_findKin_143 kb_38 ?_
        refine z_bipush dX12_findKin_145 kb_6 ?_
        refine z_iloadn dX12_findKin_147 rfl ?_
        obtain ⟨q10, h⟩ := h
        refine z_imul dX12_findKin_148 q10 ?_
        obtain ⟨q11, h⟩ := h
        refine z_iadd dX12_findKin_149 q11 ?_
        refine z_iloadn dX12_findKin_150 rfl ?_
        obtain ⟨q12, h⟩ := h
        refine z_iadd dX12_findKin_151 q12 ?_
        obtain ⟨q13, h⟩ := h
        refine y_iald (x := (M 235 ((38 + (6 * x2)) + x3))) dX12_findKin_152 sh235 q13 rfl ?_
        refine z_goto (tgt := 158) dX12_findKin_153 rfl ?_
        obtain ⟨q14, h⟩ := h
        refine y_iast hG dX12_findKin_158 sh238 q14 ?_
        obtain ⟨q15, h⟩ := h
        refine y_iinc (ls' := [(2, 234), (0, x1), (0, x2), (0, (x3 + 1))]) dX12_findKin_159 rfl rfl q15 rfl ?_
        refine z_goto (tgt := 97) dX12_findKin_162 rfl ?_
        exact h
    · replace h := h.2 q
      refine z_iconst dX12_findKin_118 ki_0 ?_
      refine z_goto (tgt := 158) dX12_findKin_119 rfl ?_
      obtain ⟨q16, h⟩ := h
      refine y_iast hG dX12_findKin_158 sh238 q16 ?_
      obtain ⟨q17, h⟩ := h
      refine y_iinc (ls' := [(2, 234), (0, x1), (0, x2), (0, (x3 + 1))]) dX12_findKin_159 rfl rfl q17 rfl ?_
      refine z_goto (tgt := 97) dX12_findKin_162 rfl ?_
      exact h
set_option maxRecDepth 20000 in
set_option maxHeartbeats 4000000 in
theorem bX12_findKin_87 {G : zG} {d : Nat} {M : zM} {Q : zV → zM → Prop} (hG : zP G) {x1 x2 : Int}
    (h : Y G (d + 1) mX12_findKin 89 [(2, 234), (0, x1), (0, 0), (9, 0)] [] M Q) :
    Y G (d + 1) mX12_findKin 87 [(2, 234), (0, x1), (0, x2), (9, 0)] [] M Q := by
  refine z_iconst dX12_findKin_87 ki_0 ?_
  refine y_istoren (ls' := [(2, 234), (0, x1), (0, 0), (9, 0)]) dX12_findKin_88 rfl rfl ?_
  exact h
set_option maxRecDepth 20000 in
set_option maxHeartbeats 4000000 in
theorem bX12_findKin_46 {G : zG} {d : Nat} {M : zM} {Q : zV → zM → Prop} (hG : zP G) {x1 x2 x3 x49 x50 : Int}
    (h : ((¬ x49 = 0 → (0 ≤ x50 ∧ x50 < 64) ∧ (-2147483648 ≤ x3 + 1 ∧ x3 + 1 ≤ 2147483647) ∧ Y G (d + 1) mX12_findKin 16 [(2, 234), (0, x1), (0, x2), (0, (x3 + 1))] [] (zset M 237 x50 1) Q) ∧ (x49 = 0 → Y G d mX12_isChild 0 [(2, 234), (0, x3), (0, x2)] [] M (fun r M' => Y G (d + 1) mX12_findKin 55 [(2, 234), (0, x1), (0, x2), (0, x3)] (zpush r [(0, x50), (2, 237)]) M' Q)))) :
    Y G (d + 1) mX12_findKin 46 [(2, 234), (0, x1), (0, x2), (0, x3)] [(0, x49), (0, x50), (2, 237)] M Q := by
  refine z_ifne (tgt := 58) dX12_findKin_46 rfl (fun q => ?_) (fun q => ?_)
  · replace h := h.1 q
    refine z_iconst dX12_findKin_58 ki_1 ?_
    refine z_goto (tgt := 64) dX12_findKin_59 rfl ?_
    obtain ⟨q1, h⟩ := h
    refine y_iast hG dX12_findKin_64 sh237 q1 ?_
    obtain ⟨q2, h⟩ := h
    refine y_iinc (ls' := [(2, 234), (0, x1), (0, x2), (0, (x3 + 1))]) dX12_findKin_65 rfl rfl q2 rfl ?_
    refine z_goto (tgt := 16) dX12_findKin_68 rfl ?_
    exact h
  · replace h := h.2 q
    refine z_aloadn dX12_findKin_49 rfl (Or.inl rfl) ?_
    refine z_iloadn dX12_findKin_50 rfl ?_
    refine z_iloadn dX12_findKin_51 rfl ?_
    refine y_cv (mt2 := mX12_isChild) (en := [(2, 234), (0, x3), (0, x2)]) (st := [(0, x50), (2, 237)]) (as := [(0, x3), (0, x2)]) dX12_findKin_52 lX12_137 kX12_isChild iX12_isChild eX12_isChild rfl sh234 (by decide +kernel) (Nat.le_of_ble_eq_true rfl) (Nat.le_of_ble_eq_true rfl) rfl ?_
    exact h
set_option maxRecDepth 20000 in
set_option maxHeartbeats 4000000 in
theorem bX12_findKin_182 {G : zG} {d : Nat} {M : zM} {Q : zV → zM → Prop} (hG : zP G) {x1 x2 : Int}
    (h : Q (9, 0) M) :
    Y G (d + 1) mX12_findKin 182 [(2, 234), (0, x1), (0, x2), (9, 0)] [] M Q := by
  exact z_return dX12_findKin_182 rfl rfl h
set_option maxRecDepth 20000 in
set_option maxHeartbeats 4000000 in
theorem bX12_findKin_55 {G : zG} {d : Nat} {M : zM} {Q : zV → zM → Prop} (hG : zP G) {x1 x2 x3 x49 x50 : Int}
    (h : ((x49 = 0 → (0 ≤ x50 ∧ x50 < 64) ∧ (-2147483648 ≤ x3 + 1 ∧ x3 + 1 ≤ 2147483647) ∧ Y G (d + 1) mX12_findKin 16 [(2, 234), (0, x1), (0, x2), (0, (x3 + 1))] [] (zset M 237 x50 100000) Q) ∧ (¬ x49 = 0 → (0 ≤ x50 ∧ x50 < 64) ∧ (-2147483648 ≤ x3 + 1 ∧ x3 + 1 ≤ 2147483647) ∧ Y G (d + 1) mX12_findKin 16 [(2, 234), (0, x1), (0, x2), (0, (x3 + 1))] [] (zset M 237 x50 1) Q))) :
    Y G (d + 1) mX12_findKin 55 [(2, 234), (0, x1), (0, x2), (0, x3)] [(0, x49), (0, x50), (2, 237)] M Q := by
  refine z_ifeq (tgt := 62) dX12_findKin_55 rfl (fun q => ?_) (fun q => ?_)
  · replace h := h.1 q
    refine z_ldc (k := 100000) (v := 100000) dX12_findKin_62 ⟨by decide, ⟨by decide, by decide⟩⟩ qX12_141 ?_
    obtain ⟨q1, h⟩ := h
    refine y_iast hG dX12_findKin_64 sh237 q1 ?_
    obtain ⟨q2, h⟩ := h
    refine y_iinc (ls' := [(2, 234), (0, x1), (0, x2), (0, (x3 + 1))]) dX12_findKin_65 rfl rfl q2 rfl ?_
    refine z_goto (tgt := 16) dX12_findKin_68 rfl ?_
    exact h
  · replace h := h.2 q
    refine z_iconst dX12_findKin_58 ki_1 ?_
    refine z_goto (tgt := 64) dX12_findKin_59 rfl ?_
    obtain ⟨q3, h⟩ := h
    refine y_iast hG dX12_findKin_64 sh237 q3 ?_
    obtain ⟨q4, h⟩ := h
    refine y_iinc (ls' := [(2, 234), (0, x1), (0, x2), (0, (x3 + 1))]) dX12_findKin_65 rfl rfl q4 rfl ?_
    refine z_goto (tgt := 16) dX12_findKin_68 rfl ?_
    exact h
set_option maxRecDepth 20000 in
set_option maxHeartbeats 4000000 in
theorem bX12_kin_0 {G : zG} {d : Nat} {M : zM} {Q : zV → zM → Prop} (hG : zP G) {x1 x2 : Int}
    (h : (-1000 ≤ (M 235 1) ∧ (M 235 1) ≤ 1000) ∧ ((0 ≤ x1 ∧ x1 < (M 235 1) → (-1000 ≤ (M 235 1) ∧ (M 235 1) ≤ 1000) ∧ ((0 ≤ x2 ∧ x2 < (M 235 1) → Y G (d + 1) mX12_findKin 0 [(2, 234), (9, 0), (9, 0), (9, 0)] [] M (fun r M' => Y G (d + 2) mX12_kin 23 [(2, 234), (0, x1), (0, x2)] (zpush r []) M' Q)) ∧ (¬ (0 ≤ x2 ∧ x2 < (M 235 1)) → Q (0, (-2)) M))) ∧ (¬ (0 ≤ x1 ∧ x1 < (M 235 1)) → Q (0, (-2)) M))) :
    Y G (d + 2) mX12_kin 0 [(2, 234), (0, x1), (0, x2)] [] M Q := by
  refine z_aloadn dX12_kin_0 rfl (Or.inl rfl) ?_
  refine z_iloadn dX12_kin_1 rfl ?_
  obtain ⟨q1, h⟩ := h
  refine y_cv (mt2 := mX12_isPerson) (en := [(2, 234), (0, x1)]) (st := []) (as := [(0, x1)]) dX12_kin_2 lX12_130 kX12_isPerson iX12_isPerson eX12_isPerson rfl sh234 (by decide +kernel) (Nat.le_of_ble_eq_true rfl) (Nat.le_of_ble_eq_true rfl) rfl (s_misPerson hG rfl q1 (fun q => ?_) (fun q => ?_))
  · replace h := h.1 q
    show Y G (d + 2) mX12_kin 5 [(2, 234), (0, x1), (0, x2)] [(0, 1)] M Q
    refine z_ifeq (tgt := 16) dX12_kin_5 rfl (fun q => absurd q (by decide)) (fun _ => ?_)
    refine z_aloadn dX12_kin_8 rfl (Or.inl rfl) ?_
    refine z_iloadn dX12_kin_9 rfl ?_
    obtain ⟨q2, h⟩ := h
    refine y_cv (mt2 := mX12_isPerson) (en := [(2, 234), (0, x2)]) (st := []) (as := [(0, x2)]) dX12_kin_10 lX12_130 kX12_isPerson iX12_isPerson eX12_isPerson rfl sh234 (by decide +kernel) (Nat.le_of_ble_eq_true rfl) (Nat.le_of_ble_eq_true rfl) rfl (s_misPerson hG rfl q2 (fun q => ?_) (fun q => ?_))
    · replace h := h.1 q
      show Y G (d + 2) mX12_kin 13 [(2, 234), (0, x1), (0, x2)] [(0, 1)] M Q
      refine z_ifne (tgt := 19) dX12_kin_13 rfl (fun _ => ?_) (fun q => absurd q (by decide))
      refine z_aloadn dX12_kin_19 rfl (Or.inl rfl) ?_
      refine y_cv (mt2 := mX12_findKin) (en := [(2, 234), (9, 0), (9, 0), (9, 0)]) (st := []) (as := []) dX12_kin_20 lX12_146 kX12_findKin iX12_findKin eX12_findKin rfl sh234 (by decide +kernel) (Nat.le_of_ble_eq_true rfl) (Nat.le_of_ble_eq_true rfl) rfl ?_
      exact h
    · replace h := h.2 q
      show Y G (d + 2) mX12_kin 13 [(2, 234), (0, x1), (0, x2)] [(0, 0)] M Q
      refine z_ifne (tgt := 19) dX12_kin_13 rfl (fun q => absurd q (by decide)) (fun _ => ?_)
      refine z_bipush dX12_kin_16 kb_m2 ?_
      exact z_ireturn dX12_kin_18 (Or.inl rfl) rfl h
  · replace h := h.2 q
    show Y G (d + 2) mX12_kin 5 [(2, 234), (0, x1), (0, x2)] [(0, 0)] M Q
    refine z_ifeq (tgt := 16) dX12_kin_5 rfl (fun _ => ?_) (fun q => absurd q (by decide))
    refine z_bipush dX12_kin_16 kb_m2 ?_
    exact z_ireturn dX12_kin_18 (Or.inl rfl) rfl h
set_option maxRecDepth 20000 in
set_option maxHeartbeats 4000000 in
theorem bX12_kin_23 {G : zG} {d : Nat} {M : zM} {Q : zV → zM → Prop} (hG : zP G) {x1 x2 : Int}
    (h : (-2147483648 ≤ 8 * x1 ∧ 8 * x1 ≤ 2147483647) ∧ (-2147483648 ≤ (8 * x1) + x2 ∧ (8 * x1) + x2 ≤ 2147483647) ∧ (0 ≤ ((8 * x1) + x2) ∧ ((8 * x1) + x2) < 64) ∧ Q (0, (zkn (M 237 ((8 * x1) + x2)))) M) :
    Y G (d + 2) mX12_kin 23 [(2, 234), (0, x1), (0, x2)] [] M Q := by
  refine z_aloadn dX12_kin_23 rfl (Or.inl rfl) ?_
  refine y_getr (v := 237) hG dX12_kin_24 fX12_16 sh234 (by decide) rfl (by decide +kernel) (by decide) ?_
  refine z_bipush dX12_kin_27 kb_8 ?_
  refine z_iloadn dX12_kin_29 rfl ?_
  obtain ⟨q1, h⟩ := h
  refine z_imul dX12_kin_30 q1 ?_
  refine z_iloadn dX12_kin_31 rfl ?_
  obtain ⟨q2, h⟩ := h
  refine z_iadd dX12_kin_32 q2 ?_
  obtain ⟨q3, h⟩ := h
  refine y_iald (x := (M 237 ((8 * x1) + x2))) dX12_kin_33 sh237 q3 rfl ?_
  refine y_cs (mt2 := mX12_known) (en := [(0, (M 237 ((8 * x1) + x2)))]) (st := []) (as := [(0, (M 237 ((8 * x1) + x2)))]) dX12_kin_34 lX12_149 kX12_known tX12_known rfl (Nat.le_of_ble_eq_true rfl) (Nat.le_of_ble_eq_true rfl) rfl (s_known hG ?_)
  show Y G (d + 2) mX12_kin 37 [(2, 234), (0, x1), (0, x2)] [(0, (zkn (M 237 ((8 * x1) + x2))))] M Q
  exact z_ireturn dX12_kin_37 (Or.inl rfl) rfl h
set_option maxRecDepth 20000 in
set_option maxHeartbeats 4000000 in
theorem bX12_way_0 {G : zG} {d : Nat} {M : zM} {Q : zV → zM → Prop} (hG : zP G) {x1 x2 : Int}
    (h : ((0 ≤ x1 ∧ x1 ≤ 5 → ((0 ≤ x2 ∧ x2 ≤ 5 → Y G d mX12_findKin 0 [(2, 234), (9, 0), (9, 0), (9, 0)] [] M (fun r M' => Y G (d + 1) mX12_way 25 [(2, 234), (0, x1), (0, x2)] (zpush r []) M' Q)) ∧ (¬ (0 ≤ x2 ∧ x2 ≤ 5) → Q (0, (-2)) M))) ∧ (¬ (0 ≤ x1 ∧ x1 ≤ 5) → Q (0, (-2)) M))) :
    Y G (d + 1) mX12_way 0 [(2, 234), (0, x1), (0, x2)] [] M Q := by
  refine z_iloadn dX12_way_0 rfl ?_
  refine z_iconst dX12_way_1 ki_0 ?_
  refine z_iconst dX12_way_2 ki_5 ?_
  refine y_cs (mt2 := mX12_isIn) (en := [(0, x1), (0, 0), (0, 5)]) (st := []) (as := [(0, x1), (0, 0), (0, 5)]) dX12_way_3 lX12_126 kX12_isIn tX12_isIn rfl (Nat.le_of_ble_eq_true rfl) (Nat.le_of_ble_eq_true rfl) rfl (s_isIn hG (fun q => ?_) (fun q => ?_))
  · replace h := h.1 q
    show Y G (d + 1) mX12_way 6 [(2, 234), (0, x1), (0, x2)] [(0, 1)] M Q
    refine z_ifeq (tgt := 18) dX12_way_6 rfl (fun q => absurd q (by decide)) (fun _ => ?_)
    refine z_iloadn dX12_way_9 rfl ?_
    refine z_iconst dX12_way_10 ki_0 ?_
    refine z_iconst dX12_way_11 ki_5 ?_
    refine y_cs (mt2 := mX12_isIn) (en := [(0, x2), (0, 0), (0, 5)]) (st := []) (as := [(0, x2), (0, 0), (0, 5)]) dX12_way_12 lX12_126 kX12_isIn tX12_isIn rfl (Nat.le_of_ble_eq_true rfl) (Nat.le_of_ble_eq_true rfl) rfl (s_isIn hG (fun q => ?_) (fun q => ?_))
    · replace h := h.1 q
      show Y G (d + 1) mX12_way 15 [(2, 234), (0, x1), (0, x2)] [(0, 1)] M Q
      refine z_ifne (tgt := 21) dX12_way_15 rfl (fun _ => ?_) (fun q => absurd q (by decide))
      refine z_aloadn dX12_way_21 rfl (Or.inl rfl) ?_
      refine y_cv (mt2 := mX12_findKin) (en := [(2, 234), (9, 0), (9, 0), (9, 0)]) (st := []) (as := []) dX12_way_22 lX12_146 kX12_findKin iX12_findKin eX12_findKin rfl sh234 (by decide +kernel) (Nat.le_of_ble_eq_true rfl) (Nat.le_of_ble_eq_true rfl) rfl ?_
      exact h
    · replace h := h.2 q
      show Y G (d + 1) mX12_way 15 [(2, 234), (0, x1), (0, x2)] [(0, 0)] M Q
      refine z_ifne (tgt := 21) dX12_way_15 rfl (fun q => absurd q (by decide)) (fun _ => ?_)
      refine z_bipush dX12_way_18 kb_m2 ?_
      exact z_ireturn dX12_way_20 (Or.inl rfl) rfl h
  · replace h := h.2 q
    show Y G (d + 1) mX12_way 6 [(2, 234), (0, x1), (0, x2)] [(0, 0)] M Q
    refine z_ifeq (tgt := 18) dX12_way_6 rfl (fun _ => ?_) (fun q => absurd q (by decide))
    refine z_bipush dX12_way_18 kb_m2 ?_
    exact z_ireturn dX12_way_20 (Or.inl rfl) rfl h
set_option maxRecDepth 20000 in
set_option maxHeartbeats 4000000 in
theorem bX12_way_25 {G : zG} {d : Nat} {M : zM} {Q : zV → zM → Prop} (hG : zP G) {x1 x2 : Int}
    (h : (-2147483648 ≤ 6 * x1 ∧ 6 * x1 ≤ 2147483647) ∧ (-2147483648 ≤ (6 * x1) + x2 ∧ (6 * x1) + x2 ≤ 2147483647) ∧ (0 ≤ ((6 * x1) + x2) ∧ ((6 * x1) + x2) < 36) ∧ Q (0, (zkn (M 238 ((6 * x1) + x2)))) M) :
    Y G (d + 1) mX12_way 25 [(2, 234), (0, x1), (0, x2)] [] M Q := by
  refine z_aloadn dX12_way_25 rfl (Or.inl rfl) ?_
  refine y_getr (v := 238) hG dX12_way_26 fX12_19 sh234 (by decide) rfl (by decide +kernel) (by decide) ?_
  refine z_bipush dX12_way_29 kb_6 ?_
  refine z_iloadn dX12_way_31 rfl ?_
  obtain ⟨q1, h⟩ := h
  refine z_imul dX12_way_32 q1 ?_
  refine z_iloadn dX12_way_33 rfl ?_
  obtain ⟨q2, h⟩ := h
  refine z_iadd dX12_way_34 q2 ?_
  obtain ⟨q3, h⟩ := h
  refine y_iald (x := (M 238 ((6 * x1) + x2))) dX12_way_35 sh238 q3 rfl ?_
  refine y_cs (mt2 := mX12_known) (en := [(0, (M 238 ((6 * x1) + x2)))]) (st := []) (as := [(0, (M 238 ((6 * x1) + x2)))]) dX12_way_36 lX12_149 kX12_known tX12_known rfl (Nat.le_of_ble_eq_true rfl) (Nat.le_of_ble_eq_true rfl) rfl (s_known hG ?_)
  show Y G (d + 1) mX12_way 39 [(2, 234), (0, x1), (0, x2)] [(0, (zkn (M 238 ((6 * x1) + x2))))] M Q
  exact z_ireturn dX12_way_39 (Or.inl rfl) rfl h
set_option maxRecDepth 20000 in
set_option maxHeartbeats 4000000 in
theorem bX12_four_0 {G : zG} {d : Nat} {M : zM} {Q : zV → zM → Prop} (hG : zP G) {x1 : Int}
    (h : Y G d mX12_four 2 [(2, 234), (0, x1), (0, 3)] [] M Q) :
    Y G d mX12_four 0 [(2, 234), (0, x1), (9, 0)] [] M Q := by
  refine z_iconst dX12_four_0 ki_3 ?_
  refine y_istoren (ls' := [(2, 234), (0, x1), (0, 3)]) dX12_four_1 rfl rfl ?_
  exact h
set_option maxRecDepth 20000 in
set_option maxHeartbeats 4000000 in
theorem bX12_four_2 {G : zG} {d : Nat} {M : zM} {Q : zV → zM → Prop} (hG : zP G) {x1 x2 : Int}
    (h : ((x2 < 0 → Q (9, 0) M) ∧ (0 ≤ x2 → (-2147483648 ≤ 8 * x2 ∧ 8 * x2 ≤ 2147483647) ∧ (0 ≤ (M 234 5) ∧ (M 234 5) < 300) ∧ (-2147483648 ≤ (M 234 5) + 1 ∧ (M 234 5) + 1 ≤ 2147483647) ∧ (-2147483648 ≤ x2 + (-1) ∧ x2 + (-1) ≤ 2147483647) ∧ Y G d mX12_four 2 [(2, 234), (0, x1), (0, (x2 + (-1)))] [] (zset (zset M 239 (M 234 5) (zand (zshr x1 (8 * x2)) 255)) 234 5 ((M 234 5) + 1)) Q))) :
    Y G d mX12_four 2 [(2, 234), (0, x1), (0, x2)] [] M Q := by
  refine z_iloadn dX12_four_2 rfl ?_
  refine z_iflt (tgt := 41) dX12_four_3 rfl (fun q => ?_) (fun q => ?_)
  · replace h := h.1 q
    exact z_return dX12_four_41 rfl rfl h
  · replace h := h.2 q
    refine z_aloadn dX12_four_6 rfl (Or.inl rfl) ?_
    refine y_getr (v := 239) hG dX12_four_7 fX12_22 sh234 (by decide) rfl (by decide +kernel) (by decide) ?_
    refine z_aloadn dX12_four_10 rfl (Or.inl rfl) ?_
    refine y_getf (x := (M 234 5)) dX12_four_11 fX12_153 sh234 (by decide) rfl rfl ?_
    refine z_iloadn dX12_four_14 rfl ?_
    refine z_bipush dX12_four_15 kb_8 ?_
    refine z_iloadn dX12_four_17 rfl ?_
    obtain ⟨q1, h⟩ := h
    refine z_imul dX12_four_18 q1 ?_
    refine z_ishr dX12_four_19 ?_
    refine z_sipush dX12_four_20 ks_255 ?_
    refine z_iand dX12_four_23 ?_
    obtain ⟨q2, h⟩ := h
    refine y_iast hG dX12_four_24 sh239 q2 ?_
    refine z_aloadn dX12_four_25 rfl (Or.inl rfl) ?_
    refine z_dup dX12_four_26 (show (2 : Nat) ≠ 1 by decide) ?_
    refine y_getf (x := (M 234 5)) dX12_four_27 fX12_153 sh234 (by decide) rfl (zset_ne (fun q => absurd q.1 (by decide))) ?_
    refine z_iconst dX12_four_30 ki_1 ?_
    obtain ⟨q3, h⟩ := h
    refine z_iadd dX12_four_31 q3 ?_
    refine y_putf (M' := zset (zset M 239 (M 234 5) (zand (zshr x1 (8 * x2)) 255)) 234 5 ((M 234 5) + 1)) hG dX12_four_32 fX12_153 sh234 (by decide) ⟨rfl, rfl⟩ p12_5 (fun q => absurd q (by decide)) (by decide) rfl ?_
    obtain ⟨q4, h⟩ := h
    refine y_iinc (ls' := [(2, 234), (0, x1), (0, (x2 + (-1)))]) dX12_four_35 rfl rfl q4 rfl ?_
    refine z_goto (tgt := 2) dX12_four_38 rfl ?_
    exact h
set_option maxRecDepth 20000 in
set_option maxHeartbeats 4000000 in
theorem bX12_feed_0 {G : zG} {d : Nat} {M : zM} {Q : zV → zM → Prop} (hG : zP G) {x1 x2 x3 x4 x5 : Int}
    (h : (-2147483648 ≤ (M 234 5) + 20 ∧ (M 234 5) + 20 ≤ 2147483647) ∧ ((((M 234 5) + 20) ≤ 300 → Y G d mX12_four 0 [(2, 234), (0, x1), (9, 0)] [] M (fun r M' => Y G (d + 1) mX12_feed 20 [(2, 234), (0, x1), (0, x2), (0, x3), (0, x4), (0, x5)] (zpush r []) M' Q)) ∧ (300 < ((M 234 5) + 20) → Q (0, (-1)) M))) :
    Y G (d + 1) mX12_feed 0 [(2, 234), (0, x1), (0, x2), (0, x3), (0, x4), (0, x5)] [] M Q := by
  refine z_aloadn dX12_feed_0 rfl (Or.inl rfl) ?_
  refine y_getf (x := (M 234 5)) dX12_feed_1 fX12_153 sh234 (by decide) rfl rfl ?_
  refine z_bipush dX12_feed_4 kb_20 ?_
  obtain ⟨q1, h⟩ := h
  refine z_iadd dX12_feed_6 q1 ?_
  refine z_sipush dX12_feed_7 ks_300 ?_
  refine z_icmple (tgt := 15) dX12_feed_10 rfl (fun q => ?_) (fun q => ?_)
  · replace h := h.1 q
    refine z_aloadn dX12_feed_15 rfl (Or.inl rfl) ?_
    refine z_iloadn dX12_feed_16 rfl ?_
    refine y_cv (mt2 := mX12_four) (en := [(2, 234), (0, x1), (9, 0)]) (st := []) (as := [(0, x1)]) dX12_feed_17 lX12_156 kX12_four iX12_four eX12_four rfl sh234 (by decide +kernel) (Nat.le_of_ble_eq_true rfl) (Nat.le_of_ble_eq_true rfl) rfl ?_
    exact h
  · replace h := h.2 q
    refine z_iconst dX12_feed_13 ki_m1 ?_
    exact z_ireturn dX12_feed_14 (Or.inl rfl) rfl h
set_option maxRecDepth 20000 in
set_option maxHeartbeats 4000000 in
theorem bX12_feed_20 {G : zG} {d : Nat} {M : zM} {Q : zV → zM → Prop} (hG : zP G) {x1 x2 x3 x4 x5 : Int}
    (h : Y G d mX12_four 0 [(2, 234), (0, x2), (9, 0)] [] M (fun r M' => Y G (d + 1) mX12_feed 25 [(2, 234), (0, x1), (0, x2), (0, x3), (0, x4), (0, x5)] (zpush r []) M' Q)) :
    Y G (d + 1) mX12_feed 20 [(2, 234), (0, x1), (0, x2), (0, x3), (0, x4), (0, x5)] [] M Q := by
  refine z_aloadn dX12_feed_20 rfl (Or.inl rfl) ?_
  refine z_iloadn dX12_feed_21 rfl ?_
  refine y_cv (mt2 := mX12_four) (en := [(2, 234), (0, x2), (9, 0)]) (st := []) (as := [(0, x2)]) dX12_feed_22 lX12_156 kX12_four iX12_four eX12_four rfl sh234 (by decide +kernel) (Nat.le_of_ble_eq_true rfl) (Nat.le_of_ble_eq_true rfl) rfl ?_
  exact h
set_option maxRecDepth 20000 in
set_option maxHeartbeats 4000000 in
theorem bX12_feed_25 {G : zG} {d : Nat} {M : zM} {Q : zV → zM → Prop} (hG : zP G) {x1 x2 x3 x4 x5 : Int}
    (h : Y G d mX12_four 0 [(2, 234), (0, x3), (9, 0)] [] M (fun r M' => Y G (d + 1) mX12_feed 30 [(2, 234), (0, x1), (0, x2), (0, x3), (0, x4), (0, x5)] (zpush r []) M' Q)) :
    Y G (d + 1) mX12_feed 25 [(2, 234), (0, x1), (0, x2), (0, x3), (0, x4), (0, x5)] [] M Q := by
  refine z_aloadn dX12_feed_25 rfl (Or.inl rfl) ?_
  refine z_iloadn dX12_feed_26 rfl ?_
  refine y_cv (mt2 := mX12_four) (en := [(2, 234), (0, x3), (9, 0)]) (st := []) (as := [(0, x3)]) dX12_feed_27 lX12_156 kX12_four iX12_four eX12_four rfl sh234 (by decide +kernel) (Nat.le_of_ble_eq_true rfl) (Nat.le_of_ble_eq_true rfl) rfl ?_
  exact h
set_option maxRecDepth 20000 in
set_option maxHeartbeats 4000000 in
theorem bX12_feed_30 {G : zG} {d : Nat} {M : zM} {Q : zV → zM → Prop} (hG : zP G) {x1 x2 x3 x4 x5 : Int}
    (h : Y G d mX12_four 0 [(2, 234), (0, x4), (9, 0)] [] M (fun r M' => Y G (d + 1) mX12_feed 36 [(2, 234), (0, x1), (0, x2), (0, x3), (0, x4), (0, x5)] (zpush r []) M' Q)) :
    Y G (d + 1) mX12_feed 30 [(2, 234), (0, x1), (0, x2), (0, x3), (0, x4), (0, x5)] [] M Q := by
  refine z_aloadn dX12_feed_30 rfl (Or.inl rfl) ?_
  refine z_iload dX12_feed_31 rfl ?_
  refine y_cv (mt2 := mX12_four) (en := [(2, 234), (0, x4), (9, 0)]) (st := []) (as := [(0, x4)]) dX12_feed_33 lX12_156 kX12_four iX12_four eX12_four rfl sh234 (by decide +kernel) (Nat.le_of_ble_eq_true rfl) (Nat.le_of_ble_eq_true rfl) rfl ?_
  exact h
set_option maxRecDepth 20000 in
set_option maxHeartbeats 4000000 in
theorem bX12_feed_36 {G : zG} {d : Nat} {M : zM} {Q : zV → zM → Prop} (hG : zP G) {x1 x2 x3 x4 x5 : Int}
    (h : Y G d mX12_four 0 [(2, 234), (0, x5), (9, 0)] [] M (fun r M' => Y G (d + 1) mX12_feed 42 [(2, 234), (0, x1), (0, x2), (0, x3), (0, x4), (0, x5)] (zpush r []) M' Q)) :
    Y G (d + 1) mX12_feed 36 [(2, 234), (0, x1), (0, x2), (0, x3), (0, x4), (0, x5)] [] M Q := by
  refine z_aloadn dX12_feed_36 rfl (Or.inl rfl) ?_
  refine z_iload dX12_feed_37 rfl ?_
  refine y_cv (mt2 := mX12_four) (en := [(2, 234), (0, x5), (9, 0)]) (st := []) (as := [(0, x5)]) dX12_feed_39 lX12_156 kX12_four iX12_four eX12_four rfl sh234 (by decide +kernel) (Nat.le_of_ble_eq_true rfl) (Nat.le_of_ble_eq_true rfl) rfl ?_
  exact h
set_option maxRecDepth 20000 in
set_option maxHeartbeats 4000000 in
theorem bX12_feed_42 {G : zG} {d : Nat} {M : zM} {Q : zV → zM → Prop} (hG : zP G) {x1 x2 x3 x4 x5 : Int}
    (h : Q (0, (M 234 5)) M) :
    Y G (d + 1) mX12_feed 42 [(2, 234), (0, x1), (0, x2), (0, x3), (0, x4), (0, x5)] [] M Q := by
  refine z_aloadn dX12_feed_42 rfl (Or.inl rfl) ?_
  refine y_getf (x := (M 234 5)) dX12_feed_43 fX12_153 sh234 (by decide) rfl rfl ?_
  exact z_ireturn dX12_feed_46 (Or.inl rfl) rfl h
set_option maxRecDepth 20000 in
set_option maxHeartbeats 4000000 in
theorem bX12_end_0 {G : zG} {d : Nat} {M : zM} {Q : zV → zM → Prop} (hG : zP G) {x1 : Int}
    (h : ((x1 < 0 → Q (0, (-1)) M) ∧ (0 ≤ x1 → ((x1 ≤ (M 234 5) → Q (0, x1) (zset M 234 5 x1)) ∧ ((M 234 5) < x1 → Q (0, (-1)) M))))) :
    Y G d mX12_end 0 [(2, 234), (0, x1)] [] M Q := by
  refine z_iloadn dX12_end_0 rfl ?_
  refine z_iflt (tgt := 12) dX12_end_1 rfl (fun q => ?_) (fun q => ?_)
  · replace h := h.1 q
    refine z_iconst dX12_end_12 ki_m1 ?_
    exact z_ireturn dX12_end_13 (Or.inl rfl) rfl h
  · replace h := h.2 q
    refine z_iloadn dX12_end_4 rfl ?_
    refine z_aloadn dX12_end_5 rfl (Or.inl rfl) ?_
    refine y_getf (x := (M 234 5)) dX12_end_6 fX12_153 sh234 (by decide) rfl rfl ?_
    refine z_icmple (tgt := 14) dX12_end_9 rfl (fun q => ?_) (fun q => ?_)
    · replace h := h.1 q
      refine z_aloadn dX12_end_14 rfl (Or.inl rfl) ?_
      refine z_iloadn dX12_end_15 rfl ?_
      refine y_putf (M' := zset M 234 5 x1) hG dX12_end_16 fX12_153 sh234 (by decide) ⟨rfl, rfl⟩ p12_5 (fun q => absurd q (by decide)) (by decide) rfl ?_
      refine z_iloadn dX12_end_19 rfl ?_
      exact z_ireturn dX12_end_20 (Or.inl rfl) rfl h
    · replace h := h.2 q
      refine z_iconst dX12_end_12 ki_m1 ?_
      exact z_ireturn dX12_end_13 (Or.inl rfl) rfl h
set_option maxRecDepth 20000 in
set_option maxHeartbeats 4000000 in
theorem bX12_isSign_0 {G : zG} {d : Nat} {M : zM} {Q : zV → zM → Prop} (hG : zP G) {x0 : Int}
    (h : (((x0 = 35 ∨ x0 = 40 ∨ x0 = 41 ∨ x0 = 42 ∨ x0 = 43 ∨ x0 = 44 ∨ x0 = 45 ∨ x0 = 58 ∨ x0 = 59 ∨ x0 = 60 ∨ x0 = 61 ∨ x0 = 62 ∨ x0 = 63) → Q (0, 1) M) ∧ ((x0 < 35 ∨ 63 < x0 ∨ x0 = 36 ∨ x0 = 37 ∨ x0 = 38 ∨ x0 = 39 ∨ x0 = 46 ∨ x0 = 47 ∨ x0 = 48 ∨ x0 = 49 ∨ x0 = 50 ∨ x0 = 51 ∨ x0 = 52 ∨ x0 = 53 ∨ x0 = 54 ∨ x0 = 55 ∨ x0 = 56 ∨ x0 = 57) → Q (0, 0) M))) :
    Y G d mX12_isSign 0 [(0, x0)] [] M Q := by
  refine z_iloadn dX12_isSign_0 rfl ?_
  rcases (show x0 < 35 ∨ 63 < x0 ∨ x0 = 35 ∨ x0 = 36 ∨ x0 = 37 ∨ x0 = 38 ∨ x0 = 39 ∨ x0 = 40 ∨ x0 = 41 ∨ x0 = 42 ∨ x0 = 43 ∨ x0 = 44 ∨ x0 = 45 ∨ x0 = 46 ∨ x0 = 47 ∨ x0 = 48 ∨ x0 = 49 ∨ x0 = 50 ∨ x0 = 51 ∨ x0 = 52 ∨ x0 = 53 ∨ x0 = 54 ∨ x0 = 55 ∨ x0 = 56 ∨ x0 = 57 ∨ x0 = 58 ∨ x0 = 59 ∨ x0 = 60 ∨ x0 = 61 ∨ x0 = 62 ∨ x0 = 63 by omega) with q | q | q | q | q | q | q | q | q | q | q | q | q | q | q | q | q | q | q | q | q | q | q | q | q | q | q | q | q | q | q
  · replace h := h.2 (Or.inl q)
    refine z_tswOut (tgt := 134) dX12_isSign_1 (Or.inl q) rfl ?_
    refine z_iconst dX12_isSign_134 ki_0 ?_
    exact z_ireturn dX12_isSign_135 (Or.inr ⟨rfl, ⟨by decide, by decide⟩⟩) rfl h
  · replace h := h.2 (Or.inr (Or.inl q))
    refine z_tswOut (tgt := 134) dX12_isSign_1 (Or.inr q) rfl ?_
    refine z_iconst dX12_isSign_134 ki_0 ?_
    exact z_ireturn dX12_isSign_135 (Or.inr ⟨rfl, ⟨by decide, by decide⟩⟩) rfl h
  · replace h := h.1 (Or.inl q)
    refine y_tsw (tgt := 132) (k := 35) dX12_isSign_1 q (by decide) rfl rfl ?_
    refine z_iconst dX12_isSign_132 ki_1 ?_
    exact z_ireturn dX12_isSign_133 (Or.inr ⟨rfl, ⟨by decide, by decide⟩⟩) rfl h
  · replace h := h.2 (Or.inr (Or.inr (Or.inl q)))
    refine y_tsw (tgt := 134) (k := 36) dX12_isSign_1 q (by decide) rfl rfl ?_
    refine z_iconst dX12_isSign_134 ki_0 ?_
    exact z_ireturn dX12_isSign_135 (Or.inr ⟨rfl, ⟨by decide, by decide⟩⟩) rfl h
  · replace h := h.2 (Or.inr (Or.inr (Or.inr (Or.inl q))))
    refine y_tsw (tgt := 134) (k := 37) dX12_isSign_1 q (by decide) rfl rfl ?_
    refine z_iconst dX12_isSign_134 ki_0 ?_
    exact z_ireturn dX12_isSign_135 (Or.inr ⟨rfl, ⟨by decide, by decide⟩⟩) rfl h
  · replace h := h.2 (Or.inr (Or.inr (Or.inr (Or.inr (Or.inl q)))))
    refine y_tsw (tgt := 134) (k := 38) dX12_isSign_1 q (by decide) rfl rfl ?_
    refine z_iconst dX12_isSign_134 ki_0 ?_
    exact z_ireturn dX12_isSign_135 (Or.inr ⟨rfl, ⟨by decide, by decide⟩⟩) rfl h
  · replace h := h.2 (Or.inr (Or.inr (Or.inr (Or.inr (Or.inr (Or.inl q))))))
    refine y_tsw (tgt := 134) (k := 39) dX12_isSign_1 q (by decide) rfl rfl ?_
    refine z_iconst dX12_isSign_134 ki_0 ?_
    exact z_ireturn dX12_isSign_135 (Or.inr ⟨rfl, ⟨by decide, by decide⟩⟩) rfl h
  · replace h := h.1 (Or.inr (Or.inl q))
    refine y_tsw (tgt := 132) (k := 40) dX12_isSign_1 q (by decide) rfl rfl ?_
    refine z_iconst dX12_isSign_132 ki_1 ?_
    exact z_ireturn dX12_isSign_133 (Or.inr ⟨rfl, ⟨by decide, by decide⟩⟩) rfl h
  · replace h := h.1 (Or.inr (Or.inr (Or.inl q)))
    refine y_tsw (tgt := 132) (k := 41) dX12_isSign_1 q (by decide) rfl rfl ?_
    refine z_iconst dX12_isSign_132 ki_1 ?_
    exact z_ireturn dX12_isSign_133 (Or.inr ⟨rfl, ⟨by decide, by decide⟩⟩) rfl h
  · replace h := h.1 (Or.inr (Or.inr (Or.inr (Or.inl q))))
    refine y_tsw (tgt := 132) (k := 42) dX12_isSign_1 q (by decide) rfl rfl ?_
    refine z_iconst dX12_isSign_132 ki_1 ?_
    exact z_ireturn dX12_isSign_133 (Or.inr ⟨rfl, ⟨by decide, by decide⟩⟩) rfl h
  · replace h := h.1 (Or.inr (Or.inr (Or.inr (Or.inr (Or.inl q)))))
    refine y_tsw (tgt := 132) (k := 43) dX12_isSign_1 q (by decide) rfl rfl ?_
    refine z_iconst dX12_isSign_132 ki_1 ?_
    exact z_ireturn dX12_isSign_133 (Or.inr ⟨rfl, ⟨by decide, by decide⟩⟩) rfl h
  · replace h := h.1 (Or.inr (Or.inr (Or.inr (Or.inr (Or.inr (Or.inl q))))))
    refine y_tsw (tgt := 132) (k := 44) dX12_isSign_1 q (by decide) rfl rfl ?_
    refine z_iconst dX12_isSign_132 ki_1 ?_
    exact z_ireturn dX12_isSign_133 (Or.inr ⟨rfl, ⟨by decide, by decide⟩⟩) rfl h
  · replace h := h.1 (Or.inr (Or.inr (Or.inr (Or.inr (Or.inr (Or.inr (Or.inl q)))))))
    refine y_tsw (tgt := 132) (k := 45) dX12_isSign_1 q (by decide) rfl rfl ?_
    refine z_iconst dX12_isSign_132 ki_1 ?_
    exact z_ireturn dX12_isSign_133 (Or.inr ⟨rfl, ⟨by decide, by decide⟩⟩) rfl h
  · replace h := h.2 (Or.inr (Or.inr (Or.inr (Or.inr (Or.inr (Or.inr (Or.inl q)))))))
    refine y_tsw (tgt := 134) (k := 46) dX12_isSign_1 q (by decide) rfl rfl ?_
    refine z_iconst dX12_isSign_134 ki_0 ?_
    exact z_ireturn dX12_isSign_135 (Or.inr ⟨rfl, ⟨by decide, by decide⟩⟩) rfl h
  · replace h := h.2 (Or.inr (Or.inr (Or.inr (Or.inr (Or.inr (Or.inr (Or.inr (Or.inl q))))))))
    refine y_tsw (tgt := 134) (k := 47) dX12_isSign_1 q (by decide) rfl rfl ?_
    refine z_iconst dX12_isSign_134 ki_0 ?_
    exact z_ireturn dX12_isSign_135 (Or.inr ⟨rfl, ⟨by decide, by decide⟩⟩) rfl h
  · replace h := h.2 (Or.inr (Or.inr (Or.inr (Or.inr (Or.inr (Or.inr (Or.inr (Or.inr (Or.inl q)))))))))
    refine y_tsw (tgt := 134) (k := 48) dX12_isSign_1 q (by decide) rfl rfl ?_
    refine z_iconst dX12_isSign_134 ki_0 ?_
    exact z_ireturn dX12_isSign_135 (Or.inr ⟨rfl, ⟨by decide, by decide⟩⟩) rfl h
  · replace h := h.2 (Or.inr (Or.inr (Or.inr (Or.inr (Or.inr (Or.inr (Or.inr (Or.inr (Or.inr (Or.inl q))))))))))
    refine y_tsw (tgt := 134) (k := 49) dX12_isSign_1 q (by decide) rfl rfl ?_
    refine z_iconst dX12_isSign_134 ki_0 ?_
    exact z_ireturn dX12_isSign_135 (Or.inr ⟨rfl, ⟨by decide, by decide⟩⟩) rfl h
  · replace h := h.2 (Or.inr (Or.inr (Or.inr (Or.inr (Or.inr (Or.inr (Or.inr (Or.inr (Or.inr (Or.inr (Or.inl q)))))))))))
    refine y_tsw (tgt := 134) (k := 50) dX12_isSign_1 q (by decide) rfl rfl ?_
    refine z_iconst dX12_isSign_134 ki_0 ?_
    exact z_ireturn dX12_isSign_135 (Or.inr ⟨rfl, ⟨by decide, by decide⟩⟩) rfl h
  · replace h := h.2 (Or.inr (Or.inr (Or.inr (Or.inr (Or.inr (Or.inr (Or.inr (Or.inr (Or.inr (Or.inr (Or.inr (Or.inl q))))))))))))
    refine y_tsw (tgt := 134) (k := 51) dX12_isSign_1 q (by decide) rfl rfl ?_
    refine z_iconst dX12_isSign_134 ki_0 ?_
    exact z_ireturn dX12_isSign_135 (Or.inr ⟨rfl, ⟨by decide, by decide⟩⟩) rfl h
  · replace h := h.2 (Or.inr (Or.inr (Or.inr (Or.inr (Or.inr (Or.inr (Or.inr (Or.inr (Or.inr (Or.inr (Or.inr (Or.inr (Or.inl q)))))))))))))
    refine y_tsw (tgt := 134) (k := 52) dX12_isSign_1 q (by decide) rfl rfl ?_
    refine z_iconst dX12_isSign_134 ki_0 ?_
    exact z_ireturn dX12_isSign_135 (Or.inr ⟨rfl, ⟨by decide, by decide⟩⟩) rfl h
  · replace h := h.2 (Or.inr (Or.inr (Or.inr (Or.inr (Or.inr (Or.inr (Or.inr (Or.inr (Or.inr (Or.inr (Or.inr (Or.inr (Or.inr (Or.inl q))))))))))))))
    refine y_tsw (tgt := 134) (k := 53) dX12_isSign_1 q (by decide) rfl rfl ?_
    refine z_iconst dX12_isSign_134 ki_0 ?_
    exact z_ireturn dX12_isSign_135 (Or.inr ⟨rfl, ⟨by decide, by decide⟩⟩) rfl h
  · replace h := h.2 (Or.inr (Or.inr (Or.inr (Or.inr (Or.inr (Or.inr (Or.inr (Or.inr (Or.inr (Or.inr (Or.inr (Or.inr (Or.inr (Or.inr (Or.inl q)))))))))))))))
    refine y_tsw (tgt := 134) (k := 54) dX12_isSign_1 q (by decide) rfl rfl ?_
    refine z_iconst dX12_isSign_134 ki_0 ?_
    exact z_ireturn dX12_isSign_135 (Or.inr ⟨rfl, ⟨by decide, by decide⟩⟩) rfl h
  · replace h := h.2 (Or.inr (Or.inr (Or.inr (Or.inr (Or.inr (Or.inr (Or.inr (Or.inr (Or.inr (Or.inr (Or.inr (Or.inr (Or.inr (Or.inr (Or.inr (Or.inl q))))))))))))))))
    refine y_tsw (tgt := 134) (k := 55) dX12_isSign_1 q (by decide) rfl rfl ?_
    refine z_iconst dX12_isSign_134 ki_0 ?_
    exact z_ireturn dX12_isSign_135 (Or.inr ⟨rfl, ⟨by decide, by decide⟩⟩) rfl h
  · replace h := h.2 (Or.inr (Or.inr (Or.inr (Or.inr (Or.inr (Or.inr (Or.inr (Or.inr (Or.inr (Or.inr (Or.inr (Or.inr (Or.inr (Or.inr (Or.inr (Or.inr (Or.inl q)))))))))))))))))
    refine y_tsw (tgt := 134) (k := 56) dX12_isSign_1 q (by decide) rfl rfl ?_
    refine z_iconst dX12_isSign_134 ki_0 ?_
    exact z_ireturn dX12_isSign_135 (Or.inr ⟨rfl, ⟨by decide, by decide⟩⟩) rfl h
  · replace h := h.2 (Or.inr (Or.inr (Or.inr (Or.inr (Or.inr (Or.inr (Or.inr (Or.inr (Or.inr (Or.inr (Or.inr (Or.inr (Or.inr (Or.inr (Or.inr (Or.inr (Or.inr q)))))))))))))))))
    refine y_tsw (tgt := 134) (k := 57) dX12_isSign_1 q (by decide) rfl rfl ?_
    refine z_iconst dX12_isSign_134 ki_0 ?_
    exact z_ireturn dX12_isSign_135 (Or.inr ⟨rfl, ⟨by decide, by decide⟩⟩) rfl h
  · replace h := h.1 (Or.inr (Or.inr (Or.inr (Or.inr (Or.inr (Or.inr (Or.inr (Or.inl q))))))))
    refine y_tsw (tgt := 132) (k := 58) dX12_isSign_1 q (by decide) rfl rfl ?_
    refine z_iconst dX12_isSign_132 ki_1 ?_
    exact z_ireturn dX12_isSign_133 (Or.inr ⟨rfl, ⟨by decide, by decide⟩⟩) rfl h
  · replace h := h.1 (Or.inr (Or.inr (Or.inr (Or.inr (Or.inr (Or.inr (Or.inr (Or.inr (Or.inl q)))))))))
    refine y_tsw (tgt := 132) (k := 59) dX12_isSign_1 q (by decide) rfl rfl ?_
    refine z_iconst dX12_isSign_132 ki_1 ?_
    exact z_ireturn dX12_isSign_133 (Or.inr ⟨rfl, ⟨by decide, by decide⟩⟩) rfl h
  · replace h := h.1 (Or.inr (Or.inr (Or.inr (Or.inr (Or.inr (Or.inr (Or.inr (Or.inr (Or.inr (Or.inl q))))))))))
    refine y_tsw (tgt := 132) (k := 60) dX12_isSign_1 q (by decide) rfl rfl ?_
    refine z_iconst dX12_isSign_132 ki_1 ?_
    exact z_ireturn dX12_isSign_133 (Or.inr ⟨rfl, ⟨by decide, by decide⟩⟩) rfl h
  · replace h := h.1 (Or.inr (Or.inr (Or.inr (Or.inr (Or.inr (Or.inr (Or.inr (Or.inr (Or.inr (Or.inr (Or.inl q)))))))))))
    refine y_tsw (tgt := 132) (k := 61) dX12_isSign_1 q (by decide) rfl rfl ?_
    refine z_iconst dX12_isSign_132 ki_1 ?_
    exact z_ireturn dX12_isSign_133 (Or.inr ⟨rfl, ⟨by decide, by decide⟩⟩) rfl h
  · replace h := h.1 (Or.inr (Or.inr (Or.inr (Or.inr (Or.inr (Or.inr (Or.inr (Or.inr (Or.inr (Or.inr (Or.inr (Or.inl q))))))))))))
    refine y_tsw (tgt := 132) (k := 62) dX12_isSign_1 q (by decide) rfl rfl ?_
    refine z_iconst dX12_isSign_132 ki_1 ?_
    exact z_ireturn dX12_isSign_133 (Or.inr ⟨rfl, ⟨by decide, by decide⟩⟩) rfl h
  · replace h := h.1 (Or.inr (Or.inr (Or.inr (Or.inr (Or.inr (Or.inr (Or.inr (Or.inr (Or.inr (Or.inr (Or.inr (Or.inr q))))))))))))
    refine y_tsw (tgt := 132) (k := 63) dX12_isSign_1 q (by decide) rfl rfl ?_
    refine z_iconst dX12_isSign_132 ki_1 ?_
    exact z_ireturn dX12_isSign_133 (Or.inr ⟨rfl, ⟨by decide, by decide⟩⟩) rfl h
set_option maxRecDepth 20000 in
set_option maxHeartbeats 4000000 in
theorem bX12_nextToken_0 {G : zG} {d : Nat} {M : zM} {Q : zV → zM → Prop} (hG : zP G)
    (h : (0 ≤ (M 234 8) ∧ M 234 5 ≤ 300) ∧ (((zbm M (M 234 8)) = 32 → (-2147483648 ≤ (M 234 8) + 1 ∧ (M 234 8) + 1 ≤ 2147483647) ∧ Y G (d + 1) mX12_nextToken 0 [(2, 234), (9, 0)] [] (zset M 234 8 ((M 234 8) + 1)) Q) ∧ (¬ (zbm M (M 234 8)) = 32 → (0 ≤ (M 234 8) ∧ M 234 5 ≤ 300) ∧ ((¬ (zbm M (M 234 8)) = 10 → (0 ≤ (M 234 8) ∧ (zset M 234 9 (M 234 8)) 234 5 ≤ 300) ∧ ((0 ≤ (zbm (zset M 234 9 (M 234 8)) (M 234 8)) → ((48 ≤ (zbm (zset M 234 9 (M 234 8)) (M 234 8)) ∧ (zbm (zset M 234 9 (M 234 8)) (M 234 8)) ≤ 57 → Y G (d + 1) mX12_nextToken 85 [(2, 234), (0, (zbm (zset M 234 9 (M 234 8)) (M 234 8)))] [] (zset (zset (zset M 234 9 (M 234 8)) 234 10 1) 234 11 0) Q) ∧ (¬ (48 ≤ (zbm (zset M 234 9 (M 234 8)) (M 234 8)) ∧ (zbm (zset M 234 9 (M 234 8)) (M 234 8)) ≤ 57) → ((zlet (zbm (zset M 234 9 (M 234 8)) (M 234 8)) → Y G (d + 1) mX12_nextToken 168 [(2, 234), (0, (zbm (zset M 234 9 (M 234 8)) (M 234 8)))] [] (zset (zset (zset M 234 9 (M 234 8)) 234 10 2) 234 12 0) Q) ∧ (¬ (zlet (zbm (zset M 234 9 (M 234 8)) (M 234 8))) → Y G d mX12_isSign 0 [(0, (zbm (zset M 234 9 (M 234 8)) (M 234 8)))] [] (zset M 234 9 (M 234 8)) (fun r M' => Y G (d + 1) mX12_nextToken 239 [(2, 234), (0, (zbm (zset M 234 9 (M 234 8)) (M 234 8)))] (zpush r [(2, 234)]) M' Q)))))) ∧ ((zbm (zset M 234 9 (M 234 8)) (M 234 8)) < 0 → Q (9, 0) (zset (zset M 234 9 (M 234 8)) 234 10 0)))) ∧ ((zbm M (M 234 8)) = 10 → (-2147483648 ≤ (M 234 8) + 1 ∧ (M 234 8) + 1 ≤ 2147483647) ∧ Y G (d + 1) mX12_nextToken 0 [(2, 234), (9, 0)] [] (zset M 234 8 ((M 234 8) + 1)) Q))))) :
    Y G (d + 1) mX12_nextToken 0 [(2, 234), (9, 0)] [] M Q := by
  refine z_aloadn dX12_nextToken_0 rfl (Or.inl rfl) ?_
  refine z_aloadn dX12_nextToken_1 rfl (Or.inl rfl) ?_
  refine y_getf (x := (M 234 8)) dX12_nextToken_2 fX12_160 sh234 (by decide) rfl rfl ?_
  obtain ⟨q1, h⟩ := h
  refine y_cv (mt2 := mX12_byteAt) (en := [(2, 234), (0, (M 234 8))]) (st := []) (as := [(0, (M 234 8))]) dX12_nextToken_5 lX12_163 kX12_byteAt iX12_byteAt eX12_byteAt rfl sh234 (by decide +kernel) (Nat.le_of_ble_eq_true rfl) (Nat.le_of_ble_eq_true rfl) rfl (s_mbyteAt hG q1 ?_)
  show Y G (d + 1) mX12_nextToken 8 [(2, 234), (9, 0)] [(0, (zbm M (M 234 8)))] M Q
  refine z_bipush dX12_nextToken_8 kb_32 ?_
  refine z_icmpeq (tgt := 26) dX12_nextToken_10 rfl (fun q => ?_) (fun q => ?_)
  · replace h := h.1 q
    refine z_aloadn dX12_nextToken_26 rfl (Or.inl rfl) ?_
    refine z_dup dX12_nextToken_27 (show (2 : Nat) ≠ 1 by decide) ?_
    refine y_getf (x := (M 234 8)) dX12_nextToken_28 fX12_160 sh234 (by decide) rfl rfl ?_
    refine z_iconst dX12_nextToken_31 ki_1 ?_
    obtain ⟨q2, h⟩ := h
    refine z_iadd dX12_nextToken_32 q2 ?_
    refine y_putf (M' := zset M 234 8 ((M 234 8) + 1)) hG dX12_nextToken_33 fX12_160 sh234 (by decide) ⟨rfl, rfl⟩ p12_8 (fun q => absurd q (by decide)) (by decide) rfl ?_
    refine z_goto (tgt := 0) dX12_nextToken_36 rfl ?_
    exact h
  · replace h := h.2 q
    refine z_aloadn dX12_nextToken_13 rfl (Or.inl rfl) ?_
    refine z_aloadn dX12_nextToken_14 rfl (Or.inl rfl) ?_
    refine y_getf (x := (M 234 8)) dX12_nextToken_15 fX12_160 sh234 (by decide) rfl rfl ?_
    obtain ⟨q3, h⟩ := h
    refine y_cv (mt2 := mX12_byteAt) (en := [(2, 234), (0, (M 234 8))]) (st := []) (as := [(0, (M 234 8))]) dX12_nextToken_18 lX12_163 kX12_byteAt iX12_byteAt eX12_byteAt rfl sh234 (by decide +kernel) (Nat.le_of_ble_eq_true rfl) (Nat.le_of_ble_eq_true rfl) rfl (s_mbyteAt hG q3 ?_)
    show Y G (d + 1) mX12_nextToken 21 [(2, 234), (9, 0)] [(0, (zbm M (M 234 8)))] M Q
    refine z_bipush dX12_nextToken_21 kb_10 ?_
    refine z_icmpne (tgt := 39) dX12_nextToken_23 rfl (fun q => ?_) (fun q => ?_)
    · replace h := h.1 q
      refine z_aloadn dX12_nextToken_39 rfl (Or.inl rfl) ?_
      refine z_aloadn dX12_nextToken_40 rfl (Or.inl rfl) ?_
      refine y_getf (x := (M 234 8)) dX12_nextToken_41 fX12_160 sh234 (by decide) rfl rfl ?_
      refine y_putf (M' := zset M 234 9 (M 234 8)) hG dX12_nextToken_44 fX12_166 sh234 (by decide) ⟨rfl, rfl⟩ p12_9 (fun q => absurd q (by decide)) (by decide) rfl ?_
      refine z_aloadn dX12_nextToken_47 rfl (Or.inl rfl) ?_
      refine z_aloadn dX12_nextToken_48 rfl (Or.inl rfl) ?_
      refine y_getf (x := (M 234 8)) dX12_nextToken_49 fX12_160 sh234 (by decide) rfl (zset_ne (fun q => absurd q.2 (by decide))) ?_
      obtain ⟨q4, h⟩ := h
      refine y_cv (mt2 := mX12_byteAt) (en := [(2, 234), (0, (M 234 8))]) (st := []) (as := [(0, (M 234 8))]) dX12_nextToken_52 lX12_163 kX12_byteAt iX12_byteAt eX12_byteAt rfl sh234 (by decide +kernel) (Nat.le_of_ble_eq_true rfl) (Nat.le_of_ble_eq_true rfl) rfl (s_mbyteAt hG q4 ?_)
      show Y G (d + 1) mX12_nextToken 55 [(2, 234), (9, 0)] [(0, (zbm (zset M 234 9 (M 234 8)) (M 234 8)))] (zset M 234 9 (M 234 8)) Q
      refine y_istoren (ls' := [(2, 234), (0, (zbm (zset M 234 9 (M 234 8)) (M 234 8)))]) dX12_nextToken_55 rfl rfl ?_
      refine z_iloadn dX12_nextToken_56 rfl ?_
      refine z_ifge (tgt := 68) dX12_nextToken_57 rfl (fun q => ?_) (fun q => ?_)
      · replace h := h.1 q
        refine z_iloadn dX12_nextToken_68 rfl ?_
        refine y_cs (mt2 := mX12_isFigure) (en := [(0, (zbm (zset M 234 9 (M 234 8)) (M 234 8)))]) (st := []) (as := [(0, (zbm (zset M 234 9 (M 234 8)) (M 234 8)))]) dX12_nextToken_69 lX12_172 kX12_isFigure tX12_isFigure rfl (Nat.le_of_ble_eq_true rfl) (Nat.le_of_ble_eq_true rfl) rfl (s_isFigure hG (fun q => ?_) (fun q => ?_))
        · replace h := h.1 q
          show Y G (d + 1) mX12_nextToken 72 [(2, 234), (0, (zbm (zset M 234 9 (M 234 8)) (M 234 8)))] [(0, 1)] (zset M 234 9 (M 234 8)) Q
          refine z_ifeq (tgt := 151) dX12_nextToken_72 rfl (fun q => absurd q (by decide)) (fun _ => ?_)
          refine z_aloadn dX12_nextToken_75 rfl (Or.inl rfl) ?_
          refine z_iconst dX12_nextToken_76 ki_1 ?_
          refine y_putf (M' := zset (zset M 234 9 (M 234 8)) 234 10 1) hG dX12_nextToken_77 fX12_169 sh234 (by decide) ⟨rfl, rfl⟩ p12_10 (fun q => absurd q (by decide)) (by decide) rfl ?_
          refine z_aloadn dX12_nextToken_80 rfl (Or.inl rfl) ?_
          refine z_iconst dX12_nextToken_81 ki_0 ?_
          refine y_putf (M' := zset (zset (zset M 234 9 (M 234 8)) 234 10 1) 234 11 0) hG dX12_nextToken_82 fX12_175 sh234 (by decide) ⟨rfl, rfl⟩ p12_11 (fun q => absurd q (by decide)) (by decide) rfl ?_
          exact h
        · replace h := h.2 q
          show Y G (d + 1) mX12_nextToken 72 [(2, 234), (0, (zbm (zset M 234 9 (M 234 8)) (M 234 8)))] [(0, 0)] (zset M 234 9 (M 234 8)) Q
          refine z_ifeq (tgt := 151) dX12_nextToken_72 rfl (fun _ => ?_) (fun q => absurd q (by decide))
          refine z_iloadn dX12_nextToken_151 rfl ?_
          refine y_cs (mt2 := mX12_isLetterByte) (en := [(0, (zbm (zset M 234 9 (M 234 8)) (M 234 8)))]) (st := []) (as := [(0, (zbm (zset M 234 9 (M 234 8)) (M 234 8)))]) dX12_nextToken_152 lX12_179 kX12_isLetterByte tX12_isLetterByte rfl (Nat.le_of_ble_eq_true rfl) (Nat.le_of_ble_eq_true rfl) rfl (s_isLetterByte hG (fun q => ?_) (fun q => ?_))
          · replace h := h.1 q
            show Y G (d + 1) mX12_nextToken 155 [(2, 234), (0, (zbm (zset M 234 9 (M 234 8)) (M 234 8)))] [(0, 1)] (zset M 234 9 (M 234 8)) Q
            refine z_ifeq (tgt := 234) dX12_nextToken_155 rfl (fun q => absurd q (by decide)) (fun _ => ?_)
            refine z_aloadn dX12_nextToken_158 rfl (Or.inl rfl) ?_
            refine z_iconst dX12_nextToken_159 ki_2 ?_
            refine y_putf (M' := zset (zset M 234 9 (M 234 8)) 234 10 2) hG dX12_nextToken_160 fX12_169 sh234 (by decide) ⟨rfl, rfl⟩ p12_10 (fun q => absurd q (by decide)) (by decide) rfl ?_
            refine z_aloadn dX12_nextToken_163 rfl (Or.inl rfl) ?_
            refine z_lconst (k := 0) dX12_nextToken_164 ⟨by decide, ⟨by decide, by decide⟩⟩ ?_
            refine y_putf (M' := zset (zset (zset M 234 9 (M 234 8)) 234 10 2) 234 12 0) hG dX12_nextToken_165 fX12_182 sh234 (by decide) ⟨rfl, rfl⟩ p12_12 (fun q => absurd q (by decide)) (by decide) rfl ?_
            exact h
          · replace h := h.2 q
            show Y G (d + 1) mX12_nextToken 155 [(2, 234), (0, (zbm (zset M 234 9 (M 234 8)) (M 234 8)))] [(0, 0)] (zset M 234 9 (M 234 8)) Q
            refine z_ifeq (tgt := 234) dX12_nextToken_155 rfl (fun _ => ?_) (fun q => absurd q (by decide))
            refine z_aloadn dX12_nextToken_234 rfl (Or.inl rfl) ?_
            refine z_iloadn dX12_nextToken_235 rfl ?_
            refine y_cs (mt2 := mX12_isSign) (en := [(0, (zbm (zset M 234 9 (M 234 8)) (M 234 8)))]) (st := [(2, 234)]) (as := [(0, (zbm (zset M 234 9 (M 234 8)) (M 234 8)))]) dX12_nextToken_236 lX12_188 kX12_isSign tX12_isSign rfl (Nat.le_of_ble_eq_true rfl) (Nat.le_of_ble_eq_true rfl) rfl ?_
            exact h
      · replace h := h.2 q
        refine z_aloadn dX12_nextToken_60 rfl (Or.inl rfl) ?_
        refine z_iconst dX12_nextToken_61 ki_0 ?_
        refine y_putf (M' := zset (zset M 234 9 (M 234 8)) 234 10 0) hG dX12_nextToken_62 fX12_169 sh234 (by decide) ⟨rfl, rfl⟩ p12_10 (fun q => absurd q (by decide)) (by decide) rfl ?_
        refine z_goto (tgt := 310) dX12_nextToken_65 rfl ?_
        exact z_return dX12_nextToken_310 rfl rfl h
    · replace h := h.2 q
      refine z_aloadn dX12_nextToken_26 rfl (Or.inl rfl) ?_
      refine z_dup dX12_nextToken_27 (show (2 : Nat) ≠ 1 by decide) ?_
      refine y_getf (x := (M 234 8)) dX12_nextToken_28 fX12_160 sh234 (by decide) rfl rfl ?_
      refine z_iconst dX12_nextToken_31 ki_1 ?_
      obtain ⟨q5, h⟩ := h
      refine z_iadd dX12_nextToken_32 q5 ?_
      refine y_putf (M' := zset M 234 8 ((M 234 8) + 1)) hG dX12_nextToken_33 fX12_160 sh234 (by decide) ⟨rfl, rfl⟩ p12_8 (fun q => absurd q (by decide)) (by decide) rfl ?_
      refine z_goto (tgt := 0) dX12_nextToken_36 rfl ?_
      exact h
set_option maxRecDepth 20000 in
set_option maxHeartbeats 4000000 in
theorem bX12_nextToken_85 {G : zG} {d : Nat} {M : zM} {Q : zV → zM → Prop} (hG : zP G) {x1 : Int}
    (h : (0 ≤ (M 234 8) ∧ M 234 5 ≤ 300) ∧ ((48 ≤ (zbm M (M 234 8)) ∧ (zbm M (M 234 8)) ≤ 57 → (((M 234 11) ≤ 99999 → (-2147483648 ≤ 10 * (M 234 11) ∧ 10 * (M 234 11) ≤ 2147483647) ∧ (0 ≤ (M 234 8) ∧ M 234 5 ≤ 300) ∧ (-2147483648 ≤ (10 * (M 234 11)) + (zbm M (M 234 8)) ∧ (10 * (M 234 11)) + (zbm M (M 234 8)) ≤ 2147483647) ∧ (-2147483648 ≤ ((10 * (M 234 11)) + (zbm M (M 234 8))) - 48 ∧ ((10 * (M 234 11)) + (zbm M (M 234 8))) - 48 ≤ 2147483647) ∧ (-2147483648 ≤ (M 234 8) + 1 ∧ (M 234 8) + 1 ≤ 2147483647) ∧ Y G (d + 1) mX12_nextToken 85 [(2, 234), (0, x1)] [] (zset (zset M 234 11 (((10 * (M 234 11)) + (zbm M (M 234 8))) - 48)) 234 8 ((M 234 8) + 1)) Q) ∧ (99999 < (M 234 11) → (-2147483648 ≤ (M 234 8) + 1 ∧ (M 234 8) + 1 ≤ 2147483647) ∧ Y G (d + 1) mX12_nextToken 85 [(2, 234), (0, x1)] [] (zset (zset M 234 11 (M 234 11)) 234 8 ((M 234 8) + 1)) Q))) ∧ (¬ (48 ≤ (zbm M (M 234 8)) ∧ (zbm M (M 234 8)) ≤ 57) → Q (9, 0) M))) :
    Y G (d + 1) mX12_nextToken 85 [(2, 234), (0, x1)] [] M Q := by
  refine z_aloadn dX12_nextToken_85 rfl (Or.inl rfl) ?_
  refine z_aloadn dX12_nextToken_86 rfl (Or.inl rfl) ?_
  refine y_getf (x := (M 234 8)) dX12_nextToken_87 fX12_160 sh234 (by decide) rfl rfl ?_
  obtain ⟨q1, h⟩ := h
  refine y_cv (mt2 := mX12_byteAt) (en := [(2, 234), (0, (M 234 8))]) (st := []) (as := [(0, (M 234 8))]) dX12_nextToken_90 lX12_163 kX12_byteAt iX12_byteAt eX12_byteAt rfl sh234 (by decide +kernel) (Nat.le_of_ble_eq_true rfl) (Nat.le_of_ble_eq_true rfl) rfl (s_mbyteAt hG q1 ?_)
  show Y G (d + 1) mX12_nextToken 93 [(2, 234), (0, x1)] [(0, (zbm M (M 234 8)))] M Q
  refine y_cs (mt2 := mX12_isFigure) (en := [(0, (zbm M (M 234 8)))]) (st := []) (as := [(0, (zbm M (M 234 8)))]) dX12_nextToken_93 lX12_172 kX12_isFigure tX12_isFigure rfl (Nat.le_of_ble_eq_true rfl) (Nat.le_of_ble_eq_true rfl) rfl (s_isFigure hG (fun q => ?_) (fun q => ?_))
  · replace h := h.1 q
    show Y G (d + 1) mX12_nextToken 96 [(2, 234), (0, x1)] [(0, 1)] M Q
    refine z_ifeq (tgt := 310) dX12_nextToken_96 rfl (fun q => absurd q (by decide)) (fun _ => ?_)
    refine z_aloadn dX12_nextToken_99 rfl (Or.inl rfl) ?_
    refine z_aloadn dX12_nextToken_100 rfl (Or.inl rfl) ?_
    refine y_getf (x := (M 234 11)) dX12_nextToken_101 fX12_175 sh234 (by decide) rfl rfl ?_
    refine z_ldc (k := 99999) (v := 99999) dX12_nextToken_104 ⟨by decide, ⟨by decide, by decide⟩⟩ qX12_178 ?_
    refine z_icmple (tgt := 116) dX12_nextToken_106 rfl (fun q => ?_) (fun q => ?_)
    · replace h := h.1 q
      refine z_bipush dX12_nextToken_116 kb_10 ?_
      refine z_aloadn dX12_nextToken_118 rfl (Or.inl rfl) ?_
      refine y_getf (x := (M 234 11)) dX12_nextToken_119 fX12_175 sh234 (by decide) rfl rfl ?_
      obtain ⟨q2, h⟩ := h
      refine z_imul dX12_nextToken_122 q2 ?_
      refine z_aloadn dX12_nextToken_123 rfl (Or.inl rfl) ?_
      refine z_aloadn dX12_nextToken_124 rfl (Or.inl rfl) ?_
      refine y_getf (x := (M 234 8)) dX12_nextToken_125 fX12_160 sh234 (by decide) rfl rfl ?_
      obtain ⟨q3, h⟩ := h
      refine y_cv (mt2 := mX12_byteAt) (en := [(2, 234), (0, (M 234 8))]) (st := [(0, (10 * (M 234 11))), (2, 234)]) (as := [(0, (M 234 8))]) dX12_nextToken_128 lX12_163 kX12_byteAt iX12_byteAt eX12_byteAt rfl sh234 (by decide +kernel) (Nat.le_of_ble_eq_true rfl) (Nat.le_of_ble_eq_true rfl) rfl (s_mbyteAt hG q3 ?_)
      show Y G (d + 1) mX12_nextToken 131 [(2, 234), (0, x1)] [(0, (zbm M (M 234 8))), (0, (10 * (M 234 11))), (2, 234)] M Q
      obtain ⟨q4, h⟩ := h
      refine z_iadd dX12_nextToken_131 q4 ?_
      refine z_bipush dX12_nextToken_132 kb_48 ?_
      obtain ⟨q5, h⟩ := h
      refine z_isub dX12_nextToken_134 q5 ?_
      refine y_putf (M' := zset M 234 11 (((10 * (M 234 11)) + (zbm M (M 234 8))) - 48)) hG dX12_nextToken_135 fX12_175 sh234 (by decide) ⟨rfl, rfl⟩ p12_11 (fun q => absurd q (by decide)) (by decide) rfl ?_
      refine z_aloadn dX12_nextToken_138 rfl (Or.inl rfl) ?_
      refine z_dup dX12_nextToken_139 (show (2 : Nat) ≠ 1 by decide) ?_
      refine y_getf (x := (M 234 8)) dX12_nextToken_140 fX12_160 sh234 (by decide) rfl (zset_ne (fun q => absurd q.2 (by decide))) ?_
      refine z_iconst dX12_nextToken_143 ki_1 ?_
      obtain ⟨q6, h⟩ := h
      refine z_iadd dX12_nextToken_144 q6 ?_
      refine y_putf (M' := zset (zset M 234 11 (((10 * (M 234 11)) + (zbm M (M 234 8))) - 48)) 234 8 ((M 234 8) + 1)) hG dX12_nextToken_145 fX12_160 sh234 (by decide) ⟨rfl, rfl⟩ p12_8 (fun q => absurd q (by decide)) (by decide) rfl ?_
      refine z_goto (tgt := 85) dX12_nextToken_148 rfl ?_
      exact h
    · replace h := h.2 q
      refine z_aloadn dX12_nextToken_109 rfl (Or.inl rfl) ?_
      refine y_getf (x := (M 234 11)) dX12_nextToken_110 fX12_175 sh234 (by decide) rfl rfl ?_
      refine z_goto (tgt := 135) dX12_nextToken_113 rfl ?_
      refine y_putf (M' := zset M 234 11 (M 234 11)) hG dX12_nextToken_135 fX12_175 sh234 (by decide) ⟨rfl, rfl⟩ p12_11 (fun q => absurd q (by decide)) (by decide) rfl ?_
      refine z_aloadn dX12_nextToken_138 rfl (Or.inl rfl) ?_
      refine z_dup dX12_nextToken_139 (show (2 : Nat) ≠ 1 by decide) ?_
      refine y_getf (x := (M 234 8)) dX12_nextToken_140 fX12_160 sh234 (by decide) rfl (zset_ne (fun q => absurd q.2 (by decide))) ?_
      refine z_iconst dX12_nextToken_143 ki_1 ?_
      obtain ⟨q7, h⟩ := h
      refine z_iadd dX12_nextToken_144 q7 ?_
      refine y_putf (M' := zset (zset M 234 11 (M 234 11)) 234 8 ((M 234 8) + 1)) hG dX12_nextToken_145 fX12_160 sh234 (by decide) ⟨rfl, rfl⟩ p12_8 (fun q => absurd q (by decide)) (by decide) rfl ?_
      refine z_goto (tgt := 85) dX12_nextToken_148 rfl ?_
      exact h
  · replace h := h.2 q
    show Y G (d + 1) mX12_nextToken 96 [(2, 234), (0, x1)] [(0, 0)] M Q
    refine z_ifeq (tgt := 310) dX12_nextToken_96 rfl (fun _ => ?_) (fun q => absurd q (by decide))
    exact z_return dX12_nextToken_310 rfl rfl h
set_option maxRecDepth 20000 in
set_option maxHeartbeats 4000000 in
theorem bX12_nextToken_168 {G : zG} {d : Nat} {M : zM} {Q : zV → zM → Prop} (hG : zP G) {x1 : Int}
    (h : (0 ≤ (M 234 8) ∧ M 234 5 ≤ 300) ∧ ((zlet (zbm M (M 234 8)) → (((zlcmp (zlshr (M 234 12) 48) 0) = 0 → (0 ≤ (M 234 8) ∧ M 234 5 ≤ 300) ∧ (-2147483648 ≤ (M 234 8) + 1 ∧ (M 234 8) + 1 ≤ 2147483647) ∧ Y G (d + 1) mX12_nextToken 168 [(2, 234), (0, x1)] [] (zset (zset M 234 12 (zlor (zlshl (M 234 12) 8) (zbm M (M 234 8)))) 234 8 ((M 234 8) + 1)) Q) ∧ (¬ (zlcmp (zlshr (M 234 12) 48) 0) = 0 → (-2147483648 ≤ (M 234 8) + 1 ∧ (M 234 8) + 1 ≤ 2147483647) ∧ Y G (d + 1) mX12_nextToken 168 [(2, 234), (0, x1)] [] (zset (zset M 234 12 1152921504606846976) 234 8 ((M 234 8) + 1)) Q))) ∧ (¬ (zlet (zbm M (M 234 8))) → Q (9, 0) M))) :
    Y G (d + 1) mX12_nextToken 168 [(2, 234), (0, x1)] [] M Q := by
  refine z_aloadn dX12_nextToken_168 rfl (Or.inl rfl) ?_
  refine z_aloadn dX12_nextToken_169 rfl (Or.inl rfl) ?_
  refine y_getf (x := (M 234 8)) dX12_nextToken_170 fX12_160 sh234 (by decide) rfl rfl ?_
  obtain ⟨q1, h⟩ := h
  refine y_cv (mt2 := mX12_byteAt) (en := [(2, 234), (0, (M 234 8))]) (st := []) (as := [(0, (M 234 8))]) dX12_nextToken_173 lX12_163 kX12_byteAt iX12_byteAt eX12_byteAt rfl sh234 (by decide +kernel) (Nat.le_of_ble_eq_true rfl) (Nat.le_of_ble_eq_true rfl) rfl (s_mbyteAt hG q1 ?_)
  show Y G (d + 1) mX12_nextToken 176 [(2, 234), (0, x1)] [(0, (zbm M (M 234 8)))] M Q
  refine y_cs (mt2 := mX12_isLetterByte) (en := [(0, (zbm M (M 234 8)))]) (st := []) (as := [(0, (zbm M (M 234 8)))]) dX12_nextToken_176 lX12_179 kX12_isLetterByte tX12_isLetterByte rfl (Nat.le_of_ble_eq_true rfl) (Nat.le_of_ble_eq_true rfl) rfl (s_isLetterByte hG (fun q => ?_) (fun q => ?_))
  · replace h := h.1 q
    show Y G (d + 1) mX12_nextToken 179 [(2, 234), (0, x1)] [(0, 1)] M Q
    refine z_ifeq (tgt := 310) dX12_nextToken_179 rfl (fun q => absurd q (by decide)) (fun _ => ?_)
    refine z_aloadn dX12_nextToken_182 rfl (Or.inl rfl) ?_
    refine z_aloadn dX12_nextToken_183 rfl (Or.inl rfl) ?_
    refine y_getf (x := (M 234 12)) dX12_nextToken_184 fX12_182 sh234 (by decide) rfl rfl ?_
    refine z_bipush dX12_nextToken_187 kb_48 ?_
    refine z_lshr dX12_nextToken_189 ?_
    refine z_lconst (k := 0) dX12_nextToken_190 ⟨by decide, ⟨by decide, by decide⟩⟩ ?_
    refine z_lcmp dX12_nextToken_191 ?_
    refine z_ifeq (tgt := 201) dX12_nextToken_192 rfl (fun q => ?_) (fun q => ?_)
    · replace h := h.1 q
      refine z_aloadn dX12_nextToken_201 rfl (Or.inl rfl) ?_
      refine y_getf (x := (M 234 12)) dX12_nextToken_202 fX12_182 sh234 (by decide) rfl rfl ?_
      refine z_bipush dX12_nextToken_205 kb_8 ?_
      refine z_lshl dX12_nextToken_207 ?_
      refine z_aloadn dX12_nextToken_208 rfl (Or.inl rfl) ?_
      refine z_aloadn dX12_nextToken_209 rfl (Or.inl rfl) ?_
      refine y_getf (x := (M 234 8)) dX12_nextToken_210 fX12_160 sh234 (by decide) rfl rfl ?_
      obtain ⟨q2, h⟩ := h
      refine y_cv (mt2 := mX12_byteAt) (en := [(2, 234), (0, (M 234 8))]) (st := [(1, (zlshl (M 234 12) 8)), (2, 234)]) (as := [(0, (M 234 8))]) dX12_nextToken_213 lX12_163 kX12_byteAt iX12_byteAt eX12_byteAt rfl sh234 (by decide +kernel) (Nat.le_of_ble_eq_true rfl) (Nat.le_of_ble_eq_true rfl) rfl (s_mbyteAt hG q2 ?_)
      show Y G (d + 1) mX12_nextToken 216 [(2, 234), (0, x1)] [(0, (zbm M (M 234 8))), (1, (zlshl (M 234 12) 8)), (2, 234)] M Q
      refine z_i2l dX12_nextToken_216 ?_
      refine z_lor dX12_nextToken_217 ?_
      refine y_putf (M' := zset M 234 12 (zlor (zlshl (M 234 12) 8) (zbm M (M 234 8)))) hG dX12_nextToken_218 fX12_182 sh234 (by decide) ⟨rfl, rfl⟩ p12_12 (fun q => absurd q (by decide)) (by decide) rfl ?_
      refine z_aloadn dX12_nextToken_221 rfl (Or.inl rfl) ?_
      refine z_dup dX12_nextToken_222 (show (2 : Nat) ≠ 1 by decide) ?_
      refine y_getf (x := (M 234 8)) dX12_nextToken_223 fX12_160 sh234 (by decide) rfl (zset_ne (fun q => absurd q.2 (by decide))) ?_
      refine z_iconst dX12_nextToken_226 ki_1 ?_
      obtain ⟨q3, h⟩ := h
      refine z_iadd dX12_nextToken_227 q3 ?_
      refine y_putf (M' := zset (zset M 234 12 (zlor (zlshl (M 234 12) 8) (zbm M (M 234 8)))) 234 8 ((M 234 8) + 1)) hG dX12_nextToken_228 fX12_160 sh234 (by decide) ⟨rfl, rfl⟩ p12_8 (fun q => absurd q (by decide)) (by decide) rfl ?_
      refine z_goto (tgt := 168) dX12_nextToken_231 rfl ?_
      exact h
    · replace h := h.2 q
      refine z_ldc2 (k := 1152921504606846976) (v := 1152921504606846976) dX12_nextToken_195 ⟨by decide, ⟨by decide, by decide⟩⟩ qlX12_186 ?_
      refine z_goto (tgt := 218) dX12_nextToken_198 rfl ?_
      refine y_putf (M' := zset M 234 12 1152921504606846976) hG dX12_nextToken_218 fX12_182 sh234 (by decide) ⟨rfl, rfl⟩ p12_12 (fun q => absurd q (by decide)) (by decide) rfl ?_
      refine z_aloadn dX12_nextToken_221 rfl (Or.inl rfl) ?_
      refine z_dup dX12_nextToken_222 (show (2 : Nat) ≠ 1 by decide) ?_
      refine y_getf (x := (M 234 8)) dX12_nextToken_223 fX12_160 sh234 (by decide) rfl (zset_ne (fun q => absurd q.2 (by decide))) ?_
      refine z_iconst dX12_nextToken_226 ki_1 ?_
      obtain ⟨q4, h⟩ := h
      refine z_iadd dX12_nextToken_227 q4 ?_
      refine y_putf (M' := zset (zset M 234 12 1152921504606846976) 234 8 ((M 234 8) + 1)) hG dX12_nextToken_228 fX12_160 sh234 (by decide) ⟨rfl, rfl⟩ p12_8 (fun q => absurd q (by decide)) (by decide) rfl ?_
      refine z_goto (tgt := 168) dX12_nextToken_231 rfl ?_
      exact h
  · replace h := h.2 q
    show Y G (d + 1) mX12_nextToken 179 [(2, 234), (0, x1)] [(0, 0)] M Q
    refine z_ifeq (tgt := 310) dX12_nextToken_179 rfl (fun _ => ?_) (fun q => absurd q (by decide))
    exact z_return dX12_nextToken_310 rfl rfl h
set_option maxRecDepth 20000 in
set_option maxHeartbeats 4000000 in
theorem bX12_nextToken_239 {G : zG} {d : Nat} {M : zM} {Q : zV → zM → Prop} (hG : zP G) {x1 x49 : Int}
    (h : ((x49 = 0 → (-2147483648 ≤ (M 234 8) + 1 ∧ (M 234 8) + 1 ≤ 2147483647) ∧ ((x1 = 60 → (0 ≤ ((M 234 8) + 1) ∧ (zset (zset M 234 10 3) 234 8 ((M 234 8) + 1)) 234 5 ≤ 300) ∧ ((¬ (zbm (zset (zset M 234 10 3) 234 8 ((M 234 8) + 1)) ((M 234 8) + 1)) = 61 → Q (9, 0) (zset (zset M 234 10 3) 234 8 ((M 234 8) + 1))) ∧ ((zbm (zset (zset M 234 10 3) 234 8 ((M 234 8) + 1)) ((M 234 8) + 1)) = 61 → ((¬ x1 = 60 → (-2147483648 ≤ ((M 234 8) + 1) + 1 ∧ ((M 234 8) + 1) + 1 ≤ 2147483647) ∧ Q (9, 0) (zset (zset (zset (zset M 234 10 3) 234 8 ((M 234 8) + 1)) 234 10 5) 234 8 (((M 234 8) + 1) + 1))) ∧ (x1 = 60 → (-2147483648 ≤ ((M 234 8) + 1) + 1 ∧ ((M 234 8) + 1) + 1 ≤ 2147483647) ∧ Q (9, 0) (zset (zset (zset (zset M 234 10 3) 234 8 ((M 234 8) + 1)) 234 10 4) 234 8 (((M 234 8) + 1) + 1))))))) ∧ (¬ x1 = 60 → ((¬ x1 = 62 → Q (9, 0) (zset (zset M 234 10 3) 234 8 ((M 234 8) + 1))) ∧ (x1 = 62 → (0 ≤ ((M 234 8) + 1) ∧ (zset (zset M 234 10 3) 234 8 ((M 234 8) + 1)) 234 5 ≤ 300) ∧ ((¬ (zbm (zset (zset M 234 10 3) 234 8 ((M 234 8) + 1)) ((M 234 8) + 1)) = 61 → Q (9, 0) (zset (zset M 234 10 3) 234 8 ((M 234 8) + 1))) ∧ ((zbm (zset (zset M 234 10 3) 234 8 ((M 234 8) + 1)) ((M 234 8) + 1)) = 61 → ((¬ x1 = 60 → (-2147483648 ≤ ((M 234 8) + 1) + 1 ∧ ((M 234 8) + 1) + 1 ≤ 2147483647) ∧ Q (9, 0) (zset (zset (zset (zset M 234 10 3) 234 8 ((M 234 8) + 1)) 234 10 5) 234 8 (((M 234 8) + 1) + 1))) ∧ (x1 = 60 → (-2147483648 ≤ ((M 234 8) + 1) + 1 ∧ ((M 234 8) + 1) + 1 ≤ 2147483647) ∧ Q (9, 0) (zset (zset (zset (zset M 234 10 3) 234 8 ((M 234 8) + 1)) 234 10 4) 234 8 (((M 234 8) + 1) + 1))))))))))) ∧ (¬ x49 = 0 → (-2147483648 ≤ (M 234 8) + 1 ∧ (M 234 8) + 1 ≤ 2147483647) ∧ ((x1 = 60 → (0 ≤ ((M 234 8) + 1) ∧ (zset (zset M 234 10 x1) 234 8 ((M 234 8) + 1)) 234 5 ≤ 300) ∧ ((¬ (zbm (zset (zset M 234 10 x1) 234 8 ((M 234 8) + 1)) ((M 234 8) + 1)) = 61 → Q (9, 0) (zset (zset M 234 10 x1) 234 8 ((M 234 8) + 1))) ∧ ((zbm (zset (zset M 234 10 x1) 234 8 ((M 234 8) + 1)) ((M 234 8) + 1)) = 61 → ((¬ x1 = 60 → (-2147483648 ≤ ((M 234 8) + 1) + 1 ∧ ((M 234 8) + 1) + 1 ≤ 2147483647) ∧ Q (9, 0) (zset (zset (zset (zset M 234 10 x1) 234 8 ((M 234 8) + 1)) 234 10 5) 234 8 (((M 234 8) + 1) + 1))) ∧ (x1 = 60 → (-2147483648 ≤ ((M 234 8) + 1) + 1 ∧ ((M 234 8) + 1) + 1 ≤ 2147483647) ∧ Q (9, 0) (zset (zset (zset (zset M 234 10 x1) 234 8 ((M 234 8) + 1)) 234 10 4) 234 8 (((M 234 8) + 1) + 1))))))) ∧ (¬ x1 = 60 → ((¬ x1 = 62 → Q (9, 0) (zset (zset M 234 10 x1) 234 8 ((M 234 8) + 1))) ∧ (x1 = 62 → (0 ≤ ((M 234 8) + 1) ∧ (zset (zset M 234 10 x1) 234 8 ((M 234 8) + 1)) 234 5 ≤ 300) ∧ ((¬ (zbm (zset (zset M 234 10 x1) 234 8 ((M 234 8) + 1)) ((M 234 8) + 1)) = 61 → Q (9, 0) (zset (zset M 234 10 x1) 234 8 ((M 234 8) + 1))) ∧ ((zbm (zset (zset M 234 10 x1) 234 8 ((M 234 8) + 1)) ((M 234 8) + 1)) = 61 → ((¬ x1 = 60 → (-2147483648 ≤ ((M 234 8) + 1) + 1 ∧ ((M 234 8) + 1) + 1 ≤ 2147483647) ∧ Q (9, 0) (zset (zset (zset (zset M 234 10 x1) 234 8 ((M 234 8) + 1)) 234 10 5) 234 8 (((M 234 8) + 1) + 1))) ∧ (x1 = 60 → (-2147483648 ≤ ((M 234 8) + 1) + 1 ∧ ((M 234 8) + 1) + 1 ≤ 2147483647) ∧ Q (9, 0) (zset (zset (zset (zset M 234 10 x1) 234 8 ((M 234 8) + 1)) 234 10 4) 234 8 (((M 234 8) + 1) + 1))))))))))))) :
    Y G (d + 1) mX12_nextToken 239 [(2, 234), (0, x1)] [(0, x49), (2, 234)] M Q := by
  refine z_ifeq (tgt := 246) dX12_nextToken_239 rfl (fun q => ?_) (fun q => ?_)
  · replace h := h.1 q
    refine z_iconst dX12_nextToken_246 ki_3 ?_
    refine y_putf (M' := zset M 234 10 3) hG dX12_nextToken_247 fX12_169 sh234 (by decide) ⟨rfl, rfl⟩ p12_10 (fun q => absurd q (by decide)) (by decide) rfl ?_
    refine z_aloadn dX12_nextToken_250 rfl (Or.inl rfl) ?_
    refine z_dup dX12_nextToken_251 (show (2 : Nat) ≠ 1 by decide) ?_
    refine y_getf (x := (M 234 8)) dX12_nextToken_252 fX12_160 sh234 (by decide) rfl (zset_ne (fun q => absurd q.2 (by decide))) ?_
    refine z_iconst dX12_nextToken_255 ki_1 ?_
    obtain ⟨q1, h⟩ := h
    refine z_iadd dX12_nextToken_256 q1 ?_
    refine y_putf (M' := zset (zset M 234 10 3) 234 8 ((M 234 8) + 1)) hG dX12_nextToken_257 fX12_160 sh234 (by decide) ⟨rfl, rfl⟩ p12_8 (fun q => absurd q (by decide)) (by decide) rfl ?_
    refine z_iloadn dX12_nextToken_260 rfl ?_
    refine z_bipush dX12_nextToken_261 kb_60 ?_
    refine z_icmpeq (tgt := 272) dX12_nextToken_263 rfl (fun q => ?_) (fun q => ?_)
    · replace h := h.1 q
      refine z_aloadn dX12_nextToken_272 rfl (Or.inl rfl) ?_
      refine z_aloadn dX12_nextToken_273 rfl (Or.inl rfl) ?_
      refine y_getf (x := ((M 234 8) + 1)) dX12_nextToken_274 fX12_160 sh234 (by decide) rfl zset_same ?_
      obtain ⟨q2, h⟩ := h
      refine y_cv (mt2 := mX12_byteAt) (en := [(2, 234), (0, ((M 234 8) + 1))]) (st := []) (as := [(0, ((M 234 8) + 1))]) dX12_nextToken_277 lX12_163 kX12_byteAt iX12_byteAt eX12_byteAt rfl sh234 (by decide +kernel) (Nat.le_of_ble_eq_true rfl) (Nat.le_of_ble_eq_true rfl) rfl (s_mbyteAt hG q2 ?_)
      show Y G (d + 1) mX12_nextToken 280 [(2, 234), (0, x1)] [(0, (zbm (zset (zset M 234 10 3) 234 8 ((M 234 8) + 1)) ((M 234 8) + 1)))] (zset (zset M 234 10 3) 234 8 ((M 234 8) + 1)) Q
      refine z_bipush dX12_nextToken_280 kb_61 ?_
      refine z_icmpne (tgt := 310) dX12_nextToken_282 rfl (fun q => ?_) (fun q => ?_)
      · replace h := h.1 q
        exact z_return dX12_nextToken_310 rfl rfl h
      · replace h := h.2 q
        refine z_aloadn dX12_nextToken_285 rfl (Or.inl rfl) ?_
        refine z_iloadn dX12_nextToken_286 rfl ?_
        refine z_bipush dX12_nextToken_287 kb_60 ?_
        refine z_icmpne (tgt := 296) dX12_nextToken_289 rfl (fun q => ?_) (fun q => ?_)
        · replace h := h.1 q
          refine z_iconst dX12_nextToken_296 ki_5 ?_
          refine y_putf (M' := zset (zset (zset M 234 10 3) 234 8 ((M 234 8) + 1)) 234 10 5) hG dX12_nextToken_297 fX12_169 sh234 (by decide) ⟨rfl, rfl⟩ p12_10 (fun q => absurd q (by decide)) (by decide) rfl ?_
          refine z_aloadn dX12_nextToken_300 rfl (Or.inl rfl) ?_
          refine z_dup dX12_nextToken_301 (show (2 : Nat) ≠ 1 by decide) ?_
          refine y_getf (x := ((M 234 8) + 1)) dX12_nextToken_302 fX12_160 sh234 (by decide) rfl ((zset_ne (fun q => absurd q.2 (by decide))).trans zset_same) ?_
          refine z_iconst dX12_nextToken_305 ki_1 ?_
          obtain ⟨q3, h⟩ := h
          refine z_iadd dX12_nextToken_306 q3 ?_
          refine y_putf (M' := zset (zset (zset (zset M 234 10 3) 234 8 ((M 234 8) + 1)) 234 10 5) 234 8 (((M 234 8) + 1) + 1)) hG dX12_nextToken_307 fX12_160 sh234 (by decide) ⟨rfl, rfl⟩ p12_8 (fun q => absurd q (by decide)) (by decide) rfl ?_
          exact z_return dX12_nextToken_310 rfl rfl h
        · replace h := h.2 q
          refine z_iconst dX12_nextToken_292 ki_4 ?_
          refine z_goto (tgt := 297) dX12_nextToken_293 rfl ?_
          refine y_putf (M' := zset (zset (zset M 234 10 3) 234 8 ((M 234 8) + 1)) 234 10 4) hG dX12_nextToken_297 fX12_169 sh234 (by decide) ⟨rfl, rfl⟩ p12_10 (fun q => absurd q (by decide)) (by decide) rfl ?_
          refine z_aloadn dX12_nextToken_300 rfl (Or.inl rfl) ?_
          refine z_dup dX12_nextToken_301 (show (2 : Nat) ≠ 1 by decide) ?_
          refine y_getf (x := ((M 234 8) + 1)) dX12_nextToken_302 fX12_160 sh234 (by decide) rfl ((zset_ne (fun q => absurd q.2 (by decide))).trans zset_same) ?_
          refine z_iconst dX12_nextToken_305 ki_1 ?_
          obtain ⟨q4, h⟩ := h
          refine z_iadd dX12_nextToken_306 q4 ?_
          refine y_putf (M' := zset (zset (zset (zset M 234 10 3) 234 8 ((M 234 8) + 1)) 234 10 4) 234 8 (((M 234 8) + 1) + 1)) hG dX12_nextToken_307 fX12_160 sh234 (by decide) ⟨rfl, rfl⟩ p12_8 (fun q => absurd q (by decide)) (by decide) rfl ?_
          exact z_return dX12_nextToken_310 rfl rfl h
    · replace h := h.2 q
      refine z_iloadn dX12_nextToken_266 rfl ?_
      refine z_bipush dX12_nextToken_267 kb_62 ?_
      refine z_icmpne (tgt := 310) dX12_nextToken_269 rfl (fun q => ?_) (fun q => ?_)
      · replace h := h.1 q
        exact z_return dX12_nextToken_310 rfl rfl h
      · replace h := h.2 q
        refine z_aloadn dX12_nextToken_272 rfl (Or.inl rfl) ?_
        refine z_aloadn dX12_nextToken_273 rfl (Or.inl rfl) ?_
        refine y_getf (x := ((M 234 8) + 1)) dX12_nextToken_274 fX12_160 sh234 (by decide) rfl zset_same ?_
        obtain ⟨q5, h⟩ := h
        refine y_cv (mt2 := mX12_byteAt) (en := [(2, 234), (0, ((M 234 8) + 1))]) (st := []) (as := [(0, ((M 234 8) + 1))]) dX12_nextToken_277 lX12_163 kX12_byteAt iX12_byteAt eX12_byteAt rfl sh234 (by decide +kernel) (Nat.le_of_ble_eq_true rfl) (Nat.le_of_ble_eq_true rfl) rfl (s_mbyteAt hG q5 ?_)
        show Y G (d + 1) mX12_nextToken 280 [(2, 234), (0, x1)] [(0, (zbm (zset (zset M 234 10 3) 234 8 ((M 234 8) + 1)) ((M 234 8) + 1)))] (zset (zset M 234 10 3) 234 8 ((M 234 8) + 1)) Q
        refine z_bipush dX12_nextToken_280 kb_61 ?_
        refine z_icmpne (tgt := 310) dX12_nextToken_282 rfl (fun q => ?_) (fun q => ?_)
        · replace h := h.1 q
          exact z_return dX12_nextToken_310 rfl rfl h
        · replace h := h.2 q
          refine z_aloadn dX12_nextToken_285 rfl (Or.inl rfl) ?_
          refine z_iloadn dX12_nextToken_286 rfl ?_
          refine z_bipush dX12_nextToken_287 kb_60 ?_
          refine z_icmpne (tgt := 296) dX12_nextToken_289 rfl (fun q => ?_) (fun q => ?_)
          · replace h := h.1 q
            refine z_iconst dX12_nextToken_296 ki_5 ?_
            refine y_putf (M' := zset (zset (zset M 234 10 3) 234 8 ((M 234 8) + 1)) 234 10 5) hG dX12_nextToken_297 fX12_169 sh234 (by decide) ⟨rfl, rfl⟩ p12_10 (fun q => absurd q (by decide)) (by decide) rfl ?_
            refine z_aloadn dX12_nextToken_300 rfl (Or.inl rfl) ?_
            refine z_dup dX12_nextToken_301 (show (2 : Nat) ≠ 1 by decide) ?_
            refine y_getf (x := ((M 234 8) + 1)) dX12_nextToken_302 fX12_160 sh234 (by decide) rfl ((zset_ne (fun q => absurd q.2 (by decide))).trans zset_same) ?_
            refine z_iconst dX12_nextToken_305 ki_1 ?_
            obtain ⟨q6, h⟩ := h
            refine z_iadd dX12_nextToken_306 q6 ?_
            refine y_putf (M' := zset (zset (zset (zset M 234 10 3) 234 8 ((M 234 8) + 1)) 234 10 5) 234 8 (((M 234 8) + 1) + 1)) hG dX12_nextToken_307 fX12_160 sh234 (by decide) ⟨rfl, rfl⟩ p12_8 (fun q => absurd q (by decide)) (by decide) rfl ?_
            exact z_return dX12_nextToken_310 rfl rfl h
          · replace h := h.2 q
            refine z_iconst dX12_nextToken_292 ki_4 ?_
            refine z_goto (tgt := 297) dX12_nextToken_293 rfl ?_
            refine y_putf (M' := zset (zset (zset M 234 10 3) 234 8 ((M 234 8) + 1)) 234 10 4) hG dX12_nextToken_297 fX12_169 sh234 (by decide) ⟨rfl, rfl⟩ p12_10 (fun q => absurd q (by decide)) (by decide) rfl ?_
            refine z_aloadn dX12_nextToken_300 rfl (Or.inl rfl) ?_
            refine z_dup dX12_nextToken_301 (show (2 : Nat) ≠ 1 by decide) ?_
            refine y_getf (x := ((M 234 8) + 1)) dX12_nextToken_302 fX12_160 sh234 (by decide) rfl ((zset_ne (fun q => absurd q.2 (by decide))).trans zset_same) ?_
            refine z_iconst dX12_nextToken_305 ki_1 ?_
            obtain ⟨q7, h⟩ := h
            refine z_iadd dX12_nextToken_306 q7 ?_
            refine y_putf (M' := zset (zset (zset (zset M 234 10 3) 234 8 ((M 234 8) + 1)) 234 10 4) 234 8 (((M 234 8) + 1) + 1)) hG dX12_nextToken_307 fX12_160 sh234 (by decide) ⟨rfl, rfl⟩ p12_8 (fun q => absurd q (by decide)) (by decide) rfl ?_
            exact z_return dX12_nextToken_310 rfl rfl h
  · replace h := h.2 q
    refine z_iloadn dX12_nextToken_242 rfl ?_
    refine z_goto (tgt := 247) dX12_nextToken_243 rfl ?_
    refine y_putf (M' := zset M 234 10 x1) hG dX12_nextToken_247 fX12_169 sh234 (by decide) ⟨rfl, rfl⟩ p12_10 (fun q => absurd q (by decide)) (by decide) rfl ?_
    refine z_aloadn dX12_nextToken_250 rfl (Or.inl rfl) ?_
    refine z_dup dX12_nextToken_251 (show (2 : Nat) ≠ 1 by decide) ?_
    refine y_getf (x := (M 234 8)) dX12_nextToken_252 fX12_160 sh234 (by decide) rfl (zset_ne (fun q => absurd q.2 (by decide))) ?_
    refine z_iconst dX12_nextToken_255 ki_1 ?_
    obtain ⟨q8, h⟩ := h
    refine z_iadd dX12_nextToken_256 q8 ?_
    refine y_putf (M' := zset (zset M 234 10 x1) 234 8 ((M 234 8) + 1)) hG dX12_nextToken_257 fX12_160 sh234 (by decide) ⟨rfl, rfl⟩ p12_8 (fun q => absurd q (by decide)) (by decide) rfl ?_
    refine z_iloadn dX12_nextToken_260 rfl ?_
    refine z_bipush dX12_nextToken_261 kb_60 ?_
    refine z_icmpeq (tgt := 272) dX12_nextToken_263 rfl (fun q => ?_) (fun q => ?_)
    · replace h := h.1 q
      refine z_aloadn dX12_nextToken_272 rfl (Or.inl rfl) ?_
      refine z_aloadn dX12_nextToken_273 rfl (Or.inl rfl) ?_
      refine y_getf (x := ((M 234 8) + 1)) dX12_nextToken_274 fX12_160 sh234 (by decide) rfl zset_same ?_
      obtain ⟨q9, h⟩ := h
      refine y_cv (mt2 := mX12_byteAt) (en := [(2, 234), (0, ((M 234 8) + 1))]) (st := []) (as := [(0, ((M 234 8) + 1))]) dX12_nextToken_277 lX12_163 kX12_byteAt iX12_byteAt eX12_byteAt rfl sh234 (by decide +kernel) (Nat.le_of_ble_eq_true rfl) (Nat.le_of_ble_eq_true rfl) rfl (s_mbyteAt hG q9 ?_)
      show Y G (d + 1) mX12_nextToken 280 [(2, 234), (0, x1)] [(0, (zbm (zset (zset M 234 10 x1) 234 8 ((M 234 8) + 1)) ((M 234 8) + 1)))] (zset (zset M 234 10 x1) 234 8 ((M 234 8) + 1)) Q
      refine z_bipush dX12_nextToken_280 kb_61 ?_
      refine z_icmpne (tgt := 310) dX12_nextToken_282 rfl (fun q => ?_) (fun q => ?_)
      · replace h := h.1 q
        exact z_return dX12_nextToken_310 rfl rfl h
      · replace h := h.2 q
        refine z_aloadn dX12_nextToken_285 rfl (Or.inl rfl) ?_
        refine z_iloadn dX12_nextToken_286 rfl ?_
        refine z_bipush dX12_nextToken_287 kb_60 ?_
        refine z_icmpne (tgt := 296) dX12_nextToken_289 rfl (fun q => ?_) (fun q => ?_)
        · replace h := h.1 q
          refine z_iconst dX12_nextToken_296 ki_5 ?_
          refine y_putf (M' := zset (zset (zset M 234 10 x1) 234 8 ((M 234 8) + 1)) 234 10 5) hG dX12_nextToken_297 fX12_169 sh234 (by decide) ⟨rfl, rfl⟩ p12_10 (fun q => absurd q (by decide)) (by decide) rfl ?_
          refine z_aloadn dX12_nextToken_300 rfl (Or.inl rfl) ?_
          refine z_dup dX12_nextToken_301 (show (2 : Nat) ≠ 1 by decide) ?_
          refine y_getf (x := ((M 234 8) + 1)) dX12_nextToken_302 fX12_160 sh234 (by decide) rfl ((zset_ne (fun q => absurd q.2 (by decide))).trans zset_same) ?_
          refine z_iconst dX12_nextToken_305 ki_1 ?_
          obtain ⟨q10, h⟩ := h
          refine z_iadd dX12_nextToken_306 q10 ?_
          refine y_putf (M' := zset (zset (zset (zset M 234 10 x1) 234 8 ((M 234 8) + 1)) 234 10 5) 234 8 (((M 234 8) + 1) + 1)) hG dX12_nextToken_307 fX12_160 sh234 (by decide) ⟨rfl, rfl⟩ p12_8 (fun q => absurd q (by decide)) (by decide) rfl ?_
          exact z_return dX12_nextToken_310 rfl rfl h
        · replace h := h.2 q
          refine z_iconst dX12_nextToken_292 ki_4 ?_
          refine z_goto (tgt := 297) dX12_nextToken_293 rfl ?_
          refine y_putf (M' := zset (zset (zset M 234 10 x1) 234 8 ((M 234 8) + 1)) 234 10 4) hG dX12_nextToken_297 fX12_169 sh234 (by decide) ⟨rfl, rfl⟩ p12_10 (fun q => absurd q (by decide)) (by decide) rfl ?_
          refine z_aloadn dX12_nextToken_300 rfl (Or.inl rfl) ?_
          refine z_dup dX12_nextToken_301 (show (2 : Nat) ≠ 1 by decide) ?_
          refine y_getf (x := ((M 234 8) + 1)) dX12_nextToken_302 fX12_160 sh234 (by decide) rfl ((zset_ne (fun q => absurd q.2 (by decide))).trans zset_same) ?_
          refine z_iconst dX12_nextToken_305 ki_1 ?_
          obtain ⟨q11, h⟩ := h
          refine z_iadd dX12_nextToken_306 q11 ?_
          refine y_putf (M' := zset (zset (zset (zset M 234 10 x1) 234 8 ((M 234 8) + 1)) 234 10 4) 234 8 (((M 234 8) + 1) + 1)) hG dX12_nextToken_307 fX12_160 sh234 (by decide) ⟨rfl, rfl⟩ p12_8 (fun q => absurd q (by decide)) (by decide) rfl ?_
          exact z_return dX12_nextToken_310 rfl rfl h
    · replace h := h.2 q
      refine z_iloadn dX12_nextToken_266 rfl ?_
      refine z_bipush dX12_nextToken_267 kb_62 ?_
      refine z_icmpne (tgt := 310) dX12_nextToken_269 rfl (fun q => ?_) (fun q => ?_)
      · replace h := h.1 q
        exact z_return dX12_nextToken_310 rfl rfl h
      · replace h := h.2 q
        refine z_aloadn dX12_nextToken_272 rfl (Or.inl rfl) ?_
        refine z_aloadn dX12_nextToken_273 rfl (Or.inl rfl) ?_
        refine y_getf (x := ((M 234 8) + 1)) dX12_nextToken_274 fX12_160 sh234 (by decide) rfl zset_same ?_
        obtain ⟨q12, h⟩ := h
        refine y_cv (mt2 := mX12_byteAt) (en := [(2, 234), (0, ((M 234 8) + 1))]) (st := []) (as := [(0, ((M 234 8) + 1))]) dX12_nextToken_277 lX12_163 kX12_byteAt iX12_byteAt eX12_byteAt rfl sh234 (by decide +kernel) (Nat.le_of_ble_eq_true rfl) (Nat.le_of_ble_eq_true rfl) rfl (s_mbyteAt hG q12 ?_)
        show Y G (d + 1) mX12_nextToken 280 [(2, 234), (0, x1)] [(0, (zbm (zset (zset M 234 10 x1) 234 8 ((M 234 8) + 1)) ((M 234 8) + 1)))] (zset (zset M 234 10 x1) 234 8 ((M 234 8) + 1)) Q
        refine z_bipush dX12_nextToken_280 kb_61 ?_
        refine z_icmpne (tgt := 310) dX12_nextToken_282 rfl (fun q => ?_) (fun q => ?_)
        · replace h := h.1 q
          exact z_return dX12_nextToken_310 rfl rfl h
        · replace h := h.2 q
          refine z_aloadn dX12_nextToken_285 rfl (Or.inl rfl) ?_
          refine z_iloadn dX12_nextToken_286 rfl ?_
          refine z_bipush dX12_nextToken_287 kb_60 ?_
          refine z_icmpne (tgt := 296) dX12_nextToken_289 rfl (fun q => ?_) (fun q => ?_)
          · replace h := h.1 q
            refine z_iconst dX12_nextToken_296 ki_5 ?_
            refine y_putf (M' := zset (zset (zset M 234 10 x1) 234 8 ((M 234 8) + 1)) 234 10 5) hG dX12_nextToken_297 fX12_169 sh234 (by decide) ⟨rfl, rfl⟩ p12_10 (fun q => absurd q (by decide)) (by decide) rfl ?_
            refine z_aloadn dX12_nextToken_300 rfl (Or.inl rfl) ?_
            refine z_dup dX12_nextToken_301 (show (2 : Nat) ≠ 1 by decide) ?_
            refine y_getf (x := ((M 234 8) + 1)) dX12_nextToken_302 fX12_160 sh234 (by decide) rfl ((zset_ne (fun q => absurd q.2 (by decide))).trans zset_same) ?_
            refine z_iconst dX12_nextToken_305 ki_1 ?_
            obtain ⟨q13, h⟩ := h
            refine z_iadd dX12_nextToken_306 q13 ?_
            refine y_putf (M' := zset (zset (zset (zset M 234 10 x1) 234 8 ((M 234 8) + 1)) 234 10 5) 234 8 (((M 234 8) + 1) + 1)) hG dX12_nextToken_307 fX12_160 sh234 (by decide) ⟨rfl, rfl⟩ p12_8 (fun q => absurd q (by decide)) (by decide) rfl ?_
            exact z_return dX12_nextToken_310 rfl rfl h
          · replace h := h.2 q
            refine z_iconst dX12_nextToken_292 ki_4 ?_
            refine z_goto (tgt := 297) dX12_nextToken_293 rfl ?_
            refine y_putf (M' := zset (zset (zset M 234 10 x1) 234 8 ((M 234 8) + 1)) 234 10 4) hG dX12_nextToken_297 fX12_169 sh234 (by decide) ⟨rfl, rfl⟩ p12_10 (fun q => absurd q (by decide)) (by decide) rfl ?_
            refine z_aloadn dX12_nextToken_300 rfl (Or.inl rfl) ?_
            refine z_dup dX12_nextToken_301 (show (2 : Nat) ≠ 1 by decide) ?_
            refine y_getf (x := ((M 234 8) + 1)) dX12_nextToken_302 fX12_160 sh234 (by decide) rfl ((zset_ne (fun q => absurd q.2 (by decide))).trans zset_same) ?_
            refine z_iconst dX12_nextToken_305 ki_1 ?_
            obtain ⟨q14, h⟩ := h
            refine z_iadd dX12_nextToken_306 q14 ?_
            refine y_putf (M' := zset (zset (zset (zset M 234 10 x1) 234 8 ((M 234 8) + 1)) 234 10 4) 234 8 (((M 234 8) + 1) + 1)) hG dX12_nextToken_307 fX12_160 sh234 (by decide) ⟨rfl, rfl⟩ p12_8 (fun q => absurd q (by decide)) (by decide) rfl ?_
            exact z_return dX12_nextToken_310 rfl rfl h
set_option maxRecDepth 20000 in
set_option maxHeartbeats 4000000 in
theorem bX12_copy_0 {G : zG} {d : Nat} {M : zM} {Q : zV → zM → Prop} (hG : zP G) {r0 r1 : Int} {nr0 nr1 : Nat} (hr0 : zsh r0.toNat = (100, nr0)) (hr1 : zsh r1.toNat = (100, nr1))
    (h : Y G d mX12_copy 2 [(2, r0), (2, r1), (0, 0)] [] M Q) :
    Y G d mX12_copy 0 [(2, r0), (2, r1), (9, 0)] [] M Q := by
  refine z_iconst dX12_copy_0 ki_0 ?_
  refine y_istoren (ls' := [(2, r0), (2, r1), (0, 0)]) dX12_copy_1 rfl rfl ?_
  exact h
set_option maxRecDepth 20000 in
set_option maxHeartbeats 4000000 in
theorem bX12_copy_2 {G : zG} {d : Nat} {M : zM} {Q : zV → zM → Prop} (hG : zP G) {r0 r1 x2 : Int} {nr0 nr1 : Nat} (hr0 : zsh r0.toNat = (100, nr0)) (hr1 : zsh r1.toNat = (100, nr1))
    (h : ((156 ≤ x2 → Q (9, 0) M) ∧ (x2 < 156 → (0 ≤ x2 ∧ x2 < (nr0 : Int)) ∧ (0 ≤ x2 ∧ x2 < (nr1 : Int)) ∧ (-2147483648 ≤ x2 + 1 ∧ x2 + 1 ≤ 2147483647) ∧ Y G d mX12_copy 2 [(2, r0), (2, r1), (0, (x2 + 1))] [] (zset M r1 x2 (M r0 x2)) Q))) :
    Y G d mX12_copy 2 [(2, r0), (2, r1), (0, x2)] [] M Q := by
  refine z_iloadn dX12_copy_2 rfl ?_
  refine z_sipush dX12_copy_3 ks_156 ?_
  refine z_icmpge (tgt := 21) dX12_copy_6 rfl (fun q => ?_) (fun q => ?_)
  · replace h := h.1 q
    exact z_return dX12_copy_21 rfl rfl h
  · replace h := h.2 q
    refine z_aloadn dX12_copy_9 rfl (Or.inl rfl) ?_
    refine z_iloadn dX12_copy_10 rfl ?_
    refine z_aloadn dX12_copy_11 rfl (Or.inl rfl) ?_
    refine z_iloadn dX12_copy_12 rfl ?_
    obtain ⟨q1, h⟩ := h
    refine y_iald (x := (M r0 x2)) dX12_copy_13 hr0 q1 rfl ?_
    obtain ⟨q2, h⟩ := h
    refine y_iast hG dX12_copy_14 hr1 q2 ?_
    obtain ⟨q3, h⟩ := h
    refine y_iinc (ls' := [(2, r0), (2, r1), (0, (x2 + 1))]) dX12_copy_15 rfl rfl q3 rfl ?_
    refine z_goto (tgt := 2) dX12_copy_18 rfl ?_
    exact h
set_option maxRecDepth 20000 in
set_option maxHeartbeats 4000000 in
theorem bX12_w4_0 {G : zG} {d : Nat} {M : zM} {Q : zV → zM → Prop} (hG : zP G) {x0 x1 x2 x3 : Int}
    (h : Y G d mX12_w3 0 [(0, x0), (0, x1), (0, x2)] [] M (fun r M' => Y G (d + 1) mX12_w4 6 [(0, x0), (0, x1), (0, x2), (0, x3)] (zpush r []) M' Q)) :
    Y G (d + 1) mX12_w4 0 [(0, x0), (0, x1), (0, x2), (0, x3)] [] M Q := by
  refine z_iloadn dX12_w4_0 rfl ?_
  refine z_iloadn dX12_w4_1 rfl ?_
  refine z_iloadn dX12_w4_2 rfl ?_
  refine y_cs (mt2 := mX12_w3) (en := [(0, x0), (0, x1), (0, x2)]) (st := []) (as := [(0, x0), (0, x1), (0, x2)]) dX12_w4_3 lX12_191 kX12_w3 tX12_w3 rfl (Nat.le_of_ble_eq_true rfl) (Nat.le_of_ble_eq_true rfl) rfl ?_
  exact h
set_option maxRecDepth 20000 in
set_option maxHeartbeats 4000000 in
theorem bX12_w4_6 {G : zG} {d : Nat} {M : zM} {Q : zV → zM → Prop} (hG : zP G) {x0 x1 x2 x3 x49 : Int}
    (h : Q (1, (zlor (zlshl x49 8) x3)) M) :
    Y G (d + 1) mX12_w4 6 [(0, x0), (0, x1), (0, x2), (0, x3)] [(1, x49)] M Q := by
  refine z_bipush dX12_w4_6 kb_8 ?_
  refine z_lshl dX12_w4_8 ?_
  refine z_iloadn dX12_w4_9 rfl ?_
  refine z_i2l dX12_w4_10 ?_
  refine z_lor dX12_w4_11 ?_
  exact z_lreturn dX12_w4_12 rfl rfl h
set_option maxRecDepth 20000 in
set_option maxHeartbeats 4000000 in
theorem bX12_w5_0 {G : zG} {d : Nat} {M : zM} {Q : zV → zM → Prop} (hG : zP G) {x0 x1 x2 x3 x4 : Int}
    (h : Y G d mX12_w4 0 [(0, x0), (0, x1), (0, x2), (0, x3)] [] M (fun r M' => Y G (d + 1) mX12_w5 7 [(0, x0), (0, x1), (0, x2), (0, x3), (0, x4)] (zpush r []) M' Q)) :
    Y G (d + 1) mX12_w5 0 [(0, x0), (0, x1), (0, x2), (0, x3), (0, x4)] [] M Q := by
  refine z_iloadn dX12_w5_0 rfl ?_
  refine z_iloadn dX12_w5_1 rfl ?_
  refine z_iloadn dX12_w5_2 rfl ?_
  refine z_iloadn dX12_w5_3 rfl ?_
  refine y_cs (mt2 := mX12_w4) (en := [(0, x0), (0, x1), (0, x2), (0, x3)]) (st := []) (as := [(0, x0), (0, x1), (0, x2), (0, x3)]) dX12_w5_4 lX12_195 kX12_w4 tX12_w4 rfl (Nat.le_of_ble_eq_true rfl) (Nat.le_of_ble_eq_true rfl) rfl ?_
  exact h
set_option maxRecDepth 20000 in
set_option maxHeartbeats 4000000 in
theorem bX12_w5_7 {G : zG} {d : Nat} {M : zM} {Q : zV → zM → Prop} (hG : zP G) {x0 x1 x2 x3 x4 x49 : Int}
    (h : Q (1, (zlor (zlshl x49 8) x4)) M) :
    Y G (d + 1) mX12_w5 7 [(0, x0), (0, x1), (0, x2), (0, x3), (0, x4)] [(1, x49)] M Q := by
  refine z_bipush dX12_w5_7 kb_8 ?_
  refine z_lshl dX12_w5_9 ?_
  refine z_iload dX12_w5_10 rfl ?_
  refine z_i2l dX12_w5_12 ?_
  refine z_lor dX12_w5_13 ?_
  exact z_lreturn dX12_w5_14 rfl rfl h
set_option maxRecDepth 20000 in
set_option maxHeartbeats 4000000 in
theorem bX12_w6_0 {G : zG} {d : Nat} {M : zM} {Q : zV → zM → Prop} (hG : zP G) {x0 x1 x2 x3 x4 x5 : Int}
    (h : Y G d mX12_w5 0 [(0, x0), (0, x1), (0, x2), (0, x3), (0, x4)] [] M (fun r M' => Y G (d + 1) mX12_w6 9 [(0, x0), (0, x1), (0, x2), (0, x3), (0, x4), (0, x5)] (zpush r []) M' Q)) :
    Y G (d + 1) mX12_w6 0 [(0, x0), (0, x1), (0, x2), (0, x3), (0, x4), (0, x5)] [] M Q := by
  refine z_iloadn dX12_w6_0 rfl ?_
  refine z_iloadn dX12_w6_1 rfl ?_
  refine z_iloadn dX12_w6_2 rfl ?_
  refine z_iloadn dX12_w6_3 rfl ?_
  refine z_iload dX12_w6_4 rfl ?_
  refine y_cs (mt2 := mX12_w5) (en := [(0, x0), (0, x1), (0, x2), (0, x3), (0, x4)]) (st := []) (as := [(0, x0), (0, x1), (0, x2), (0, x3), (0, x4)]) dX12_w6_6 lX12_199 kX12_w5 tX12_w5 rfl (Nat.le_of_ble_eq_true rfl) (Nat.le_of_ble_eq_true rfl) rfl ?_
  exact h
set_option maxRecDepth 20000 in
set_option maxHeartbeats 4000000 in
theorem bX12_w6_9 {G : zG} {d : Nat} {M : zM} {Q : zV → zM → Prop} (hG : zP G) {x0 x1 x2 x3 x4 x5 x49 : Int}
    (h : Q (1, (zlor (zlshl x49 8) x5)) M) :
    Y G (d + 1) mX12_w6 9 [(0, x0), (0, x1), (0, x2), (0, x3), (0, x4), (0, x5)] [(1, x49)] M Q := by
  refine z_bipush dX12_w6_9 kb_8 ?_
  refine z_lshl dX12_w6_11 ?_
  refine z_iload dX12_w6_12 rfl ?_
  refine z_i2l dX12_w6_14 ?_
  refine z_lor dX12_w6_15 ?_
  exact z_lreturn dX12_w6_16 rfl rfl h
set_option maxRecDepth 20000 in
set_option maxHeartbeats 4000000 in
theorem bX12_write_0 {G : zG} {d : Nat} {M : zM} {Q : zV → zM → Prop} (hG : zP G) {x1 x2 : Int}
    (h : (-2147483648 ≤ (M 234 14) + 289 ∧ (M 234 14) + 289 ≤ 2147483647) ∧ (-2147483648 ≤ 2 * (M 234 15) ∧ 2 * (M 234 15) ≤ 2147483647) ∧ (-2147483648 ≤ ((M 234 14) + 289) + (2 * (M 234 15)) ∧ ((M 234 14) + 289) + (2 * (M 234 15)) ≤ 2147483647) ∧ (0 ≤ (((M 234 14) + 289) + (2 * (M 234 15))) ∧ (((M 234 14) + 289) + (2 * (M 234 15))) < 3556) ∧ (-2147483648 ≤ (M 234 14) + 289 ∧ (M 234 14) + 289 ≤ 2147483647) ∧ (-2147483648 ≤ 2 * (M 234 15) ∧ 2 * (M 234 15) ≤ 2147483647) ∧ (-2147483648 ≤ ((M 234 14) + 289) + (2 * (M 234 15)) ∧ ((M 234 14) + 289) + (2 * (M 234 15)) ≤ 2147483647) ∧ (-2147483648 ≤ (((M 234 14) + 289) + (2 * (M 234 15))) + 1 ∧ (((M 234 14) + 289) + (2 * (M 234 15))) + 1 ≤ 2147483647) ∧ (0 ≤ ((((M 234 14) + 289) + (2 * (M 234 15))) + 1) ∧ ((((M 234 14) + 289) + (2 * (M 234 15))) + 1) < 3556) ∧ (-2147483648 ≤ (M 234 15) + 1 ∧ (M 234 15) + 1 ≤ 2147483647) ∧ Q (9, 0) (zset (zset (zset M 240 (((M 234 14) + 289) + (2 * (M 234 15))) x1) 240 ((((M 234 14) + 289) + (2 * (M 234 15))) + 1) x2) 234 15 ((M 234 15) + 1))) :
    Y G d mX12_write 0 [(2, 234), (0, x1), (0, x2)] [] M Q := by
  refine z_aloadn dX12_write_0 rfl (Or.inl rfl) ?_
  refine y_getr (v := 240) hG dX12_write_1 fX12_32 sh234 (by decide) rfl (by decide +kernel) (by decide) ?_
  refine z_aloadn dX12_write_4 rfl (Or.inl rfl) ?_
  refine y_getf (x := (M 234 14)) dX12_write_5 fX12_203 sh234 (by decide) rfl rfl ?_
  refine z_sipush dX12_write_8 ks_289 ?_
  obtain ⟨q1, h⟩ := h
  refine z_iadd dX12_write_11 q1 ?_
  refine z_iconst dX12_write_12 ki_2 ?_
  refine z_aloadn dX12_write_13 rfl (Or.inl rfl) ?_
  refine y_getf (x := (M 234 15)) dX12_write_14 fX12_206 sh234 (by decide) rfl rfl ?_
  obtain ⟨q2, h⟩ := h
  refine z_imul dX12_write_17 q2 ?_
  obtain ⟨q3, h⟩ := h
  refine z_iadd dX12_write_18 q3 ?_
  refine z_iloadn dX12_write_19 rfl ?_
  obtain ⟨q4, h⟩ := h
  refine y_iast hG dX12_write_20 sh240 q4 ?_
  refine z_aloadn dX12_write_21 rfl (Or.inl rfl) ?_
  refine y_getr (v := 240) hG dX12_write_22 fX12_32 sh234 (by decide) rfl (by decide +kernel) (by decide) ?_
  refine z_aloadn dX12_write_25 rfl (Or.inl rfl) ?_
  refine y_getf (x := (M 234 14)) dX12_write_26 fX12_203 sh234 (by decide) rfl (zset_ne (fun q => absurd q.1 (by decide))) ?_
  refine z_sipush dX12_write_29 ks_289 ?_
  obtain ⟨q5, h⟩ := h
  refine z_iadd dX12_write_32 q5 ?_
  refine z_iconst dX12_write_33 ki_2 ?_
  refine z_aloadn dX12_write_34 rfl (Or.inl rfl) ?_
  refine y_getf (x := (M 234 15)) dX12_write_35 fX12_206 sh234 (by decide) rfl (zset_ne (fun q => absurd q.1 (by decide))) ?_
  obtain ⟨q6, h⟩ := h
  refine z_imul dX12_write_38 q6 ?_
  obtain ⟨q7, h⟩ := h
  refine z_iadd dX12_write_39 q7 ?_
  refine z_iconst dX12_write_40 ki_1 ?_
  obtain ⟨q8, h⟩ := h
  refine z_iadd dX12_write_41 q8 ?_
  refine z_iloadn dX12_write_42 rfl ?_
  obtain ⟨q9, h⟩ := h
  refine y_iast hG dX12_write_43 sh240 q9 ?_
  refine z_aloadn dX12_write_44 rfl (Or.inl rfl) ?_
  refine z_dup dX12_write_45 (show (2 : Nat) ≠ 1 by decide) ?_
  refine y_getf (x := (M 234 15)) dX12_write_46 fX12_206 sh234 (by decide) rfl (((zset_ne (fun q => absurd q.1 (by decide))).trans (zset_ne (fun q => absurd q.1 (by decide))))) ?_
  refine z_iconst dX12_write_49 ki_1 ?_
  obtain ⟨q10, h⟩ := h
  refine z_iadd dX12_write_50 q10 ?_
  refine y_putf (M' := zset (zset (zset M 240 (((M 234 14) + 289) + (2 * (M 234 15))) x1) 240 ((((M 234 14) + 289) + (2 * (M 234 15))) + 1) x2) 234 15 ((M 234 15) + 1)) hG dX12_write_51 fX12_206 sh234 (by decide) ⟨rfl, rfl⟩ p12_15 (fun q => absurd q (by decide)) (by decide) rfl ?_
  exact z_return dX12_write_54 rfl rfl h
set_option maxRecDepth 20000 in
set_option maxHeartbeats 4000000 in
theorem bX12_begin_0 {G : zG} {d : Nat} {M : zM} {Q : zV → zM → Prop} (hG : zP G) {x1 x2 : Int}
    (h : (0 ≤ (M 234 22) ∧ (M 234 22) < 10) ∧ (0 ≤ (M 234 22) ∧ (M 234 22) < 10) ∧ Y G d mX12_startSum 0 [(2, 234)] [] (zset (zset M 241 (M 234 22) x1) 242 (M 234 22) x2) (fun r M' => Y G (d + 1) mX12_begin 24 [(2, 234), (0, x1), (0, x2)] (zpush r []) M' Q)) :
    Y G (d + 1) mX12_begin 0 [(2, 234), (0, x1), (0, x2)] [] M Q := by
  refine z_aloadn dX12_begin_0 rfl (Or.inl rfl) ?_
  refine y_getr (v := 241) hG dX12_begin_1 fX12_35 sh234 (by decide) rfl (by decide +kernel) (by decide) ?_
  refine z_aloadn dX12_begin_4 rfl (Or.inl rfl) ?_
  refine y_getf (x := (M 234 22)) dX12_begin_5 fX12_209 sh234 (by decide) rfl rfl ?_
  refine z_iloadn dX12_begin_8 rfl ?_
  obtain ⟨q1, h⟩ := h
  refine y_iast hG dX12_begin_9 sh241 q1 ?_
  refine z_aloadn dX12_begin_10 rfl (Or.inl rfl) ?_
  refine y_getr (v := 242) hG dX12_begin_11 fX12_38 sh234 (by decide) rfl (by decide +kernel) (by decide) ?_
  refine z_aloadn dX12_begin_14 rfl (Or.inl rfl) ?_
  refine y_getf (x := (M 234 22)) dX12_begin_15 fX12_209 sh234 (by decide) rfl (zset_ne (fun q => absurd q.1 (by decide))) ?_
  refine z_iloadn dX12_begin_18 rfl ?_
  obtain ⟨q2, h⟩ := h
  refine y_iast hG dX12_begin_19 sh242 q2 ?_
  refine z_aloadn dX12_begin_20 rfl (Or.inl rfl) ?_
  refine y_cv (mt2 := mX12_startSum) (en := [(2, 234)]) (st := []) (as := []) dX12_begin_21 lX12_212 kX12_startSum iX12_startSum eX12_startSum rfl sh234 (by decide +kernel) (Nat.le_of_ble_eq_true rfl) (Nat.le_of_ble_eq_true rfl) rfl ?_
  exact h
set_option maxRecDepth 20000 in
set_option maxHeartbeats 4000000 in
theorem bX12_begin_24 {G : zG} {d : Nat} {M : zM} {Q : zV → zM → Prop} (hG : zP G) {x1 x2 : Int}
    (h : Q (9, 0) M) :
    Y G (d + 1) mX12_begin 24 [(2, 234), (0, x1), (0, x2)] [] M Q := by
  exact z_return dX12_begin_24 rfl rfl h
set_option maxRecDepth 20000 in
set_option maxHeartbeats 4000000 in
theorem bX12_thingAt_0 {G : zG} {d : Nat} {M : zM} {Q : zV → zM → Prop} (hG : zP G)
    (h : ((¬ (M 234 10) = 2 → Q (0, (-1)) M) ∧ ((M 234 10) = 2 → (((zlcmp (M 234 12) 112) < 0 → Q (0, (-1)) M) ∧ (0 ≤ (zlcmp (M 234 12) 112) → ((0 < (zlcmp (M 234 12) 115) → Q (0, (-1)) M) ∧ ((zlcmp (M 234 12) 115) ≤ 0 → (-2147483648 ≤ (zw (M 234 12)) - 112 ∧ (zw (M 234 12)) - 112 ≤ 2147483647) ∧ Q (0, ((zw (M 234 12)) - 112)) M))))))) :
    Y G d mX12_thingAt 0 [(2, 234)] [] M Q := by
  refine z_aloadn dX12_thingAt_0 rfl (Or.inl rfl) ?_
  refine y_getf (x := (M 234 10)) dX12_thingAt_1 fX12_169 sh234 (by decide) rfl rfl ?_
  refine z_iconst dX12_thingAt_4 ki_2 ?_
  refine z_icmpne (tgt := 41) dX12_thingAt_5 rfl (fun q => ?_) (fun q => ?_)
  · replace h := h.1 q
    refine z_iconst dX12_thingAt_41 ki_m1 ?_
    exact z_ireturn dX12_thingAt_42 (Or.inl rfl) rfl h
  · replace h := h.2 q
    refine z_aloadn dX12_thingAt_8 rfl (Or.inl rfl) ?_
    refine y_getf (x := (M 234 12)) dX12_thingAt_9 fX12_182 sh234 (by decide) rfl rfl ?_
    refine z_ldc2 (k := 112) (v := 112) dX12_thingAt_12 ⟨by decide, ⟨by decide, by decide⟩⟩ qlX12_215 ?_
    refine z_lcmp dX12_thingAt_15 ?_
    refine z_iflt (tgt := 41) dX12_thingAt_16 rfl (fun q => ?_) (fun q => ?_)
    · replace h := h.1 q
      refine z_iconst dX12_thingAt_41 ki_m1 ?_
      exact z_ireturn dX12_thingAt_42 (Or.inl rfl) rfl h
    · replace h := h.2 q
      refine z_aloadn dX12_thingAt_19 rfl (Or.inl rfl) ?_
      refine y_getf (x := (M 234 12)) dX12_thingAt_20 fX12_182 sh234 (by decide) rfl rfl ?_
      refine z_ldc2 (k := 115) (v := 115) dX12_thingAt_23 ⟨by decide, ⟨by decide, by decide⟩⟩ qlX12_217 ?_
      refine z_lcmp dX12_thingAt_26 ?_
      refine z_ifgt (tgt := 41) dX12_thingAt_27 rfl (fun q => ?_) (fun q => ?_)
      · replace h := h.1 q
        refine z_iconst dX12_thingAt_41 ki_m1 ?_
        exact z_ireturn dX12_thingAt_42 (Or.inl rfl) rfl h
      · replace h := h.2 q
        refine z_aloadn dX12_thingAt_30 rfl (Or.inl rfl) ?_
        refine y_getf (x := (M 234 12)) dX12_thingAt_31 fX12_182 sh234 (by decide) rfl rfl ?_
        refine z_l2i dX12_thingAt_34 ?_
        refine z_bipush dX12_thingAt_35 kb_112 ?_
        obtain ⟨q1, h⟩ := h
        refine z_isub dX12_thingAt_37 q1 ?_
        refine z_goto (tgt := 42) dX12_thingAt_38 rfl ?_
        exact z_ireturn dX12_thingAt_42 (Or.inl rfl) rfl h
set_option maxRecDepth 20000 in
set_option maxHeartbeats 4000000 in
theorem bX12_wordStep_0 {G : zG} {d : Nat} {M : zM} {Q : zV → zM → Prop} (hG : zP G)
    (h : Y G d mX12_w3 0 [(0, 97), (0, 103), (0, 101)] [] M (fun r M' => Y G (d + 1) mX12_wordStep 10 [(2, 234)] (zpush r [(2, 234)]) M' Q)) :
    Y G (d + 1) mX12_wordStep 0 [(2, 234)] [] M Q := by
  refine z_aloadn dX12_wordStep_0 rfl (Or.inl rfl) ?_
  refine z_bipush dX12_wordStep_1 kb_97 ?_
  refine z_bipush dX12_wordStep_3 kb_103 ?_
  refine z_bipush dX12_wordStep_5 kb_101 ?_
  refine y_cs (mt2 := mX12_w3) (en := [(0, 97), (0, 103), (0, 101)]) (st := [(2, 234)]) (as := [(0, 97), (0, 103), (0, 101)]) dX12_wordStep_7 lX12_191 kX12_w3 tX12_w3 rfl (Nat.le_of_ble_eq_true rfl) (Nat.le_of_ble_eq_true rfl) rfl ?_
  exact h
set_option maxRecDepth 20000 in
set_option maxHeartbeats 4000000 in
theorem bX12_wordStep_10 {G : zG} {d : Nat} {M : zM} {Q : zV → zM → Prop} (hG : zP G) {x49 : Int}
    (h : Y G d mX12_isWord 0 [(2, 234), (1, x49), (9, 0)] [] M (fun r M' => Y G (d + 1) mX12_wordStep 13 [(2, 234)] (zpush r []) M' Q)) :
    Y G (d + 1) mX12_wordStep 10 [(2, 234)] [(1, x49), (2, 234)] M Q := by
  refine y_cv (mt2 := mX12_isWord) (en := [(2, 234), (1, x49), (9, 0)]) (st := []) (as := [(1, x49)]) dX12_wordStep_10 lX12_219 kX12_isWord iX12_isWord eX12_isWord rfl sh234 (by decide +kernel) (Nat.le_of_ble_eq_true rfl) (Nat.le_of_ble_eq_true rfl) rfl ?_
  exact h
set_option maxRecDepth 20000 in
set_option maxHeartbeats 4000000 in
theorem bX12_wordStep_13 {G : zG} {d : Nat} {M : zM} {Q : zV → zM → Prop} (hG : zP G) {x49 : Int}
    (h : ((x49 = 0 → Y G d mX12_w4 0 [(0, 107), (0, 105), (0, 100), (0, 115)] [] M (fun r M' => Y G (d + 1) mX12_wordStep 30 [(2, 234)] (zpush r [(2, 234)]) M' Q)) ∧ (¬ x49 = 0 → Q (0, 4) M))) :
    Y G (d + 1) mX12_wordStep 13 [(2, 234)] [(0, x49)] M Q := by
  refine z_ifeq (tgt := 18) dX12_wordStep_13 rfl (fun q => ?_) (fun q => ?_)
  · replace h := h.1 q
    refine z_aloadn dX12_wordStep_18 rfl (Or.inl rfl) ?_
    refine z_bipush dX12_wordStep_19 kb_107 ?_
    refine z_bipush dX12_wordStep_21 kb_105 ?_
    refine z_bipush dX12_wordStep_23 kb_100 ?_
    refine z_bipush dX12_wordStep_25 kb_115 ?_
    refine y_cs (mt2 := mX12_w4) (en := [(0, 107), (0, 105), (0, 100), (0, 115)]) (st := [(2, 234)]) (as := [(0, 107), (0, 105), (0, 100), (0, 115)]) dX12_wordStep_27 lX12_195 kX12_w4 tX12_w4 rfl (Nat.le_of_ble_eq_true rfl) (Nat.le_of_ble_eq_true rfl) rfl ?_
    exact h
  · replace h := h.2 q
    refine z_iconst dX12_wordStep_16 ki_4 ?_
    exact z_ireturn dX12_wordStep_17 (Or.inl rfl) rfl h
set_option maxRecDepth 20000 in
set_option maxHeartbeats 4000000 in
theorem bX12_wordStep_30 {G : zG} {d : Nat} {M : zM} {Q : zV → zM → Prop} (hG : zP G) {x49 : Int}
    (h : Y G d mX12_isWord 0 [(2, 234), (1, x49), (9, 0)] [] M (fun r M' => Y G (d + 1) mX12_wordStep 33 [(2, 234)] (zpush r []) M' Q)) :
    Y G (d + 1) mX12_wordStep 30 [(2, 234)] [(1, x49), (2, 234)] M Q := by
  refine y_cv (mt2 := mX12_isWord) (en := [(2, 234), (1, x49), (9, 0)]) (st := []) (as := [(1, x49)]) dX12_wordStep_30 lX12_219 kX12_isWord iX12_isWord eX12_isWord rfl sh234 (by decide +kernel) (Nat.le_of_ble_eq_true rfl) (Nat.le_of_ble_eq_true rfl) rfl ?_
  exact h
set_option maxRecDepth 20000 in
set_option maxHeartbeats 4000000 in
theorem bX12_wordStep_33 {G : zG} {d : Nat} {M : zM} {Q : zV → zM → Prop} (hG : zP G) {x49 : Int}
    (h : ((x49 = 0 → Y G d mX12_w3 0 [(0, 107), (0, 105), (0, 110)] [] M (fun r M' => Y G (d + 1) mX12_wordStep 48 [(2, 234)] (zpush r [(2, 234)]) M' Q)) ∧ (¬ x49 = 0 → Q (0, 5) M))) :
    Y G (d + 1) mX12_wordStep 33 [(2, 234)] [(0, x49)] M Q := by
  refine z_ifeq (tgt := 38) dX12_wordStep_33 rfl (fun q => ?_) (fun q => ?_)
  · replace h := h.1 q
    refine z_aloadn dX12_wordStep_38 rfl (Or.inl rfl) ?_
    refine z_bipush dX12_wordStep_39 kb_107 ?_
    refine z_bipush dX12_wordStep_41 kb_105 ?_
    refine z_bipush dX12_wordStep_43 kb_110 ?_
    refine y_cs (mt2 := mX12_w3) (en := [(0, 107), (0, 105), (0, 110)]) (st := [(2, 234)]) (as := [(0, 107), (0, 105), (0, 110)]) dX12_wordStep_45 lX12_191 kX12_w3 tX12_w3 rfl (Nat.le_of_ble_eq_true rfl) (Nat.le_of_ble_eq_true rfl) rfl ?_
    exact h
  · replace h := h.2 q
    refine z_iconst dX12_wordStep_36 ki_5 ?_
    exact z_ireturn dX12_wordStep_37 (Or.inl rfl) rfl h
set_option maxRecDepth 20000 in
set_option maxHeartbeats 4000000 in
theorem bX12_wordStep_48 {G : zG} {d : Nat} {M : zM} {Q : zV → zM → Prop} (hG : zP G) {x49 : Int}
    (h : Y G d mX12_isWord 0 [(2, 234), (1, x49), (9, 0)] [] M (fun r M' => Y G (d + 1) mX12_wordStep 51 [(2, 234)] (zpush r []) M' Q)) :
    Y G (d + 1) mX12_wordStep 48 [(2, 234)] [(1, x49), (2, 234)] M Q := by
  refine y_cv (mt2 := mX12_isWord) (en := [(2, 234), (1, x49), (9, 0)]) (st := []) (as := [(1, x49)]) dX12_wordStep_48 lX12_219 kX12_isWord iX12_isWord eX12_isWord rfl sh234 (by decide +kernel) (Nat.le_of_ble_eq_true rfl) (Nat.le_of_ble_eq_true rfl) rfl ?_
  exact h
set_option maxRecDepth 20000 in
set_option maxHeartbeats 4000000 in
theorem bX12_wordStep_51 {G : zG} {d : Nat} {M : zM} {Q : zV → zM → Prop} (hG : zP G) {x49 : Int}
    (h : ((x49 = 0 → Y G d mX12_w3 0 [(0, 119), (0, 97), (0, 121)] [] M (fun r M' => Y G (d + 1) mX12_wordStep 67 [(2, 234)] (zpush r [(2, 234)]) M' Q)) ∧ (¬ x49 = 0 → Q (0, 6) M))) :
    Y G (d + 1) mX12_wordStep 51 [(2, 234)] [(0, x49)] M Q := by
  refine z_ifeq (tgt := 57) dX12_wordStep_51 rfl (fun q => ?_) (fun q => ?_)
  · replace h := h.1 q
    refine z_aloadn dX12_wordStep_57 rfl (Or.inl rfl) ?_
    refine z_bipush dX12_wordStep_58 kb_119 ?_
    refine z_bipush dX12_wordStep_60 kb_97 ?_
    refine z_bipush dX12_wordStep_62 kb_121 ?_
    refine y_cs (mt2 := mX12_w3) (en := [(0, 119), (0, 97), (0, 121)]) (st := [(2, 234)]) (as := [(0, 119), (0, 97), (0, 121)]) dX12_wordStep_64 lX12_191 kX12_w3 tX12_w3 rfl (Nat.le_of_ble_eq_true rfl) (Nat.le_of_ble_eq_true rfl) rfl ?_
    exact h
  · replace h := h.2 q
    refine z_bipush dX12_wordStep_54 kb_6 ?_
    exact z_ireturn dX12_wordStep_56 (Or.inl rfl) rfl h
set_option maxRecDepth 20000 in
set_option maxHeartbeats 4000000 in
theorem bX12_wordStep_67 {G : zG} {d : Nat} {M : zM} {Q : zV → zM → Prop} (hG : zP G) {x49 : Int}
    (h : Y G d mX12_isWord 0 [(2, 234), (1, x49), (9, 0)] [] M (fun r M' => Y G (d + 1) mX12_wordStep 70 [(2, 234)] (zpush r []) M' Q)) :
    Y G (d + 1) mX12_wordStep 67 [(2, 234)] [(1, x49), (2, 234)] M Q := by
  refine y_cv (mt2 := mX12_isWord) (en := [(2, 234), (1, x49), (9, 0)]) (st := []) (as := [(1, x49)]) dX12_wordStep_67 lX12_219 kX12_isWord iX12_isWord eX12_isWord rfl sh234 (by decide +kernel) (Nat.le_of_ble_eq_true rfl) (Nat.le_of_ble_eq_true rfl) rfl ?_
  exact h
set_option maxRecDepth 20000 in
set_option maxHeartbeats 4000000 in
theorem bX12_wordStep_70 {G : zG} {d : Nat} {M : zM} {Q : zV → zM → Prop} (hG : zP G) {x49 : Int}
    (h : ((x49 = 0 → Y G d mX12_w4 0 [(0, 109), (0, 111), (0, 114), (0, 101)] [] M (fun r M' => Y G (d + 1) mX12_wordStep 88 [(2, 234)] (zpush r [(2, 234)]) M' Q)) ∧ (¬ x49 = 0 → Q (0, 7) M))) :
    Y G (d + 1) mX12_wordStep 70 [(2, 234)] [(0, x49)] M Q := by
  refine z_ifeq (tgt := 76) dX12_wordStep_70 rfl (fun q => ?_) (fun q => ?_)
  · replace h := h.1 q
    refine z_aloadn dX12_wordStep_76 rfl (Or.inl rfl) ?_
    refine z_bipush dX12_wordStep_77 kb_109 ?_
    refine z_bipush dX12_wordStep_79 kb_111 ?_
    refine z_bipush dX12_wordStep_81 kb_114 ?_
    refine z_bipush dX12_wordStep_83 kb_101 ?_
    refine y_cs (mt2 := mX12_w4) (en := [(0, 109), (0, 111), (0, 114), (0, 101)]) (st := [(2, 234)]) (as := [(0, 109), (0, 111), (0, 114), (0, 101)]) dX12_wordStep_85 lX12_195 kX12_w4 tX12_w4 rfl (Nat.le_of_ble_eq_true rfl) (Nat.le_of_ble_eq_true rfl) rfl ?_
    exact h
  · replace h := h.2 q
    refine z_bipush dX12_wordStep_73 kb_7 ?_
    exact z_ireturn dX12_wordStep_75 (Or.inl rfl) rfl h
set_option maxRecDepth 20000 in
set_option maxHeartbeats 4000000 in
theorem bX12_wordStep_88 {G : zG} {d : Nat} {M : zM} {Q : zV → zM → Prop} (hG : zP G) {x49 : Int}
    (h : Y G d mX12_isWord 0 [(2, 234), (1, x49), (9, 0)] [] M (fun r M' => Y G (d + 1) mX12_wordStep 91 [(2, 234)] (zpush r []) M' Q)) :
    Y G (d + 1) mX12_wordStep 88 [(2, 234)] [(1, x49), (2, 234)] M Q := by
  refine y_cv (mt2 := mX12_isWord) (en := [(2, 234), (1, x49), (9, 0)]) (st := []) (as := [(1, x49)]) dX12_wordStep_88 lX12_219 kX12_isWord iX12_isWord eX12_isWord rfl sh234 (by decide +kernel) (Nat.le_of_ble_eq_true rfl) (Nat.le_of_ble_eq_true rfl) rfl ?_
  exact h
set_option maxRecDepth 20000 in
set_option maxHeartbeats 4000000 in
theorem bX12_wordStep_91 {G : zG} {d : Nat} {M : zM} {Q : zV → zM → Prop} (hG : zP G) {x49 : Int}
    (h : ((x49 = 0 → Y G d mX12_w4 0 [(0, 108), (0, 101), (0, 115), (0, 115)] [] M (fun r M' => Y G (d + 1) mX12_wordStep 111 [(2, 234)] (zpush r [(2, 234)]) M' Q)) ∧ (¬ x49 = 0 → Q (0, 8) M))) :
    Y G (d + 1) mX12_wordStep 91 [(2, 234)] [(0, x49)] M Q := by
  refine z_ifeq (tgt := 99) dX12_wordStep_91 rfl (fun q => ?_) (fun q => ?_)
  · replace h := h.1 q
    refine z_aloadn dX12_wordStep_99 rfl (Or.inl rfl) ?_
    refine z_bipush dX12_wordStep_100 kb_108 ?_
    refine z_bipush dX12_wordStep_102 kb_101 ?_
    refine z_bipush dX12_wordStep_104 kb_115 ?_
    refine z_bipush dX12_wordStep_106 kb_115 ?_
    refine y_cs (mt2 := mX12_w4) (en := [(0, 108), (0, 101), (0, 115), (0, 115)]) (st := [(2, 234)]) (as := [(0, 108), (0, 101), (0, 115), (0, 115)]) dX12_wordStep_108 lX12_195 kX12_w4 tX12_w4 rfl (Nat.le_of_ble_eq_true rfl) (Nat.le_of_ble_eq_true rfl) rfl ?_
    exact h
  · replace h := h.2 q
    refine z_bipush dX12_wordStep_94 kb_8 ?_
    refine z_goto (tgt := 123) dX12_wordStep_96 rfl ?_
    exact z_ireturn dX12_wordStep_123 (Or.inl rfl) rfl h
set_option maxRecDepth 20000 in
set_option maxHeartbeats 4000000 in
theorem bX12_wordStep_111 {G : zG} {d : Nat} {M : zM} {Q : zV → zM → Prop} (hG : zP G) {x49 : Int}
    (h : Y G d mX12_isWord 0 [(2, 234), (1, x49), (9, 0)] [] M (fun r M' => Y G (d + 1) mX12_wordStep 114 [(2, 234)] (zpush r []) M' Q)) :
    Y G (d + 1) mX12_wordStep 111 [(2, 234)] [(1, x49), (2, 234)] M Q := by
  refine y_cv (mt2 := mX12_isWord) (en := [(2, 234), (1, x49), (9, 0)]) (st := []) (as := [(1, x49)]) dX12_wordStep_111 lX12_219 kX12_isWord iX12_isWord eX12_isWord rfl sh234 (by decide +kernel) (Nat.le_of_ble_eq_true rfl) (Nat.le_of_ble_eq_true rfl) rfl ?_
  exact h
set_option maxRecDepth 20000 in
set_option maxHeartbeats 4000000 in
theorem bX12_wordStep_114 {G : zG} {d : Nat} {M : zM} {Q : zV → zM → Prop} (hG : zP G) {x49 : Int}
    (h : ((x49 = 0 → Q (0, (-1)) M) ∧ (¬ x49 = 0 → Q (0, 9) M))) :
    Y G (d + 1) mX12_wordStep 114 [(2, 234)] [(0, x49)] M Q := by
  refine z_ifeq (tgt := 122) dX12_wordStep_114 rfl (fun q => ?_) (fun q => ?_)
  · replace h := h.1 q
    refine z_iconst dX12_wordStep_122 ki_m1 ?_
    exact z_ireturn dX12_wordStep_123 (Or.inl rfl) rfl h
  · replace h := h.2 q
    refine z_bipush dX12_wordStep_117 kb_9 ?_
    refine z_goto (tgt := 123) dX12_wordStep_119 rfl ?_
    exact z_ireturn dX12_wordStep_123 (Or.inl rfl) rfl h
set_option maxRecDepth 20000 in
set_option maxHeartbeats 4000000 in
theorem bX12_opened_0 {G : zG} {d : Nat} {M : zM} {Q : zV → zM → Prop} (hG : zP G) {x1 x2 : Int}
    (h : ((¬ (M 234 22) = 8 → (-2147483648 ≤ (M 234 22) + 1 ∧ (M 234 22) + 1 ≤ 2147483647) ∧ ((((M 234 22) + 1) ≤ (M 234 24) → Y G d mX12_begin 0 [(2, 234), (0, x1), (0, x2)] [] (zset (zset M 234 22 ((M 234 22) + 1)) 234 24 (M 234 24)) (fun r M' => Y G (d + 1) mX12_opened 53 [(2, 234), (0, x1), (0, x2)] (zpush r []) M' Q)) ∧ ((M 234 24) < ((M 234 22) + 1) → Y G d mX12_begin 0 [(2, 234), (0, x1), (0, x2)] [] (zset (zset M 234 22 ((M 234 22) + 1)) 234 24 ((M 234 22) + 1)) (fun r M' => Y G (d + 1) mX12_opened 53 [(2, 234), (0, x1), (0, x2)] (zpush r []) M' Q)))) ∧ ((M 234 22) = 8 → Q (0, 3) M))) :
    Y G (d + 1) mX12_opened 0 [(2, 234), (0, x1), (0, x2)] [] M Q := by
  refine z_aloadn dX12_opened_0 rfl (Or.inl rfl) ?_
  refine y_getf (x := (M 234 22)) dX12_opened_1 fX12_209 sh234 (by decide) rfl rfl ?_
  refine z_bipush dX12_opened_4 kb_8 ?_
  refine z_icmpne (tgt := 11) dX12_opened_6 rfl (fun q => ?_) (fun q => ?_)
  · replace h := h.1 q
    refine z_aloadn dX12_opened_11 rfl (Or.inl rfl) ?_
    refine z_dup dX12_opened_12 (show (2 : Nat) ≠ 1 by decide) ?_
    refine y_getf (x := (M 234 22)) dX12_opened_13 fX12_209 sh234 (by decide) rfl rfl ?_
    refine z_iconst dX12_opened_16 ki_1 ?_
    obtain ⟨q1, h⟩ := h
    refine z_iadd dX12_opened_17 q1 ?_
    refine y_putf (M' := zset M 234 22 ((M 234 22) + 1)) hG dX12_opened_18 fX12_209 sh234 (by decide) ⟨rfl, rfl⟩ p12_22 (fun q => absurd q (by decide)) (by decide) rfl ?_
    refine z_aloadn dX12_opened_21 rfl (Or.inl rfl) ?_
    refine z_aloadn dX12_opened_22 rfl (Or.inl rfl) ?_
    refine y_getf (x := ((M 234 22) + 1)) dX12_opened_23 fX12_209 sh234 (by decide) rfl zset_same ?_
    refine z_aloadn dX12_opened_26 rfl (Or.inl rfl) ?_
    refine y_getf (x := (M 234 24)) dX12_opened_27 fX12_223 sh234 (by decide) rfl (zset_ne (fun q => absurd q.2 (by decide))) ?_
    refine z_icmple (tgt := 40) dX12_opened_30 rfl (fun q => ?_) (fun q => ?_)
    · replace h := h.1 q
      refine z_aloadn dX12_opened_40 rfl (Or.inl rfl) ?_
      refine y_getf (x := (M 234 24)) dX12_opened_41 fX12_223 sh234 (by decide) rfl (zset_ne (fun q => absurd q.2 (by decide))) ?_
      refine y_putf (M' := zset (zset M 234 22 ((M 234 22) + 1)) 234 24 (M 234 24)) hG dX12_opened_44 fX12_223 sh234 (by decide) ⟨rfl, rfl⟩ p12_24 (fun q => absurd q (by decide)) (by decide) rfl ?_
      refine z_aloadn dX12_opened_47 rfl (Or.inl rfl) ?_
      refine z_iloadn dX12_opened_48 rfl ?_
      refine z_iloadn dX12_opened_49 rfl ?_
      refine y_cv (mt2 := mX12_begin) (en := [(2, 234), (0, x1), (0, x2)]) (st := []) (as := [(0, x1), (0, x2)]) dX12_opened_50 lX12_226 kX12_begin iX12_begin eX12_begin rfl sh234 (by decide +kernel) (Nat.le_of_ble_eq_true rfl) (Nat.le_of_ble_eq_true rfl) rfl ?_
      exact h
    · replace h := h.2 q
      refine z_aloadn dX12_opened_33 rfl (Or.inl rfl) ?_
      refine y_getf (x := ((M 234 22) + 1)) dX12_opened_34 fX12_209 sh234 (by decide) rfl zset_same ?_
      refine z_goto (tgt := 44) dX12_opened_37 rfl ?_
      refine y_putf (M' := zset (zset M 234 22 ((M 234 22) + 1)) 234 24 ((M 234 22) + 1)) hG dX12_opened_44 fX12_223 sh234 (by decide) ⟨rfl, rfl⟩ p12_24 (fun q => absurd q (by decide)) (by decide) rfl ?_
      refine z_aloadn dX12_opened_47 rfl (Or.inl rfl) ?_
      refine z_iloadn dX12_opened_48 rfl ?_
      refine z_iloadn dX12_opened_49 rfl ?_
      refine y_cv (mt2 := mX12_begin) (en := [(2, 234), (0, x1), (0, x2)]) (st := []) (as := [(0, x1), (0, x2)]) dX12_opened_50 lX12_226 kX12_begin iX12_begin eX12_begin rfl sh234 (by decide +kernel) (Nat.le_of_ble_eq_true rfl) (Nat.le_of_ble_eq_true rfl) rfl ?_
      exact h
  · replace h := h.2 q
    refine z_iconst dX12_opened_9 ki_3 ?_
    exact z_ireturn dX12_opened_10 (Or.inl rfl) rfl h
set_option maxRecDepth 20000 in
set_option maxHeartbeats 4000000 in
theorem bX12_opened_53 {G : zG} {d : Nat} {M : zM} {Q : zV → zM → Prop} (hG : zP G) {x1 x2 : Int}
    (h : Y G d mX12_nextToken 0 [(2, 234), (9, 0)] [] M (fun r M' => Y G (d + 1) mX12_opened 57 [(2, 234), (0, x1), (0, x2)] (zpush r []) M' Q)) :
    Y G (d + 1) mX12_opened 53 [(2, 234), (0, x1), (0, x2)] [] M Q := by
  refine z_aloadn dX12_opened_53 rfl (Or.inl rfl) ?_
  refine y_cv (mt2 := mX12_nextToken) (en := [(2, 234), (9, 0)]) (st := []) (as := []) dX12_opened_54 lX12_230 kX12_nextToken iX12_nextToken eX12_nextToken rfl sh234 (by decide +kernel) (Nat.le_of_ble_eq_true rfl) (Nat.le_of_ble_eq_true rfl) rfl ?_
  exact h
set_option maxRecDepth 20000 in
set_option maxHeartbeats 4000000 in
theorem bX12_opened_57 {G : zG} {d : Nat} {M : zM} {Q : zV → zM → Prop} (hG : zP G) {x1 x2 : Int}
    (h : Q (0, 0) M) :
    Y G (d + 1) mX12_opened 57 [(2, 234), (0, x1), (0, x2)] [] M Q := by
  refine z_iconst dX12_opened_57 ki_0 ?_
  exact z_ireturn dX12_opened_58 (Or.inl rfl) rfl h
set_option maxRecDepth 20000 in
set_option maxHeartbeats 4000000 in
theorem bX12_leaf_0 {G : zG} {d : Nat} {M : zM} {Q : zV → zM → Prop} (hG : zP G) {x1 x2 : Int}
    (h : ((¬ (M 234 25) = 16 → (-2147483648 ≤ (M 234 25) + 1 ∧ (M 234 25) + 1 ≤ 2147483647) ∧ Y G d mX12_write 0 [(2, 234), (0, x1), (0, x2)] [] (zset M 234 25 ((M 234 25) + 1)) (fun r M' => Y G (d + 1) mX12_leaf 27 [(2, 234), (0, x1), (0, x2)] (zpush r []) M' Q)) ∧ ((M 234 25) = 16 → Q (0, 4) M))) :
    Y G (d + 1) mX12_leaf 0 [(2, 234), (0, x1), (0, x2)] [] M Q := by
  refine z_aloadn dX12_leaf_0 rfl (Or.inl rfl) ?_
  refine y_getf (x := (M 234 25)) dX12_leaf_1 fX12_233 sh234 (by decide) rfl rfl ?_
  refine z_bipush dX12_leaf_4 kb_16 ?_
  refine z_icmpne (tgt := 11) dX12_leaf_6 rfl (fun q => ?_) (fun q => ?_)
  · replace h := h.1 q
    refine z_aloadn dX12_leaf_11 rfl (Or.inl rfl) ?_
    refine z_dup dX12_leaf_12 (show (2 : Nat) ≠ 1 by decide) ?_
    refine y_getf (x := (M 234 25)) dX12_leaf_13 fX12_233 sh234 (by decide) rfl rfl ?_
    refine z_iconst dX12_leaf_16 ki_1 ?_
    obtain ⟨q1, h⟩ := h
    refine z_iadd dX12_leaf_17 q1 ?_
    refine y_putf (M' := zset M 234 25 ((M 234 25) + 1)) hG dX12_leaf_18 fX12_233 sh234 (by decide) ⟨rfl, rfl⟩ p12_25 (fun q => absurd q (by decide)) (by decide) rfl ?_
    refine z_aloadn dX12_leaf_21 rfl (Or.inl rfl) ?_
    refine z_iloadn dX12_leaf_22 rfl ?_
    refine z_iloadn dX12_leaf_23 rfl ?_
    refine y_cv (mt2 := mX12_write) (en := [(2, 234), (0, x1), (0, x2)]) (st := []) (as := [(0, x1), (0, x2)]) dX12_leaf_24 lX12_236 kX12_write iX12_write eX12_write rfl sh234 (by decide +kernel) (Nat.le_of_ble_eq_true rfl) (Nat.le_of_ble_eq_true rfl) rfl ?_
    exact h
  · replace h := h.2 q
    refine z_iconst dX12_leaf_9 ki_4 ?_
    exact z_ireturn dX12_leaf_10 (Or.inl rfl) rfl h
set_option maxRecDepth 20000 in
set_option maxHeartbeats 4000000 in
theorem bX12_leaf_27 {G : zG} {d : Nat} {M : zM} {Q : zV → zM → Prop} (hG : zP G) {x1 x2 : Int}
    (h : ((¬ x1 = 1 → ((x2 ≤ (M 234 26) → (0 ≤ (M 234 22) ∧ (M 234 22) < 10) ∧ (-2147483648 ≤ (M 245 (M 234 22)) + 1 ∧ (M 245 (M 234 22)) + 1 ≤ 2147483647) ∧ (0 ≤ (M 234 22) ∧ (M 234 22) < 10) ∧ Y G d mX12_nextToken 0 [(2, 234), (9, 0)] [] (zset (zset M 234 26 (M 234 26)) 245 (M 234 22) ((M 245 (M 234 22)) + 1)) (fun r M' => Y G (d + 1) mX12_leaf 84 [(2, 234), (0, x1), (0, x2)] (zpush r []) M' Q)) ∧ ((M 234 26) < x2 → (0 ≤ (M 234 22) ∧ (M 234 22) < 10) ∧ (-2147483648 ≤ (M 245 (M 234 22)) + 1 ∧ (M 245 (M 234 22)) + 1 ≤ 2147483647) ∧ (0 ≤ (M 234 22) ∧ (M 234 22) < 10) ∧ Y G d mX12_nextToken 0 [(2, 234), (9, 0)] [] (zset (zset M 234 26 x2) 245 (M 234 22) ((M 245 (M 234 22)) + 1)) (fun r M' => Y G (d + 1) mX12_leaf 84 [(2, 234), (0, x1), (0, x2)] (zpush r []) M' Q)))) ∧ (x1 = 1 → (0 ≤ (M 234 22) ∧ (M 234 22) < 10) ∧ (-2147483648 ≤ (M 245 (M 234 22)) + 1 ∧ (M 245 (M 234 22)) + 1 ≤ 2147483647) ∧ (0 ≤ (M 234 22) ∧ (M 234 22) < 10) ∧ Y G d mX12_nextToken 0 [(2, 234), (9, 0)] [] (zset (zset M 234 23 (zor (M 234 23) (zshl 1 x2))) 245 (M 234 22) ((M 245 (M 234 22)) + 1)) (fun r M' => Y G (d + 1) mX12_leaf 84 [(2, 234), (0, x1), (0, x2)] (zpush r []) M' Q)))) :
    Y G (d + 1) mX12_leaf 27 [(2, 234), (0, x1), (0, x2)] [] M Q := by
  refine z_iloadn dX12_leaf_27 rfl ?_
  refine z_iconst dX12_leaf_28 ki_1 ?_
  refine z_icmpne (tgt := 47) dX12_leaf_29 rfl (fun q => ?_) (fun q => ?_)
  · replace h := h.1 q
    refine z_aloadn dX12_leaf_47 rfl (Or.inl rfl) ?_
    refine z_iloadn dX12_leaf_48 rfl ?_
    refine z_aloadn dX12_leaf_49 rfl (Or.inl rfl) ?_
    refine y_getf (x := (M 234 26)) dX12_leaf_50 fX12_242 sh234 (by decide) rfl rfl ?_
    refine z_icmple (tgt := 60) dX12_leaf_53 rfl (fun q => ?_) (fun q => ?_)
    · replace h := h.1 q
      refine z_aloadn dX12_leaf_60 rfl (Or.inl rfl) ?_
      refine y_getf (x := (M 234 26)) dX12_leaf_61 fX12_242 sh234 (by decide) rfl rfl ?_
      refine y_putf (M' := zset M 234 26 (M 234 26)) hG dX12_leaf_64 fX12_242 sh234 (by decide) ⟨rfl, rfl⟩ p12_26 (fun q => absurd q (by decide)) (by decide) rfl ?_
      refine z_aloadn dX12_leaf_67 rfl (Or.inl rfl) ?_
      refine y_getr (v := 245) hG dX12_leaf_68 fX12_47 sh234 (by decide) rfl (by decide +kernel) (by decide) ?_
      refine z_aloadn dX12_leaf_71 rfl (Or.inl rfl) ?_
      refine y_getf (x := (M 234 22)) dX12_leaf_72 fX12_209 sh234 (by decide) rfl (zset_ne (fun q => absurd q.2 (by decide))) ?_
      refine z_dup2 dX12_leaf_75 (show (0 : Nat) ≠ 1 by decide) (show (2 : Nat) ≠ 1 by decide) ?_
      obtain ⟨q1, h⟩ := h
      refine y_iald (x := (M 245 (M 234 22))) dX12_leaf_76 sh245 q1 (zset_ne (fun q => absurd q.1 (by decide))) ?_
      refine z_iconst dX12_leaf_77 ki_1 ?_
      obtain ⟨q2, h⟩ := h
      refine z_iadd dX12_leaf_78 q2 ?_
      obtain ⟨q3, h⟩ := h
      refine y_iast hG dX12_leaf_79 sh245 q3 ?_
      refine z_aloadn dX12_leaf_80 rfl (Or.inl rfl) ?_
      refine y_cv (mt2 := mX12_nextToken) (en := [(2, 234), (9, 0)]) (st := []) (as := []) dX12_leaf_81 lX12_230 kX12_nextToken iX12_nextToken eX12_nextToken rfl sh234 (by decide +kernel) (Nat.le_of_ble_eq_true rfl) (Nat.le_of_ble_eq_true rfl) rfl ?_
      exact h
    · replace h := h.2 q
      refine z_iloadn dX12_leaf_56 rfl ?_
      refine z_goto (tgt := 64) dX12_leaf_57 rfl ?_
      refine y_putf (M' := zset M 234 26 x2) hG dX12_leaf_64 fX12_242 sh234 (by decide) ⟨rfl, rfl⟩ p12_26 (fun q => absurd q (by decide)) (by decide) rfl ?_
      refine z_aloadn dX12_leaf_67 rfl (Or.inl rfl) ?_
      refine y_getr (v := 245) hG dX12_leaf_68 fX12_47 sh234 (by decide) rfl (by decide +kernel) (by decide) ?_
      refine z_aloadn dX12_leaf_71 rfl (Or.inl rfl) ?_
      refine y_getf (x := (M 234 22)) dX12_leaf_72 fX12_209 sh234 (by decide) rfl (zset_ne (fun q => absurd q.2 (by decide))) ?_
      refine z_dup2 dX12_leaf_75 (show (0 : Nat) ≠ 1 by decide) (show (2 : Nat) ≠ 1 by decide) ?_
      obtain ⟨q4, h⟩ := h
      refine y_iald (x := (M 245 (M 234 22))) dX12_leaf_76 sh245 q4 (zset_ne (fun q => absurd q.1 (by decide))) ?_
      refine z_iconst dX12_leaf_77 ki_1 ?_
      obtain ⟨q5, h⟩ := h
      refine z_iadd dX12_leaf_78 q5 ?_
      obtain ⟨q6, h⟩ := h
      refine y_iast hG dX12_leaf_79 sh245 q6 ?_
      refine z_aloadn dX12_leaf_80 rfl (Or.inl rfl) ?_
      refine y_cv (mt2 := mX12_nextToken) (en := [(2, 234), (9, 0)]) (st := []) (as := []) dX12_leaf_81 lX12_230 kX12_nextToken iX12_nextToken eX12_nextToken rfl sh234 (by decide +kernel) (Nat.le_of_ble_eq_true rfl) (Nat.le_of_ble_eq_true rfl) rfl ?_
      exact h
  · replace h := h.2 q
    refine z_aloadn dX12_leaf_32 rfl (Or.inl rfl) ?_
    refine z_dup dX12_leaf_33 (show (2 : Nat) ≠ 1 by decide) ?_
    refine y_getf (x := (M 234 23)) dX12_leaf_34 fX12_239 sh234 (by decide) rfl rfl ?_
    refine z_iconst dX12_leaf_37 ki_1 ?_
    refine z_iloadn dX12_leaf_38 rfl ?_
    refine z_ishl dX12_leaf_39 ?_
    refine z_ior dX12_leaf_40 ?_
    refine y_putf (M' := zset M 234 23 (zor (M 234 23) (zshl 1 x2))) hG dX12_leaf_41 fX12_239 sh234 (by decide) ⟨rfl, rfl⟩ p12_23 (fun q => absurd q (by decide)) (by decide) rfl ?_
    refine z_goto (tgt := 67) dX12_leaf_44 rfl ?_
    refine z_aloadn dX12_leaf_67 rfl (Or.inl rfl) ?_
    refine y_getr (v := 245) hG dX12_leaf_68 fX12_47 sh234 (by decide) rfl (by decide +kernel) (by decide) ?_
    refine z_aloadn dX12_leaf_71 rfl (Or.inl rfl) ?_
    refine y_getf (x := (M 234 22)) dX12_leaf_72 fX12_209 sh234 (by decide) rfl (zset_ne (fun q => absurd q.2 (by decide))) ?_
    refine z_dup2 dX12_leaf_75 (show (0 : Nat) ≠ 1 by decide) (show (2 : Nat) ≠ 1 by decide) ?_
    obtain ⟨q7, h⟩ := h
    refine y_iald (x := (M 245 (M 234 22))) dX12_leaf_76 sh245 q7 (zset_ne (fun q => absurd q.1 (by decide))) ?_
    refine z_iconst dX12_leaf_77 ki_1 ?_
    obtain ⟨q8, h⟩ := h
    refine z_iadd dX12_leaf_78 q8 ?_
    obtain ⟨q9, h⟩ := h
    refine y_iast hG dX12_leaf_79 sh245 q9 ?_
    refine z_aloadn dX12_leaf_80 rfl (Or.inl rfl) ?_
    refine y_cv (mt2 := mX12_nextToken) (en := [(2, 234), (9, 0)]) (st := []) (as := []) dX12_leaf_81 lX12_230 kX12_nextToken iX12_nextToken eX12_nextToken rfl sh234 (by decide +kernel) (Nat.le_of_ble_eq_true rfl) (Nat.le_of_ble_eq_true rfl) rfl ?_
    exact h
set_option maxRecDepth 20000 in
set_option maxHeartbeats 4000000 in
theorem bX12_leaf_84 {G : zG} {d : Nat} {M : zM} {Q : zV → zM → Prop} (hG : zP G) {x1 x2 : Int}
    (h : Q (0, 0) M) :
    Y G (d + 1) mX12_leaf 84 [(2, 234), (0, x1), (0, x2)] [] M Q := by
  refine z_iconst dX12_leaf_84 ki_0 ?_
  exact z_ireturn dX12_leaf_85 (Or.inl rfl) rfl h
set_option maxRecDepth 20000 in
set_option maxHeartbeats 4000000 in
theorem bX12_beginOne_0 {G : zG} {d : Nat} {M : zM} {Q : zV → zM → Prop} (hG : zP G)
    (h : ((¬ (M 234 10) = 1 → Y G d mX12_thingAt 0 [(2, 234)] [] M (fun r M' => Y G (d + 1) mX12_beginOne 38 [(2, 234), (9, 0)] (zpush r []) M' Q)) ∧ ((M 234 10) = 1 → (((M 234 11) ≤ 99 → Y G d mX12_leaf 0 [(2, 234), (0, 0), (0, (M 234 11))] [] (zset M 234 27 1) (fun r M' => Y G (d + 1) mX12_beginOne 33 [(2, 234), (9, 0)] (zpush r []) M' Q)) ∧ (99 < (M 234 11) → Q (0, 2) M))))) :
    Y G (d + 1) mX12_beginOne 0 [(2, 234), (9, 0)] [] M Q := by
  refine z_aloadn dX12_beginOne_0 rfl (Or.inl rfl) ?_
  refine y_getf (x := (M 234 10)) dX12_beginOne_1 fX12_169 sh234 (by decide) rfl rfl ?_
  refine z_iconst dX12_beginOne_4 ki_1 ?_
  refine z_icmpne (tgt := 34) dX12_beginOne_5 rfl (fun q => ?_) (fun q => ?_)
  · replace h := h.1 q
    refine z_aloadn dX12_beginOne_34 rfl (Or.inl rfl) ?_
    refine y_cv (mt2 := mX12_thingAt) (en := [(2, 234)]) (st := []) (as := []) dX12_beginOne_35 lX12_253 kX12_thingAt iX12_thingAt eX12_thingAt rfl sh234 (by decide +kernel) (Nat.le_of_ble_eq_true rfl) (Nat.le_of_ble_eq_true rfl) rfl ?_
    exact h
  · replace h := h.2 q
    refine z_aloadn dX12_beginOne_8 rfl (Or.inl rfl) ?_
    refine y_getf (x := (M 234 11)) dX12_beginOne_9 fX12_175 sh234 (by decide) rfl rfl ?_
    refine z_bipush dX12_beginOne_12 kb_99 ?_
    refine z_icmple (tgt := 19) dX12_beginOne_14 rfl (fun q => ?_) (fun q => ?_)
    · replace h := h.1 q
      refine z_aloadn dX12_beginOne_19 rfl (Or.inl rfl) ?_
      refine z_iconst dX12_beginOne_20 ki_1 ?_
      refine y_putf (M' := zset M 234 27 1) hG dX12_beginOne_21 fX12_245 sh234 (by decide) ⟨rfl, rfl⟩ p12_27 (fun _ => ⟨by decide, by decide⟩) (by decide) rfl ?_
      refine z_aloadn dX12_beginOne_24 rfl (Or.inl rfl) ?_
      refine z_iconst dX12_beginOne_25 ki_0 ?_
      refine z_aloadn dX12_beginOne_26 rfl (Or.inl rfl) ?_
      refine y_getf (x := (M 234 11)) dX12_beginOne_27 fX12_175 sh234 (by decide) rfl (zset_ne (fun q => absurd q.2 (by decide))) ?_
      refine y_cv (mt2 := mX12_leaf) (en := [(2, 234), (0, 0), (0, (M 234 11))]) (st := []) (as := [(0, 0), (0, (M 234 11))]) dX12_beginOne_30 lX12_249 kX12_leaf iX12_leaf eX12_leaf rfl sh234 (by decide +kernel) (Nat.le_of_ble_eq_true rfl) (Nat.le_of_ble_eq_true rfl) rfl ?_
      exact h
    · replace h := h.2 q
      refine z_iconst dX12_beginOne_17 ki_2 ?_
      exact z_ireturn dX12_beginOne_18 (Or.inl rfl) rfl h
set_option maxRecDepth 20000 in
set_option maxHeartbeats 4000000 in
theorem bX12_beginOne_38 {G : zG} {d : Nat} {M : zM} {Q : zV → zM → Prop} (hG : zP G) {x49 : Int}
    (h : ((x49 < 0 → ((¬ (M 234 10) = 40 → Y G d mX12_isWord 0 [(2, 234), (1, 26982), (9, 0)] [] M (fun r M' => Y G (d + 1) mX12_beginOne 100 [(2, 234), (9, 0)] (zpush r []) M' Q)) ∧ ((M 234 10) = 40 → ((8 ≤ (M 234 22) → Y G d mX12_opened 0 [(2, 234), (0, 1), (0, 0)] [] M (fun r M' => Y G (d + 1) mX12_beginOne 92 [(2, 234), (9, 0)] (zpush r []) M' Q)) ∧ ((M 234 22) < 8 → Y G d mX12_opened 0 [(2, 234), (0, 1), (0, 0)] [] (zset M 234 23 (zor (M 234 23) 128)) (fun r M' => Y G (d + 1) mX12_beginOne 92 [(2, 234), (9, 0)] (zpush r []) M' Q)))))) ∧ (0 ≤ x49 → Y G d mX12_thingAt 0 [(2, 234)] [] (zset M 234 27 1) (fun r M' => Y G (d + 1) mX12_beginOne 52 [(2, 234), (9, 0)] (zpush r [(0, 1), (2, 234)]) M' Q)))) :
    Y G (d + 1) mX12_beginOne 38 [(2, 234), (9, 0)] [(0, x49)] M Q := by
  refine z_iflt (tgt := 56) dX12_beginOne_38 rfl (fun q => ?_) (fun q => ?_)
  · replace h := h.1 q
    refine z_aloadn dX12_beginOne_56 rfl (Or.inl rfl) ?_
    refine y_getf (x := (M 234 10)) dX12_beginOne_57 fX12_169 sh234 (by decide) rfl rfl ?_
    refine z_bipush dX12_beginOne_60 kb_40 ?_
    refine z_icmpne (tgt := 93) dX12_beginOne_62 rfl (fun q => ?_) (fun q => ?_)
    · replace h := h.1 q
      refine z_aloadn dX12_beginOne_93 rfl (Or.inl rfl) ?_
      refine z_ldc2 (k := 26982) (v := 26982) dX12_beginOne_94 ⟨by decide, ⟨by decide, by decide⟩⟩ qlX12_260 ?_
      refine y_cv (mt2 := mX12_isWord) (en := [(2, 234), (1, 26982), (9, 0)]) (st := []) (as := [(1, 26982)]) dX12_beginOne_97 lX12_219 kX12_isWord iX12_isWord eX12_isWord rfl sh234 (by decide +kernel) (Nat.le_of_ble_eq_true rfl) (Nat.le_of_ble_eq_true rfl) rfl ?_
      exact h
    · replace h := h.2 q
      refine z_aloadn dX12_beginOne_65 rfl (Or.inl rfl) ?_
      refine y_getf (x := (M 234 22)) dX12_beginOne_66 fX12_209 sh234 (by decide) rfl rfl ?_
      refine z_bipush dX12_beginOne_69 kb_8 ?_
      refine z_icmpge (tgt := 86) dX12_beginOne_71 rfl (fun q => ?_) (fun q => ?_)
      · replace h := h.1 q
        refine z_aloadn dX12_beginOne_86 rfl (Or.inl rfl) ?_
        refine z_iconst dX12_beginOne_87 ki_1 ?_
        refine z_iconst dX12_beginOne_88 ki_0 ?_
        refine y_cv (mt2 := mX12_opened) (en := [(2, 234), (0, 1), (0, 0)]) (st := []) (as := [(0, 1), (0, 0)]) dX12_beginOne_89 lX12_257 kX12_opened iX12_opened eX12_opened rfl sh234 (by decide +kernel) (Nat.le_of_ble_eq_true rfl) (Nat.le_of_ble_eq_true rfl) rfl ?_
        exact h
      · replace h := h.2 q
        refine z_aloadn dX12_beginOne_74 rfl (Or.inl rfl) ?_
        refine z_dup dX12_beginOne_75 (show (2 : Nat) ≠ 1 by decide) ?_
        refine y_getf (x := (M 234 23)) dX12_beginOne_76 fX12_239 sh234 (by decide) rfl rfl ?_
        refine z_sipush dX12_beginOne_79 ks_128 ?_
        refine z_ior dX12_beginOne_82 ?_
        refine y_putf (M' := zset M 234 23 (zor (M 234 23) 128)) hG dX12_beginOne_83 fX12_239 sh234 (by decide) ⟨rfl, rfl⟩ p12_23 (fun q => absurd q (by decide)) (by decide) rfl ?_
        refine z_aloadn dX12_beginOne_86 rfl (Or.inl rfl) ?_
        refine z_iconst dX12_beginOne_87 ki_1 ?_
        refine z_iconst dX12_beginOne_88 ki_0 ?_
        refine y_cv (mt2 := mX12_opened) (en := [(2, 234), (0, 1), (0, 0)]) (st := []) (as := [(0, 1), (0, 0)]) dX12_beginOne_89 lX12_257 kX12_opened iX12_opened eX12_opened rfl sh234 (by decide +kernel) (Nat.le_of_ble_eq_true rfl) (Nat.le_of_ble_eq_true rfl) rfl ?_
        exact h
  · replace h := h.2 q
    refine z_aloadn dX12_beginOne_41 rfl (Or.inl rfl) ?_
    refine z_iconst dX12_beginOne_42 ki_1 ?_
    refine y_putf (M' := zset M 234 27 1) hG dX12_beginOne_43 fX12_245 sh234 (by decide) ⟨rfl, rfl⟩ p12_27 (fun _ => ⟨by decide, by decide⟩) (by decide) rfl ?_
    refine z_aloadn dX12_beginOne_46 rfl (Or.inl rfl) ?_
    refine z_iconst dX12_beginOne_47 ki_1 ?_
    refine z_aloadn dX12_beginOne_48 rfl (Or.inl rfl) ?_
    refine y_cv (mt2 := mX12_thingAt) (en := [(2, 234)]) (st := [(0, 1), (2, 234)]) (as := []) dX12_beginOne_49 lX12_253 kX12_thingAt iX12_thingAt eX12_thingAt rfl sh234 (by decide +kernel) (Nat.le_of_ble_eq_true rfl) (Nat.le_of_ble_eq_true rfl) rfl ?_
    exact h
set_option maxRecDepth 20000 in
set_option maxHeartbeats 4000000 in
theorem bX12_beginOne_33 {G : zG} {d : Nat} {M : zM} {Q : zV → zM → Prop} (hG : zP G) {x49 : Int}
    (h : Q (0, x49) M) :
    Y G (d + 1) mX12_beginOne 33 [(2, 234), (9, 0)] [(0, x49)] M Q := by
  exact z_ireturn dX12_beginOne_33 (Or.inl rfl) rfl h
set_option maxRecDepth 20000 in
set_option maxHeartbeats 4000000 in
theorem bX12_beginOne_100 {G : zG} {d : Nat} {M : zM} {Q : zV → zM → Prop} (hG : zP G) {x49 : Int}
    (h : ((x49 = 0 → Y G d mX12_wordStep 0 [(2, 234)] [] M (fun r M' => Y G (d + 1) mX12_beginOne 135 [(2, 234), (9, 0)] (zpush r []) M' Q)) ∧ (¬ x49 = 0 → ((8 ≤ (M 234 22) → Y G d mX12_opened 0 [(2, 234), (0, 5), (0, 0)] [] M (fun r M' => Y G (d + 1) mX12_beginOne 130 [(2, 234), (9, 0)] (zpush r []) M' Q)) ∧ ((M 234 22) < 8 → Y G d mX12_opened 0 [(2, 234), (0, 5), (0, 0)] [] (zset M 234 23 (zor (M 234 23) 16384)) (fun r M' => Y G (d + 1) mX12_beginOne 130 [(2, 234), (9, 0)] (zpush r []) M' Q)))))) :
    Y G (d + 1) mX12_beginOne 100 [(2, 234), (9, 0)] [(0, x49)] M Q := by
  refine z_ifeq (tgt := 131) dX12_beginOne_100 rfl (fun q => ?_) (fun q => ?_)
  · replace h := h.1 q
    refine z_aloadn dX12_beginOne_131 rfl (Or.inl rfl) ?_
    refine y_cv (mt2 := mX12_wordStep) (en := [(2, 234)]) (st := []) (as := []) dX12_beginOne_132 lX12_262 kX12_wordStep iX12_wordStep eX12_wordStep rfl sh234 (by decide +kernel) (Nat.le_of_ble_eq_true rfl) (Nat.le_of_ble_eq_true rfl) rfl ?_
    exact h
  · replace h := h.2 q
    refine z_aloadn dX12_beginOne_103 rfl (Or.inl rfl) ?_
    refine y_getf (x := (M 234 22)) dX12_beginOne_104 fX12_209 sh234 (by decide) rfl rfl ?_
    refine z_bipush dX12_beginOne_107 kb_8 ?_
    refine z_icmpge (tgt := 124) dX12_beginOne_109 rfl (fun q => ?_) (fun q => ?_)
    · replace h := h.1 q
      refine z_aloadn dX12_beginOne_124 rfl (Or.inl rfl) ?_
      refine z_iconst dX12_beginOne_125 ki_5 ?_
      refine z_iconst dX12_beginOne_126 ki_0 ?_
      refine y_cv (mt2 := mX12_opened) (en := [(2, 234), (0, 5), (0, 0)]) (st := []) (as := [(0, 5), (0, 0)]) dX12_beginOne_127 lX12_257 kX12_opened iX12_opened eX12_opened rfl sh234 (by decide +kernel) (Nat.le_of_ble_eq_true rfl) (Nat.le_of_ble_eq_true rfl) rfl ?_
      exact h
    · replace h := h.2 q
      refine z_aloadn dX12_beginOne_112 rfl (Or.inl rfl) ?_
      refine z_dup dX12_beginOne_113 (show (2 : Nat) ≠ 1 by decide) ?_
      refine y_getf (x := (M 234 23)) dX12_beginOne_114 fX12_239 sh234 (by decide) rfl rfl ?_
      refine z_sipush dX12_beginOne_117 ks_16384 ?_
      refine z_ior dX12_beginOne_120 ?_
      refine y_putf (M' := zset M 234 23 (zor (M 234 23) 16384)) hG dX12_beginOne_121 fX12_239 sh234 (by decide) ⟨rfl, rfl⟩ p12_23 (fun q => absurd q (by decide)) (by decide) rfl ?_
      refine z_aloadn dX12_beginOne_124 rfl (Or.inl rfl) ?_
      refine z_iconst dX12_beginOne_125 ki_5 ?_
      refine z_iconst dX12_beginOne_126 ki_0 ?_
      refine y_cv (mt2 := mX12_opened) (en := [(2, 234), (0, 5), (0, 0)]) (st := []) (as := [(0, 5), (0, 0)]) dX12_beginOne_127 lX12_257 kX12_opened iX12_opened eX12_opened rfl sh234 (by decide +kernel) (Nat.le_of_ble_eq_true rfl) (Nat.le_of_ble_eq_true rfl) rfl ?_
      exact h
set_option maxRecDepth 20000 in
set_option maxHeartbeats 4000000 in
theorem bX12_beginOne_92 {G : zG} {d : Nat} {M : zM} {Q : zV → zM → Prop} (hG : zP G) {x49 : Int}
    (h : Q (0, x49) M) :
    Y G (d + 1) mX12_beginOne 92 [(2, 234), (9, 0)] [(0, x49)] M Q := by
  exact z_ireturn dX12_beginOne_92 (Or.inl rfl) rfl h
set_option maxRecDepth 20000 in
set_option maxHeartbeats 4000000 in
theorem bX12_beginOne_52 {G : zG} {d : Nat} {M : zM} {Q : zV → zM → Prop} (hG : zP G) {x49 : Int}
    (h : Y G d mX12_leaf 0 [(2, 234), (0, 1), (0, x49)] [] M (fun r M' => Y G (d + 1) mX12_beginOne 55 [(2, 234), (9, 0)] (zpush r []) M' Q)) :
    Y G (d + 1) mX12_beginOne 52 [(2, 234), (9, 0)] [(0, x49), (0, 1), (2, 234)] M Q := by
  refine y_cv (mt2 := mX12_leaf) (en := [(2, 234), (0, 1), (0, x49)]) (st := []) (as := [(0, 1), (0, x49)]) dX12_beginOne_52 lX12_249 kX12_leaf iX12_leaf eX12_leaf rfl sh234 (by decide +kernel) (Nat.le_of_ble_eq_true rfl) (Nat.le_of_ble_eq_true rfl) rfl ?_
  exact h
set_option maxRecDepth 20000 in
set_option maxHeartbeats 4000000 in
theorem bX12_beginOne_135 {G : zG} {d : Nat} {M : zM} {Q : zV → zM → Prop} (hG : zP G) {x49 : Int}
    (h : ((0 ≤ x49 → (-2147483648 ≤ x49 + 4 ∧ x49 + 4 ≤ 2147483647) ∧ Y G d mX12_nextToken 0 [(2, 234), (9, 0)] [] (zset M 234 23 (zor (M 234 23) (zshl 1 (x49 + 4)))) (fun r M' => Y G (d + 1) mX12_beginOne 160 [(2, 234), (0, x49)] (zpush r []) M' Q)) ∧ (x49 < 0 → Q (0, 1) M))) :
    Y G (d + 1) mX12_beginOne 135 [(2, 234), (9, 0)] [(0, x49)] M Q := by
  refine y_istoren (ls' := [(2, 234), (0, x49)]) dX12_beginOne_135 rfl rfl ?_
  refine z_iloadn dX12_beginOne_136 rfl ?_
  refine z_ifge (tgt := 142) dX12_beginOne_137 rfl (fun q => ?_) (fun q => ?_)
  · replace h := h.1 q
    refine z_aloadn dX12_beginOne_142 rfl (Or.inl rfl) ?_
    refine z_dup dX12_beginOne_143 (show (2 : Nat) ≠ 1 by decide) ?_
    refine y_getf (x := (M 234 23)) dX12_beginOne_144 fX12_239 sh234 (by decide) rfl rfl ?_
    refine z_iconst dX12_beginOne_147 ki_1 ?_
    refine z_iloadn dX12_beginOne_148 rfl ?_
    refine z_iconst dX12_beginOne_149 ki_4 ?_
    obtain ⟨q1, h⟩ := h
    refine z_iadd dX12_beginOne_150 q1 ?_
    refine z_ishl dX12_beginOne_151 ?_
    refine z_ior dX12_beginOne_152 ?_
    refine y_putf (M' := zset M 234 23 (zor (M 234 23) (zshl 1 (x49 + 4)))) hG dX12_beginOne_153 fX12_239 sh234 (by decide) ⟨rfl, rfl⟩ p12_23 (fun q => absurd q (by decide)) (by decide) rfl ?_
    refine z_aloadn dX12_beginOne_156 rfl (Or.inl rfl) ?_
    refine y_cv (mt2 := mX12_nextToken) (en := [(2, 234), (9, 0)]) (st := []) (as := []) dX12_beginOne_157 lX12_230 kX12_nextToken iX12_nextToken eX12_nextToken rfl sh234 (by decide +kernel) (Nat.le_of_ble_eq_true rfl) (Nat.le_of_ble_eq_true rfl) rfl ?_
    exact h
  · replace h := h.2 q
    refine z_iconst dX12_beginOne_140 ki_1 ?_
    exact z_ireturn dX12_beginOne_141 (Or.inl rfl) rfl h
set_option maxRecDepth 20000 in
set_option maxHeartbeats 4000000 in
theorem bX12_beginOne_130 {G : zG} {d : Nat} {M : zM} {Q : zV → zM → Prop} (hG : zP G) {x49 : Int}
    (h : Q (0, x49) M) :
    Y G (d + 1) mX12_beginOne 130 [(2, 234), (9, 0)] [(0, x49)] M Q := by
  exact z_ireturn dX12_beginOne_130 (Or.inl rfl) rfl h
set_option maxRecDepth 20000 in
set_option maxHeartbeats 4000000 in
theorem bX12_beginOne_55 {G : zG} {d : Nat} {M : zM} {Q : zV → zM → Prop} (hG : zP G) {x49 : Int}
    (h : Q (0, x49) M) :
    Y G (d + 1) mX12_beginOne 55 [(2, 234), (9, 0)] [(0, x49)] M Q := by
  exact z_ireturn dX12_beginOne_55 (Or.inl rfl) rfl h
set_option maxRecDepth 20000 in
set_option maxHeartbeats 4000000 in
theorem bX12_beginOne_160 {G : zG} {d : Nat} {M : zM} {Q : zV → zM → Prop} (hG : zP G) {x1 : Int}
    (h : (((M 234 10) = 40 → ((6 ≤ x1 → Y G d mX12_opened 0 [(2, 234), (0, 3), (0, x1)] [] M (fun r M' => Y G (d + 1) mX12_beginOne 187 [(2, 234), (0, x1)] (zpush r []) M' Q)) ∧ (x1 < 6 → Y G d mX12_opened 0 [(2, 234), (0, 2), (0, x1)] [] M (fun r M' => Y G (d + 1) mX12_beginOne 187 [(2, 234), (0, x1)] (zpush r []) M' Q)))) ∧ (¬ (M 234 10) = 40 → Q (0, 1) M))) :
    Y G (d + 1) mX12_beginOne 160 [(2, 234), (0, x1)] [] M Q := by
  refine z_aloadn dX12_beginOne_160 rfl (Or.inl rfl) ?_
  refine y_getf (x := (M 234 10)) dX12_beginOne_161 fX12_169 sh234 (by decide) rfl rfl ?_
  refine z_bipush dX12_beginOne_164 kb_40 ?_
  refine z_icmpeq (tgt := 171) dX12_beginOne_166 rfl (fun q => ?_) (fun q => ?_)
  · replace h := h.1 q
    refine z_aloadn dX12_beginOne_171 rfl (Or.inl rfl) ?_
    refine z_iloadn dX12_beginOne_172 rfl ?_
    refine z_bipush dX12_beginOne_173 kb_6 ?_
    refine z_icmpge (tgt := 182) dX12_beginOne_175 rfl (fun q => ?_) (fun q => ?_)
    · replace h := h.1 q
      refine z_iconst dX12_beginOne_182 ki_3 ?_
      refine z_iloadn dX12_beginOne_183 rfl ?_
      refine y_cv (mt2 := mX12_opened) (en := [(2, 234), (0, 3), (0, x1)]) (st := []) (as := [(0, 3), (0, x1)]) dX12_beginOne_184 lX12_257 kX12_opened iX12_opened eX12_opened rfl sh234 (by decide +kernel) (Nat.le_of_ble_eq_true rfl) (Nat.le_of_ble_eq_true rfl) rfl ?_
      exact h
    · replace h := h.2 q
      refine z_iconst dX12_beginOne_178 ki_2 ?_
      refine z_goto (tgt := 183) dX12_beginOne_179 rfl ?_
      refine z_iloadn dX12_beginOne_183 rfl ?_
      refine y_cv (mt2 := mX12_opened) (en := [(2, 234), (0, 2), (0, x1)]) (st := []) (as := [(0, 2), (0, x1)]) dX12_beginOne_184 lX12_257 kX12_opened iX12_opened eX12_opened rfl sh234 (by decide +kernel) (Nat.le_of_ble_eq_true rfl) (Nat.le_of_ble_eq_true rfl) rfl ?_
      exact h
  · replace h := h.2 q
    refine z_iconst dX12_beginOne_169 ki_1 ?_
    exact z_ireturn dX12_beginOne_170 (Or.inl rfl) rfl h
set_option maxRecDepth 20000 in
set_option maxHeartbeats 4000000 in
theorem bX12_beginOne_187 {G : zG} {d : Nat} {M : zM} {Q : zV → zM → Prop} (hG : zP G) {x1 x49 : Int}
    (h : Q (0, x49) M) :
    Y G (d + 1) mX12_beginOne 187 [(2, 234), (0, x1)] [(0, x49)] M Q := by
  exact z_ireturn dX12_beginOne_187 (Or.inl rfl) rfl h
set_option maxRecDepth 20000 in
set_option maxHeartbeats 4000000 in
theorem bX12_endTerm_0 {G : zG} {d : Nat} {M : zM} {Q : zV → zM → Prop} (hG : zP G)
    (h : (0 ≤ (M 234 22) ∧ (M 234 22) < 10) ∧ (((M 245 (M 234 22)) ≤ 1 → (0 ≤ (M 234 22) ∧ (M 234 22) < 10) ∧ (0 ≤ (M 234 22) ∧ (M 234 22) < 10) ∧ (-2147483648 ≤ (M 243 (M 234 22)) + 1 ∧ (M 243 (M 234 22)) + 1 ≤ 2147483647) ∧ (0 ≤ (M 234 22) ∧ (M 234 22) < 10) ∧ Q (9, 0) (zset (zset M 245 (M 234 22) 0) 243 (M 234 22) ((M 243 (M 234 22)) + 1))) ∧ (1 < (M 245 (M 234 22)) → (0 ≤ (M 234 22) ∧ (M 234 22) < 10) ∧ Y G d mX12_write 0 [(2, 234), (0, 3), (0, (M 245 (M 234 22)))] [] M (fun r M' => Y G (d + 1) mX12_endTerm 27 [(2, 234)] (zpush r []) M' Q)))) :
    Y G (d + 1) mX12_endTerm 0 [(2, 234)] [] M Q := by
  refine z_aloadn dX12_endTerm_0 rfl (Or.inl rfl) ?_
  refine y_getr (v := 245) hG dX12_endTerm_1 fX12_47 sh234 (by decide) rfl (by decide +kernel) (by decide) ?_
  refine z_aloadn dX12_endTerm_4 rfl (Or.inl rfl) ?_
  refine y_getf (x := (M 234 22)) dX12_endTerm_5 fX12_209 sh234 (by decide) rfl rfl ?_
  obtain ⟨q1, h⟩ := h
  refine y_iald (x := (M 245 (M 234 22))) dX12_endTerm_8 sh245 q1 rfl ?_
  refine z_iconst dX12_endTerm_9 ki_1 ?_
  refine z_icmple (tgt := 27) dX12_endTerm_10 rfl (fun q => ?_) (fun q => ?_)
  · replace h := h.1 q
    refine z_aloadn dX12_endTerm_27 rfl (Or.inl rfl) ?_
    refine y_getr (v := 245) hG dX12_endTerm_28 fX12_47 sh234 (by decide) rfl (by decide +kernel) (by decide) ?_
    refine z_aloadn dX12_endTerm_31 rfl (Or.inl rfl) ?_
    refine y_getf (x := (M 234 22)) dX12_endTerm_32 fX12_209 sh234 (by decide) rfl rfl ?_
    refine z_iconst dX12_endTerm_35 ki_0 ?_
    obtain ⟨q2, h⟩ := h
    refine y_iast hG dX12_endTerm_36 sh245 q2 ?_
    refine z_aloadn dX12_endTerm_37 rfl (Or.inl rfl) ?_
    refine y_getr (v := 243) hG dX12_endTerm_38 fX12_41 sh234 (by decide) rfl (by decide +kernel) (by decide) ?_
    refine z_aloadn dX12_endTerm_41 rfl (Or.inl rfl) ?_
    refine y_getf (x := (M 234 22)) dX12_endTerm_42 fX12_209 sh234 (by decide) rfl (zset_ne (fun q => absurd q.1 (by decide))) ?_
    refine z_dup2 dX12_endTerm_45 (show (0 : Nat) ≠ 1 by decide) (show (2 : Nat) ≠ 1 by decide) ?_
    obtain ⟨q3, h⟩ := h
    refine y_iald (x := (M 243 (M 234 22))) dX12_endTerm_46 sh243 q3 (zset_ne (fun q => absurd q.1 (by decide))) ?_
    refine z_iconst dX12_endTerm_47 ki_1 ?_
    obtain ⟨q4, h⟩ := h
    refine z_iadd dX12_endTerm_48 q4 ?_
    obtain ⟨q5, h⟩ := h
    refine y_iast hG dX12_endTerm_49 sh243 q5 ?_
    exact z_return dX12_endTerm_50 rfl rfl h
  · replace h := h.2 q
    refine z_aloadn dX12_endTerm_13 rfl (Or.inl rfl) ?_
    refine z_iconst dX12_endTerm_14 ki_3 ?_
    refine z_aloadn dX12_endTerm_15 rfl (Or.inl rfl) ?_
    refine y_getr (v := 245) hG dX12_endTerm_16 fX12_47 sh234 (by decide) rfl (by decide +kernel) (by decide) ?_
    refine z_aloadn dX12_endTerm_19 rfl (Or.inl rfl) ?_
    refine y_getf (x := (M 234 22)) dX12_endTerm_20 fX12_209 sh234 (by decide) rfl rfl ?_
    obtain ⟨q6, h⟩ := h
    refine y_iald (x := (M 245 (M 234 22))) dX12_endTerm_23 sh245 q6 rfl ?_
    refine y_cv (mt2 := mX12_write) (en := [(2, 234), (0, 3), (0, (M 245 (M 234 22)))]) (st := []) (as := [(0, 3), (0, (M 245 (M 234 22)))]) dX12_endTerm_24 lX12_236 kX12_write iX12_write eX12_write rfl sh234 (by decide +kernel) (Nat.le_of_ble_eq_true rfl) (Nat.le_of_ble_eq_true rfl) rfl ?_
    exact h
set_option maxRecDepth 20000 in
set_option maxHeartbeats 4000000 in
theorem bX12_endTerm_27 {G : zG} {d : Nat} {M : zM} {Q : zV → zM → Prop} (hG : zP G)
    (h : (0 ≤ (M 234 22) ∧ (M 234 22) < 10) ∧ (0 ≤ (M 234 22) ∧ (M 234 22) < 10) ∧ (-2147483648 ≤ (M 243 (M 234 22)) + 1 ∧ (M 243 (M 234 22)) + 1 ≤ 2147483647) ∧ (0 ≤ (M 234 22) ∧ (M 234 22) < 10) ∧ Q (9, 0) (zset (zset M 245 (M 234 22) 0) 243 (M 234 22) ((M 243 (M 234 22)) + 1))) :
    Y G (d + 1) mX12_endTerm 27 [(2, 234)] [] M Q := by
  refine z_aloadn dX12_endTerm_27 rfl (Or.inl rfl) ?_
  refine y_getr (v := 245) hG dX12_endTerm_28 fX12_47 sh234 (by decide) rfl (by decide +kernel) (by decide) ?_
  refine z_aloadn dX12_endTerm_31 rfl (Or.inl rfl) ?_
  refine y_getf (x := (M 234 22)) dX12_endTerm_32 fX12_209 sh234 (by decide) rfl rfl ?_
  refine z_iconst dX12_endTerm_35 ki_0 ?_
  obtain ⟨q1, h⟩ := h
  refine y_iast hG dX12_endTerm_36 sh245 q1 ?_
  refine z_aloadn dX12_endTerm_37 rfl (Or.inl rfl) ?_
  refine y_getr (v := 243) hG dX12_endTerm_38 fX12_41 sh234 (by decide) rfl (by decide +kernel) (by decide) ?_
  refine z_aloadn dX12_endTerm_41 rfl (Or.inl rfl) ?_
  refine y_getf (x := (M 234 22)) dX12_endTerm_42 fX12_209 sh234 (by decide) rfl (zset_ne (fun q => absurd q.1 (by decide))) ?_
  refine z_dup2 dX12_endTerm_45 (show (0 : Nat) ≠ 1 by decide) (show (2 : Nat) ≠ 1 by decide) ?_
  obtain ⟨q2, h⟩ := h
  refine y_iald (x := (M 243 (M 234 22))) dX12_endTerm_46 sh243 q2 (zset_ne (fun q => absurd q.1 (by decide))) ?_
  refine z_iconst dX12_endTerm_47 ki_1 ?_
  obtain ⟨q3, h⟩ := h
  refine z_iadd dX12_endTerm_48 q3 ?_
  obtain ⟨q4, h⟩ := h
  refine y_iast hG dX12_endTerm_49 sh243 q4 ?_
  exact z_return dX12_endTerm_50 rfl rfl h
set_option maxRecDepth 20000 in
set_option maxHeartbeats 4000000 in
theorem bX12_endSum_0 {G : zG} {d : Nat} {M : zM} {Q : zV → zM → Prop} (hG : zP G)
    (h : Y G d mX12_endTerm 0 [(2, 234)] [] M (fun r M' => Y G (d + 1) mX12_endSum 4 [(2, 234)] (zpush r []) M' Q)) :
    Y G (d + 1) mX12_endSum 0 [(2, 234)] [] M Q := by
  refine z_aloadn dX12_endSum_0 rfl (Or.inl rfl) ?_
  refine y_cv (mt2 := mX12_endTerm) (en := [(2, 234)]) (st := []) (as := []) dX12_endSum_1 lX12_265 kX12_endTerm iX12_endTerm eX12_endTerm rfl sh234 (by decide +kernel) (Nat.le_of_ble_eq_true rfl) (Nat.le_of_ble_eq_true rfl) rfl ?_
  exact h
set_option maxRecDepth 20000 in
set_option maxHeartbeats 4000000 in
theorem bX12_endSum_4 {G : zG} {d : Nat} {M : zM} {Q : zV → zM → Prop} (hG : zP G)
    (h : (0 ≤ (M 234 22) ∧ (M 234 22) < 10) ∧ (((M 243 (M 234 22)) ≤ 1 → Q (9, 0) M) ∧ (1 < (M 243 (M 234 22)) → (0 ≤ (M 234 22) ∧ (M 234 22) < 10) ∧ (0 ≤ (M 234 22) ∧ (M 234 22) < 10) ∧ Y G d mX12_write 0 [(2, 234), (0, 2), (0, (zor (M 243 (M 234 22)) (zshl (M 244 (M 234 22)) 8)))] [] M (fun r M' => Y G (d + 1) mX12_endSum 44 [(2, 234)] (zpush r []) M' Q)))) :
    Y G (d + 1) mX12_endSum 4 [(2, 234)] [] M Q := by
  refine z_aloadn dX12_endSum_4 rfl (Or.inl rfl) ?_
  refine y_getr (v := 243) hG dX12_endSum_5 fX12_41 sh234 (by decide) rfl (by decide +kernel) (by decide) ?_
  refine z_aloadn dX12_endSum_8 rfl (Or.inl rfl) ?_
  refine y_getf (x := (M 234 22)) dX12_endSum_9 fX12_209 sh234 (by decide) rfl rfl ?_
  obtain ⟨q1, h⟩ := h
  refine y_iald (x := (M 243 (M 234 22))) dX12_endSum_12 sh243 q1 rfl ?_
  refine z_iconst dX12_endSum_13 ki_1 ?_
  refine z_icmple (tgt := 44) dX12_endSum_14 rfl (fun q => ?_) (fun q => ?_)
  · replace h := h.1 q
    exact z_return dX12_endSum_44 rfl rfl h
  · replace h := h.2 q
    refine z_aloadn dX12_endSum_17 rfl (Or.inl rfl) ?_
    refine z_iconst dX12_endSum_18 ki_2 ?_
    refine z_aloadn dX12_endSum_19 rfl (Or.inl rfl) ?_
    refine y_getr (v := 243) hG dX12_endSum_20 fX12_41 sh234 (by decide) rfl (by decide +kernel) (by decide) ?_
    refine z_aloadn dX12_endSum_23 rfl (Or.inl rfl) ?_
    refine y_getf (x := (M 234 22)) dX12_endSum_24 fX12_209 sh234 (by decide) rfl rfl ?_
    obtain ⟨q2, h⟩ := h
    refine y_iald (x := (M 243 (M 234 22))) dX12_endSum_27 sh243 q2 rfl ?_
    refine z_aloadn dX12_endSum_28 rfl (Or.inl rfl) ?_
    refine y_getr (v := 244) hG dX12_endSum_29 fX12_44 sh234 (by decide) rfl (by decide +kernel) (by decide) ?_
    refine z_aloadn dX12_endSum_32 rfl (Or.inl rfl) ?_
    refine y_getf (x := (M 234 22)) dX12_endSum_33 fX12_209 sh234 (by decide) rfl rfl ?_
    obtain ⟨q3, h⟩ := h
    refine y_iald (x := (M 244 (M 234 22))) dX12_endSum_36 sh244 q3 rfl ?_
    refine z_bipush dX12_endSum_37 kb_8 ?_
    refine z_ishl dX12_endSum_39 ?_
    refine z_ior dX12_endSum_40 ?_
    refine y_cv (mt2 := mX12_write) (en := [(2, 234), (0, 2), (0, (zor (M 243 (M 234 22)) (zshl (M 244 (M 234 22)) 8)))]) (st := []) (as := [(0, 2), (0, (zor (M 243 (M 234 22)) (zshl (M 244 (M 234 22)) 8)))]) dX12_endSum_41 lX12_236 kX12_write iX12_write eX12_write rfl sh234 (by decide +kernel) (Nat.le_of_ble_eq_true rfl) (Nat.le_of_ble_eq_true rfl) rfl ?_
    exact h
set_option maxRecDepth 20000 in
set_option maxHeartbeats 4000000 in
theorem bX12_endSum_44 {G : zG} {d : Nat} {M : zM} {Q : zV → zM → Prop} (hG : zP G)
    (h : Q (9, 0) M) :
    Y G (d + 1) mX12_endSum 44 [(2, 234)] [] M Q := by
  exact z_return dX12_endSum_44 rfl rfl h
set_option maxRecDepth 20000 in
set_option maxHeartbeats 4000000 in
theorem bX12_compareAt_0 {G : zG} {d : Nat} {M : zM} {Q : zV → zM → Prop} (hG : zP G)
    (h : ((((M 234 10) = 4) → Q (0, 1) M) ∧ (((M 234 10) = 5) → Q (0, 3) M) ∧ (((M 234 10) = 60) → Q (0, 0) M) ∧ (((M 234 10) = 61) → Q (0, 4) M) ∧ (((M 234 10) = 62) → Q (0, 2) M) ∧ ((¬ (M 234 10) = 4 ∧ ¬ (M 234 10) = 5 ∧ ¬ (M 234 10) = 60 ∧ ¬ (M 234 10) = 61 ∧ ¬ (M 234 10) = 62) → ((¬ (M 234 10) = 35 → Q (0, (-1)) M) ∧ ((M 234 10) = 35 → Q (0, 5) M))))) :
    Y G d mX12_compareAt 0 [(2, 234)] [] M Q := by
  refine z_aloadn dX12_compareAt_0 rfl (Or.inl rfl) ?_
  refine y_getf (x := (M 234 10)) dX12_compareAt_1 fX12_169 sh234 (by decide) rfl rfl ?_
  rcases (show (M 234 10) = 4 ∨ (M 234 10) = 5 ∨ (M 234 10) = 60 ∨ (M 234 10) = 61 ∨ (M 234 10) = 62 ∨ (¬ (M 234 10) = 4 ∧ ¬ (M 234 10) = 5 ∧ ¬ (M 234 10) = 60 ∧ ¬ (M 234 10) = 61 ∧ ¬ (M 234 10) = 62) by omega) with q | q | q | q | q | q
  · replace h := h.1 q
    refine z_lsw (tgt := 58) (off := 54) dX12_compareAt_4 (by decide) (by rw [q]; first | done | rfl) rfl ?_
    refine z_iconst dX12_compareAt_58 ki_1 ?_
    exact z_ireturn dX12_compareAt_59 (Or.inl rfl) rfl h
  · replace h := h.2.1 q
    refine z_lsw (tgt := 62) (off := 58) dX12_compareAt_4 (by decide) (by rw [q]; first | done | rfl) rfl ?_
    refine z_iconst dX12_compareAt_62 ki_3 ?_
    exact z_ireturn dX12_compareAt_63 (Or.inl rfl) rfl h
  · replace h := h.2.2.1 q
    refine z_lsw (tgt := 56) (off := 52) dX12_compareAt_4 (by decide) (by rw [q]; first | done | rfl) rfl ?_
    refine z_iconst dX12_compareAt_56 ki_0 ?_
    exact z_ireturn dX12_compareAt_57 (Or.inl rfl) rfl h
  · replace h := h.2.2.2.1 q
    refine z_lsw (tgt := 64) (off := 60) dX12_compareAt_4 (by decide) (by rw [q]; first | done | rfl) rfl ?_
    refine z_iconst dX12_compareAt_64 ki_4 ?_
    exact z_ireturn dX12_compareAt_65 (Or.inl rfl) rfl h
  · replace h := h.2.2.2.2.1 q
    refine z_lsw (tgt := 60) (off := 56) dX12_compareAt_4 (by decide) (by rw [q]; first | done | rfl) rfl ?_
    refine z_iconst dX12_compareAt_60 ki_2 ?_
    exact z_ireturn dX12_compareAt_61 (Or.inl rfl) rfl h
  · replace h := h.2.2.2.2.2 q
    refine z_lsw (tgt := 66) (off := 62) dX12_compareAt_4 (by decide) (by simp [Op.lookupswitch.offset]; repeat rw [if_neg (by omega)]) rfl ?_
    refine z_aloadn dX12_compareAt_66 rfl (Or.inl rfl) ?_
    refine y_getf (x := (M 234 10)) dX12_compareAt_67 fX12_169 sh234 (by decide) rfl rfl ?_
    refine z_bipush dX12_compareAt_70 kb_35 ?_
    refine z_icmpne (tgt := 79) dX12_compareAt_72 rfl (fun q => ?_) (fun q => ?_)
    · replace h := h.1 q
      refine z_iconst dX12_compareAt_79 ki_m1 ?_
      exact z_ireturn dX12_compareAt_80 (Or.inl rfl) rfl h
    · replace h := h.2 q
      refine z_iconst dX12_compareAt_75 ki_5 ?_
      refine z_goto (tgt := 80) dX12_compareAt_76 rfl ?_
      exact z_ireturn dX12_compareAt_80 (Or.inl rfl) rfl h
set_option maxRecDepth 20000 in
set_option maxHeartbeats 4000000 in
theorem bX12_closed_0 {G : zG} {d : Nat} {M : zM} {Q : zV → zM → Prop} (hG : zP G) {x1 x2 x3 : Int}
    (h : ((¬ x1 = 0 → ((x2 < 0 → (-2147483648 ≤ (M 234 22) - 1 ∧ (M 234 22) - 1 ≤ 2147483647) ∧ (0 ≤ ((M 234 22) - 1) ∧ ((M 234 22) - 1) < 10) ∧ (-2147483648 ≤ (M 245 ((M 234 22) - 1)) + 1 ∧ (M 245 ((M 234 22) - 1)) + 1 ≤ 2147483647) ∧ (0 ≤ ((M 234 22) - 1) ∧ ((M 234 22) - 1) < 10) ∧ Y G d mX12_nextToken 0 [(2, 234), (9, 0)] [] (zset (zset M 234 22 ((M 234 22) - 1)) 245 ((M 234 22) - 1) ((M 245 ((M 234 22) - 1)) + 1)) (fun r M' => Y G (d + 1) mX12_closed 43 [(2, 234), (0, x1), (0, x2), (0, x3)] (zpush r []) M' Q)) ∧ (0 ≤ x2 → Y G d mX12_write 0 [(2, 234), (0, x2), (0, x3)] [] M (fun r M' => Y G (d + 1) mX12_closed 16 [(2, 234), (0, x1), (0, x2), (0, x3)] (zpush r []) M' Q)))) ∧ (x1 = 0 → Q (0, 1) M))) :
    Y G (d + 1) mX12_closed 0 [(2, 234), (0, x1), (0, x2), (0, x3)] [] M Q := by
  refine z_iloadn dX12_closed_0 rfl ?_
  refine z_ifne (tgt := 6) dX12_closed_1 rfl (fun q => ?_) (fun q => ?_)
  · replace h := h.1 q
    refine z_iloadn dX12_closed_6 rfl ?_
    refine z_iflt (tgt := 16) dX12_closed_7 rfl (fun q => ?_) (fun q => ?_)
    · replace h := h.1 q
      refine z_aloadn dX12_closed_16 rfl (Or.inl rfl) ?_
      refine z_dup dX12_closed_17 (show (2 : Nat) ≠ 1 by decide) ?_
      refine y_getf (x := (M 234 22)) dX12_closed_18 fX12_209 sh234 (by decide) rfl rfl ?_
      refine z_iconst dX12_closed_21 ki_1 ?_
      obtain ⟨q1, h⟩ := h
      refine z_isub dX12_closed_22 q1 ?_
      refine y_putf (M' := zset M 234 22 ((M 234 22) - 1)) hG dX12_closed_23 fX12_209 sh234 (by decide) ⟨rfl, rfl⟩ p12_22 (fun q => absurd q (by decide)) (by decide) rfl ?_
      refine z_aloadn dX12_closed_26 rfl (Or.inl rfl) ?_
      refine y_getr (v := 245) hG dX12_closed_27 fX12_47 sh234 (by decide) rfl (by decide +kernel) (by decide) ?_
      refine z_aloadn dX12_closed_30 rfl (Or.inl rfl) ?_
      refine y_getf (x := ((M 234 22) - 1)) dX12_closed_31 fX12_209 sh234 (by decide) rfl zset_same ?_
      refine z_dup2 dX12_closed_34 (show (0 : Nat) ≠ 1 by decide) (show (2 : Nat) ≠ 1 by decide) ?_
      obtain ⟨q2, h⟩ := h
      refine y_iald (x := (M 245 ((M 234 22) - 1))) dX12_closed_35 sh245 q2 (zset_ne (fun q => absurd q.1 (by decide))) ?_
      refine z_iconst dX12_closed_36 ki_1 ?_
      obtain ⟨q3, h⟩ := h
      refine z_iadd dX12_closed_37 q3 ?_
      obtain ⟨q4, h⟩ := h
      refine y_iast hG dX12_closed_38 sh245 q4 ?_
      refine z_aloadn dX12_closed_39 rfl (Or.inl rfl) ?_
      refine y_cv (mt2 := mX12_nextToken) (en := [(2, 234), (9, 0)]) (st := []) (as := []) dX12_closed_40 lX12_230 kX12_nextToken iX12_nextToken eX12_nextToken rfl sh234 (by decide +kernel) (Nat.le_of_ble_eq_true rfl) (Nat.le_of_ble_eq_true rfl) rfl ?_
      exact h
    · replace h := h.2 q
      refine z_aloadn dX12_closed_10 rfl (Or.inl rfl) ?_
      refine z_iloadn dX12_closed_11 rfl ?_
      refine z_iloadn dX12_closed_12 rfl ?_
      refine y_cv (mt2 := mX12_write) (en := [(2, 234), (0, x2), (0, x3)]) (st := []) (as := [(0, x2), (0, x3)]) dX12_closed_13 lX12_236 kX12_write iX12_write eX12_write rfl sh234 (by decide +kernel) (Nat.le_of_ble_eq_true rfl) (Nat.le_of_ble_eq_true rfl) rfl ?_
      exact h
  · replace h := h.2 q
    refine z_iconst dX12_closed_4 ki_1 ?_
    exact z_ireturn dX12_closed_5 (Or.inl rfl) rfl h
set_option maxRecDepth 20000 in
set_option maxHeartbeats 4000000 in
theorem bX12_closed_43 {G : zG} {d : Nat} {M : zM} {Q : zV → zM → Prop} (hG : zP G) {x1 x2 x3 : Int}
    (h : Q (0, 0) M) :
    Y G (d + 1) mX12_closed 43 [(2, 234), (0, x1), (0, x2), (0, x3)] [] M Q := by
  refine z_iconst dX12_closed_43 ki_0 ?_
  exact z_ireturn dX12_closed_44 (Or.inl rfl) rfl h
set_option maxRecDepth 20000 in
set_option maxHeartbeats 4000000 in
theorem bX12_closed_16 {G : zG} {d : Nat} {M : zM} {Q : zV → zM → Prop} (hG : zP G) {x1 x2 x3 : Int}
    (h : (-2147483648 ≤ (M 234 22) - 1 ∧ (M 234 22) - 1 ≤ 2147483647) ∧ (0 ≤ ((M 234 22) - 1) ∧ ((M 234 22) - 1) < 10) ∧ (-2147483648 ≤ (M 245 ((M 234 22) - 1)) + 1 ∧ (M 245 ((M 234 22) - 1)) + 1 ≤ 2147483647) ∧ (0 ≤ ((M 234 22) - 1) ∧ ((M 234 22) - 1) < 10) ∧ Y G d mX12_nextToken 0 [(2, 234), (9, 0)] [] (zset (zset M 234 22 ((M 234 22) - 1)) 245 ((M 234 22) - 1) ((M 245 ((M 234 22) - 1)) + 1)) (fun r M' => Y G (d + 1) mX12_closed 43 [(2, 234), (0, x1), (0, x2), (0, x3)] (zpush r []) M' Q)) :
    Y G (d + 1) mX12_closed 16 [(2, 234), (0, x1), (0, x2), (0, x3)] [] M Q := by
  refine z_aloadn dX12_closed_16 rfl (Or.inl rfl) ?_
  refine z_dup dX12_closed_17 (show (2 : Nat) ≠ 1 by decide) ?_
  refine y_getf (x := (M 234 22)) dX12_closed_18 fX12_209 sh234 (by decide) rfl rfl ?_
  refine z_iconst dX12_closed_21 ki_1 ?_
  obtain ⟨q1, h⟩ := h
  refine z_isub dX12_closed_22 q1 ?_
  refine y_putf (M' := zset M 234 22 ((M 234 22) - 1)) hG dX12_closed_23 fX12_209 sh234 (by decide) ⟨rfl, rfl⟩ p12_22 (fun q => absurd q (by decide)) (by decide) rfl ?_
  refine z_aloadn dX12_closed_26 rfl (Or.inl rfl) ?_
  refine y_getr (v := 245) hG dX12_closed_27 fX12_47 sh234 (by decide) rfl (by decide +kernel) (by decide) ?_
  refine z_aloadn dX12_closed_30 rfl (Or.inl rfl) ?_
  refine y_getf (x := ((M 234 22) - 1)) dX12_closed_31 fX12_209 sh234 (by decide) rfl zset_same ?_
  refine z_dup2 dX12_closed_34 (show (0 : Nat) ≠ 1 by decide) (show (2 : Nat) ≠ 1 by decide) ?_
  obtain ⟨q2, h⟩ := h
  refine y_iald (x := (M 245 ((M 234 22) - 1))) dX12_closed_35 sh245 q2 (zset_ne (fun q => absurd q.1 (by decide))) ?_
  refine z_iconst dX12_closed_36 ki_1 ?_
  obtain ⟨q3, h⟩ := h
  refine z_iadd dX12_closed_37 q3 ?_
  obtain ⟨q4, h⟩ := h
  refine y_iast hG dX12_closed_38 sh245 q4 ?_
  refine z_aloadn dX12_closed_39 rfl (Or.inl rfl) ?_
  refine y_cv (mt2 := mX12_nextToken) (en := [(2, 234), (9, 0)]) (st := []) (as := []) dX12_closed_40 lX12_230 kX12_nextToken iX12_nextToken eX12_nextToken rfl sh234 (by decide +kernel) (Nat.le_of_ble_eq_true rfl) (Nat.le_of_ble_eq_true rfl) rfl ?_
  exact h
set_option maxRecDepth 20000 in
set_option maxHeartbeats 4000000 in
theorem bX12_goesOn_0 {G : zG} {d : Nat} {M : zM} {Q : zV → zM → Prop} (hG : zP G) {x1 x2 : Int}
    (h : ((¬ x1 = 0 → (0 ≤ (M 234 22) ∧ (M 234 22) < 10) ∧ Y G d mX12_startSum 0 [(2, 234)] [] (zset M 241 (M 234 22) x2) (fun r M' => Y G (d + 1) mX12_goesOn 20 [(2, 234), (0, x1), (0, x2)] (zpush r []) M' Q)) ∧ (x1 = 0 → Q (0, 1) M))) :
    Y G (d + 1) mX12_goesOn 0 [(2, 234), (0, x1), (0, x2)] [] M Q := by
  refine z_iloadn dX12_goesOn_0 rfl ?_
  refine z_ifne (tgt := 6) dX12_goesOn_1 rfl (fun q => ?_) (fun q => ?_)
  · replace h := h.1 q
    refine z_aloadn dX12_goesOn_6 rfl (Or.inl rfl) ?_
    refine y_getr (v := 241) hG dX12_goesOn_7 fX12_35 sh234 (by decide) rfl (by decide +kernel) (by decide) ?_
    refine z_aloadn dX12_goesOn_10 rfl (Or.inl rfl) ?_
    refine y_getf (x := (M 234 22)) dX12_goesOn_11 fX12_209 sh234 (by decide) rfl rfl ?_
    refine z_iloadn dX12_goesOn_14 rfl ?_
    obtain ⟨q1, h⟩ := h
    refine y_iast hG dX12_goesOn_15 sh241 q1 ?_
    refine z_aloadn dX12_goesOn_16 rfl (Or.inl rfl) ?_
    refine y_cv (mt2 := mX12_startSum) (en := [(2, 234)]) (st := []) (as := []) dX12_goesOn_17 lX12_212 kX12_startSum iX12_startSum eX12_startSum rfl sh234 (by decide +kernel) (Nat.le_of_ble_eq_true rfl) (Nat.le_of_ble_eq_true rfl) rfl ?_
    exact h
  · replace h := h.2 q
    refine z_iconst dX12_goesOn_4 ki_1 ?_
    exact z_ireturn dX12_goesOn_5 (Or.inl rfl) rfl h
set_option maxRecDepth 20000 in
set_option maxHeartbeats 4000000 in
theorem bX12_goesOn_20 {G : zG} {d : Nat} {M : zM} {Q : zV → zM → Prop} (hG : zP G) {x1 x2 : Int}
    (h : Y G d mX12_nextToken 0 [(2, 234), (9, 0)] [] (zset M 234 27 0) (fun r M' => Y G (d + 1) mX12_goesOn 29 [(2, 234), (0, x1), (0, x2)] (zpush r []) M' Q)) :
    Y G (d + 1) mX12_goesOn 20 [(2, 234), (0, x1), (0, x2)] [] M Q := by
  refine z_aloadn dX12_goesOn_20 rfl (Or.inl rfl) ?_
  refine z_iconst dX12_goesOn_21 ki_0 ?_
  refine y_putf (M' := zset M 234 27 0) hG dX12_goesOn_22 fX12_245 sh234 (by decide) ⟨rfl, rfl⟩ p12_27 (fun _ => ⟨by decide, by decide⟩) (by decide) rfl ?_
  refine z_aloadn dX12_goesOn_25 rfl (Or.inl rfl) ?_
  refine y_cv (mt2 := mX12_nextToken) (en := [(2, 234), (9, 0)]) (st := []) (as := []) dX12_goesOn_26 lX12_230 kX12_nextToken iX12_nextToken eX12_nextToken rfl sh234 (by decide +kernel) (Nat.le_of_ble_eq_true rfl) (Nat.le_of_ble_eq_true rfl) rfl ?_
  exact h
set_option maxRecDepth 20000 in
set_option maxHeartbeats 4000000 in
theorem bX12_goesOn_29 {G : zG} {d : Nat} {M : zM} {Q : zV → zM → Prop} (hG : zP G) {x1 x2 : Int}
    (h : Q (0, 0) M) :
    Y G (d + 1) mX12_goesOn 29 [(2, 234), (0, x1), (0, x2)] [] M Q := by
  refine z_iconst dX12_goesOn_29 ki_0 ?_
  exact z_ireturn dX12_goesOn_30 (Or.inl rfl) rfl h
set_option maxRecDepth 20000 in
set_option maxHeartbeats 4000000 in
theorem bX12_behindOne_0 {G : zG} {d : Nat} {M : zM} {Q : zV → zM → Prop} (hG : zP G)
    (h : ((¬ (M 234 10) = 42 → (((M 234 10) = 43 → Y G d mX12_endTerm 0 [(2, 234)] [] M (fun r M' => Y G (d + 1) mX12_behindOne 53 [(2, 234)] (zpush r []) M' Q)) ∧ (¬ (M 234 10) = 43 → ((¬ (M 234 10) = 45 → Y G d mX12_endSum 0 [(2, 234)] [] M (fun r M' => Y G (d + 1) mX12_behindOne 125 [(2, 234)] (zpush r []) M' Q)) ∧ ((M 234 10) = 45 → Y G d mX12_endTerm 0 [(2, 234)] [] M (fun r M' => Y G (d + 1) mX12_behindOne 53 [(2, 234)] (zpush r []) M' Q)))))) ∧ ((M 234 10) = 42 → Y G d mX12_nextToken 0 [(2, 234), (9, 0)] [] (zset (zset M 234 23 (zor (M 234 23) 64)) 234 27 0) (fun r M' => Y G (d + 1) mX12_behindOne 29 [(2, 234)] (zpush r []) M' Q)))) :
    Y G (d + 1) mX12_behindOne 0 [(2, 234)] [] M Q := by
  refine z_aloadn dX12_behindOne_0 rfl (Or.inl rfl) ?_
  refine y_getf (x := (M 234 10)) dX12_behindOne_1 fX12_169 sh234 (by decide) rfl rfl ?_
  refine z_bipush dX12_behindOne_4 kb_42 ?_
  refine z_icmpne (tgt := 31) dX12_behindOne_6 rfl (fun q => ?_) (fun q => ?_)
  · replace h := h.1 q
    refine z_aloadn dX12_behindOne_31 rfl (Or.inl rfl) ?_
    refine y_getf (x := (M 234 10)) dX12_behindOne_32 fX12_169 sh234 (by decide) rfl rfl ?_
    refine z_bipush dX12_behindOne_35 kb_43 ?_
    refine z_icmpeq (tgt := 49) dX12_behindOne_37 rfl (fun q => ?_) (fun q => ?_)
    · replace h := h.1 q
      refine z_aloadn dX12_behindOne_49 rfl (Or.inl rfl) ?_
      refine y_cv (mt2 := mX12_endTerm) (en := [(2, 234)]) (st := []) (as := []) dX12_behindOne_50 lX12_265 kX12_endTerm iX12_endTerm eX12_endTerm rfl sh234 (by decide +kernel) (Nat.le_of_ble_eq_true rfl) (Nat.le_of_ble_eq_true rfl) rfl ?_
      exact h
    · replace h := h.2 q
      refine z_aloadn dX12_behindOne_40 rfl (Or.inl rfl) ?_
      refine y_getf (x := (M 234 10)) dX12_behindOne_41 fX12_169 sh234 (by decide) rfl rfl ?_
      refine z_bipush dX12_behindOne_44 kb_45 ?_
      refine z_icmpne (tgt := 121) dX12_behindOne_46 rfl (fun q => ?_) (fun q => ?_)
      · replace h := h.1 q
        refine z_aloadn dX12_behindOne_121 rfl (Or.inl rfl) ?_
        refine y_cv (mt2 := mX12_endSum) (en := [(2, 234)]) (st := []) (as := []) dX12_behindOne_122 lX12_268 kX12_endSum iX12_endSum eX12_endSum rfl sh234 (by decide +kernel) (Nat.le_of_ble_eq_true rfl) (Nat.le_of_ble_eq_true rfl) rfl ?_
        exact h
      · replace h := h.2 q
        refine z_aloadn dX12_behindOne_49 rfl (Or.inl rfl) ?_
        refine y_cv (mt2 := mX12_endTerm) (en := [(2, 234)]) (st := []) (as := []) dX12_behindOne_50 lX12_265 kX12_endTerm iX12_endTerm eX12_endTerm rfl sh234 (by decide +kernel) (Nat.le_of_ble_eq_true rfl) (Nat.le_of_ble_eq_true rfl) rfl ?_
        exact h
  · replace h := h.2 q
    refine z_aloadn dX12_behindOne_9 rfl (Or.inl rfl) ?_
    refine z_dup dX12_behindOne_10 (show (2 : Nat) ≠ 1 by decide) ?_
    refine y_getf (x := (M 234 23)) dX12_behindOne_11 fX12_239 sh234 (by decide) rfl rfl ?_
    refine z_bipush dX12_behindOne_14 kb_64 ?_
    refine z_ior dX12_behindOne_16 ?_
    refine y_putf (M' := zset M 234 23 (zor (M 234 23) 64)) hG dX12_behindOne_17 fX12_239 sh234 (by decide) ⟨rfl, rfl⟩ p12_23 (fun q => absurd q (by decide)) (by decide) rfl ?_
    refine z_aloadn dX12_behindOne_20 rfl (Or.inl rfl) ?_
    refine z_iconst dX12_behindOne_21 ki_0 ?_
    refine y_putf (M' := zset (zset M 234 23 (zor (M 234 23) 64)) 234 27 0) hG dX12_behindOne_22 fX12_245 sh234 (by decide) ⟨rfl, rfl⟩ p12_27 (fun _ => ⟨by decide, by decide⟩) (by decide) rfl ?_
    refine z_aloadn dX12_behindOne_25 rfl (Or.inl rfl) ?_
    refine y_cv (mt2 := mX12_nextToken) (en := [(2, 234), (9, 0)]) (st := []) (as := []) dX12_behindOne_26 lX12_230 kX12_nextToken iX12_nextToken eX12_nextToken rfl sh234 (by decide +kernel) (Nat.le_of_ble_eq_true rfl) (Nat.le_of_ble_eq_true rfl) rfl ?_
    exact h
set_option maxRecDepth 20000 in
set_option maxHeartbeats 4000000 in
theorem bX12_behindOne_53 {G : zG} {d : Nat} {M : zM} {Q : zV → zM → Prop} (hG : zP G)
    (h : ((¬ (M 234 10) = 43 → ((¬ (M 234 10) = 45 → Y G d mX12_nextToken 0 [(2, 234), (9, 0)] [] (zset (zset M 234 23 (zor (M 234 23) (zshl 1 5))) 234 27 0) (fun r M' => Y G (d + 1) mX12_behindOne 119 [(2, 234)] (zpush r []) M' Q)) ∧ ((M 234 10) = 45 → (0 ≤ (M 234 22) ∧ (M 234 22) < 10) ∧ (0 ≤ (M 234 22) ∧ (M 234 22) < 10) ∧ (0 ≤ (M 234 22) ∧ (M 234 22) < 10) ∧ Y G d mX12_nextToken 0 [(2, 234), (9, 0)] [] (zset (zset (zset M 234 23 (zor (M 234 23) (zshl 1 5))) 244 (M 234 22) (zor (M 244 (M 234 22)) (zshl 1 (M 243 (M 234 22))))) 234 27 0) (fun r M' => Y G (d + 1) mX12_behindOne 119 [(2, 234)] (zpush r []) M' Q)))) ∧ ((M 234 10) = 43 → ((¬ (M 234 10) = 45 → Y G d mX12_nextToken 0 [(2, 234), (9, 0)] [] (zset (zset M 234 23 (zor (M 234 23) (zshl 1 4))) 234 27 0) (fun r M' => Y G (d + 1) mX12_behindOne 119 [(2, 234)] (zpush r []) M' Q)) ∧ ((M 234 10) = 45 → (0 ≤ (M 234 22) ∧ (M 234 22) < 10) ∧ (0 ≤ (M 234 22) ∧ (M 234 22) < 10) ∧ (0 ≤ (M 234 22) ∧ (M 234 22) < 10) ∧ Y G d mX12_nextToken 0 [(2, 234), (9, 0)] [] (zset (zset (zset M 234 23 (zor (M 234 23) (zshl 1 4))) 244 (M 234 22) (zor (M 244 (M 234 22)) (zshl 1 (M 243 (M 234 22))))) 234 27 0) (fun r M' => Y G (d + 1) mX12_behindOne 119 [(2, 234)] (zpush r []) M' Q)))))) :
    Y G (d + 1) mX12_behindOne 53 [(2, 234)] [] M Q := by
  refine z_aloadn dX12_behindOne_53 rfl (Or.inl rfl) ?_
  refine z_dup dX12_behindOne_54 (show (2 : Nat) ≠ 1 by decide) ?_
  refine y_getf (x := (M 234 23)) dX12_behindOne_55 fX12_239 sh234 (by decide) rfl rfl ?_
  refine z_iconst dX12_behindOne_58 ki_1 ?_
  refine z_aloadn dX12_behindOne_59 rfl (Or.inl rfl) ?_
  refine y_getf (x := (M 234 10)) dX12_behindOne_60 fX12_169 sh234 (by decide) rfl rfl ?_
  refine z_bipush dX12_behindOne_63 kb_43 ?_
  refine z_icmpne (tgt := 72) dX12_behindOne_65 rfl (fun q => ?_) (fun q => ?_)
  · replace h := h.1 q
    refine z_iconst dX12_behindOne_72 ki_5 ?_
    refine z_ishl dX12_behindOne_73 ?_
    refine z_ior dX12_behindOne_74 ?_
    refine y_putf (M' := zset M 234 23 (zor (M 234 23) (zshl 1 5))) hG dX12_behindOne_75 fX12_239 sh234 (by decide) ⟨rfl, rfl⟩ p12_23 (fun q => absurd q (by decide)) (by decide) rfl ?_
    refine z_aloadn dX12_behindOne_78 rfl (Or.inl rfl) ?_
    refine y_getf (x := (M 234 10)) dX12_behindOne_79 fX12_169 sh234 (by decide) rfl (zset_ne (fun q => absurd q.2 (by decide))) ?_
    refine z_bipush dX12_behindOne_82 kb_45 ?_
    refine z_icmpne (tgt := 110) dX12_behindOne_84 rfl (fun q => ?_) (fun q => ?_)
    · replace h := h.1 q
      refine z_aloadn dX12_behindOne_110 rfl (Or.inl rfl) ?_
      refine z_iconst dX12_behindOne_111 ki_0 ?_
      refine y_putf (M' := zset (zset M 234 23 (zor (M 234 23) (zshl 1 5))) 234 27 0) hG dX12_behindOne_112 fX12_245 sh234 (by decide) ⟨rfl, rfl⟩ p12_27 (fun _ => ⟨by decide, by decide⟩) (by decide) rfl ?_
      refine z_aloadn dX12_behindOne_115 rfl (Or.inl rfl) ?_
      refine y_cv (mt2 := mX12_nextToken) (en := [(2, 234), (9, 0)]) (st := []) (as := []) dX12_behindOne_116 lX12_230 kX12_nextToken iX12_nextToken eX12_nextToken rfl sh234 (by decide +kernel) (Nat.le_of_ble_eq_true rfl) (Nat.le_of_ble_eq_true rfl) rfl ?_
      exact h
    · replace h := h.2 q
      refine z_aloadn dX12_behindOne_87 rfl (Or.inl rfl) ?_
      refine y_getr (v := 244) hG dX12_behindOne_88 fX12_44 sh234 (by decide) rfl (by decide +kernel) (by decide) ?_
      refine z_aloadn dX12_behindOne_91 rfl (Or.inl rfl) ?_
      refine y_getf (x := (M 234 22)) dX12_behindOne_92 fX12_209 sh234 (by decide) rfl (zset_ne (fun q => absurd q.2 (by decide))) ?_
      refine z_dup2 dX12_behindOne_95 (show (0 : Nat) ≠ 1 by decide) (show (2 : Nat) ≠ 1 by decide) ?_
      obtain ⟨q1, h⟩ := h
      refine y_iald (x := (M 244 (M 234 22))) dX12_behindOne_96 sh244 q1 (zset_ne (fun q => absurd q.1 (by decide))) ?_
      refine z_iconst dX12_behindOne_97 ki_1 ?_
      refine z_aloadn dX12_behindOne_98 rfl (Or.inl rfl) ?_
      refine y_getr (v := 243) hG dX12_behindOne_99 fX12_41 sh234 (by decide) rfl (by decide +kernel) (by decide) ?_
      refine z_aloadn dX12_behindOne_102 rfl (Or.inl rfl) ?_
      refine y_getf (x := (M 234 22)) dX12_behindOne_103 fX12_209 sh234 (by decide) rfl (zset_ne (fun q => absurd q.2 (by decide))) ?_
      obtain ⟨q2, h⟩ := h
      refine y_iald (x := (M 243 (M 234 22))) dX12_behindOne_106 sh243 q2 (zset_ne (fun q => absurd q.1 (by decide))) ?_
      refine z_ishl dX12_behindOne_107 ?_
      refine z_ior dX12_behindOne_108 ?_
      obtain ⟨q3, h⟩ := h
      refine y_iast hG dX12_behindOne_109 sh244 q3 ?_
      refine z_aloadn dX12_behindOne_110 rfl (Or.inl rfl) ?_
      refine z_iconst dX12_behindOne_111 ki_0 ?_
      refine y_putf (M' := zset (zset (zset M 234 23 (zor (M 234 23) (zshl 1 5))) 244 (M 234 22) (zor (M 244 (M 234 22)) (zshl 1 (M 243 (M 234 22))))) 234 27 0) hG dX12_behindOne_112 fX12_245 sh234 (by decide) ⟨rfl, rfl⟩ p12_27 (fun _ => ⟨by decide, by decide⟩) (by decide) rfl ?_
      refine z_aloadn dX12_behindOne_115 rfl (Or.inl rfl) ?_
      refine y_cv (mt2 := mX12_nextToken) (en := [(2, 234), (9, 0)]) (st := []) (as := []) dX12_behindOne_116 lX12_230 kX12_nextToken iX12_nextToken eX12_nextToken rfl sh234 (by decide +kernel) (Nat.le_of_ble_eq_true rfl) (Nat.le_of_ble_eq_true rfl) rfl ?_
      exact h
  · replace h := h.2 q
    refine z_iconst dX12_behindOne_68 ki_4 ?_
    refine z_goto (tgt := 73) dX12_behindOne_69 rfl ?_
    refine z_ishl dX12_behindOne_73 ?_
    refine z_ior dX12_behindOne_74 ?_
    refine y_putf (M' := zset M 234 23 (zor (M 234 23) (zshl 1 4))) hG dX12_behindOne_75 fX12_239 sh234 (by decide) ⟨rfl, rfl⟩ p12_23 (fun q => absurd q (by decide)) (by decide) rfl ?_
    refine z_aloadn dX12_behindOne_78 rfl (Or.inl rfl) ?_
    refine y_getf (x := (M 234 10)) dX12_behindOne_79 fX12_169 sh234 (by decide) rfl (zset_ne (fun q => absurd q.2 (by decide))) ?_
    refine z_bipush dX12_behindOne_82 kb_45 ?_
    refine z_icmpne (tgt := 110) dX12_behindOne_84 rfl (fun q => ?_) (fun q => ?_)
    · replace h := h.1 q
      refine z_aloadn dX12_behindOne_110 rfl (Or.inl rfl) ?_
      refine z_iconst dX12_behindOne_111 ki_0 ?_
      refine y_putf (M' := zset (zset M 234 23 (zor (M 234 23) (zshl 1 4))) 234 27 0) hG dX12_behindOne_112 fX12_245 sh234 (by decide) ⟨rfl, rfl⟩ p12_27 (fun _ => ⟨by decide, by decide⟩) (by decide) rfl ?_
      refine z_aloadn dX12_behindOne_115 rfl (Or.inl rfl) ?_
      refine y_cv (mt2 := mX12_nextToken) (en := [(2, 234), (9, 0)]) (st := []) (as := []) dX12_behindOne_116 lX12_230 kX12_nextToken iX12_nextToken eX12_nextToken rfl sh234 (by decide +kernel) (Nat.le_of_ble_eq_true rfl) (Nat.le_of_ble_eq_true rfl) rfl ?_
      exact h
    · replace h := h.2 q
      refine z_aloadn dX12_behindOne_87 rfl (Or.inl rfl) ?_
      refine y_getr (v := 244) hG dX12_behindOne_88 fX12_44 sh234 (by decide) rfl (by decide +kernel) (by decide) ?_
      refine z_aloadn dX12_behindOne_91 rfl (Or.inl rfl) ?_
      refine y_getf (x := (M 234 22)) dX12_behindOne_92 fX12_209 sh234 (by decide) rfl (zset_ne (fun q => absurd q.2 (by decide))) ?_
      refine z_dup2 dX12_behindOne_95 (show (0 : Nat) ≠ 1 by decide) (show (2 : Nat) ≠ 1 by decide) ?_
      obtain ⟨q4, h⟩ := h
      refine y_iald (x := (M 244 (M 234 22))) dX12_behindOne_96 sh244 q4 (zset_ne (fun q => absurd q.1 (by decide))) ?_
      refine z_iconst dX12_behindOne_97 ki_1 ?_
      refine z_aloadn dX12_behindOne_98 rfl (Or.inl rfl) ?_
      refine y_getr (v := 243) hG dX12_behindOne_99 fX12_41 sh234 (by decide) rfl (by decide +kernel) (by decide) ?_
      refine z_aloadn dX12_behindOne_102 rfl (Or.inl rfl) ?_
      refine y_getf (x := (M 234 22)) dX12_behindOne_103 fX12_209 sh234 (by decide) rfl (zset_ne (fun q => absurd q.2 (by decide))) ?_
      obtain ⟨q5, h⟩ := h
      refine y_iald (x := (M 243 (M 234 22))) dX12_behindOne_106 sh243 q5 (zset_ne (fun q => absurd q.1 (by decide))) ?_
      refine z_ishl dX12_behindOne_107 ?_
      refine z_ior dX12_behindOne_108 ?_
      obtain ⟨q6, h⟩ := h
      refine y_iast hG dX12_behindOne_109 sh244 q6 ?_
      refine z_aloadn dX12_behindOne_110 rfl (Or.inl rfl) ?_
      refine z_iconst dX12_behindOne_111 ki_0 ?_
      refine y_putf (M' := zset (zset (zset M 234 23 (zor (M 234 23) (zshl 1 4))) 244 (M 234 22) (zor (M 244 (M 234 22)) (zshl 1 (M 243 (M 234 22))))) 234 27 0) hG dX12_behindOne_112 fX12_245 sh234 (by decide) ⟨rfl, rfl⟩ p12_27 (fun _ => ⟨by decide, by decide⟩) (by decide) rfl ?_
      refine z_aloadn dX12_behindOne_115 rfl (Or.inl rfl) ?_
      refine y_cv (mt2 := mX12_nextToken) (en := [(2, 234), (9, 0)]) (st := []) (as := []) dX12_behindOne_116 lX12_230 kX12_nextToken iX12_nextToken eX12_nextToken rfl sh234 (by decide +kernel) (Nat.le_of_ble_eq_true rfl) (Nat.le_of_ble_eq_true rfl) rfl ?_
      exact h
set_option maxRecDepth 20000 in
set_option maxHeartbeats 4000000 in
theorem bX12_behindOne_125 {G : zG} {d : Nat} {M : zM} {Q : zV → zM → Prop} (hG : zP G)
    (h : (0 ≤ (M 234 22) ∧ (M 234 22) < 10) ∧ ((((M 241 (M 234 22)) = 1) → ((¬ (M 234 10) = 41 → Y G d mX12_closed 0 [(2, 234), (0, 0), (0, (-1)), (0, 0)] [] M (fun r M' => Y G (d + 1) mX12_behindOne 200 [(2, 234)] (zpush r []) M' Q)) ∧ ((M 234 10) = 41 → Y G d mX12_closed 0 [(2, 234), (0, 1), (0, (-1)), (0, 0)] [] M (fun r M' => Y G (d + 1) mX12_behindOne 200 [(2, 234)] (zpush r []) M' Q)))) ∧ (((M 241 (M 234 22)) = 2) → ((¬ (M 234 10) = 41 → (0 ≤ (M 234 22) ∧ (M 234 22) < 10) ∧ Y G d mX12_closed 0 [(2, 234), (0, 0), (0, (M 242 (M 234 22))), (0, 0)] [] M (fun r M' => Y G (d + 1) mX12_behindOne 229 [(2, 234)] (zpush r []) M' Q)) ∧ ((M 234 10) = 41 → (0 ≤ (M 234 22) ∧ (M 234 22) < 10) ∧ Y G d mX12_closed 0 [(2, 234), (0, 1), (0, (M 242 (M 234 22))), (0, 0)] [] M (fun r M' => Y G (d + 1) mX12_behindOne 229 [(2, 234)] (zpush r []) M' Q)))) ∧ (((M 241 (M 234 22)) = 3) → ((¬ (M 234 10) = 44 → Y G d mX12_goesOn 0 [(2, 234), (0, 0), (0, 4)] [] M (fun r M' => Y G (d + 1) mX12_behindOne 249 [(2, 234)] (zpush r []) M' Q)) ∧ ((M 234 10) = 44 → Y G d mX12_goesOn 0 [(2, 234), (0, 1), (0, 4)] [] M (fun r M' => Y G (d + 1) mX12_behindOne 249 [(2, 234)] (zpush r []) M' Q)))) ∧ (((M 241 (M 234 22)) = 4) → ((¬ (M 234 10) = 41 → (0 ≤ (M 234 22) ∧ (M 234 22) < 10) ∧ Y G d mX12_closed 0 [(2, 234), (0, 0), (0, (M 242 (M 234 22))), (0, 0)] [] M (fun r M' => Y G (d + 1) mX12_behindOne 278 [(2, 234)] (zpush r []) M' Q)) ∧ ((M 234 10) = 41 → (0 ≤ (M 234 22) ∧ (M 234 22) < 10) ∧ Y G d mX12_closed 0 [(2, 234), (0, 1), (0, (M 242 (M 234 22))), (0, 0)] [] M (fun r M' => Y G (d + 1) mX12_behindOne 278 [(2, 234)] (zpush r []) M' Q)))) ∧ (((M 241 (M 234 22)) = 5) → Y G d mX12_compareAt 0 [(2, 234)] [] M (fun r M' => Y G (d + 1) mX12_behindOne 291 [(2, 234)] (zpush r [(0, (M 234 22)), (2, 242)]) M' Q)) ∧ (((M 241 (M 234 22)) = 6) → ((¬ (M 234 10) = 63 → Y G d mX12_goesOn 0 [(2, 234), (0, 0), (0, 7)] [] M (fun r M' => Y G (d + 1) mX12_behindOne 331 [(2, 234)] (zpush r []) M' Q)) ∧ ((M 234 10) = 63 → Y G d mX12_goesOn 0 [(2, 234), (0, 1), (0, 7)] [] M (fun r M' => Y G (d + 1) mX12_behindOne 331 [(2, 234)] (zpush r []) M' Q)))) ∧ (((M 241 (M 234 22)) = 7) → ((¬ (M 234 10) = 58 → Y G d mX12_goesOn 0 [(2, 234), (0, 0), (0, 8)] [] M (fun r M' => Y G (d + 1) mX12_behindOne 352 [(2, 234)] (zpush r []) M' Q)) ∧ ((M 234 10) = 58 → Y G d mX12_goesOn 0 [(2, 234), (0, 1), (0, 8)] [] M (fun r M' => Y G (d + 1) mX12_behindOne 352 [(2, 234)] (zpush r []) M' Q)))) ∧ (((M 241 (M 234 22)) = 8) → Y G d mX12_w3 0 [(0, 101), (0, 110), (0, 100)] [] M (fun r M' => Y G (d + 1) mX12_behindOne 364 [(2, 234)] (zpush r [(2, 234), (2, 234)]) M' Q)) ∧ (((M 241 (M 234 22)) < 1 ∨ 8 < (M 241 (M 234 22))) → Q (0, (-1)) M))) :
    Y G (d + 1) mX12_behindOne 125 [(2, 234)] [] M Q := by
  refine z_aloadn dX12_behindOne_125 rfl (Or.inl rfl) ?_
  refine y_getr (v := 241) hG dX12_behindOne_126 fX12_35 sh234 (by decide) rfl (by decide +kernel) (by decide) ?_
  refine z_aloadn dX12_behindOne_129 rfl (Or.inl rfl) ?_
  refine y_getf (x := (M 234 22)) dX12_behindOne_130 fX12_209 sh234 (by decide) rfl rfl ?_
  obtain ⟨q1, h⟩ := h
  refine y_iald (x := (M 241 (M 234 22))) dX12_behindOne_133 sh241 q1 rfl ?_
  rcases (show (M 241 (M 234 22)) < 1 ∨ 8 < (M 241 (M 234 22)) ∨ (M 241 (M 234 22)) = 1 ∨ (M 241 (M 234 22)) = 2 ∨ (M 241 (M 234 22)) = 3 ∨ (M 241 (M 234 22)) = 4 ∨ (M 241 (M 234 22)) = 5 ∨ (M 241 (M 234 22)) = 6 ∨ (M 241 (M 234 22)) = 7 ∨ (M 241 (M 234 22)) = 8 by omega) with q | q | q | q | q | q | q | q | q | q
  · replace h := h.2.2.2.2.2.2.2.2 (Or.inl q)
    refine z_tswOut (tgt := 382) dX12_behindOne_134 (Or.inl q) rfl ?_
    refine z_iconst dX12_behindOne_382 ki_m1 ?_
    exact z_ireturn dX12_behindOne_383 (Or.inl rfl) rfl h
  · replace h := h.2.2.2.2.2.2.2.2 (Or.inr q)
    refine z_tswOut (tgt := 382) dX12_behindOne_134 (Or.inr q) rfl ?_
    refine z_iconst dX12_behindOne_382 ki_m1 ?_
    exact z_ireturn dX12_behindOne_383 (Or.inl rfl) rfl h
  · replace h := h.1 q
    refine y_tsw (tgt := 180) (k := 1) dX12_behindOne_134 q (by decide) rfl rfl ?_
    refine z_aloadn dX12_behindOne_180 rfl (Or.inl rfl) ?_
    refine z_aloadn dX12_behindOne_181 rfl (Or.inl rfl) ?_
    refine y_getf (x := (M 234 10)) dX12_behindOne_182 fX12_169 sh234 (by decide) rfl rfl ?_
    refine z_bipush dX12_behindOne_185 kb_41 ?_
    refine z_icmpne (tgt := 194) dX12_behindOne_187 rfl (fun q => ?_) (fun q => ?_)
    · replace h := h.1 q
      refine z_iconst dX12_behindOne_194 ki_0 ?_
      refine z_iconst dX12_behindOne_195 ki_m1 ?_
      refine z_iconst dX12_behindOne_196 ki_0 ?_
      refine y_cv (mt2 := mX12_closed) (en := [(2, 234), (0, 0), (0, (-1)), (0, 0)]) (st := []) (as := [(0, 0), (0, (-1)), (0, 0)]) dX12_behindOne_197 lX12_271 kX12_closed iX12_closed eX12_closed rfl sh234 (by decide +kernel) (Nat.le_of_ble_eq_true rfl) (Nat.le_of_ble_eq_true rfl) rfl ?_
      exact h
    · replace h := h.2 q
      refine z_iconst dX12_behindOne_190 ki_1 ?_
      refine z_goto (tgt := 195) dX12_behindOne_191 rfl ?_
      refine z_iconst dX12_behindOne_195 ki_m1 ?_
      refine z_iconst dX12_behindOne_196 ki_0 ?_
      refine y_cv (mt2 := mX12_closed) (en := [(2, 234), (0, 1), (0, (-1)), (0, 0)]) (st := []) (as := [(0, 1), (0, (-1)), (0, 0)]) dX12_behindOne_197 lX12_271 kX12_closed iX12_closed eX12_closed rfl sh234 (by decide +kernel) (Nat.le_of_ble_eq_true rfl) (Nat.le_of_ble_eq_true rfl) rfl ?_
      exact h
  · replace h := h.2.1 q
    refine y_tsw (tgt := 201) (k := 2) dX12_behindOne_134 q (by decide) rfl rfl ?_
    refine z_aloadn dX12_behindOne_201 rfl (Or.inl rfl) ?_
    refine z_aloadn dX12_behindOne_202 rfl (Or.inl rfl) ?_
    refine y_getf (x := (M 234 10)) dX12_behindOne_203 fX12_169 sh234 (by decide) rfl rfl ?_
    refine z_bipush dX12_behindOne_206 kb_41 ?_
    refine z_icmpne (tgt := 215) dX12_behindOne_208 rfl (fun q => ?_) (fun q => ?_)
    · replace h := h.1 q
      refine z_iconst dX12_behindOne_215 ki_0 ?_
      refine z_aloadn dX12_behindOne_216 rfl (Or.inl rfl) ?_
      refine y_getr (v := 242) hG dX12_behindOne_217 fX12_38 sh234 (by decide) rfl (by decide +kernel) (by decide) ?_
      refine z_aloadn dX12_behindOne_220 rfl (Or.inl rfl) ?_
      refine y_getf (x := (M 234 22)) dX12_behindOne_221 fX12_209 sh234 (by decide) rfl rfl ?_
      obtain ⟨q2, h⟩ := h
      refine y_iald (x := (M 242 (M 234 22))) dX12_behindOne_224 sh242 q2 rfl ?_
      refine z_iconst dX12_behindOne_225 ki_0 ?_
      refine y_cv (mt2 := mX12_closed) (en := [(2, 234), (0, 0), (0, (M 242 (M 234 22))), (0, 0)]) (st := []) (as := [(0, 0), (0, (M 242 (M 234 22))), (0, 0)]) dX12_behindOne_226 lX12_271 kX12_closed iX12_closed eX12_closed rfl sh234 (by decide +kernel) (Nat.le_of_ble_eq_true rfl) (Nat.le_of_ble_eq_true rfl) rfl ?_
      exact h
    · replace h := h.2 q
      refine z_iconst dX12_behindOne_211 ki_1 ?_
      refine z_goto (tgt := 216) dX12_behindOne_212 rfl ?_
      refine z_aloadn dX12_behindOne_216 rfl (Or.inl rfl) ?_
      refine y_getr (v := 242) hG dX12_behindOne_217 fX12_38 sh234 (by decide) rfl (by decide +kernel) (by decide) ?_
      refine z_aloadn dX12_behindOne_220 rfl (Or.inl rfl) ?_
      refine y_getf (x := (M 234 22)) dX12_behindOne_221 fX12_209 sh234 (by decide) rfl rfl ?_
      obtain ⟨q3, h⟩ := h
      refine y_iald (x := (M 242 (M 234 22))) dX12_behindOne_224 sh242 q3 rfl ?_
      refine z_iconst dX12_behindOne_225 ki_0 ?_
      refine y_cv (mt2 := mX12_closed) (en := [(2, 234), (0, 1), (0, (M 242 (M 234 22))), (0, 0)]) (st := []) (as := [(0, 1), (0, (M 242 (M 234 22))), (0, 0)]) dX12_behindOne_226 lX12_271 kX12_closed iX12_closed eX12_closed rfl sh234 (by decide +kernel) (Nat.le_of_ble_eq_true rfl) (Nat.le_of_ble_eq_true rfl) rfl ?_
      exact h
  · replace h := h.2.2.1 q
    refine y_tsw (tgt := 230) (k := 3) dX12_behindOne_134 q (by decide) rfl rfl ?_
    refine z_aloadn dX12_behindOne_230 rfl (Or.inl rfl) ?_
    refine z_aloadn dX12_behindOne_231 rfl (Or.inl rfl) ?_
    refine y_getf (x := (M 234 10)) dX12_behindOne_232 fX12_169 sh234 (by decide) rfl rfl ?_
    refine z_bipush dX12_behindOne_235 kb_44 ?_
    refine z_icmpne (tgt := 244) dX12_behindOne_237 rfl (fun q => ?_) (fun q => ?_)
    · replace h := h.1 q
      refine z_iconst dX12_behindOne_244 ki_0 ?_
      refine z_iconst dX12_behindOne_245 ki_4 ?_
      refine y_cv (mt2 := mX12_goesOn) (en := [(2, 234), (0, 0), (0, 4)]) (st := []) (as := [(0, 0), (0, 4)]) dX12_behindOne_246 lX12_275 kX12_goesOn iX12_goesOn eX12_goesOn rfl sh234 (by decide +kernel) (Nat.le_of_ble_eq_true rfl) (Nat.le_of_ble_eq_true rfl) rfl ?_
      exact h
    · replace h := h.2 q
      refine z_iconst dX12_behindOne_240 ki_1 ?_
      refine z_goto (tgt := 245) dX12_behindOne_241 rfl ?_
      refine z_iconst dX12_behindOne_245 ki_4 ?_
      refine y_cv (mt2 := mX12_goesOn) (en := [(2, 234), (0, 1), (0, 4)]) (st := []) (as := [(0, 1), (0, 4)]) dX12_behindOne_246 lX12_275 kX12_goesOn iX12_goesOn eX12_goesOn rfl sh234 (by decide +kernel) (Nat.le_of_ble_eq_true rfl) (Nat.le_of_ble_eq_true rfl) rfl ?_
      exact h
  · replace h := h.2.2.2.1 q
    refine y_tsw (tgt := 250) (k := 4) dX12_behindOne_134 q (by decide) rfl rfl ?_
    refine z_aloadn dX12_behindOne_250 rfl (Or.inl rfl) ?_
    refine z_aloadn dX12_behindOne_251 rfl (Or.inl rfl) ?_
    refine y_getf (x := (M 234 10)) dX12_behindOne_252 fX12_169 sh234 (by decide) rfl rfl ?_
    refine z_bipush dX12_behindOne_255 kb_41 ?_
    refine z_icmpne (tgt := 264) dX12_behindOne_257 rfl (fun q => ?_) (fun q => ?_)
    · replace h := h.1 q
      refine z_iconst dX12_behindOne_264 ki_0 ?_
      refine z_aloadn dX12_behindOne_265 rfl (Or.inl rfl) ?_
      refine y_getr (v := 242) hG dX12_behindOne_266 fX12_38 sh234 (by decide) rfl (by decide +kernel) (by decide) ?_
      refine z_aloadn dX12_behindOne_269 rfl (Or.inl rfl) ?_
      refine y_getf (x := (M 234 22)) dX12_behindOne_270 fX12_209 sh234 (by decide) rfl rfl ?_
      obtain ⟨q4, h⟩ := h
      refine y_iald (x := (M 242 (M 234 22))) dX12_behindOne_273 sh242 q4 rfl ?_
      refine z_iconst dX12_behindOne_274 ki_0 ?_
      refine y_cv (mt2 := mX12_closed) (en := [(2, 234), (0, 0), (0, (M 242 (M 234 22))), (0, 0)]) (st := []) (as := [(0, 0), (0, (M 242 (M 234 22))), (0, 0)]) dX12_behindOne_275 lX12_271 kX12_closed iX12_closed eX12_closed rfl sh234 (by decide +kernel) (Nat.le_of_ble_eq_true rfl) (Nat.le_of_ble_eq_true rfl) rfl ?_
      exact h
    · replace h := h.2 q
      refine z_iconst dX12_behindOne_260 ki_1 ?_
      refine z_goto (tgt := 265) dX12_behindOne_261 rfl ?_
      refine z_aloadn dX12_behindOne_265 rfl (Or.inl rfl) ?_
      refine y_getr (v := 242) hG dX12_behindOne_266 fX12_38 sh234 (by decide) rfl (by decide +kernel) (by decide) ?_
      refine z_aloadn dX12_behindOne_269 rfl (Or.inl rfl) ?_
      refine y_getf (x := (M 234 22)) dX12_behindOne_270 fX12_209 sh234 (by decide) rfl rfl ?_
      obtain ⟨q5, h⟩ := h
      refine y_iald (x := (M 242 (M 234 22))) dX12_behindOne_273 sh242 q5 rfl ?_
      refine z_iconst dX12_behindOne_274 ki_0 ?_
      refine y_cv (mt2 := mX12_closed) (en := [(2, 234), (0, 1), (0, (M 242 (M 234 22))), (0, 0)]) (st := []) (as := [(0, 1), (0, (M 242 (M 234 22))), (0, 0)]) dX12_behindOne_275 lX12_271 kX12_closed iX12_closed eX12_closed rfl sh234 (by decide +kernel) (Nat.le_of_ble_eq_true rfl) (Nat.le_of_ble_eq_true rfl) rfl ?_
      exact h
  · replace h := h.2.2.2.2.1 q
    refine y_tsw (tgt := 279) (k := 5) dX12_behindOne_134 q (by decide) rfl rfl ?_
    refine z_aloadn dX12_behindOne_279 rfl (Or.inl rfl) ?_
    refine y_getr (v := 242) hG dX12_behindOne_280 fX12_38 sh234 (by decide) rfl (by decide +kernel) (by decide) ?_
    refine z_aloadn dX12_behindOne_283 rfl (Or.inl rfl) ?_
    refine y_getf (x := (M 234 22)) dX12_behindOne_284 fX12_209 sh234 (by decide) rfl rfl ?_
    refine z_aloadn dX12_behindOne_287 rfl (Or.inl rfl) ?_
    refine y_cv (mt2 := mX12_compareAt) (en := [(2, 234)]) (st := [(0, (M 234 22)), (2, 242)]) (as := []) dX12_behindOne_288 lX12_279 kX12_compareAt iX12_compareAt eX12_compareAt rfl sh234 (by decide +kernel) (Nat.le_of_ble_eq_true rfl) (Nat.le_of_ble_eq_true rfl) rfl ?_
    exact h
  · replace h := h.2.2.2.2.2.1 q
    refine y_tsw (tgt := 311) (k := 6) dX12_behindOne_134 q (by decide) rfl rfl ?_
    refine z_aloadn dX12_behindOne_311 rfl (Or.inl rfl) ?_
    refine z_aloadn dX12_behindOne_312 rfl (Or.inl rfl) ?_
    refine y_getf (x := (M 234 10)) dX12_behindOne_313 fX12_169 sh234 (by decide) rfl rfl ?_
    refine z_bipush dX12_behindOne_316 kb_63 ?_
    refine z_icmpne (tgt := 325) dX12_behindOne_318 rfl (fun q => ?_) (fun q => ?_)
    · replace h := h.1 q
      refine z_iconst dX12_behindOne_325 ki_0 ?_
      refine z_bipush dX12_behindOne_326 kb_7 ?_
      refine y_cv (mt2 := mX12_goesOn) (en := [(2, 234), (0, 0), (0, 7)]) (st := []) (as := [(0, 0), (0, 7)]) dX12_behindOne_328 lX12_275 kX12_goesOn iX12_goesOn eX12_goesOn rfl sh234 (by decide +kernel) (Nat.le_of_ble_eq_true rfl) (Nat.le_of_ble_eq_true rfl) rfl ?_
      exact h
    · replace h := h.2 q
      refine z_iconst dX12_behindOne_321 ki_1 ?_
      refine z_goto (tgt := 326) dX12_behindOne_322 rfl ?_
      refine z_bipush dX12_behindOne_326 kb_7 ?_
      refine y_cv (mt2 := mX12_goesOn) (en := [(2, 234), (0, 1), (0, 7)]) (st := []) (as := [(0, 1), (0, 7)]) dX12_behindOne_328 lX12_275 kX12_goesOn iX12_goesOn eX12_goesOn rfl sh234 (by decide +kernel) (Nat.le_of_ble_eq_true rfl) (Nat.le_of_ble_eq_true rfl) rfl ?_
      exact h
  · replace h := h.2.2.2.2.2.2.1 q
    refine y_tsw (tgt := 332) (k := 7) dX12_behindOne_134 q (by decide) rfl rfl ?_
    refine z_aloadn dX12_behindOne_332 rfl (Or.inl rfl) ?_
    refine z_aloadn dX12_behindOne_333 rfl (Or.inl rfl) ?_
    refine y_getf (x := (M 234 10)) dX12_behindOne_334 fX12_169 sh234 (by decide) rfl rfl ?_
    refine z_bipush dX12_behindOne_337 kb_58 ?_
    refine z_icmpne (tgt := 346) dX12_behindOne_339 rfl (fun q => ?_) (fun q => ?_)
    · replace h := h.1 q
      refine z_iconst dX12_behindOne_346 ki_0 ?_
      refine z_bipush dX12_behindOne_347 kb_8 ?_
      refine y_cv (mt2 := mX12_goesOn) (en := [(2, 234), (0, 0), (0, 8)]) (st := []) (as := [(0, 0), (0, 8)]) dX12_behindOne_349 lX12_275 kX12_goesOn iX12_goesOn eX12_goesOn rfl sh234 (by decide +kernel) (Nat.le_of_ble_eq_true rfl) (Nat.le_of_ble_eq_true rfl) rfl ?_
      exact h
    · replace h := h.2 q
      refine z_iconst dX12_behindOne_342 ki_1 ?_
      refine z_goto (tgt := 347) dX12_behindOne_343 rfl ?_
      refine z_bipush dX12_behindOne_347 kb_8 ?_
      refine y_cv (mt2 := mX12_goesOn) (en := [(2, 234), (0, 1), (0, 8)]) (st := []) (as := [(0, 1), (0, 8)]) dX12_behindOne_349 lX12_275 kX12_goesOn iX12_goesOn eX12_goesOn rfl sh234 (by decide +kernel) (Nat.le_of_ble_eq_true rfl) (Nat.le_of_ble_eq_true rfl) rfl ?_
      exact h
  · replace h := h.2.2.2.2.2.2.2.1 q
    refine y_tsw (tgt := 353) (k := 8) dX12_behindOne_134 q (by decide) rfl rfl ?_
    refine z_aloadn dX12_behindOne_353 rfl (Or.inl rfl) ?_
    refine z_aloadn dX12_behindOne_354 rfl (Or.inl rfl) ?_
    refine z_bipush dX12_behindOne_355 kb_101 ?_
    refine z_bipush dX12_behindOne_357 kb_110 ?_
    refine z_bipush dX12_behindOne_359 kb_100 ?_
    refine y_cs (mt2 := mX12_w3) (en := [(0, 101), (0, 110), (0, 100)]) (st := [(2, 234), (2, 234)]) (as := [(0, 101), (0, 110), (0, 100)]) dX12_behindOne_361 lX12_191 kX12_w3 tX12_w3 rfl (Nat.le_of_ble_eq_true rfl) (Nat.le_of_ble_eq_true rfl) rfl ?_
    exact h
set_option maxRecDepth 20000 in
set_option maxHeartbeats 4000000 in
theorem bX12_behindOne_29 {G : zG} {d : Nat} {M : zM} {Q : zV → zM → Prop} (hG : zP G)
    (h : Q (0, 0) M) :
    Y G (d + 1) mX12_behindOne 29 [(2, 234)] [] M Q := by
  refine z_iconst dX12_behindOne_29 ki_0 ?_
  exact z_ireturn dX12_behindOne_30 (Or.inl rfl) rfl h
set_option maxRecDepth 20000 in
set_option maxHeartbeats 4000000 in
theorem bX12_behindOne_119 {G : zG} {d : Nat} {M : zM} {Q : zV → zM → Prop} (hG : zP G)
    (h : Q (0, 0) M) :
    Y G (d + 1) mX12_behindOne 119 [(2, 234)] [] M Q := by
  refine z_iconst dX12_behindOne_119 ki_0 ?_
  exact z_ireturn dX12_behindOne_120 (Or.inl rfl) rfl h
set_option maxRecDepth 20000 in
set_option maxHeartbeats 4000000 in
theorem bX12_behindOne_200 {G : zG} {d : Nat} {M : zM} {Q : zV → zM → Prop} (hG : zP G) {x49 : Int}
    (h : Q (0, x49) M) :
    Y G (d + 1) mX12_behindOne 200 [(2, 234)] [(0, x49)] M Q := by
  exact z_ireturn dX12_behindOne_200 (Or.inl rfl) rfl h
set_option maxRecDepth 20000 in
set_option maxHeartbeats 4000000 in
theorem bX12_behindOne_229 {G : zG} {d : Nat} {M : zM} {Q : zV → zM → Prop} (hG : zP G) {x49 : Int}
    (h : Q (0, x49) M) :
    Y G (d + 1) mX12_behindOne 229 [(2, 234)] [(0, x49)] M Q := by
  exact z_ireturn dX12_behindOne_229 (Or.inl rfl) rfl h
set_option maxRecDepth 20000 in
set_option maxHeartbeats 4000000 in
theorem bX12_behindOne_249 {G : zG} {d : Nat} {M : zM} {Q : zV → zM → Prop} (hG : zP G) {x49 : Int}
    (h : Q (0, x49) M) :
    Y G (d + 1) mX12_behindOne 249 [(2, 234)] [(0, x49)] M Q := by
  exact z_ireturn dX12_behindOne_249 (Or.inl rfl) rfl h
set_option maxRecDepth 20000 in
set_option maxHeartbeats 4000000 in
theorem bX12_behindOne_278 {G : zG} {d : Nat} {M : zM} {Q : zV → zM → Prop} (hG : zP G) {x49 : Int}
    (h : Q (0, x49) M) :
    Y G (d + 1) mX12_behindOne 278 [(2, 234)] [(0, x49)] M Q := by
  exact z_ireturn dX12_behindOne_278 (Or.inl rfl) rfl h
set_option maxRecDepth 20000 in
set_option maxHeartbeats 4000000 in
theorem bX12_behindOne_291 {G : zG} {d : Nat} {M : zM} {Q : zV → zM → Prop} (hG : zP G) {x49 x50 : Int}
    (h : (0 ≤ x50 ∧ x50 < 10) ∧ Y G d mX12_compareAt 0 [(2, 234)] [] (zset M 242 x50 x49) (fun r M' => Y G (d + 1) mX12_behindOne 297 [(2, 234)] (zpush r [(2, 234)]) M' Q)) :
    Y G (d + 1) mX12_behindOne 291 [(2, 234)] [(0, x49), (0, x50), (2, 242)] M Q := by
  obtain ⟨q1, h⟩ := h
  refine y_iast hG dX12_behindOne_291 sh242 q1 ?_
  refine z_aloadn dX12_behindOne_292 rfl (Or.inl rfl) ?_
  refine z_aloadn dX12_behindOne_293 rfl (Or.inl rfl) ?_
  refine y_cv (mt2 := mX12_compareAt) (en := [(2, 234)]) (st := [(2, 234)]) (as := []) dX12_behindOne_294 lX12_279 kX12_compareAt iX12_compareAt eX12_compareAt rfl sh234 (by decide +kernel) (Nat.le_of_ble_eq_true rfl) (Nat.le_of_ble_eq_true rfl) rfl ?_
  exact h
set_option maxRecDepth 20000 in
set_option maxHeartbeats 4000000 in
theorem bX12_behindOne_331 {G : zG} {d : Nat} {M : zM} {Q : zV → zM → Prop} (hG : zP G) {x49 : Int}
    (h : Q (0, x49) M) :
    Y G (d + 1) mX12_behindOne 331 [(2, 234)] [(0, x49)] M Q := by
  exact z_ireturn dX12_behindOne_331 (Or.inl rfl) rfl h
set_option maxRecDepth 20000 in
set_option maxHeartbeats 4000000 in
theorem bX12_behindOne_352 {G : zG} {d : Nat} {M : zM} {Q : zV → zM → Prop} (hG : zP G) {x49 : Int}
    (h : Q (0, x49) M) :
    Y G (d + 1) mX12_behindOne 352 [(2, 234)] [(0, x49)] M Q := by
  exact z_ireturn dX12_behindOne_352 (Or.inl rfl) rfl h
set_option maxRecDepth 20000 in
set_option maxHeartbeats 4000000 in
theorem bX12_behindOne_364 {G : zG} {d : Nat} {M : zM} {Q : zV → zM → Prop} (hG : zP G) {x49 : Int}
    (h : Y G d mX12_isWord 0 [(2, 234), (1, x49), (9, 0)] [] M (fun r M' => Y G (d + 1) mX12_behindOne 367 [(2, 234)] (zpush r [(2, 234)]) M' Q)) :
    Y G (d + 1) mX12_behindOne 364 [(2, 234)] [(1, x49), (2, 234), (2, 234)] M Q := by
  refine y_cv (mt2 := mX12_isWord) (en := [(2, 234), (1, x49), (9, 0)]) (st := [(2, 234)]) (as := [(1, x49)]) dX12_behindOne_364 lX12_219 kX12_isWord iX12_isWord eX12_isWord rfl sh234 (by decide +kernel) (Nat.le_of_ble_eq_true rfl) (Nat.le_of_ble_eq_true rfl) rfl ?_
  exact h
set_option maxRecDepth 20000 in
set_option maxHeartbeats 4000000 in
theorem bX12_behindOne_297 {G : zG} {d : Nat} {M : zM} {Q : zV → zM → Prop} (hG : zP G) {x49 : Int}
    (h : ((x49 < 0 → Y G d mX12_goesOn 0 [(2, 234), (0, 0), (0, 6)] [] M (fun r M' => Y G (d + 1) mX12_behindOne 310 [(2, 234)] (zpush r []) M' Q)) ∧ (0 ≤ x49 → Y G d mX12_goesOn 0 [(2, 234), (0, 1), (0, 6)] [] M (fun r M' => Y G (d + 1) mX12_behindOne 310 [(2, 234)] (zpush r []) M' Q)))) :
    Y G (d + 1) mX12_behindOne 297 [(2, 234)] [(0, x49), (2, 234)] M Q := by
  refine z_iflt (tgt := 304) dX12_behindOne_297 rfl (fun q => ?_) (fun q => ?_)
  · replace h := h.1 q
    refine z_iconst dX12_behindOne_304 ki_0 ?_
    refine z_bipush dX12_behindOne_305 kb_6 ?_
    refine y_cv (mt2 := mX12_goesOn) (en := [(2, 234), (0, 0), (0, 6)]) (st := []) (as := [(0, 0), (0, 6)]) dX12_behindOne_307 lX12_275 kX12_goesOn iX12_goesOn eX12_goesOn rfl sh234 (by decide +kernel) (Nat.le_of_ble_eq_true rfl) (Nat.le_of_ble_eq_true rfl) rfl ?_
    exact h
  · replace h := h.2 q
    refine z_iconst dX12_behindOne_300 ki_1 ?_
    refine z_goto (tgt := 305) dX12_behindOne_301 rfl ?_
    refine z_bipush dX12_behindOne_305 kb_6 ?_
    refine y_cv (mt2 := mX12_goesOn) (en := [(2, 234), (0, 1), (0, 6)]) (st := []) (as := [(0, 1), (0, 6)]) dX12_behindOne_307 lX12_275 kX12_goesOn iX12_goesOn eX12_goesOn rfl sh234 (by decide +kernel) (Nat.le_of_ble_eq_true rfl) (Nat.le_of_ble_eq_true rfl) rfl ?_
    exact h
set_option maxRecDepth 20000 in
set_option maxHeartbeats 4000000 in
theorem bX12_behindOne_367 {G : zG} {d : Nat} {M : zM} {Q : zV → zM → Prop} (hG : zP G) {x49 : Int}
    (h : (0 ≤ (M 234 22) ∧ (M 234 22) < 10) ∧ Y G d mX12_closed 0 [(2, 234), (0, x49), (0, 10), (0, (M 242 (M 234 22)))] [] M (fun r M' => Y G (d + 1) mX12_behindOne 381 [(2, 234)] (zpush r []) M' Q)) :
    Y G (d + 1) mX12_behindOne 367 [(2, 234)] [(0, x49), (2, 234)] M Q := by
  refine z_bipush dX12_behindOne_367 kb_10 ?_
  refine z_aloadn dX12_behindOne_369 rfl (Or.inl rfl) ?_
  refine y_getr (v := 242) hG dX12_behindOne_370 fX12_38 sh234 (by decide) rfl (by decide +kernel) (by decide) ?_
  refine z_aloadn dX12_behindOne_373 rfl (Or.inl rfl) ?_
  refine y_getf (x := (M 234 22)) dX12_behindOne_374 fX12_209 sh234 (by decide) rfl rfl ?_
  obtain ⟨q1, h⟩ := h
  refine y_iald (x := (M 242 (M 234 22))) dX12_behindOne_377 sh242 q1 rfl ?_
  refine y_cv (mt2 := mX12_closed) (en := [(2, 234), (0, x49), (0, 10), (0, (M 242 (M 234 22)))]) (st := []) (as := [(0, x49), (0, 10), (0, (M 242 (M 234 22)))]) dX12_behindOne_378 lX12_271 kX12_closed iX12_closed eX12_closed rfl sh234 (by decide +kernel) (Nat.le_of_ble_eq_true rfl) (Nat.le_of_ble_eq_true rfl) rfl ?_
  exact h
set_option maxRecDepth 20000 in
set_option maxHeartbeats 4000000 in
theorem bX12_behindOne_310 {G : zG} {d : Nat} {M : zM} {Q : zV → zM → Prop} (hG : zP G) {x49 : Int}
    (h : Q (0, x49) M) :
    Y G (d + 1) mX12_behindOne 310 [(2, 234)] [(0, x49)] M Q := by
  exact z_ireturn dX12_behindOne_310 (Or.inl rfl) rfl h
set_option maxRecDepth 20000 in
set_option maxHeartbeats 4000000 in
theorem bX12_behindOne_381 {G : zG} {d : Nat} {M : zM} {Q : zV → zM → Prop} (hG : zP G) {x49 : Int}
    (h : Q (0, x49) M) :
    Y G (d + 1) mX12_behindOne 381 [(2, 234)] [(0, x49)] M Q := by
  exact z_ireturn dX12_behindOne_381 (Or.inl rfl) rfl h
set_option maxRecDepth 20000 in
set_option maxHeartbeats 4000000 in
theorem bX12_summed_0 {G : zG} {d : Nat} {M : zM} {Q : zV → zM → Prop} (hG : zP G)
    (h : Y G d mX12_begin 0 [(2, 234), (0, 0), (0, 0)] [] (zset (zset (zset (zset (zset M 234 22 0) 234 23 0) 234 24 0) 234 25 0) 234 26 (-1)) (fun r M' => Y G (d + 1) mX12_summed 31 [(2, 234), (9, 0)] (zpush r []) M' Q)) :
    Y G (d + 1) mX12_summed 0 [(2, 234), (9, 0)] [] M Q := by
  refine z_aloadn dX12_summed_0 rfl (Or.inl rfl) ?_
  refine z_iconst dX12_summed_1 ki_0 ?_
  refine y_putf (M' := zset M 234 22 0) hG dX12_summed_2 fX12_209 sh234 (by decide) ⟨rfl, rfl⟩ p12_22 (fun q => absurd q (by decide)) (by decide) rfl ?_
  refine z_aloadn dX12_summed_5 rfl (Or.inl rfl) ?_
  refine z_iconst dX12_summed_6 ki_0 ?_
  refine y_putf (M' := zset (zset M 234 22 0) 234 23 0) hG dX12_summed_7 fX12_239 sh234 (by decide) ⟨rfl, rfl⟩ p12_23 (fun q => absurd q (by decide)) (by decide) rfl ?_
  refine z_aloadn dX12_summed_10 rfl (Or.inl rfl) ?_
  refine z_iconst dX12_summed_11 ki_0 ?_
  refine y_putf (M' := zset (zset (zset M 234 22 0) 234 23 0) 234 24 0) hG dX12_summed_12 fX12_223 sh234 (by decide) ⟨rfl, rfl⟩ p12_24 (fun q => absurd q (by decide)) (by decide) rfl ?_
  refine z_aloadn dX12_summed_15 rfl (Or.inl rfl) ?_
  refine z_iconst dX12_summed_16 ki_0 ?_
  refine y_putf (M' := zset (zset (zset (zset M 234 22 0) 234 23 0) 234 24 0) 234 25 0) hG dX12_summed_17 fX12_233 sh234 (by decide) ⟨rfl, rfl⟩ p12_25 (fun q => absurd q (by decide)) (by decide) rfl ?_
  refine z_aloadn dX12_summed_20 rfl (Or.inl rfl) ?_
  refine z_iconst dX12_summed_21 ki_m1 ?_
  refine y_putf (M' := zset (zset (zset (zset (zset M 234 22 0) 234 23 0) 234 24 0) 234 25 0) 234 26 (-1)) hG dX12_summed_22 fX12_242 sh234 (by decide) ⟨rfl, rfl⟩ p12_26 (fun q => absurd q (by decide)) (by decide) rfl ?_
  refine z_aloadn dX12_summed_25 rfl (Or.inl rfl) ?_
  refine z_iconst dX12_summed_26 ki_0 ?_
  refine z_iconst dX12_summed_27 ki_0 ?_
  refine y_cv (mt2 := mX12_begin) (en := [(2, 234), (0, 0), (0, 0)]) (st := []) (as := [(0, 0), (0, 0)]) dX12_summed_28 lX12_226 kX12_begin iX12_begin eX12_begin rfl sh234 (by decide +kernel) (Nat.le_of_ble_eq_true rfl) (Nat.le_of_ble_eq_true rfl) rfl ?_
  exact h
set_option maxRecDepth 20000 in
set_option maxHeartbeats 4000000 in
theorem bX12_summed_36 {G : zG} {d : Nat} {M : zM} {Q : zV → zM → Prop} (hG : zP G)
    (h : (((M 234 27) = 0 → Y G d mX12_beginOne 0 [(2, 234), (9, 0)] [] M (fun r M' => Y G (d + 1) mX12_summed 54 [(2, 234), (9, 0)] (zpush r []) M' Q)) ∧ (¬ (M 234 27) = 0 → Y G d mX12_behindOne 0 [(2, 234)] [] M (fun r M' => Y G (d + 1) mX12_summed 47 [(2, 234), (9, 0)] (zpush r []) M' Q)))) :
    Y G (d + 1) mX12_summed 36 [(2, 234), (9, 0)] [] M Q := by
  refine z_aloadn dX12_summed_36 rfl (Or.inl rfl) ?_
  refine y_getf (x := (M 234 27)) dX12_summed_37 fX12_245 sh234 (by decide) rfl rfl ?_
  refine z_ifeq (tgt := 50) dX12_summed_40 rfl (fun q => ?_) (fun q => ?_)
  · replace h := h.1 q
    refine z_aloadn dX12_summed_50 rfl (Or.inl rfl) ?_
    refine y_cv (mt2 := mX12_beginOne) (en := [(2, 234), (9, 0)]) (st := []) (as := []) dX12_summed_51 lX12_285 kX12_beginOne iX12_beginOne eX12_beginOne rfl sh234 (by decide +kernel) (Nat.le_of_ble_eq_true rfl) (Nat.le_of_ble_eq_true rfl) rfl ?_
    exact h
  · replace h := h.2 q
    refine z_aloadn dX12_summed_43 rfl (Or.inl rfl) ?_
    refine y_cv (mt2 := mX12_behindOne) (en := [(2, 234)]) (st := []) (as := []) dX12_summed_44 lX12_282 kX12_behindOne iX12_behindOne eX12_behindOne rfl sh234 (by decide +kernel) (Nat.le_of_ble_eq_true rfl) (Nat.le_of_ble_eq_true rfl) rfl ?_
    exact h
set_option maxRecDepth 20000 in
set_option maxHeartbeats 4000000 in
theorem bX12_summed_31 {G : zG} {d : Nat} {M : zM} {Q : zV → zM → Prop} (hG : zP G)
    (h : Y G (d + 1) mX12_summed 36 [(2, 234), (9, 0)] [] (zset M 234 27 0) Q) :
    Y G (d + 1) mX12_summed 31 [(2, 234), (9, 0)] [] M Q := by
  refine z_aloadn dX12_summed_31 rfl (Or.inl rfl) ?_
  refine z_iconst dX12_summed_32 ki_0 ?_
  refine y_putf (M' := zset M 234 27 0) hG dX12_summed_33 fX12_245 sh234 (by decide) ⟨rfl, rfl⟩ p12_27 (fun _ => ⟨by decide, by decide⟩) (by decide) rfl ?_
  exact h
set_option maxRecDepth 20000 in
set_option maxHeartbeats 4000000 in
theorem bX12_summed_54 {G : zG} {d : Nat} {M : zM} {Q : zV → zM → Prop} (hG : zP G) {x49 : Int}
    (h : ((¬ x49 = (-1) → ((x49 = 0 → Y G (d + 1) mX12_summed 36 [(2, 234), (9, 0)] [] M Q) ∧ (¬ x49 = 0 → Q (0, x49) M))) ∧ (x49 = (-1) → Q (0, 0) M))) :
    Y G (d + 1) mX12_summed 54 [(2, 234), (9, 0)] [(0, x49)] M Q := by
  refine y_istoren (ls' := [(2, 234), (0, x49)]) dX12_summed_54 rfl rfl ?_
  refine z_iloadn dX12_summed_55 rfl ?_
  refine z_iconst dX12_summed_56 ki_m1 ?_
  refine z_icmpne (tgt := 62) dX12_summed_57 rfl (fun q => ?_) (fun q => ?_)
  · replace h := h.1 q
    refine z_iloadn dX12_summed_62 rfl ?_
    refine z_ifeq (tgt := 68) dX12_summed_63 rfl (fun q => ?_) (fun q => ?_)
    · replace h := h.1 q
      refine z_goto (tgt := 36) dX12_summed_68 rfl ?_
      refine z_sub (ls' := [(2, 234), (9, 0)]) ⟨Or.inl rfl, Or.inr rfl, trivial⟩ ?_
      exact h
    · replace h := h.2 q
      refine z_iloadn dX12_summed_66 rfl ?_
      exact z_ireturn dX12_summed_67 (Or.inl rfl) rfl h
  · replace h := h.2 q
    refine z_iconst dX12_summed_60 ki_0 ?_
    exact z_ireturn dX12_summed_61 (Or.inl rfl) rfl h
set_option maxRecDepth 20000 in
set_option maxHeartbeats 4000000 in
theorem bX12_summed_47 {G : zG} {d : Nat} {M : zM} {Q : zV → zM → Prop} (hG : zP G) {x49 : Int}
    (h : ((¬ x49 = (-1) → ((x49 = 0 → Y G (d + 1) mX12_summed 36 [(2, 234), (9, 0)] [] M Q) ∧ (¬ x49 = 0 → Q (0, x49) M))) ∧ (x49 = (-1) → Q (0, 0) M))) :
    Y G (d + 1) mX12_summed 47 [(2, 234), (9, 0)] [(0, x49)] M Q := by
  refine z_goto (tgt := 54) dX12_summed_47 rfl ?_
  refine y_istoren (ls' := [(2, 234), (0, x49)]) dX12_summed_54 rfl rfl ?_
  refine z_iloadn dX12_summed_55 rfl ?_
  refine z_iconst dX12_summed_56 ki_m1 ?_
  refine z_icmpne (tgt := 62) dX12_summed_57 rfl (fun q => ?_) (fun q => ?_)
  · replace h := h.1 q
    refine z_iloadn dX12_summed_62 rfl ?_
    refine z_ifeq (tgt := 68) dX12_summed_63 rfl (fun q => ?_) (fun q => ?_)
    · replace h := h.1 q
      refine z_goto (tgt := 36) dX12_summed_68 rfl ?_
      refine z_sub (ls' := [(2, 234), (9, 0)]) ⟨Or.inl rfl, Or.inr rfl, trivial⟩ ?_
      exact h
    · replace h := h.2 q
      refine z_iloadn dX12_summed_66 rfl ?_
      exact z_ireturn dX12_summed_67 (Or.inl rfl) rfl h
  · replace h := h.2 q
    refine z_iconst dX12_summed_60 ki_0 ?_
    exact z_ireturn dX12_summed_61 (Or.inl rfl) rfl h
set_option maxRecDepth 20000 in
set_option maxHeartbeats 4000000 in
theorem bX12_figure_0 {G : zG} {d : Nat} {M : zM} {Q : zV → zM → Prop} (hG : zP G) {x1 x2 x3 : Int}
    (h : (((M 234 10) = 1 → ((x2 ≤ (M 234 11) ∧ (M 234 11) ≤ x3 → (-2147483648 ≤ (M 234 16) + 1 ∧ (M 234 16) + 1 ≤ 2147483647) ∧ (-2147483648 ≤ ((M 234 16) + 1) + x1 ∧ ((M 234 16) + 1) + x1 ≤ 2147483647) ∧ (0 ≤ (((M 234 16) + 1) + x1) ∧ (((M 234 16) + 1) + x1) < 3556) ∧ Y G d mX12_nextToken 0 [(2, 234), (9, 0)] [] (zset M 240 (((M 234 16) + 1) + x1) (M 234 11)) (fun r M' => Y G (d + 1) mX12_figure 45 [(2, 234), (0, x1), (0, x2), (0, x3)] (zpush r []) M' Q)) ∧ (¬ (x2 ≤ (M 234 11) ∧ (M 234 11) ≤ x3) → Q (0, 2) M))) ∧ (¬ (M 234 10) = 1 → Q (0, 1) M))) :
    Y G (d + 1) mX12_figure 0 [(2, 234), (0, x1), (0, x2), (0, x3)] [] M Q := by
  refine z_aloadn dX12_figure_0 rfl (Or.inl rfl) ?_
  refine y_getf (x := (M 234 10)) dX12_figure_1 fX12_169 sh234 (by decide) rfl rfl ?_
  refine z_iconst dX12_figure_4 ki_1 ?_
  refine z_icmpeq (tgt := 10) dX12_figure_5 rfl (fun q => ?_) (fun q => ?_)
  · replace h := h.1 q
    refine z_aloadn dX12_figure_10 rfl (Or.inl rfl) ?_
    refine y_getf (x := (M 234 11)) dX12_figure_11 fX12_175 sh234 (by decide) rfl rfl ?_
    refine z_iloadn dX12_figure_14 rfl ?_
    refine z_iloadn dX12_figure_15 rfl ?_
    refine y_cs (mt2 := mX12_isIn) (en := [(0, (M 234 11)), (0, x2), (0, x3)]) (st := []) (as := [(0, (M 234 11)), (0, x2), (0, x3)]) dX12_figure_16 lX12_126 kX12_isIn tX12_isIn rfl (Nat.le_of_ble_eq_true rfl) (Nat.le_of_ble_eq_true rfl) rfl (s_isIn hG (fun q => ?_) (fun q => ?_))
    · replace h := h.1 q
      show Y G (d + 1) mX12_figure 19 [(2, 234), (0, x1), (0, x2), (0, x3)] [(0, 1)] M Q
      refine z_ifne (tgt := 24) dX12_figure_19 rfl (fun _ => ?_) (fun q => absurd q (by decide))
      refine z_aloadn dX12_figure_24 rfl (Or.inl rfl) ?_
      refine y_getr (v := 240) hG dX12_figure_25 fX12_32 sh234 (by decide) rfl (by decide +kernel) (by decide) ?_
      refine z_aloadn dX12_figure_28 rfl (Or.inl rfl) ?_
      refine y_getf (x := (M 234 16)) dX12_figure_29 fX12_288 sh234 (by decide) rfl rfl ?_
      refine z_iconst dX12_figure_32 ki_1 ?_
      obtain ⟨q1, h⟩ := h
      refine z_iadd dX12_figure_33 q1 ?_
      refine z_iloadn dX12_figure_34 rfl ?_
      obtain ⟨q2, h⟩ := h
      refine z_iadd dX12_figure_35 q2 ?_
      refine z_aloadn dX12_figure_36 rfl (Or.inl rfl) ?_
      refine y_getf (x := (M 234 11)) dX12_figure_37 fX12_175 sh234 (by decide) rfl rfl ?_
      obtain ⟨q3, h⟩ := h
      refine y_iast hG dX12_figure_40 sh240 q3 ?_
      refine z_aloadn dX12_figure_41 rfl (Or.inl rfl) ?_
      refine y_cv (mt2 := mX12_nextToken) (en := [(2, 234), (9, 0)]) (st := []) (as := []) dX12_figure_42 lX12_230 kX12_nextToken iX12_nextToken eX12_nextToken rfl sh234 (by decide +kernel) (Nat.le_of_ble_eq_true rfl) (Nat.le_of_ble_eq_true rfl) rfl ?_
      exact h
    · replace h := h.2 q
      show Y G (d + 1) mX12_figure 19 [(2, 234), (0, x1), (0, x2), (0, x3)] [(0, 0)] M Q
      refine z_ifne (tgt := 24) dX12_figure_19 rfl (fun q => absurd q (by decide)) (fun _ => ?_)
      refine z_iconst dX12_figure_22 ki_2 ?_
      exact z_ireturn dX12_figure_23 (Or.inl rfl) rfl h
  · replace h := h.2 q
    refine z_iconst dX12_figure_8 ki_1 ?_
    exact z_ireturn dX12_figure_9 (Or.inl rfl) rfl h
set_option maxRecDepth 20000 in
set_option maxHeartbeats 4000000 in
theorem bX12_figure_45 {G : zG} {d : Nat} {M : zM} {Q : zV → zM → Prop} (hG : zP G) {x1 x2 x3 : Int}
    (h : Q (0, 0) M) :
    Y G (d + 1) mX12_figure 45 [(2, 234), (0, x1), (0, x2), (0, x3)] [] M Q := by
  refine z_iconst dX12_figure_45 ki_0 ?_
  exact z_ireturn dX12_figure_46 (Or.inl rfl) rfl h
set_option maxRecDepth 20000 in
set_option maxHeartbeats 4000000 in
theorem bX12_worded_0 {G : zG} {d : Nat} {M : zM} {Q : zV → zM → Prop} (hG : zP G) {x1 x3 x4 x5 : Int}
    (h : Y G d mX12_isWord 0 [(2, 234), (1, x1), (9, 0)] [] M (fun r M' => Y G (d + 1) mX12_worded 5 [(2, 234), (1, x1), (9, 0), (0, x3), (0, x4), (0, x5)] (zpush r []) M' Q)) :
    Y G (d + 1) mX12_worded 0 [(2, 234), (1, x1), (9, 0), (0, x3), (0, x4), (0, x5)] [] M Q := by
  refine z_aloadn dX12_worded_0 rfl (Or.inl rfl) ?_
  refine z_lloadn dX12_worded_1 rfl ?_
  refine y_cv (mt2 := mX12_isWord) (en := [(2, 234), (1, x1), (9, 0)]) (st := []) (as := [(1, x1)]) dX12_worded_2 lX12_219 kX12_isWord iX12_isWord eX12_isWord rfl sh234 (by decide +kernel) (Nat.le_of_ble_eq_true rfl) (Nat.le_of_ble_eq_true rfl) rfl ?_
  exact h
set_option maxRecDepth 20000 in
set_option maxHeartbeats 4000000 in
theorem bX12_worded_5 {G : zG} {d : Nat} {M : zM} {Q : zV → zM → Prop} (hG : zP G) {x1 x3 x4 x5 x49 : Int}
    (h : ((¬ x49 = 0 → Y G d mX12_nextToken 0 [(2, 234), (9, 0)] [] M (fun r M' => Y G (d + 1) mX12_worded 14 [(2, 234), (1, x1), (9, 0), (0, x3), (0, x4), (0, x5)] (zpush r []) M' Q)) ∧ (x49 = 0 → Q (0, 1) M))) :
    Y G (d + 1) mX12_worded 5 [(2, 234), (1, x1), (9, 0), (0, x3), (0, x4), (0, x5)] [(0, x49)] M Q := by
  refine z_ifne (tgt := 10) dX12_worded_5 rfl (fun q => ?_) (fun q => ?_)
  · replace h := h.1 q
    refine z_aloadn dX12_worded_10 rfl (Or.inl rfl) ?_
    refine y_cv (mt2 := mX12_nextToken) (en := [(2, 234), (9, 0)]) (st := []) (as := []) dX12_worded_11 lX12_230 kX12_nextToken iX12_nextToken eX12_nextToken rfl sh234 (by decide +kernel) (Nat.le_of_ble_eq_true rfl) (Nat.le_of_ble_eq_true rfl) rfl ?_
    exact h
  · replace h := h.2 q
    refine z_iconst dX12_worded_8 ki_1 ?_
    exact z_ireturn dX12_worded_9 (Or.inl rfl) rfl h
set_option maxRecDepth 20000 in
set_option maxHeartbeats 4000000 in
theorem bX12_worded_14 {G : zG} {d : Nat} {M : zM} {Q : zV → zM → Prop} (hG : zP G) {x1 x3 x4 x5 : Int}
    (h : Y G d mX12_figure 0 [(2, 234), (0, x3), (0, x4), (0, x5)] [] M (fun r M' => Y G (d + 1) mX12_worded 23 [(2, 234), (1, x1), (9, 0), (0, x3), (0, x4), (0, x5)] (zpush r []) M' Q)) :
    Y G (d + 1) mX12_worded 14 [(2, 234), (1, x1), (9, 0), (0, x3), (0, x4), (0, x5)] [] M Q := by
  refine z_aloadn dX12_worded_14 rfl (Or.inl rfl) ?_
  refine z_iloadn dX12_worded_15 rfl ?_
  refine z_iload dX12_worded_16 rfl ?_
  refine z_iload dX12_worded_18 rfl ?_
  refine y_cv (mt2 := mX12_figure) (en := [(2, 234), (0, x3), (0, x4), (0, x5)]) (st := []) (as := [(0, x3), (0, x4), (0, x5)]) dX12_worded_20 lX12_291 kX12_figure iX12_figure eX12_figure rfl sh234 (by decide +kernel) (Nat.le_of_ble_eq_true rfl) (Nat.le_of_ble_eq_true rfl) rfl ?_
  exact h
set_option maxRecDepth 20000 in
set_option maxHeartbeats 4000000 in
theorem bX12_worded_23 {G : zG} {d : Nat} {M : zM} {Q : zV → zM → Prop} (hG : zP G) {x1 x3 x4 x5 x49 : Int}
    (h : Q (0, x49) M) :
    Y G (d + 1) mX12_worded 23 [(2, 234), (1, x1), (9, 0), (0, x3), (0, x4), (0, x5)] [(0, x49)] M Q := by
  exact z_ireturn dX12_worded_23 (Or.inl rfl) rfl h
set_option maxRecDepth 20000 in
set_option maxHeartbeats 4000000 in
theorem bX12_let_0 {G : zG} {d : Nat} {M : zM} {Q : zV → zM → Prop} (hG : zP G)
    (h : Y G d mX12_thingAt 0 [(2, 234)] [] M (fun r M' => Y G (d + 1) mX12_let 4 [(2, 234)] (zpush r []) M' Q)) :
    Y G (d + 1) mX12_let 0 [(2, 234)] [] M Q := by
  refine z_aloadn dX12_let_0 rfl (Or.inl rfl) ?_
  refine y_cv (mt2 := mX12_thingAt) (en := [(2, 234)]) (st := []) (as := []) dX12_let_1 lX12_253 kX12_thingAt iX12_thingAt eX12_thingAt rfl sh234 (by decide +kernel) (Nat.le_of_ble_eq_true rfl) (Nat.le_of_ble_eq_true rfl) rfl ?_
  exact h
set_option maxRecDepth 20000 in
set_option maxHeartbeats 4000000 in
theorem bX12_let_4 {G : zG} {d : Nat} {M : zM} {Q : zV → zM → Prop} (hG : zP G) {x49 : Int}
    (h : ((0 ≤ x49 → (-2147483648 ≤ (M 234 16) + 1 ∧ (M 234 16) + 1 ≤ 2147483647) ∧ Y G d mX12_thingAt 0 [(2, 234)] [] M (fun r M' => Y G (d + 1) mX12_let 23 [(2, 234)] (zpush r [(0, ((M 234 16) + 1)), (2, 240)]) M' Q)) ∧ (x49 < 0 → Q (0, 1) M))) :
    Y G (d + 1) mX12_let 4 [(2, 234)] [(0, x49)] M Q := by
  refine z_ifge (tgt := 9) dX12_let_4 rfl (fun q => ?_) (fun q => ?_)
  · replace h := h.1 q
    refine z_aloadn dX12_let_9 rfl (Or.inl rfl) ?_
    refine y_getr (v := 240) hG dX12_let_10 fX12_32 sh234 (by decide) rfl (by decide +kernel) (by decide) ?_
    refine z_aloadn dX12_let_13 rfl (Or.inl rfl) ?_
    refine y_getf (x := (M 234 16)) dX12_let_14 fX12_288 sh234 (by decide) rfl rfl ?_
    refine z_iconst dX12_let_17 ki_1 ?_
    obtain ⟨q1, h⟩ := h
    refine z_iadd dX12_let_18 q1 ?_
    refine z_aloadn dX12_let_19 rfl (Or.inl rfl) ?_
    refine y_cv (mt2 := mX12_thingAt) (en := [(2, 234)]) (st := [(0, ((M 234 16) + 1)), (2, 240)]) (as := []) dX12_let_20 lX12_253 kX12_thingAt iX12_thingAt eX12_thingAt rfl sh234 (by decide +kernel) (Nat.le_of_ble_eq_true rfl) (Nat.le_of_ble_eq_true rfl) rfl ?_
    exact h
  · replace h := h.2 q
    refine z_iconst dX12_let_7 ki_1 ?_
    exact z_ireturn dX12_let_8 (Or.inl rfl) rfl h
set_option maxRecDepth 20000 in
set_option maxHeartbeats 4000000 in
theorem bX12_let_23 {G : zG} {d : Nat} {M : zM} {Q : zV → zM → Prop} (hG : zP G) {x49 x50 : Int}
    (h : (0 ≤ x50 ∧ x50 < 3556) ∧ Y G d mX12_nextToken 0 [(2, 234), (9, 0)] [] (zset M 240 x50 x49) (fun r M' => Y G (d + 1) mX12_let 28 [(2, 234)] (zpush r []) M' Q)) :
    Y G (d + 1) mX12_let 23 [(2, 234)] [(0, x49), (0, x50), (2, 240)] M Q := by
  obtain ⟨q1, h⟩ := h
  refine y_iast hG dX12_let_23 sh240 q1 ?_
  refine z_aloadn dX12_let_24 rfl (Or.inl rfl) ?_
  refine y_cv (mt2 := mX12_nextToken) (en := [(2, 234), (9, 0)]) (st := []) (as := []) dX12_let_25 lX12_230 kX12_nextToken iX12_nextToken eX12_nextToken rfl sh234 (by decide +kernel) (Nat.le_of_ble_eq_true rfl) (Nat.le_of_ble_eq_true rfl) rfl ?_
  exact h
set_option maxRecDepth 20000 in
set_option maxHeartbeats 4000000 in
theorem bX12_let_28 {G : zG} {d : Nat} {M : zM} {Q : zV → zM → Prop} (hG : zP G)
    (h : Y G d mX12_worded 0 [(2, 234), (1, 25189), (9, 0), (0, 1), (0, 0), (0, 99)] [] M (fun r M' => Y G (d + 1) mX12_let 39 [(2, 234)] (zpush r []) M' Q)) :
    Y G (d + 1) mX12_let 28 [(2, 234)] [] M Q := by
  refine z_aloadn dX12_let_28 rfl (Or.inl rfl) ?_
  refine z_ldc2 (k := 25189) (v := 25189) dX12_let_29 ⟨by decide, ⟨by decide, by decide⟩⟩ qlX12_295 ?_
  refine z_iconst dX12_let_32 ki_1 ?_
  refine z_iconst dX12_let_33 ki_0 ?_
  refine z_bipush dX12_let_34 kb_99 ?_
  refine y_cv (mt2 := mX12_worded) (en := [(2, 234), (1, 25189), (9, 0), (0, 1), (0, 0), (0, 99)]) (st := []) (as := [(1, 25189), (0, 1), (0, 0), (0, 99)]) dX12_let_36 lX12_297 kX12_worded iX12_worded eX12_worded rfl sh234 (by decide +kernel) (Nat.le_of_ble_eq_true rfl) (Nat.le_of_ble_eq_true rfl) rfl ?_
  exact h
set_option maxRecDepth 20000 in
set_option maxHeartbeats 4000000 in
theorem bX12_let_39 {G : zG} {d : Nat} {M : zM} {Q : zV → zM → Prop} (hG : zP G) {x49 : Int}
    (h : Q (0, x49) M) :
    Y G (d + 1) mX12_let 39 [(2, 234)] [(0, x49)] M Q := by
  exact z_ireturn dX12_let_39 (Or.inl rfl) rfl h
set_option maxRecDepth 20000 in
set_option maxHeartbeats 4000000 in
theorem bX12_born_0 {G : zG} {d : Nat} {M : zM} {Q : zV → zM → Prop} (hG : zP G)
    (h : Y G d mX12_figure 0 [(2, 234), (0, 0), (0, 0), (0, 99)] [] M (fun r M' => Y G (d + 1) mX12_born 8 [(2, 234), (9, 0)] (zpush r []) M' Q)) :
    Y G (d + 1) mX12_born 0 [(2, 234), (9, 0)] [] M Q := by
  refine z_aloadn dX12_born_0 rfl (Or.inl rfl) ?_
  refine z_iconst dX12_born_1 ki_0 ?_
  refine z_iconst dX12_born_2 ki_0 ?_
  refine z_bipush dX12_born_3 kb_99 ?_
  refine y_cv (mt2 := mX12_figure) (en := [(2, 234), (0, 0), (0, 0), (0, 99)]) (st := []) (as := [(0, 0), (0, 0), (0, 99)]) dX12_born_5 lX12_291 kX12_figure iX12_figure eX12_figure rfl sh234 (by decide +kernel) (Nat.le_of_ble_eq_true rfl) (Nat.le_of_ble_eq_true rfl) rfl ?_
  exact h
set_option maxRecDepth 20000 in
set_option maxHeartbeats 4000000 in
theorem bX12_born_8 {G : zG} {d : Nat} {M : zM} {Q : zV → zM → Prop} (hG : zP G) {x49 : Int}
    (h : (-2147483648 ≤ (M 234 16) + 2 ∧ (M 234 16) + 2 ≤ 2147483647) ∧ (0 ≤ ((M 234 16) + 2) ∧ ((M 234 16) + 2) < 3556) ∧ (-2147483648 ≤ (M 234 16) + 3 ∧ (M 234 16) + 3 ≤ 2147483647) ∧ (0 ≤ ((M 234 16) + 3) ∧ ((M 234 16) + 3) < 3556) ∧ ((¬ x49 = 0 → Q (0, x49) (zset (zset M 240 ((M 234 16) + 2) (-1)) 240 ((M 234 16) + 3) (-1))) ∧ (x49 = 0 → ((¬ (M 234 10) = 59 → Y G d mX12_worded 0 [(2, 234), (1, 28518), (9, 0), (0, 1), (0, 0), (0, 7)] [] (zset (zset M 240 ((M 234 16) + 2) (-1)) 240 ((M 234 16) + 3) (-1)) (fun r M' => Y G (d + 1) mX12_born 59 [(2, 234), (0, x49)] (zpush r []) M' Q)) ∧ ((M 234 10) = 59 → Q (0, x49) (zset (zset M 240 ((M 234 16) + 2) (-1)) 240 ((M 234 16) + 3) (-1))))))) :
    Y G (d + 1) mX12_born 8 [(2, 234), (9, 0)] [(0, x49)] M Q := by
  refine y_istoren (ls' := [(2, 234), (0, x49)]) dX12_born_8 rfl rfl ?_
  refine z_aloadn dX12_born_9 rfl (Or.inl rfl) ?_
  refine y_getr (v := 240) hG dX12_born_10 fX12_32 sh234 (by decide) rfl (by decide +kernel) (by decide) ?_
  refine z_aloadn dX12_born_13 rfl (Or.inl rfl) ?_
  refine y_getf (x := (M 234 16)) dX12_born_14 fX12_288 sh234 (by decide) rfl rfl ?_
  refine z_iconst dX12_born_17 ki_2 ?_
  obtain ⟨q1, h⟩ := h
  refine z_iadd dX12_born_18 q1 ?_
  refine z_iconst dX12_born_19 ki_m1 ?_
  obtain ⟨q2, h⟩ := h
  refine y_iast hG dX12_born_20 sh240 q2 ?_
  refine z_aloadn dX12_born_21 rfl (Or.inl rfl) ?_
  refine y_getr (v := 240) hG dX12_born_22 fX12_32 sh234 (by decide) rfl (by decide +kernel) (by decide) ?_
  refine z_aloadn dX12_born_25 rfl (Or.inl rfl) ?_
  refine y_getf (x := (M 234 16)) dX12_born_26 fX12_288 sh234 (by decide) rfl (zset_ne (fun q => absurd q.1 (by decide))) ?_
  refine z_iconst dX12_born_29 ki_3 ?_
  obtain ⟨q3, h⟩ := h
  refine z_iadd dX12_born_30 q3 ?_
  refine z_iconst dX12_born_31 ki_m1 ?_
  obtain ⟨q4, h⟩ := h
  refine y_iast hG dX12_born_32 sh240 q4 ?_
  refine z_iloadn dX12_born_33 rfl ?_
  refine z_ifne (tgt := 46) dX12_born_34 rfl (fun q => ?_) (fun q => ?_)
  · replace h := h.1 q
    refine z_iloadn dX12_born_46 rfl ?_
    exact z_ireturn dX12_born_47 (Or.inl rfl) rfl h
  · replace h := h.2 q
    refine z_aloadn dX12_born_37 rfl (Or.inl rfl) ?_
    refine y_getf (x := (M 234 10)) dX12_born_38 fX12_169 sh234 (by decide) rfl (((zset_ne (fun q => absurd q.1 (by decide))).trans (zset_ne (fun q => absurd q.1 (by decide))))) ?_
    refine z_bipush dX12_born_41 kb_59 ?_
    refine z_icmpne (tgt := 48) dX12_born_43 rfl (fun q => ?_) (fun q => ?_)
    · replace h := h.1 q
      refine z_aloadn dX12_born_48 rfl (Or.inl rfl) ?_
      refine z_ldc2 (k := 28518) (v := 28518) dX12_born_49 ⟨by decide, ⟨by decide, by decide⟩⟩ qlX12_301 ?_
      refine z_iconst dX12_born_52 ki_1 ?_
      refine z_iconst dX12_born_53 ki_0 ?_
      refine z_bipush dX12_born_54 kb_7 ?_
      refine y_cv (mt2 := mX12_worded) (en := [(2, 234), (1, 28518), (9, 0), (0, 1), (0, 0), (0, 7)]) (st := []) (as := [(1, 28518), (0, 1), (0, 0), (0, 7)]) dX12_born_56 lX12_297 kX12_worded iX12_worded eX12_worded rfl sh234 (by decide +kernel) (Nat.le_of_ble_eq_true rfl) (Nat.le_of_ble_eq_true rfl) rfl ?_
      exact h
    · replace h := h.2 q
      refine z_iloadn dX12_born_46 rfl ?_
      exact z_ireturn dX12_born_47 (Or.inl rfl) rfl h
set_option maxRecDepth 20000 in
set_option maxHeartbeats 4000000 in
theorem bX12_born_59 {G : zG} {d : Nat} {M : zM} {Q : zV → zM → Prop} (hG : zP G) {x1 x49 : Int}
    (h : ((x49 = 0 → Y G d mX12_w3 0 [(0, 97), (0, 110), (0, 100)] [] M (fun r M' => Y G (d + 1) mX12_born 78 [(2, 234), (0, x49)] (zpush r [(2, 234)]) M' Q)) ∧ (¬ x49 = 0 → Q (0, x49) M))) :
    Y G (d + 1) mX12_born 59 [(2, 234), (0, x1)] [(0, x49)] M Q := by
  refine y_istoren (ls' := [(2, 234), (0, x49)]) dX12_born_59 rfl rfl ?_
  refine z_iloadn dX12_born_60 rfl ?_
  refine z_ifeq (tgt := 68) dX12_born_61 rfl (fun q => ?_) (fun q => ?_)
  · replace h := h.1 q
    refine z_aloadn dX12_born_68 rfl (Or.inl rfl) ?_
    refine z_bipush dX12_born_69 kb_97 ?_
    refine z_bipush dX12_born_71 kb_110 ?_
    refine z_bipush dX12_born_73 kb_100 ?_
    refine y_cs (mt2 := mX12_w3) (en := [(0, 97), (0, 110), (0, 100)]) (st := [(2, 234)]) (as := [(0, 97), (0, 110), (0, 100)]) dX12_born_75 lX12_191 kX12_w3 tX12_w3 rfl (Nat.le_of_ble_eq_true rfl) (Nat.le_of_ble_eq_true rfl) rfl ?_
    exact h
  · replace h := h.2 q
    refine z_iloadn dX12_born_64 rfl ?_
    refine z_goto (tgt := 85) dX12_born_65 rfl ?_
    exact z_ireturn dX12_born_85 (Or.inl rfl) rfl h
set_option maxRecDepth 20000 in
set_option maxHeartbeats 4000000 in
theorem bX12_born_78 {G : zG} {d : Nat} {M : zM} {Q : zV → zM → Prop} (hG : zP G) {x1 x49 : Int}
    (h : Y G d mX12_worded 0 [(2, 234), (1, x49), (9, 0), (0, 2), (0, 0), (0, 7)] [] M (fun r M' => Y G (d + 1) mX12_born 85 [(2, 234), (0, x1)] (zpush r []) M' Q)) :
    Y G (d + 1) mX12_born 78 [(2, 234), (0, x1)] [(1, x49), (2, 234)] M Q := by
  refine z_iconst dX12_born_78 ki_2 ?_
  refine z_iconst dX12_born_79 ki_0 ?_
  refine z_bipush dX12_born_80 kb_7 ?_
  refine y_cv (mt2 := mX12_worded) (en := [(2, 234), (1, x49), (9, 0), (0, 2), (0, 0), (0, 7)]) (st := []) (as := [(1, x49), (0, 2), (0, 0), (0, 7)]) dX12_born_82 lX12_297 kX12_worded iX12_worded eX12_worded rfl sh234 (by decide +kernel) (Nat.le_of_ble_eq_true rfl) (Nat.le_of_ble_eq_true rfl) rfl ?_
  exact h
set_option maxRecDepth 20000 in
set_option maxHeartbeats 4000000 in
theorem bX12_born_85 {G : zG} {d : Nat} {M : zM} {Q : zV → zM → Prop} (hG : zP G) {x1 x49 : Int}
    (h : Q (0, x49) M) :
    Y G (d + 1) mX12_born 85 [(2, 234), (0, x1)] [(0, x49)] M Q := by
  exact z_ireturn dX12_born_85 (Or.inl rfl) rfl h
set_option maxRecDepth 20000 in
set_option maxHeartbeats 4000000 in
theorem bX12_path_0 {G : zG} {d : Nat} {M : zM} {Q : zV → zM → Prop} (hG : zP G)
    (h : Y G d mX12_figure 0 [(2, 234), (0, 0), (0, 0), (0, 5)] [] M (fun r M' => Y G (d + 1) mX12_path 7 [(2, 234), (9, 0)] (zpush r []) M' Q)) :
    Y G (d + 1) mX12_path 0 [(2, 234), (9, 0)] [] M Q := by
  refine z_aloadn dX12_path_0 rfl (Or.inl rfl) ?_
  refine z_iconst dX12_path_1 ki_0 ?_
  refine z_iconst dX12_path_2 ki_0 ?_
  refine z_iconst dX12_path_3 ki_5 ?_
  refine y_cv (mt2 := mX12_figure) (en := [(2, 234), (0, 0), (0, 0), (0, 5)]) (st := []) (as := [(0, 0), (0, 0), (0, 5)]) dX12_path_4 lX12_291 kX12_figure iX12_figure eX12_figure rfl sh234 (by decide +kernel) (Nat.le_of_ble_eq_true rfl) (Nat.le_of_ble_eq_true rfl) rfl ?_
  exact h
set_option maxRecDepth 20000 in
set_option maxHeartbeats 4000000 in
theorem bX12_path_7 {G : zG} {d : Nat} {M : zM} {Q : zV → zM → Prop} (hG : zP G) {x49 : Int}
    (h : ((¬ x49 = 0 → ((x49 = 0 → Y G d mX12_w4 0 [(0, 108), (0, 111), (0, 110), (0, 103)] [] M (fun r M' => Y G (d + 1) mX12_path 43 [(2, 234), (0, x49)] (zpush r [(2, 234)]) M' Q)) ∧ (¬ x49 = 0 → Q (0, x49) M))) ∧ (x49 = 0 → Y G d mX12_worded 0 [(2, 234), (1, 29807), (9, 0), (0, 1), (0, 0), (0, 5)] [] M (fun r M' => Y G (d + 1) mX12_path 22 [(2, 234), (0, x49)] (zpush r []) M' Q)))) :
    Y G (d + 1) mX12_path 7 [(2, 234), (9, 0)] [(0, x49)] M Q := by
  refine y_istoren (ls' := [(2, 234), (0, x49)]) dX12_path_7 rfl rfl ?_
  refine z_iloadn dX12_path_8 rfl ?_
  refine z_ifne (tgt := 23) dX12_path_9 rfl (fun q => ?_) (fun q => ?_)
  · replace h := h.1 q
    refine z_iloadn dX12_path_23 rfl ?_
    refine z_ifeq (tgt := 31) dX12_path_24 rfl (fun q => ?_) (fun q => ?_)
    · replace h := h.1 q
      refine z_aloadn dX12_path_31 rfl (Or.inl rfl) ?_
      refine z_bipush dX12_path_32 kb_108 ?_
      refine z_bipush dX12_path_34 kb_111 ?_
      refine z_bipush dX12_path_36 kb_110 ?_
      refine z_bipush dX12_path_38 kb_103 ?_
      refine y_cs (mt2 := mX12_w4) (en := [(0, 108), (0, 111), (0, 110), (0, 103)]) (st := [(2, 234)]) (as := [(0, 108), (0, 111), (0, 110), (0, 103)]) dX12_path_40 lX12_195 kX12_w4 tX12_w4 rfl (Nat.le_of_ble_eq_true rfl) (Nat.le_of_ble_eq_true rfl) rfl ?_
      exact h
    · replace h := h.2 q
      refine z_iloadn dX12_path_27 rfl ?_
      refine z_goto (tgt := 50) dX12_path_28 rfl ?_
      exact z_ireturn dX12_path_50 (Or.inl rfl) rfl h
  · replace h := h.2 q
    refine z_aloadn dX12_path_12 rfl (Or.inl rfl) ?_
    refine z_ldc2 (k := 29807) (v := 29807) dX12_path_13 ⟨by decide, ⟨by decide, by decide⟩⟩ qlX12_303 ?_
    refine z_iconst dX12_path_16 ki_1 ?_
    refine z_iconst dX12_path_17 ki_0 ?_
    refine z_iconst dX12_path_18 ki_5 ?_
    refine y_cv (mt2 := mX12_worded) (en := [(2, 234), (1, 29807), (9, 0), (0, 1), (0, 0), (0, 5)]) (st := []) (as := [(1, 29807), (0, 1), (0, 0), (0, 5)]) dX12_path_19 lX12_297 kX12_worded iX12_worded eX12_worded rfl sh234 (by decide +kernel) (Nat.le_of_ble_eq_true rfl) (Nat.le_of_ble_eq_true rfl) rfl ?_
    exact h
set_option maxRecDepth 20000 in
set_option maxHeartbeats 4000000 in
theorem bX12_path_43 {G : zG} {d : Nat} {M : zM} {Q : zV → zM → Prop} (hG : zP G) {x1 x49 : Int}
    (h : Y G d mX12_worded 0 [(2, 234), (1, x49), (9, 0), (0, 2), (0, 1), (0, 99)] [] M (fun r M' => Y G (d + 1) mX12_path 50 [(2, 234), (0, x1)] (zpush r []) M' Q)) :
    Y G (d + 1) mX12_path 43 [(2, 234), (0, x1)] [(1, x49), (2, 234)] M Q := by
  refine z_iconst dX12_path_43 ki_2 ?_
  refine z_iconst dX12_path_44 ki_1 ?_
  refine z_bipush dX12_path_45 kb_99 ?_
  refine y_cv (mt2 := mX12_worded) (en := [(2, 234), (1, x49), (9, 0), (0, 2), (0, 1), (0, 99)]) (st := []) (as := [(1, x49), (0, 2), (0, 1), (0, 99)]) dX12_path_47 lX12_297 kX12_worded iX12_worded eX12_worded rfl sh234 (by decide +kernel) (Nat.le_of_ble_eq_true rfl) (Nat.le_of_ble_eq_true rfl) rfl ?_
  exact h
set_option maxRecDepth 20000 in
set_option maxHeartbeats 4000000 in
theorem bX12_path_22 {G : zG} {d : Nat} {M : zM} {Q : zV → zM → Prop} (hG : zP G) {x1 x49 : Int}
    (h : ((x49 = 0 → Y G d mX12_w4 0 [(0, 108), (0, 111), (0, 110), (0, 103)] [] M (fun r M' => Y G (d + 1) mX12_path 43 [(2, 234), (0, x49)] (zpush r [(2, 234)]) M' Q)) ∧ (¬ x49 = 0 → Q (0, x49) M))) :
    Y G (d + 1) mX12_path 22 [(2, 234), (0, x1)] [(0, x49)] M Q := by
  refine y_istoren (ls' := [(2, 234), (0, x49)]) dX12_path_22 rfl rfl ?_
  refine z_iloadn dX12_path_23 rfl ?_
  refine z_ifeq (tgt := 31) dX12_path_24 rfl (fun q => ?_) (fun q => ?_)
  · replace h := h.1 q
    refine z_aloadn dX12_path_31 rfl (Or.inl rfl) ?_
    refine z_bipush dX12_path_32 kb_108 ?_
    refine z_bipush dX12_path_34 kb_111 ?_
    refine z_bipush dX12_path_36 kb_110 ?_
    refine z_bipush dX12_path_38 kb_103 ?_
    refine y_cs (mt2 := mX12_w4) (en := [(0, 108), (0, 111), (0, 110), (0, 103)]) (st := [(2, 234)]) (as := [(0, 108), (0, 111), (0, 110), (0, 103)]) dX12_path_40 lX12_195 kX12_w4 tX12_w4 rfl (Nat.le_of_ble_eq_true rfl) (Nat.le_of_ble_eq_true rfl) rfl ?_
    exact h
  · replace h := h.2 q
    refine z_iloadn dX12_path_27 rfl ?_
    refine z_goto (tgt := 50) dX12_path_28 rfl ?_
    exact z_ireturn dX12_path_50 (Or.inl rfl) rfl h
set_option maxRecDepth 20000 in
set_option maxHeartbeats 4000000 in
theorem bX12_path_50 {G : zG} {d : Nat} {M : zM} {Q : zV → zM → Prop} (hG : zP G) {x1 x49 : Int}
    (h : Q (0, x49) M) :
    Y G (d + 1) mX12_path 50 [(2, 234), (0, x1)] [(0, x49)] M Q := by
  exact z_ireturn dX12_path_50 (Or.inl rfl) rfl h
set_option maxRecDepth 20000 in
set_option maxHeartbeats 4000000 in
theorem bX12_pupilClause_0 {G : zG} {d : Nat} {M : zM} {Q : zV → zM → Prop} (hG : zP G)
    (h : Y G d mX12_figure 0 [(2, 234), (0, 0), (0, 1), (0, 99)] [] M (fun r M' => Y G (d + 1) mX12_pupilClause 8 [(2, 234), (9, 0)] (zpush r []) M' Q)) :
    Y G (d + 1) mX12_pupilClause 0 [(2, 234), (9, 0)] [] M Q := by
  refine z_aloadn dX12_pupilClause_0 rfl (Or.inl rfl) ?_
  refine z_iconst dX12_pupilClause_1 ki_0 ?_
  refine z_iconst dX12_pupilClause_2 ki_1 ?_
  refine z_bipush dX12_pupilClause_3 kb_99 ?_
  refine y_cv (mt2 := mX12_figure) (en := [(2, 234), (0, 0), (0, 1), (0, 99)]) (st := []) (as := [(0, 0), (0, 1), (0, 99)]) dX12_pupilClause_5 lX12_291 kX12_figure iX12_figure eX12_figure rfl sh234 (by decide +kernel) (Nat.le_of_ble_eq_true rfl) (Nat.le_of_ble_eq_true rfl) rfl ?_
  exact h
set_option maxRecDepth 20000 in
set_option maxHeartbeats 4000000 in
theorem bX12_pupilClause_8 {G : zG} {d : Nat} {M : zM} {Q : zV → zM → Prop} (hG : zP G) {x49 : Int}
    (h : ((¬ x49 = 0 → ((¬ x49 = 0 → ((¬ x49 = 0 → ((x49 = 0 → Y G d mX12_w4 0 [(0, 108), (0, 111), (0, 110), (0, 103)] [] M (fun r M' => Y G (d + 1) mX12_pupilClause 96 [(2, 234), (0, x49)] (zpush r [(2, 234)]) M' Q)) ∧ (¬ x49 = 0 → Q (0, x49) M))) ∧ (x49 = 0 → Y G d mX12_w4 0 [(0, 100), (0, 101), (0, 101), (0, 112)] [] M (fun r M' => Y G (d + 1) mX12_pupilClause 68 [(2, 234), (0, x49)] (zpush r [(2, 234)]) M' Q)))) ∧ (x49 = 0 → Y G d mX12_worded 0 [(2, 234), (1, 29807), (9, 0), (0, 2), (0, 0), (0, 99)] [] M (fun r M' => Y G (d + 1) mX12_pupilClause 51 [(2, 234), (0, x49)] (zpush r []) M' Q)))) ∧ (x49 = 0 → Y G d mX12_w5 0 [(0, 107), (0, 110), (0, 111), (0, 119), (0, 115)] [] M (fun r M' => Y G (d + 1) mX12_pupilClause 27 [(2, 234), (0, x49)] (zpush r [(2, 234)]) M' Q)))) :
    Y G (d + 1) mX12_pupilClause 8 [(2, 234), (9, 0)] [(0, x49)] M Q := by
  refine y_istoren (ls' := [(2, 234), (0, x49)]) dX12_pupilClause_8 rfl rfl ?_
  refine z_iloadn dX12_pupilClause_9 rfl ?_
  refine z_ifne (tgt := 36) dX12_pupilClause_10 rfl (fun q => ?_) (fun q => ?_)
  · replace h := h.1 q
    refine z_iloadn dX12_pupilClause_36 rfl ?_
    refine z_ifne (tgt := 52) dX12_pupilClause_37 rfl (fun q => ?_) (fun q => ?_)
    · replace h := h.1 q
      refine z_iloadn dX12_pupilClause_52 rfl ?_
      refine z_ifne (tgt := 76) dX12_pupilClause_53 rfl (fun q => ?_) (fun q => ?_)
      · replace h := h.1 q
        refine z_iloadn dX12_pupilClause_76 rfl ?_
        refine z_ifeq (tgt := 84) dX12_pupilClause_77 rfl (fun q => ?_) (fun q => ?_)
        · replace h := h.1 q
          refine z_aloadn dX12_pupilClause_84 rfl (Or.inl rfl) ?_
          refine z_bipush dX12_pupilClause_85 kb_108 ?_
          refine z_bipush dX12_pupilClause_87 kb_111 ?_
          refine z_bipush dX12_pupilClause_89 kb_110 ?_
          refine z_bipush dX12_pupilClause_91 kb_103 ?_
          refine y_cs (mt2 := mX12_w4) (en := [(0, 108), (0, 111), (0, 110), (0, 103)]) (st := [(2, 234)]) (as := [(0, 108), (0, 111), (0, 110), (0, 103)]) dX12_pupilClause_93 lX12_195 kX12_w4 tX12_w4 rfl (Nat.le_of_ble_eq_true rfl) (Nat.le_of_ble_eq_true rfl) rfl ?_
          exact h
        · replace h := h.2 q
          refine z_iloadn dX12_pupilClause_80 rfl ?_
          refine z_goto (tgt := 103) dX12_pupilClause_81 rfl ?_
          exact z_ireturn dX12_pupilClause_103 (Or.inl rfl) rfl h
      · replace h := h.2 q
        refine z_aloadn dX12_pupilClause_56 rfl (Or.inl rfl) ?_
        refine z_bipush dX12_pupilClause_57 kb_100 ?_
        refine z_bipush dX12_pupilClause_59 kb_101 ?_
        refine z_bipush dX12_pupilClause_61 kb_101 ?_
        refine z_bipush dX12_pupilClause_63 kb_112 ?_
        refine y_cs (mt2 := mX12_w4) (en := [(0, 100), (0, 101), (0, 101), (0, 112)]) (st := [(2, 234)]) (as := [(0, 100), (0, 101), (0, 101), (0, 112)]) dX12_pupilClause_65 lX12_195 kX12_w4 tX12_w4 rfl (Nat.le_of_ble_eq_true rfl) (Nat.le_of_ble_eq_true rfl) rfl ?_
        exact h
    · replace h := h.2 q
      refine z_aloadn dX12_pupilClause_40 rfl (Or.inl rfl) ?_
      refine z_ldc2 (k := 29807) (v := 29807) dX12_pupilClause_41 ⟨by decide, ⟨by decide, by decide⟩⟩ qlX12_303 ?_
      refine z_iconst dX12_pupilClause_44 ki_2 ?_
      refine z_iconst dX12_pupilClause_45 ki_0 ?_
      refine z_bipush dX12_pupilClause_46 kb_99 ?_
      refine y_cv (mt2 := mX12_worded) (en := [(2, 234), (1, 29807), (9, 0), (0, 2), (0, 0), (0, 99)]) (st := []) (as := [(1, 29807), (0, 2), (0, 0), (0, 99)]) dX12_pupilClause_48 lX12_297 kX12_worded iX12_worded eX12_worded rfl sh234 (by decide +kernel) (Nat.le_of_ble_eq_true rfl) (Nat.le_of_ble_eq_true rfl) rfl ?_
      exact h
  · replace h := h.2 q
    refine z_aloadn dX12_pupilClause_13 rfl (Or.inl rfl) ?_
    refine z_bipush dX12_pupilClause_14 kb_107 ?_
    refine z_bipush dX12_pupilClause_16 kb_110 ?_
    refine z_bipush dX12_pupilClause_18 kb_111 ?_
    refine z_bipush dX12_pupilClause_20 kb_119 ?_
    refine z_bipush dX12_pupilClause_22 kb_115 ?_
    refine y_cs (mt2 := mX12_w5) (en := [(0, 107), (0, 110), (0, 111), (0, 119), (0, 115)]) (st := [(2, 234)]) (as := [(0, 107), (0, 110), (0, 111), (0, 119), (0, 115)]) dX12_pupilClause_24 lX12_199 kX12_w5 tX12_w5 rfl (Nat.le_of_ble_eq_true rfl) (Nat.le_of_ble_eq_true rfl) rfl ?_
    exact h
set_option maxRecDepth 20000 in
set_option maxHeartbeats 4000000 in
theorem bX12_pupilClause_96 {G : zG} {d : Nat} {M : zM} {Q : zV → zM → Prop} (hG : zP G) {x1 x49 : Int}
    (h : Y G d mX12_worded 0 [(2, 234), (1, x49), (9, 0), (0, 4), (0, 1), (0, 16)] [] M (fun r M' => Y G (d + 1) mX12_pupilClause 103 [(2, 234), (0, x1)] (zpush r []) M' Q)) :
    Y G (d + 1) mX12_pupilClause 96 [(2, 234), (0, x1)] [(1, x49), (2, 234)] M Q := by
  refine z_iconst dX12_pupilClause_96 ki_4 ?_
  refine z_iconst dX12_pupilClause_97 ki_1 ?_
  refine z_bipush dX12_pupilClause_98 kb_16 ?_
  refine y_cv (mt2 := mX12_worded) (en := [(2, 234), (1, x49), (9, 0), (0, 4), (0, 1), (0, 16)]) (st := []) (as := [(1, x49), (0, 4), (0, 1), (0, 16)]) dX12_pupilClause_100 lX12_297 kX12_worded iX12_worded eX12_worded rfl sh234 (by decide +kernel) (Nat.le_of_ble_eq_true rfl) (Nat.le_of_ble_eq_true rfl) rfl ?_
  exact h
set_option maxRecDepth 20000 in
set_option maxHeartbeats 4000000 in
theorem bX12_pupilClause_68 {G : zG} {d : Nat} {M : zM} {Q : zV → zM → Prop} (hG : zP G) {x1 x49 : Int}
    (h : Y G d mX12_worded 0 [(2, 234), (1, x49), (9, 0), (0, 3), (0, 0), (0, 8)] [] M (fun r M' => Y G (d + 1) mX12_pupilClause 75 [(2, 234), (0, x1)] (zpush r []) M' Q)) :
    Y G (d + 1) mX12_pupilClause 68 [(2, 234), (0, x1)] [(1, x49), (2, 234)] M Q := by
  refine z_iconst dX12_pupilClause_68 ki_3 ?_
  refine z_iconst dX12_pupilClause_69 ki_0 ?_
  refine z_bipush dX12_pupilClause_70 kb_8 ?_
  refine y_cv (mt2 := mX12_worded) (en := [(2, 234), (1, x49), (9, 0), (0, 3), (0, 0), (0, 8)]) (st := []) (as := [(1, x49), (0, 3), (0, 0), (0, 8)]) dX12_pupilClause_72 lX12_297 kX12_worded iX12_worded eX12_worded rfl sh234 (by decide +kernel) (Nat.le_of_ble_eq_true rfl) (Nat.le_of_ble_eq_true rfl) rfl ?_
  exact h
set_option maxRecDepth 20000 in
set_option maxHeartbeats 4000000 in
theorem bX12_pupilClause_51 {G : zG} {d : Nat} {M : zM} {Q : zV → zM → Prop} (hG : zP G) {x1 x49 : Int}
    (h : ((¬ x49 = 0 → ((x49 = 0 → Y G d mX12_w4 0 [(0, 108), (0, 111), (0, 110), (0, 103)] [] M (fun r M' => Y G (d + 1) mX12_pupilClause 96 [(2, 234), (0, x49)] (zpush r [(2, 234)]) M' Q)) ∧ (¬ x49 = 0 → Q (0, x49) M))) ∧ (x49 = 0 → Y G d mX12_w4 0 [(0, 100), (0, 101), (0, 101), (0, 112)] [] M (fun r M' => Y G (d + 1) mX12_pupilClause 68 [(2, 234), (0, x49)] (zpush r [(2, 234)]) M' Q)))) :
    Y G (d + 1) mX12_pupilClause 51 [(2, 234), (0, x1)] [(0, x49)] M Q := by
  refine y_istoren (ls' := [(2, 234), (0, x49)]) dX12_pupilClause_51 rfl rfl ?_
  refine z_iloadn dX12_pupilClause_52 rfl ?_
  refine z_ifne (tgt := 76) dX12_pupilClause_53 rfl (fun q => ?_) (fun q => ?_)
  · replace h := h.1 q
    refine z_iloadn dX12_pupilClause_76 rfl ?_
    refine z_ifeq (tgt := 84) dX12_pupilClause_77 rfl (fun q => ?_) (fun q => ?_)
    · replace h := h.1 q
      refine z_aloadn dX12_pupilClause_84 rfl (Or.inl rfl) ?_
      refine z_bipush dX12_pupilClause_85 kb_108 ?_
      refine z_bipush dX12_pupilClause_87 kb_111 ?_
      refine z_bipush dX12_pupilClause_89 kb_110 ?_
      refine z_bipush dX12_pupilClause_91 kb_103 ?_
      refine y_cs (mt2 := mX12_w4) (en := [(0, 108), (0, 111), (0, 110), (0, 103)]) (st := [(2, 234)]) (as := [(0, 108), (0, 111), (0, 110), (0, 103)]) dX12_pupilClause_93 lX12_195 kX12_w4 tX12_w4 rfl (Nat.le_of_ble_eq_true rfl) (Nat.le_of_ble_eq_true rfl) rfl ?_
      exact h
    · replace h := h.2 q
      refine z_iloadn dX12_pupilClause_80 rfl ?_
      refine z_goto (tgt := 103) dX12_pupilClause_81 rfl ?_
      exact z_ireturn dX12_pupilClause_103 (Or.inl rfl) rfl h
  · replace h := h.2 q
    refine z_aloadn dX12_pupilClause_56 rfl (Or.inl rfl) ?_
    refine z_bipush dX12_pupilClause_57 kb_100 ?_
    refine z_bipush dX12_pupilClause_59 kb_101 ?_
    refine z_bipush dX12_pupilClause_61 kb_101 ?_
    refine z_bipush dX12_pupilClause_63 kb_112 ?_
    refine y_cs (mt2 := mX12_w4) (en := [(0, 100), (0, 101), (0, 101), (0, 112)]) (st := [(2, 234)]) (as := [(0, 100), (0, 101), (0, 101), (0, 112)]) dX12_pupilClause_65 lX12_195 kX12_w4 tX12_w4 rfl (Nat.le_of_ble_eq_true rfl) (Nat.le_of_ble_eq_true rfl) rfl ?_
    exact h
set_option maxRecDepth 20000 in
set_option maxHeartbeats 4000000 in
theorem bX12_pupilClause_27 {G : zG} {d : Nat} {M : zM} {Q : zV → zM → Prop} (hG : zP G) {x1 x49 : Int}
    (h : Y G d mX12_worded 0 [(2, 234), (1, x49), (9, 0), (0, 1), (0, 0), (0, 32767)] [] M (fun r M' => Y G (d + 1) mX12_pupilClause 35 [(2, 234), (0, x1)] (zpush r []) M' Q)) :
    Y G (d + 1) mX12_pupilClause 27 [(2, 234), (0, x1)] [(1, x49), (2, 234)] M Q := by
  refine z_iconst dX12_pupilClause_27 ki_1 ?_
  refine z_iconst dX12_pupilClause_28 ki_0 ?_
  refine z_sipush dX12_pupilClause_29 ks_32767 ?_
  refine y_cv (mt2 := mX12_worded) (en := [(2, 234), (1, x49), (9, 0), (0, 1), (0, 0), (0, 32767)]) (st := []) (as := [(1, x49), (0, 1), (0, 0), (0, 32767)]) dX12_pupilClause_32 lX12_297 kX12_worded iX12_worded eX12_worded rfl sh234 (by decide +kernel) (Nat.le_of_ble_eq_true rfl) (Nat.le_of_ble_eq_true rfl) rfl ?_
  exact h
set_option maxRecDepth 20000 in
set_option maxHeartbeats 4000000 in
theorem bX12_pupilClause_103 {G : zG} {d : Nat} {M : zM} {Q : zV → zM → Prop} (hG : zP G) {x1 x49 : Int}
    (h : Q (0, x49) M) :
    Y G (d + 1) mX12_pupilClause 103 [(2, 234), (0, x1)] [(0, x49)] M Q := by
  exact z_ireturn dX12_pupilClause_103 (Or.inl rfl) rfl h
set_option maxRecDepth 20000 in
set_option maxHeartbeats 4000000 in
theorem bX12_pupilClause_75 {G : zG} {d : Nat} {M : zM} {Q : zV → zM → Prop} (hG : zP G) {x1 x49 : Int}
    (h : ((x49 = 0 → Y G d mX12_w4 0 [(0, 108), (0, 111), (0, 110), (0, 103)] [] M (fun r M' => Y G (d + 1) mX12_pupilClause 96 [(2, 234), (0, x49)] (zpush r [(2, 234)]) M' Q)) ∧ (¬ x49 = 0 → Q (0, x49) M))) :
    Y G (d + 1) mX12_pupilClause 75 [(2, 234), (0, x1)] [(0, x49)] M Q := by
  refine y_istoren (ls' := [(2, 234), (0, x49)]) dX12_pupilClause_75 rfl rfl ?_
  refine z_iloadn dX12_pupilClause_76 rfl ?_
  refine z_ifeq (tgt := 84) dX12_pupilClause_77 rfl (fun q => ?_) (fun q => ?_)
  · replace h := h.1 q
    refine z_aloadn dX12_pupilClause_84 rfl (Or.inl rfl) ?_
    refine z_bipush dX12_pupilClause_85 kb_108 ?_
    refine z_bipush dX12_pupilClause_87 kb_111 ?_
    refine z_bipush dX12_pupilClause_89 kb_110 ?_
    refine z_bipush dX12_pupilClause_91 kb_103 ?_
    refine y_cs (mt2 := mX12_w4) (en := [(0, 108), (0, 111), (0, 110), (0, 103)]) (st := [(2, 234)]) (as := [(0, 108), (0, 111), (0, 110), (0, 103)]) dX12_pupilClause_93 lX12_195 kX12_w4 tX12_w4 rfl (Nat.le_of_ble_eq_true rfl) (Nat.le_of_ble_eq_true rfl) rfl ?_
    exact h
  · replace h := h.2 q
    refine z_iloadn dX12_pupilClause_80 rfl ?_
    refine z_goto (tgt := 103) dX12_pupilClause_81 rfl ?_
    exact z_ireturn dX12_pupilClause_103 (Or.inl rfl) rfl h
set_option maxRecDepth 20000 in
set_option maxHeartbeats 4000000 in
theorem bX12_pupilClause_35 {G : zG} {d : Nat} {M : zM} {Q : zV → zM → Prop} (hG : zP G) {x1 x49 : Int}
    (h : ((¬ x49 = 0 → ((¬ x49 = 0 → ((x49 = 0 → Y G d mX12_w4 0 [(0, 108), (0, 111), (0, 110), (0, 103)] [] M (fun r M' => Y G (d + 1) mX12_pupilClause 96 [(2, 234), (0, x49)] (zpush r [(2, 234)]) M' Q)) ∧ (¬ x49 = 0 → Q (0, x49) M))) ∧ (x49 = 0 → Y G d mX12_w4 0 [(0, 100), (0, 101), (0, 101), (0, 112)] [] M (fun r M' => Y G (d + 1) mX12_pupilClause 68 [(2, 234), (0, x49)] (zpush r [(2, 234)]) M' Q)))) ∧ (x49 = 0 → Y G d mX12_worded 0 [(2, 234), (1, 29807), (9, 0), (0, 2), (0, 0), (0, 99)] [] M (fun r M' => Y G (d + 1) mX12_pupilClause 51 [(2, 234), (0, x49)] (zpush r []) M' Q)))) :
    Y G (d + 1) mX12_pupilClause 35 [(2, 234), (0, x1)] [(0, x49)] M Q := by
  refine y_istoren (ls' := [(2, 234), (0, x49)]) dX12_pupilClause_35 rfl rfl ?_
  refine z_iloadn dX12_pupilClause_36 rfl ?_
  refine z_ifne (tgt := 52) dX12_pupilClause_37 rfl (fun q => ?_) (fun q => ?_)
  · replace h := h.1 q
    refine z_iloadn dX12_pupilClause_52 rfl ?_
    refine z_ifne (tgt := 76) dX12_pupilClause_53 rfl (fun q => ?_) (fun q => ?_)
    · replace h := h.1 q
      refine z_iloadn dX12_pupilClause_76 rfl ?_
      refine z_ifeq (tgt := 84) dX12_pupilClause_77 rfl (fun q => ?_) (fun q => ?_)
      · replace h := h.1 q
        refine z_aloadn dX12_pupilClause_84 rfl (Or.inl rfl) ?_
        refine z_bipush dX12_pupilClause_85 kb_108 ?_
        refine z_bipush dX12_pupilClause_87 kb_111 ?_
        refine z_bipush dX12_pupilClause_89 kb_110 ?_
        refine z_bipush dX12_pupilClause_91 kb_103 ?_
        refine y_cs (mt2 := mX12_w4) (en := [(0, 108), (0, 111), (0, 110), (0, 103)]) (st := [(2, 234)]) (as := [(0, 108), (0, 111), (0, 110), (0, 103)]) dX12_pupilClause_93 lX12_195 kX12_w4 tX12_w4 rfl (Nat.le_of_ble_eq_true rfl) (Nat.le_of_ble_eq_true rfl) rfl ?_
        exact h
      · replace h := h.2 q
        refine z_iloadn dX12_pupilClause_80 rfl ?_
        refine z_goto (tgt := 103) dX12_pupilClause_81 rfl ?_
        exact z_ireturn dX12_pupilClause_103 (Or.inl rfl) rfl h
    · replace h := h.2 q
      refine z_aloadn dX12_pupilClause_56 rfl (Or.inl rfl) ?_
      refine z_bipush dX12_pupilClause_57 kb_100 ?_
      refine z_bipush dX12_pupilClause_59 kb_101 ?_
      refine z_bipush dX12_pupilClause_61 kb_101 ?_
      refine z_bipush dX12_pupilClause_63 kb_112 ?_
      refine y_cs (mt2 := mX12_w4) (en := [(0, 100), (0, 101), (0, 101), (0, 112)]) (st := [(2, 234)]) (as := [(0, 100), (0, 101), (0, 101), (0, 112)]) dX12_pupilClause_65 lX12_195 kX12_w4 tX12_w4 rfl (Nat.le_of_ble_eq_true rfl) (Nat.le_of_ble_eq_true rfl) rfl ?_
      exact h
  · replace h := h.2 q
    refine z_aloadn dX12_pupilClause_40 rfl (Or.inl rfl) ?_
    refine z_ldc2 (k := 29807) (v := 29807) dX12_pupilClause_41 ⟨by decide, ⟨by decide, by decide⟩⟩ qlX12_303 ?_
    refine z_iconst dX12_pupilClause_44 ki_2 ?_
    refine z_iconst dX12_pupilClause_45 ki_0 ?_
    refine z_bipush dX12_pupilClause_46 kb_99 ?_
    refine y_cv (mt2 := mX12_worded) (en := [(2, 234), (1, 29807), (9, 0), (0, 2), (0, 0), (0, 99)]) (st := []) (as := [(1, 29807), (0, 2), (0, 0), (0, 99)]) dX12_pupilClause_48 lX12_297 kX12_worded iX12_worded eX12_worded rfl sh234 (by decide +kernel) (Nat.le_of_ble_eq_true rfl) (Nat.le_of_ble_eq_true rfl) rfl ?_
    exact h
set_option maxRecDepth 20000 in
set_option maxHeartbeats 4000000 in
theorem bX12_sortAt_0 {G : zG} {d : Nat} {M : zM} {Q : zV → zM → Prop} (hG : zP G)
    (h : Y G d mX12_w3 0 [(0, 97), (0, 115), (0, 107)] [] M (fun r M' => Y G (d + 1) mX12_sortAt 10 [(2, 234)] (zpush r [(2, 234)]) M' Q)) :
    Y G (d + 1) mX12_sortAt 0 [(2, 234)] [] M Q := by
  refine z_aloadn dX12_sortAt_0 rfl (Or.inl rfl) ?_
  refine z_bipush dX12_sortAt_1 kb_97 ?_
  refine z_bipush dX12_sortAt_3 kb_115 ?_
  refine z_bipush dX12_sortAt_5 kb_107 ?_
  refine y_cs (mt2 := mX12_w3) (en := [(0, 97), (0, 115), (0, 107)]) (st := [(2, 234)]) (as := [(0, 97), (0, 115), (0, 107)]) dX12_sortAt_7 lX12_191 kX12_w3 tX12_w3 rfl (Nat.le_of_ble_eq_true rfl) (Nat.le_of_ble_eq_true rfl) rfl ?_
  exact h
set_option maxRecDepth 20000 in
set_option maxHeartbeats 4000000 in
theorem bX12_sortAt_10 {G : zG} {d : Nat} {M : zM} {Q : zV → zM → Prop} (hG : zP G) {x49 : Int}
    (h : Y G d mX12_isWord 0 [(2, 234), (1, x49), (9, 0)] [] M (fun r M' => Y G (d + 1) mX12_sortAt 13 [(2, 234)] (zpush r []) M' Q)) :
    Y G (d + 1) mX12_sortAt 10 [(2, 234)] [(1, x49), (2, 234)] M Q := by
  refine y_cv (mt2 := mX12_isWord) (en := [(2, 234), (1, x49), (9, 0)]) (st := []) (as := [(1, x49)]) dX12_sortAt_10 lX12_219 kX12_isWord iX12_isWord eX12_isWord rfl sh234 (by decide +kernel) (Nat.le_of_ble_eq_true rfl) (Nat.le_of_ble_eq_true rfl) rfl ?_
  exact h
set_option maxRecDepth 20000 in
set_option maxHeartbeats 4000000 in
theorem bX12_sortAt_13 {G : zG} {d : Nat} {M : zM} {Q : zV → zM → Prop} (hG : zP G) {x49 : Int}
    (h : ((x49 = 0 → Y G d mX12_w3 0 [(0, 108), (0, 101), (0, 116)] [] M (fun r M' => Y G (d + 1) mX12_sortAt 28 [(2, 234)] (zpush r [(2, 234)]) M' Q)) ∧ (¬ x49 = 0 → Q (0, 0) M))) :
    Y G (d + 1) mX12_sortAt 13 [(2, 234)] [(0, x49)] M Q := by
  refine z_ifeq (tgt := 18) dX12_sortAt_13 rfl (fun q => ?_) (fun q => ?_)
  · replace h := h.1 q
    refine z_aloadn dX12_sortAt_18 rfl (Or.inl rfl) ?_
    refine z_bipush dX12_sortAt_19 kb_108 ?_
    refine z_bipush dX12_sortAt_21 kb_101 ?_
    refine z_bipush dX12_sortAt_23 kb_116 ?_
    refine y_cs (mt2 := mX12_w3) (en := [(0, 108), (0, 101), (0, 116)]) (st := [(2, 234)]) (as := [(0, 108), (0, 101), (0, 116)]) dX12_sortAt_25 lX12_191 kX12_w3 tX12_w3 rfl (Nat.le_of_ble_eq_true rfl) (Nat.le_of_ble_eq_true rfl) rfl ?_
    exact h
  · replace h := h.2 q
    refine z_iconst dX12_sortAt_16 ki_0 ?_
    exact z_ireturn dX12_sortAt_17 (Or.inl rfl) rfl h
set_option maxRecDepth 20000 in
set_option maxHeartbeats 4000000 in
theorem bX12_sortAt_28 {G : zG} {d : Nat} {M : zM} {Q : zV → zM → Prop} (hG : zP G) {x49 : Int}
    (h : Y G d mX12_isWord 0 [(2, 234), (1, x49), (9, 0)] [] M (fun r M' => Y G (d + 1) mX12_sortAt 31 [(2, 234)] (zpush r []) M' Q)) :
    Y G (d + 1) mX12_sortAt 28 [(2, 234)] [(1, x49), (2, 234)] M Q := by
  refine y_cv (mt2 := mX12_isWord) (en := [(2, 234), (1, x49), (9, 0)]) (st := []) (as := [(1, x49)]) dX12_sortAt_28 lX12_219 kX12_isWord iX12_isWord eX12_isWord rfl sh234 (by decide +kernel) (Nat.le_of_ble_eq_true rfl) (Nat.le_of_ble_eq_true rfl) rfl ?_
  exact h
set_option maxRecDepth 20000 in
set_option maxHeartbeats 4000000 in
theorem bX12_sortAt_31 {G : zG} {d : Nat} {M : zM} {Q : zV → zM → Prop} (hG : zP G) {x49 : Int}
    (h : ((x49 = 0 → Y G d mX12_w4 0 [(0, 98), (0, 111), (0, 114), (0, 110)] [] M (fun r M' => Y G (d + 1) mX12_sortAt 48 [(2, 234)] (zpush r [(2, 234)]) M' Q)) ∧ (¬ x49 = 0 → Q (0, 1) M))) :
    Y G (d + 1) mX12_sortAt 31 [(2, 234)] [(0, x49)] M Q := by
  refine z_ifeq (tgt := 36) dX12_sortAt_31 rfl (fun q => ?_) (fun q => ?_)
  · replace h := h.1 q
    refine z_aloadn dX12_sortAt_36 rfl (Or.inl rfl) ?_
    refine z_bipush dX12_sortAt_37 kb_98 ?_
    refine z_bipush dX12_sortAt_39 kb_111 ?_
    refine z_bipush dX12_sortAt_41 kb_114 ?_
    refine z_bipush dX12_sortAt_43 kb_110 ?_
    refine y_cs (mt2 := mX12_w4) (en := [(0, 98), (0, 111), (0, 114), (0, 110)]) (st := [(2, 234)]) (as := [(0, 98), (0, 111), (0, 114), (0, 110)]) dX12_sortAt_45 lX12_195 kX12_w4 tX12_w4 rfl (Nat.le_of_ble_eq_true rfl) (Nat.le_of_ble_eq_true rfl) rfl ?_
    exact h
  · replace h := h.2 q
    refine z_iconst dX12_sortAt_34 ki_1 ?_
    exact z_ireturn dX12_sortAt_35 (Or.inl rfl) rfl h
set_option maxRecDepth 20000 in
set_option maxHeartbeats 4000000 in
theorem bX12_sortAt_48 {G : zG} {d : Nat} {M : zM} {Q : zV → zM → Prop} (hG : zP G) {x49 : Int}
    (h : Y G d mX12_isWord 0 [(2, 234), (1, x49), (9, 0)] [] M (fun r M' => Y G (d + 1) mX12_sortAt 51 [(2, 234)] (zpush r []) M' Q)) :
    Y G (d + 1) mX12_sortAt 48 [(2, 234)] [(1, x49), (2, 234)] M Q := by
  refine y_cv (mt2 := mX12_isWord) (en := [(2, 234), (1, x49), (9, 0)]) (st := []) (as := [(1, x49)]) dX12_sortAt_48 lX12_219 kX12_isWord iX12_isWord eX12_isWord rfl sh234 (by decide +kernel) (Nat.le_of_ble_eq_true rfl) (Nat.le_of_ble_eq_true rfl) rfl ?_
  exact h
set_option maxRecDepth 20000 in
set_option maxHeartbeats 4000000 in
theorem bX12_sortAt_51 {G : zG} {d : Nat} {M : zM} {Q : zV → zM → Prop} (hG : zP G) {x49 : Int}
    (h : ((x49 = 0 → Y G d mX12_w4 0 [(0, 112), (0, 97), (0, 116), (0, 104)] [] M (fun r M' => Y G (d + 1) mX12_sortAt 68 [(2, 234)] (zpush r [(2, 234)]) M' Q)) ∧ (¬ x49 = 0 → Q (0, 2) M))) :
    Y G (d + 1) mX12_sortAt 51 [(2, 234)] [(0, x49)] M Q := by
  refine z_ifeq (tgt := 56) dX12_sortAt_51 rfl (fun q => ?_) (fun q => ?_)
  · replace h := h.1 q
    refine z_aloadn dX12_sortAt_56 rfl (Or.inl rfl) ?_
    refine z_bipush dX12_sortAt_57 kb_112 ?_
    refine z_bipush dX12_sortAt_59 kb_97 ?_
    refine z_bipush dX12_sortAt_61 kb_116 ?_
    refine z_bipush dX12_sortAt_63 kb_104 ?_
    refine y_cs (mt2 := mX12_w4) (en := [(0, 112), (0, 97), (0, 116), (0, 104)]) (st := [(2, 234)]) (as := [(0, 112), (0, 97), (0, 116), (0, 104)]) dX12_sortAt_65 lX12_195 kX12_w4 tX12_w4 rfl (Nat.le_of_ble_eq_true rfl) (Nat.le_of_ble_eq_true rfl) rfl ?_
    exact h
  · replace h := h.2 q
    refine z_iconst dX12_sortAt_54 ki_2 ?_
    exact z_ireturn dX12_sortAt_55 (Or.inl rfl) rfl h
set_option maxRecDepth 20000 in
set_option maxHeartbeats 4000000 in
theorem bX12_sortAt_68 {G : zG} {d : Nat} {M : zM} {Q : zV → zM → Prop} (hG : zP G) {x49 : Int}
    (h : Y G d mX12_isWord 0 [(2, 234), (1, x49), (9, 0)] [] M (fun r M' => Y G (d + 1) mX12_sortAt 71 [(2, 234)] (zpush r []) M' Q)) :
    Y G (d + 1) mX12_sortAt 68 [(2, 234)] [(1, x49), (2, 234)] M Q := by
  refine y_cv (mt2 := mX12_isWord) (en := [(2, 234), (1, x49), (9, 0)]) (st := []) (as := [(1, x49)]) dX12_sortAt_68 lX12_219 kX12_isWord iX12_isWord eX12_isWord rfl sh234 (by decide +kernel) (Nat.le_of_ble_eq_true rfl) (Nat.le_of_ble_eq_true rfl) rfl ?_
  exact h
set_option maxRecDepth 20000 in
set_option maxHeartbeats 4000000 in
theorem bX12_sortAt_71 {G : zG} {d : Nat} {M : zM} {Q : zV → zM → Prop} (hG : zP G) {x49 : Int}
    (h : ((x49 = 0 → Y G d mX12_w3 0 [(0, 115), (0, 97), (0, 121)] [] M (fun r M' => Y G (d + 1) mX12_sortAt 86 [(2, 234)] (zpush r [(2, 234)]) M' Q)) ∧ (¬ x49 = 0 → Q (0, 3) M))) :
    Y G (d + 1) mX12_sortAt 71 [(2, 234)] [(0, x49)] M Q := by
  refine z_ifeq (tgt := 76) dX12_sortAt_71 rfl (fun q => ?_) (fun q => ?_)
  · replace h := h.1 q
    refine z_aloadn dX12_sortAt_76 rfl (Or.inl rfl) ?_
    refine z_bipush dX12_sortAt_77 kb_115 ?_
    refine z_bipush dX12_sortAt_79 kb_97 ?_
    refine z_bipush dX12_sortAt_81 kb_121 ?_
    refine y_cs (mt2 := mX12_w3) (en := [(0, 115), (0, 97), (0, 121)]) (st := [(2, 234)]) (as := [(0, 115), (0, 97), (0, 121)]) dX12_sortAt_83 lX12_191 kX12_w3 tX12_w3 rfl (Nat.le_of_ble_eq_true rfl) (Nat.le_of_ble_eq_true rfl) rfl ?_
    exact h
  · replace h := h.2 q
    refine z_iconst dX12_sortAt_74 ki_3 ?_
    exact z_ireturn dX12_sortAt_75 (Or.inl rfl) rfl h
set_option maxRecDepth 20000 in
set_option maxHeartbeats 4000000 in
theorem bX12_sortAt_86 {G : zG} {d : Nat} {M : zM} {Q : zV → zM → Prop} (hG : zP G) {x49 : Int}
    (h : Y G d mX12_isWord 0 [(2, 234), (1, x49), (9, 0)] [] M (fun r M' => Y G (d + 1) mX12_sortAt 89 [(2, 234)] (zpush r []) M' Q)) :
    Y G (d + 1) mX12_sortAt 86 [(2, 234)] [(1, x49), (2, 234)] M Q := by
  refine y_cv (mt2 := mX12_isWord) (en := [(2, 234), (1, x49), (9, 0)]) (st := []) (as := [(1, x49)]) dX12_sortAt_86 lX12_219 kX12_isWord iX12_isWord eX12_isWord rfl sh234 (by decide +kernel) (Nat.le_of_ble_eq_true rfl) (Nat.le_of_ble_eq_true rfl) rfl ?_
  exact h
set_option maxRecDepth 20000 in
set_option maxHeartbeats 4000000 in
theorem bX12_sortAt_89 {G : zG} {d : Nat} {M : zM} {Q : zV → zM → Prop} (hG : zP G) {x49 : Int}
    (h : ((x49 = 0 → Y G d mX12_w5 0 [(0, 112), (0, 117), (0, 112), (0, 105), (0, 108)] [] M (fun r M' => Y G (d + 1) mX12_sortAt 108 [(2, 234)] (zpush r [(2, 234)]) M' Q)) ∧ (¬ x49 = 0 → Q (0, 4) M))) :
    Y G (d + 1) mX12_sortAt 89 [(2, 234)] [(0, x49)] M Q := by
  refine z_ifeq (tgt := 94) dX12_sortAt_89 rfl (fun q => ?_) (fun q => ?_)
  · replace h := h.1 q
    refine z_aloadn dX12_sortAt_94 rfl (Or.inl rfl) ?_
    refine z_bipush dX12_sortAt_95 kb_112 ?_
    refine z_bipush dX12_sortAt_97 kb_117 ?_
    refine z_bipush dX12_sortAt_99 kb_112 ?_
    refine z_bipush dX12_sortAt_101 kb_105 ?_
    refine z_bipush dX12_sortAt_103 kb_108 ?_
    refine y_cs (mt2 := mX12_w5) (en := [(0, 112), (0, 117), (0, 112), (0, 105), (0, 108)]) (st := [(2, 234)]) (as := [(0, 112), (0, 117), (0, 112), (0, 105), (0, 108)]) dX12_sortAt_105 lX12_199 kX12_w5 tX12_w5 rfl (Nat.le_of_ble_eq_true rfl) (Nat.le_of_ble_eq_true rfl) rfl ?_
    exact h
  · replace h := h.2 q
    refine z_iconst dX12_sortAt_92 ki_4 ?_
    exact z_ireturn dX12_sortAt_93 (Or.inl rfl) rfl h
set_option maxRecDepth 20000 in
set_option maxHeartbeats 4000000 in
theorem bX12_sortAt_108 {G : zG} {d : Nat} {M : zM} {Q : zV → zM → Prop} (hG : zP G) {x49 : Int}
    (h : Y G d mX12_isWord 0 [(2, 234), (1, x49), (9, 0)] [] M (fun r M' => Y G (d + 1) mX12_sortAt 111 [(2, 234)] (zpush r []) M' Q)) :
    Y G (d + 1) mX12_sortAt 108 [(2, 234)] [(1, x49), (2, 234)] M Q := by
  refine y_cv (mt2 := mX12_isWord) (en := [(2, 234), (1, x49), (9, 0)]) (st := []) (as := [(1, x49)]) dX12_sortAt_108 lX12_219 kX12_isWord iX12_isWord eX12_isWord rfl sh234 (by decide +kernel) (Nat.le_of_ble_eq_true rfl) (Nat.le_of_ble_eq_true rfl) rfl ?_
  exact h
set_option maxRecDepth 20000 in
set_option maxHeartbeats 4000000 in
theorem bX12_sortAt_111 {G : zG} {d : Nat} {M : zM} {Q : zV → zM → Prop} (hG : zP G) {x49 : Int}
    (h : ((x49 = 0 → Y G d mX12_w6 0 [(0, 97), (0, 110), (0, 115), (0, 119), (0, 101), (0, 114)] [] M (fun r M' => Y G (d + 1) mX12_sortAt 132 [(2, 234)] (zpush r [(2, 234)]) M' Q)) ∧ (¬ x49 = 0 → Q (0, 5) M))) :
    Y G (d + 1) mX12_sortAt 111 [(2, 234)] [(0, x49)] M Q := by
  refine z_ifeq (tgt := 116) dX12_sortAt_111 rfl (fun q => ?_) (fun q => ?_)
  · replace h := h.1 q
    refine z_aloadn dX12_sortAt_116 rfl (Or.inl rfl) ?_
    refine z_bipush dX12_sortAt_117 kb_97 ?_
    refine z_bipush dX12_sortAt_119 kb_110 ?_
    refine z_bipush dX12_sortAt_121 kb_115 ?_
    refine z_bipush dX12_sortAt_123 kb_119 ?_
    refine z_bipush dX12_sortAt_125 kb_101 ?_
    refine z_bipush dX12_sortAt_127 kb_114 ?_
    refine y_cs (mt2 := mX12_w6) (en := [(0, 97), (0, 110), (0, 115), (0, 119), (0, 101), (0, 114)]) (st := [(2, 234)]) (as := [(0, 97), (0, 110), (0, 115), (0, 119), (0, 101), (0, 114)]) dX12_sortAt_129 lX12_305 kX12_w6 tX12_w6 rfl (Nat.le_of_ble_eq_true rfl) (Nat.le_of_ble_eq_true rfl) rfl ?_
    exact h
  · replace h := h.2 q
    refine z_iconst dX12_sortAt_114 ki_5 ?_
    exact z_ireturn dX12_sortAt_115 (Or.inl rfl) rfl h
set_option maxRecDepth 20000 in
set_option maxHeartbeats 4000000 in
theorem bX12_sortAt_132 {G : zG} {d : Nat} {M : zM} {Q : zV → zM → Prop} (hG : zP G) {x49 : Int}
    (h : Y G d mX12_isWord 0 [(2, 234), (1, x49), (9, 0)] [] M (fun r M' => Y G (d + 1) mX12_sortAt 135 [(2, 234)] (zpush r []) M' Q)) :
    Y G (d + 1) mX12_sortAt 132 [(2, 234)] [(1, x49), (2, 234)] M Q := by
  refine y_cv (mt2 := mX12_isWord) (en := [(2, 234), (1, x49), (9, 0)]) (st := []) (as := [(1, x49)]) dX12_sortAt_132 lX12_219 kX12_isWord iX12_isWord eX12_isWord rfl sh234 (by decide +kernel) (Nat.le_of_ble_eq_true rfl) (Nat.le_of_ble_eq_true rfl) rfl ?_
  exact h
set_option maxRecDepth 20000 in
set_option maxHeartbeats 4000000 in
theorem bX12_sortAt_135 {G : zG} {d : Nat} {M : zM} {Q : zV → zM → Prop} (hG : zP G) {x49 : Int}
    (h : ((x49 = 0 → Y G d mX12_w4 0 [(0, 97), (0, 115), (0, 107), (0, 115)] [] M (fun r M' => Y G (d + 1) mX12_sortAt 153 [(2, 234)] (zpush r [(2, 234)]) M' Q)) ∧ (¬ x49 = 0 → Q (0, 6) M))) :
    Y G (d + 1) mX12_sortAt 135 [(2, 234)] [(0, x49)] M Q := by
  refine z_ifeq (tgt := 141) dX12_sortAt_135 rfl (fun q => ?_) (fun q => ?_)
  · replace h := h.1 q
    refine z_aloadn dX12_sortAt_141 rfl (Or.inl rfl) ?_
    refine z_bipush dX12_sortAt_142 kb_97 ?_
    refine z_bipush dX12_sortAt_144 kb_115 ?_
    refine z_bipush dX12_sortAt_146 kb_107 ?_
    refine z_bipush dX12_sortAt_148 kb_115 ?_
    refine y_cs (mt2 := mX12_w4) (en := [(0, 97), (0, 115), (0, 107), (0, 115)]) (st := [(2, 234)]) (as := [(0, 97), (0, 115), (0, 107), (0, 115)]) dX12_sortAt_150 lX12_195 kX12_w4 tX12_w4 rfl (Nat.le_of_ble_eq_true rfl) (Nat.le_of_ble_eq_true rfl) rfl ?_
    exact h
  · replace h := h.2 q
    refine z_bipush dX12_sortAt_138 kb_6 ?_
    exact z_ireturn dX12_sortAt_140 (Or.inl rfl) rfl h
set_option maxRecDepth 20000 in
set_option maxHeartbeats 4000000 in
theorem bX12_sortAt_153 {G : zG} {d : Nat} {M : zM} {Q : zV → zM → Prop} (hG : zP G) {x49 : Int}
    (h : Y G d mX12_isWord 0 [(2, 234), (1, x49), (9, 0)] [] M (fun r M' => Y G (d + 1) mX12_sortAt 156 [(2, 234)] (zpush r []) M' Q)) :
    Y G (d + 1) mX12_sortAt 153 [(2, 234)] [(1, x49), (2, 234)] M Q := by
  refine y_cv (mt2 := mX12_isWord) (en := [(2, 234), (1, x49), (9, 0)]) (st := []) (as := [(1, x49)]) dX12_sortAt_153 lX12_219 kX12_isWord iX12_isWord eX12_isWord rfl sh234 (by decide +kernel) (Nat.le_of_ble_eq_true rfl) (Nat.le_of_ble_eq_true rfl) rfl ?_
  exact h
set_option maxRecDepth 20000 in
set_option maxHeartbeats 4000000 in
theorem bX12_sortAt_156 {G : zG} {d : Nat} {M : zM} {Q : zV → zM → Prop} (hG : zP G) {x49 : Int}
    (h : ((x49 = 0 → Y G d mX12_w3 0 [(0, 109), (0, 111), (0, 114)] [] M (fun r M' => Y G (d + 1) mX12_sortAt 172 [(2, 234)] (zpush r [(2, 234)]) M' Q)) ∧ (¬ x49 = 0 → Q (0, 7) M))) :
    Y G (d + 1) mX12_sortAt 156 [(2, 234)] [(0, x49)] M Q := by
  refine z_ifeq (tgt := 162) dX12_sortAt_156 rfl (fun q => ?_) (fun q => ?_)
  · replace h := h.1 q
    refine z_aloadn dX12_sortAt_162 rfl (Or.inl rfl) ?_
    refine z_bipush dX12_sortAt_163 kb_109 ?_
    refine z_bipush dX12_sortAt_165 kb_111 ?_
    refine z_bipush dX12_sortAt_167 kb_114 ?_
    refine y_cs (mt2 := mX12_w3) (en := [(0, 109), (0, 111), (0, 114)]) (st := [(2, 234)]) (as := [(0, 109), (0, 111), (0, 114)]) dX12_sortAt_169 lX12_191 kX12_w3 tX12_w3 rfl (Nat.le_of_ble_eq_true rfl) (Nat.le_of_ble_eq_true rfl) rfl ?_
    exact h
  · replace h := h.2 q
    refine z_bipush dX12_sortAt_159 kb_7 ?_
    exact z_ireturn dX12_sortAt_161 (Or.inl rfl) rfl h
set_option maxRecDepth 20000 in
set_option maxHeartbeats 4000000 in
theorem bX12_sortAt_172 {G : zG} {d : Nat} {M : zM} {Q : zV → zM → Prop} (hG : zP G) {x49 : Int}
    (h : Y G d mX12_w4 0 [(0, 110), (0, 105), (0, 110), (0, 103)] [] M (fun r M' => Y G (d + 1) mX12_sortAt 186 [(2, 234)] (zpush r [(1, (zlshl x49 32)), (2, 234)]) M' Q)) :
    Y G (d + 1) mX12_sortAt 172 [(2, 234)] [(1, x49), (2, 234)] M Q := by
  refine z_bipush dX12_sortAt_172 kb_32 ?_
  refine z_lshl dX12_sortAt_174 ?_
  refine z_bipush dX12_sortAt_175 kb_110 ?_
  refine z_bipush dX12_sortAt_177 kb_105 ?_
  refine z_bipush dX12_sortAt_179 kb_110 ?_
  refine z_bipush dX12_sortAt_181 kb_103 ?_
  refine y_cs (mt2 := mX12_w4) (en := [(0, 110), (0, 105), (0, 110), (0, 103)]) (st := [(1, (zlshl x49 32)), (2, 234)]) (as := [(0, 110), (0, 105), (0, 110), (0, 103)]) dX12_sortAt_183 lX12_195 kX12_w4 tX12_w4 rfl (Nat.le_of_ble_eq_true rfl) (Nat.le_of_ble_eq_true rfl) rfl ?_
  exact h
set_option maxRecDepth 20000 in
set_option maxHeartbeats 4000000 in
theorem bX12_sortAt_186 {G : zG} {d : Nat} {M : zM} {Q : zV → zM → Prop} (hG : zP G) {x49 x50 : Int}
    (h : Y G d mX12_isWord 0 [(2, 234), (1, (zlor x50 x49)), (9, 0)] [] M (fun r M' => Y G (d + 1) mX12_sortAt 190 [(2, 234)] (zpush r []) M' Q)) :
    Y G (d + 1) mX12_sortAt 186 [(2, 234)] [(1, x49), (1, x50), (2, 234)] M Q := by
  refine z_lor dX12_sortAt_186 ?_
  refine y_cv (mt2 := mX12_isWord) (en := [(2, 234), (1, (zlor x50 x49)), (9, 0)]) (st := []) (as := [(1, (zlor x50 x49))]) dX12_sortAt_187 lX12_219 kX12_isWord iX12_isWord eX12_isWord rfl sh234 (by decide +kernel) (Nat.le_of_ble_eq_true rfl) (Nat.le_of_ble_eq_true rfl) rfl ?_
  exact h
set_option maxRecDepth 20000 in
set_option maxHeartbeats 4000000 in
theorem bX12_sortAt_190 {G : zG} {d : Nat} {M : zM} {Q : zV → zM → Prop} (hG : zP G) {x49 : Int}
    (h : ((x49 = 0 → Q (0, (-1)) M) ∧ (¬ x49 = 0 → Q (0, 8) M))) :
    Y G (d + 1) mX12_sortAt 190 [(2, 234)] [(0, x49)] M Q := by
  refine z_ifeq (tgt := 198) dX12_sortAt_190 rfl (fun q => ?_) (fun q => ?_)
  · replace h := h.1 q
    refine z_iconst dX12_sortAt_198 ki_m1 ?_
    exact z_ireturn dX12_sortAt_199 (Or.inl rfl) rfl h
  · replace h := h.2 q
    refine z_bipush dX12_sortAt_193 kb_8 ?_
    refine z_goto (tgt := 199) dX12_sortAt_195 rfl ?_
    exact z_ireturn dX12_sortAt_199 (Or.inl rfl) rfl h
