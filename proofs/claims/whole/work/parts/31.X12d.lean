set_option maxRecDepth 20000 in
set_option maxHeartbeats 4000000 in
theorem bX12_leaveOut_0 {G : zG} {d : Nat} {M : zM} {Q : zV → zM → Prop} (hG : zP G) {x1 : Int}
    (h : Y G (d + 1) mX12_leaveOut 4 [(2, 234), (0, x1), (0, 0), (0, 0)] [] M Q) :
    Y G (d + 1) mX12_leaveOut 0 [(2, 234), (0, x1), (9, 0), (9, 0)] [] M Q := by
  refine z_iconst dX12_leaveOut_0 ki_0 ?_
  refine y_istoren (ls' := [(2, 234), (0, x1), (0, 0), (9, 0)]) dX12_leaveOut_1 rfl rfl ?_
  refine z_iconst dX12_leaveOut_2 ki_0 ?_
  refine y_istoren (ls' := [(2, 234), (0, x1), (0, 0), (0, 0)]) dX12_leaveOut_3 rfl rfl ?_
  exact h
set_option maxRecDepth 20000 in
set_option maxHeartbeats 4000000 in
theorem bX12_leaveOut_4 {G : zG} {d : Nat} {M : zM} {Q : zV → zM → Prop} (hG : zP G) {x1 x2 x3 : Int}
    (h : (((M 234 40) ≤ x3 → Q (9, 0) (zset M 234 40 x2)) ∧ (x3 < (M 234 40) → (0 ≤ x3 ∧ x3 < 40) ∧ Y G d mX12_isNumber 0 [(2, 234), (0, (M 255 x3))] [] M (fun r M' => Y G (d + 1) mX12_leaveOut 22 [(2, 234), (0, x1), (0, x2), (0, x3)] (zpush r []) M' Q)))) :
    Y G (d + 1) mX12_leaveOut 4 [(2, 234), (0, x1), (0, x2), (0, x3)] [] M Q := by
  refine z_iloadn dX12_leaveOut_4 rfl ?_
  refine z_aloadn dX12_leaveOut_5 rfl (Or.inl rfl) ?_
  refine y_getf (x := (M 234 40)) dX12_leaveOut_6 fX12_403 sh234 (by decide) rfl rfl ?_
  refine z_icmpge (tgt := 90) dX12_leaveOut_9 rfl (fun q => ?_) (fun q => ?_)
  · replace h := h.1 q
    refine z_aloadn dX12_leaveOut_90 rfl (Or.inl rfl) ?_
    refine z_iloadn dX12_leaveOut_91 rfl ?_
    refine y_putf (M' := zset M 234 40 x2) hG dX12_leaveOut_92 fX12_403 sh234 (by decide) ⟨rfl, rfl⟩ p12_40 (fun q => absurd q (by decide)) (by decide) rfl ?_
    exact z_return dX12_leaveOut_95 rfl rfl h
  · replace h := h.2 q
    refine z_aloadn dX12_leaveOut_12 rfl (Or.inl rfl) ?_
    refine z_aloadn dX12_leaveOut_13 rfl (Or.inl rfl) ?_
    refine y_getr (v := 255) hG dX12_leaveOut_14 fX12_78 sh234 (by decide) rfl (by decide +kernel) (by decide) ?_
    refine z_iloadn dX12_leaveOut_17 rfl ?_
    obtain ⟨q1, h⟩ := h
    refine y_iald (x := (M 255 x3)) dX12_leaveOut_18 sh255 q1 rfl ?_
    refine y_cv (mt2 := mX12_isNumber) (en := [(2, 234), (0, (M 255 x3))]) (st := []) (as := [(0, (M 255 x3))]) dX12_leaveOut_19 lX12_416 kX12_isNumber iX12_isNumber eX12_isNumber rfl sh234 (by decide +kernel) (Nat.le_of_ble_eq_true rfl) (Nat.le_of_ble_eq_true rfl) rfl ?_
    exact h
set_option maxRecDepth 20000 in
set_option maxHeartbeats 4000000 in
theorem bX12_leaveOut_22 {G : zG} {d : Nat} {M : zM} {Q : zV → zM → Prop} (hG : zP G) {x1 x2 x3 x49 : Int}
    (h : ((x49 = 0 → (0 ≤ x3 ∧ x3 < 40) ∧ (0 ≤ x2 ∧ x2 < 40) ∧ (0 ≤ x3 ∧ x3 < 40) ∧ (0 ≤ x2 ∧ x2 < 40) ∧ (0 ≤ x3 ∧ x3 < 40) ∧ (0 ≤ x2 ∧ x2 < 40) ∧ (-2147483648 ≤ x2 + 1 ∧ x2 + 1 ≤ 2147483647) ∧ (-2147483648 ≤ x3 + 1 ∧ x3 + 1 ≤ 2147483647) ∧ Y G (d + 1) mX12_leaveOut 4 [(2, 234), (0, x1), (0, (x2 + 1)), (0, (x3 + 1))] [] (zset (zset (zset M 254 x2 (M 254 x3)) 255 x2 (M 255 x3)) 256 x2 (M 256 x3)) Q) ∧ (¬ x49 = 0 → (0 ≤ x3 ∧ x3 < 40) ∧ (-2147483648 ≤ (M 255 x3) + 1 ∧ (M 255 x3) + 1 ≤ 2147483647) ∧ (0 ≤ ((M 255 x3) + 1) ∧ ((M 255 x3) + 1) < 600) ∧ ((¬ (M 251 ((M 255 x3) + 1)) = x1 → (0 ≤ x3 ∧ x3 < 40) ∧ (0 ≤ x2 ∧ x2 < 40) ∧ (0 ≤ x3 ∧ x3 < 40) ∧ (0 ≤ x2 ∧ x2 < 40) ∧ (0 ≤ x3 ∧ x3 < 40) ∧ (0 ≤ x2 ∧ x2 < 40) ∧ (-2147483648 ≤ x2 + 1 ∧ x2 + 1 ≤ 2147483647) ∧ (-2147483648 ≤ x3 + 1 ∧ x3 + 1 ≤ 2147483647) ∧ Y G (d + 1) mX12_leaveOut 4 [(2, 234), (0, x1), (0, (x2 + 1)), (0, (x3 + 1))] [] (zset (zset (zset M 254 x2 (M 254 x3)) 255 x2 (M 255 x3)) 256 x2 (M 256 x3)) Q) ∧ ((M 251 ((M 255 x3) + 1)) = x1 → (-2147483648 ≤ x3 + 1 ∧ x3 + 1 ≤ 2147483647) ∧ Y G (d + 1) mX12_leaveOut 4 [(2, 234), (0, x1), (0, x2), (0, (x3 + 1))] [] M Q))))) :
    Y G (d + 1) mX12_leaveOut 22 [(2, 234), (0, x1), (0, x2), (0, x3)] [(0, x49)] M Q := by
  refine z_ifeq (tgt := 45) dX12_leaveOut_22 rfl (fun q => ?_) (fun q => ?_)
  · replace h := h.1 q
    refine z_aloadn dX12_leaveOut_45 rfl (Or.inl rfl) ?_
    refine y_getr (v := 254) hG dX12_leaveOut_46 fX12_75 sh234 (by decide) rfl (by decide +kernel) (by decide) ?_
    refine z_iloadn dX12_leaveOut_49 rfl ?_
    refine z_aloadn dX12_leaveOut_50 rfl (Or.inl rfl) ?_
    refine y_getr (v := 254) hG dX12_leaveOut_51 fX12_75 sh234 (by decide) rfl (by decide +kernel) (by decide) ?_
    refine z_iloadn dX12_leaveOut_54 rfl ?_
    obtain ⟨q1, h⟩ := h
    refine y_iald (x := (M 254 x3)) dX12_leaveOut_55 sh254 q1 rfl ?_
    obtain ⟨q2, h⟩ := h
    refine y_iast hG dX12_leaveOut_56 sh254 q2 ?_
    refine z_aloadn dX12_leaveOut_57 rfl (Or.inl rfl) ?_
    refine y_getr (v := 255) hG dX12_leaveOut_58 fX12_78 sh234 (by decide) rfl (by decide +kernel) (by decide) ?_
    refine z_iloadn dX12_leaveOut_61 rfl ?_
    refine z_aloadn dX12_leaveOut_62 rfl (Or.inl rfl) ?_
    refine y_getr (v := 255) hG dX12_leaveOut_63 fX12_78 sh234 (by decide) rfl (by decide +kernel) (by decide) ?_
    refine z_iloadn dX12_leaveOut_66 rfl ?_
    obtain ⟨q3, h⟩ := h
    refine y_iald (x := (M 255 x3)) dX12_leaveOut_67 sh255 q3 (zset_ne (fun q => absurd q.1 (by decide))) ?_
    obtain ⟨q4, h⟩ := h
    refine y_iast hG dX12_leaveOut_68 sh255 q4 ?_
    refine z_aloadn dX12_leaveOut_69 rfl (Or.inl rfl) ?_
    refine y_getr (v := 256) hG dX12_leaveOut_70 fX12_81 sh234 (by decide) rfl (by decide +kernel) (by decide) ?_
    refine z_iloadn dX12_leaveOut_73 rfl ?_
    refine z_aloadn dX12_leaveOut_74 rfl (Or.inl rfl) ?_
    refine y_getr (v := 256) hG dX12_leaveOut_75 fX12_81 sh234 (by decide) rfl (by decide +kernel) (by decide) ?_
    refine z_iloadn dX12_leaveOut_78 rfl ?_
    obtain ⟨q5, h⟩ := h
    refine y_iald (x := (M 256 x3)) dX12_leaveOut_79 sh256 q5 (((zset_ne (fun q => absurd q.1 (by decide))).trans (zset_ne (fun q => absurd q.1 (by decide))))) ?_
    obtain ⟨q6, h⟩ := h
    refine y_iast hG dX12_leaveOut_80 sh256 q6 ?_
    obtain ⟨q7, h⟩ := h
    refine y_iinc (ls' := [(2, 234), (0, x1), (0, (x2 + 1)), (0, x3)]) dX12_leaveOut_81 rfl rfl q7 rfl ?_
    obtain ⟨q8, h⟩ := h
    refine y_iinc (ls' := [(2, 234), (0, x1), (0, (x2 + 1)), (0, (x3 + 1))]) dX12_leaveOut_84 rfl rfl q8 rfl ?_
    refine z_goto (tgt := 4) dX12_leaveOut_87 rfl ?_
    exact h
  · replace h := h.2 q
    refine z_aloadn dX12_leaveOut_25 rfl (Or.inl rfl) ?_
    refine y_getr (v := 251) hG dX12_leaveOut_26 fX12_66 sh234 (by decide) rfl (by decide +kernel) (by decide) ?_
    refine z_aloadn dX12_leaveOut_29 rfl (Or.inl rfl) ?_
    refine y_getr (v := 255) hG dX12_leaveOut_30 fX12_78 sh234 (by decide) rfl (by decide +kernel) (by decide) ?_
    refine z_iloadn dX12_leaveOut_33 rfl ?_
    obtain ⟨q9, h⟩ := h
    refine y_iald (x := (M 255 x3)) dX12_leaveOut_34 sh255 q9 rfl ?_
    refine z_iconst dX12_leaveOut_35 ki_1 ?_
    obtain ⟨q10, h⟩ := h
    refine z_iadd dX12_leaveOut_36 q10 ?_
    obtain ⟨q11, h⟩ := h
    refine y_iald (x := (M 251 ((M 255 x3) + 1))) dX12_leaveOut_37 sh251 q11 rfl ?_
    refine z_iloadn dX12_leaveOut_38 rfl ?_
    refine z_icmpne (tgt := 45) dX12_leaveOut_39 rfl (fun q => ?_) (fun q => ?_)
    · replace h := h.1 q
      refine z_aloadn dX12_leaveOut_45 rfl (Or.inl rfl) ?_
      refine y_getr (v := 254) hG dX12_leaveOut_46 fX12_75 sh234 (by decide) rfl (by decide +kernel) (by decide) ?_
      refine z_iloadn dX12_leaveOut_49 rfl ?_
      refine z_aloadn dX12_leaveOut_50 rfl (Or.inl rfl) ?_
      refine y_getr (v := 254) hG dX12_leaveOut_51 fX12_75 sh234 (by decide) rfl (by decide +kernel) (by decide) ?_
      refine z_iloadn dX12_leaveOut_54 rfl ?_
      obtain ⟨q12, h⟩ := h
      refine y_iald (x := (M 254 x3)) dX12_leaveOut_55 sh254 q12 rfl ?_
      obtain ⟨q13, h⟩ := h
      refine y_iast hG dX12_leaveOut_56 sh254 q13 ?_
      refine z_aloadn dX12_leaveOut_57 rfl (Or.inl rfl) ?_
      refine y_getr (v := 255) hG dX12_leaveOut_58 fX12_78 sh234 (by decide) rfl (by decide +kernel) (by decide) ?_
      refine z_iloadn dX12_leaveOut_61 rfl ?_
      refine z_aloadn dX12_leaveOut_62 rfl (Or.inl rfl) ?_
      refine y_getr (v := 255) hG dX12_leaveOut_63 fX12_78 sh234 (by decide) rfl (by decide +kernel) (by decide) ?_
      refine z_iloadn dX12_leaveOut_66 rfl ?_
      obtain ⟨q14, h⟩ := h
      refine y_iald (x := (M 255 x3)) dX12_leaveOut_67 sh255 q14 (zset_ne (fun q => absurd q.1 (by decide))) ?_
      obtain ⟨q15, h⟩ := h
      refine y_iast hG dX12_leaveOut_68 sh255 q15 ?_
      refine z_aloadn dX12_leaveOut_69 rfl (Or.inl rfl) ?_
      refine y_getr (v := 256) hG dX12_leaveOut_70 fX12_81 sh234 (by decide) rfl (by decide +kernel) (by decide) ?_
      refine z_iloadn dX12_leaveOut_73 rfl ?_
      refine z_aloadn dX12_leaveOut_74 rfl (Or.inl rfl) ?_
      refine y_getr (v := 256) hG dX12_leaveOut_75 fX12_81 sh234 (by decide) rfl (by decide +kernel) (by decide) ?_
      refine z_iloadn dX12_leaveOut_78 rfl ?_
      obtain ⟨q16, h⟩ := h
      refine y_iald (x := (M 256 x3)) dX12_leaveOut_79 sh256 q16 (((zset_ne (fun q => absurd q.1 (by decide))).trans (zset_ne (fun q => absurd q.1 (by decide))))) ?_
      obtain ⟨q17, h⟩ := h
      refine y_iast hG dX12_leaveOut_80 sh256 q17 ?_
      obtain ⟨q18, h⟩ := h
      refine y_iinc (ls' := [(2, 234), (0, x1), (0, (x2 + 1)), (0, x3)]) dX12_leaveOut_81 rfl rfl q18 rfl ?_
      obtain ⟨q19, h⟩ := h
      refine y_iinc (ls' := [(2, 234), (0, x1), (0, (x2 + 1)), (0, (x3 + 1))]) dX12_leaveOut_84 rfl rfl q19 rfl ?_
      refine z_goto (tgt := 4) dX12_leaveOut_87 rfl ?_
      exact h
    · replace h := h.2 q
      refine z_goto (tgt := 84) dX12_leaveOut_42 rfl ?_
      obtain ⟨q20, h⟩ := h
      refine y_iinc (ls' := [(2, 234), (0, x1), (0, x2), (0, (x3 + 1))]) dX12_leaveOut_84 rfl rfl q20 rfl ?_
      refine z_goto (tgt := 4) dX12_leaveOut_87 rfl ?_
      exact h
set_option maxRecDepth 20000 in
set_option maxHeartbeats 4000000 in
theorem bX12_areNumbers_0 {G : zG} {d : Nat} {M : zM} {Q : zV → zM → Prop} (hG : zP G)
    (h : Y G (d + 1) mX12_areNumbers 2 [(2, 234), (0, 0)] [] M Q) :
    Y G (d + 1) mX12_areNumbers 0 [(2, 234), (9, 0)] [] M Q := by
  refine z_iconst dX12_areNumbers_0 ki_0 ?_
  refine y_istoren (ls' := [(2, 234), (0, 0)]) dX12_areNumbers_1 rfl rfl ?_
  exact h
set_option maxRecDepth 20000 in
set_option maxHeartbeats 4000000 in
theorem bX12_areNumbers_2 {G : zG} {d : Nat} {M : zM} {Q : zV → zM → Prop} (hG : zP G) {x1 : Int}
    (h : (((M 234 40) ≤ x1 → Q (0, 1) M) ∧ (x1 < (M 234 40) → (0 ≤ x1 ∧ x1 < 40) ∧ Y G d mX12_isNumber 0 [(2, 234), (0, (M 255 x1))] [] M (fun r M' => Y G (d + 1) mX12_areNumbers 20 [(2, 234), (0, x1)] (zpush r []) M' Q)))) :
    Y G (d + 1) mX12_areNumbers 2 [(2, 234), (0, x1)] [] M Q := by
  refine z_iloadn dX12_areNumbers_2 rfl ?_
  refine z_aloadn dX12_areNumbers_3 rfl (Or.inl rfl) ?_
  refine y_getf (x := (M 234 40)) dX12_areNumbers_4 fX12_403 sh234 (by decide) rfl rfl ?_
  refine z_icmpge (tgt := 31) dX12_areNumbers_7 rfl (fun q => ?_) (fun q => ?_)
  · replace h := h.1 q
    refine z_iconst dX12_areNumbers_31 ki_1 ?_
    exact z_ireturn dX12_areNumbers_32 (Or.inr ⟨rfl, ⟨by decide, by decide⟩⟩) rfl h
  · replace h := h.2 q
    refine z_aloadn dX12_areNumbers_10 rfl (Or.inl rfl) ?_
    refine z_aloadn dX12_areNumbers_11 rfl (Or.inl rfl) ?_
    refine y_getr (v := 255) hG dX12_areNumbers_12 fX12_78 sh234 (by decide) rfl (by decide +kernel) (by decide) ?_
    refine z_iloadn dX12_areNumbers_15 rfl ?_
    obtain ⟨q1, h⟩ := h
    refine y_iald (x := (M 255 x1)) dX12_areNumbers_16 sh255 q1 rfl ?_
    refine y_cv (mt2 := mX12_isNumber) (en := [(2, 234), (0, (M 255 x1))]) (st := []) (as := [(0, (M 255 x1))]) dX12_areNumbers_17 lX12_416 kX12_isNumber iX12_isNumber eX12_isNumber rfl sh234 (by decide +kernel) (Nat.le_of_ble_eq_true rfl) (Nat.le_of_ble_eq_true rfl) rfl ?_
    exact h
set_option maxRecDepth 20000 in
set_option maxHeartbeats 4000000 in
theorem bX12_areNumbers_20 {G : zG} {d : Nat} {M : zM} {Q : zV → zM → Prop} (hG : zP G) {x1 x49 : Int}
    (h : ((¬ x49 = 0 → (-2147483648 ≤ x1 + 1 ∧ x1 + 1 ≤ 2147483647) ∧ Y G (d + 1) mX12_areNumbers 2 [(2, 234), (0, (x1 + 1))] [] M Q) ∧ (x49 = 0 → Q (0, 0) M))) :
    Y G (d + 1) mX12_areNumbers 20 [(2, 234), (0, x1)] [(0, x49)] M Q := by
  refine z_ifne (tgt := 25) dX12_areNumbers_20 rfl (fun q => ?_) (fun q => ?_)
  · replace h := h.1 q
    obtain ⟨q1, h⟩ := h
    refine y_iinc (ls' := [(2, 234), (0, (x1 + 1))]) dX12_areNumbers_25 rfl rfl q1 rfl ?_
    refine z_goto (tgt := 2) dX12_areNumbers_28 rfl ?_
    exact h
  · replace h := h.2 q
    refine z_iconst dX12_areNumbers_23 ki_0 ?_
    exact z_ireturn dX12_areNumbers_24 (Or.inr ⟨rfl, ⟨by decide, by decide⟩⟩) rfl h
set_option maxRecDepth 20000 in
set_option maxHeartbeats 4000000 in
theorem bX12_worked_0 {G : zG} {d : Nat} {M : zM} {Q : zV → zM → Prop} (hG : zP G) {x1 : Int}
    (h : ((¬ x1 = 2 → Y G (d + 1) mX12_worked 14 [(2, 234), (0, x1), (1, 1), (9, 0), (0, 0), (9, 0), (9, 0)] [] M Q) ∧ (x1 = 2 → Y G (d + 1) mX12_worked 14 [(2, 234), (0, x1), (1, 0), (9, 0), (0, 0), (9, 0), (9, 0)] [] M Q))) :
    Y G (d + 1) mX12_worked 0 [(2, 234), (0, x1), (9, 0), (9, 0), (9, 0), (9, 0), (9, 0)] [] M Q := by
  refine z_iloadn dX12_worked_0 rfl ?_
  refine z_iconst dX12_worked_1 ki_2 ?_
  refine z_icmpne (tgt := 9) dX12_worked_2 rfl (fun q => ?_) (fun q => ?_)
  · replace h := h.1 q
    refine z_lconst (k := 1) dX12_worked_9 ⟨by decide, ⟨by decide, by decide⟩⟩ ?_
    refine y_lstoren (ls' := [(2, 234), (0, x1), (1, 1), (9, 0), (9, 0), (9, 0), (9, 0)]) dX12_worked_10 rfl (Nat.le_of_ble_eq_true rfl) rfl ?_
    refine z_iconst dX12_worked_11 ki_0 ?_
    refine y_istore (ls' := [(2, 234), (0, x1), (1, 1), (9, 0), (0, 0), (9, 0), (9, 0)]) dX12_worked_12 rfl rfl ?_
    exact h
  · replace h := h.2 q
    refine z_lconst (k := 0) dX12_worked_5 ⟨by decide, ⟨by decide, by decide⟩⟩ ?_
    refine z_goto (tgt := 10) dX12_worked_6 rfl ?_
    refine y_lstoren (ls' := [(2, 234), (0, x1), (1, 0), (9, 0), (9, 0), (9, 0), (9, 0)]) dX12_worked_10 rfl (Nat.le_of_ble_eq_true rfl) rfl ?_
    refine z_iconst dX12_worked_11 ki_0 ?_
    refine y_istore (ls' := [(2, 234), (0, x1), (1, 0), (9, 0), (0, 0), (9, 0), (9, 0)]) dX12_worked_12 rfl rfl ?_
    exact h
set_option maxRecDepth 20000 in
set_option maxHeartbeats 4000000 in
theorem bX12_worked_14 {G : zG} {d : Nat} {M : zM} {Q : zV → zM → Prop} (hG : zP G) {x1 x2 x4 : Int}
    (h : (((M 234 40) ≤ x4 → Q (0, (zw x2)) M) ∧ (x4 < (M 234 40) → (0 ≤ x4 ∧ x4 < 40) ∧ (-2147483648 ≤ (M 255 x4) + 1 ∧ (M 255 x4) + 1 ≤ 2147483647) ∧ (0 ≤ ((M 255 x4) + 1) ∧ ((M 255 x4) + 1) < 600) ∧ ((¬ x1 = 3 → (0 ≤ x4 ∧ x4 < 40) ∧ ((¬ (M 254 x4) = 1 → (zin 1 (x2 + (M 251 ((M 255 x4) + 1)))) ∧ (-2147483648 ≤ x4 + 1 ∧ x4 + 1 ≤ 2147483647) ∧ Y G (d + 1) mX12_worked 14 [(2, 234), (0, x1), (1, (zcl (x2 + (M 251 ((M 255 x4) + 1))))), (9, 0), (0, (x4 + 1)), (9, 0), (9, 0)] [] M Q) ∧ ((M 254 x4) = 1 → (zin 1 (x2 - (M 251 ((M 255 x4) + 1)))) ∧ (-2147483648 ≤ x4 + 1 ∧ x4 + 1 ≤ 2147483647) ∧ Y G (d + 1) mX12_worked 14 [(2, 234), (0, x1), (1, (zcl (x2 - (M 251 ((M 255 x4) + 1))))), (9, 0), (0, (x4 + 1)), (9, 0), (9, 0)] [] M Q))) ∧ (x1 = 3 → (zin 1 (x2 * (M 251 ((M 255 x4) + 1)))) ∧ (-2147483648 ≤ x4 + 1 ∧ x4 + 1 ≤ 2147483647) ∧ Y G (d + 1) mX12_worked 14 [(2, 234), (0, x1), (1, (zcl (x2 * (M 251 ((M 255 x4) + 1))))), (9, 0), (0, (x4 + 1)), (9, 0), (9, 0)] [] M Q))))) :
    Y G (d + 1) mX12_worked 14 [(2, 234), (0, x1), (1, x2), (9, 0), (0, x4), (9, 0), (9, 0)] [] M Q := by
  refine z_iload dX12_worked_14 rfl ?_
  refine z_aloadn dX12_worked_16 rfl (Or.inl rfl) ?_
  refine y_getf (x := (M 234 40)) dX12_worked_17 fX12_403 sh234 (by decide) rfl rfl ?_
  refine z_icmpge (tgt := 84) dX12_worked_20 rfl (fun q => ?_) (fun q => ?_)
  · replace h := h.1 q
    refine z_lloadn dX12_worked_84 rfl ?_
    refine z_l2i dX12_worked_85 ?_
    exact z_ireturn dX12_worked_86 (Or.inl rfl) rfl h
  · replace h := h.2 q
    refine z_aloadn dX12_worked_23 rfl (Or.inl rfl) ?_
    refine y_getr (v := 251) hG dX12_worked_24 fX12_66 sh234 (by decide) rfl (by decide +kernel) (by decide) ?_
    refine z_aloadn dX12_worked_27 rfl (Or.inl rfl) ?_
    refine y_getr (v := 255) hG dX12_worked_28 fX12_78 sh234 (by decide) rfl (by decide +kernel) (by decide) ?_
    refine z_iload dX12_worked_31 rfl ?_
    obtain ⟨q1, h⟩ := h
    refine y_iald (x := (M 255 x4)) dX12_worked_33 sh255 q1 rfl ?_
    refine z_iconst dX12_worked_34 ki_1 ?_
    obtain ⟨q2, h⟩ := h
    refine z_iadd dX12_worked_35 q2 ?_
    obtain ⟨q3, h⟩ := h
    refine y_iald (x := (M 251 ((M 255 x4) + 1))) dX12_worked_36 sh251 q3 rfl ?_
    refine z_i2l dX12_worked_37 ?_
    refine y_lstore (ls' := [(2, 234), (0, x1), (1, x2), (9, 0), (0, x4), (1, (M 251 ((M 255 x4) + 1))), (9, 0)]) dX12_worked_38 rfl (Nat.le_of_ble_eq_true rfl) rfl ?_
    refine z_iloadn dX12_worked_40 rfl ?_
    refine z_iconst dX12_worked_41 ki_3 ?_
    refine z_icmpne (tgt := 52) dX12_worked_42 rfl (fun q => ?_) (fun q => ?_)
    · replace h := h.1 q
      refine z_aloadn dX12_worked_52 rfl (Or.inl rfl) ?_
      refine y_getr (v := 254) hG dX12_worked_53 fX12_75 sh234 (by decide) rfl (by decide +kernel) (by decide) ?_
      refine z_iload dX12_worked_56 rfl ?_
      obtain ⟨q4, h⟩ := h
      refine y_iald (x := (M 254 x4)) dX12_worked_58 sh254 q4 rfl ?_
      refine z_iconst dX12_worked_59 ki_1 ?_
      refine z_icmpne (tgt := 70) dX12_worked_60 rfl (fun q => ?_) (fun q => ?_)
      · replace h := h.1 q
        refine z_lloadn dX12_worked_70 rfl ?_
        refine z_lload dX12_worked_71 rfl ?_
        obtain ⟨q5, h⟩ := h
        refine z_ladd dX12_worked_73 q5 ?_
        refine y_cs (mt2 := mX12_held) (en := [(1, (x2 + (M 251 ((M 255 x4) + 1)))), (9, 0)]) (st := []) (as := [(1, (x2 + (M 251 ((M 255 x4) + 1))))]) dX12_worked_74 lX12_376 kX12_held tX12_held rfl (Nat.le_of_ble_eq_true rfl) (Nat.le_of_ble_eq_true rfl) rfl (s_held hG ?_)
        show Y G (d + 1) mX12_worked 77 [(2, 234), (0, x1), (1, x2), (9, 0), (0, x4), (1, (M 251 ((M 255 x4) + 1))), (9, 0)] [(1, (zcl (x2 + (M 251 ((M 255 x4) + 1)))))] M Q
        refine y_lstoren (ls' := [(2, 234), (0, x1), (1, (zcl (x2 + (M 251 ((M 255 x4) + 1))))), (9, 0), (0, x4), (1, (M 251 ((M 255 x4) + 1))), (9, 0)]) dX12_worked_77 rfl (Nat.le_of_ble_eq_true rfl) rfl ?_
        obtain ⟨q6, h⟩ := h
        refine y_iinc (ls' := [(2, 234), (0, x1), (1, (zcl (x2 + (M 251 ((M 255 x4) + 1))))), (9, 0), (0, (x4 + 1)), (1, (M 251 ((M 255 x4) + 1))), (9, 0)]) dX12_worked_78 rfl rfl q6 rfl ?_
        refine z_goto (tgt := 14) dX12_worked_81 rfl ?_
        refine z_sub (ls' := [(2, 234), (0, x1), (1, (zcl (x2 + (M 251 ((M 255 x4) + 1))))), (9, 0), (0, (x4 + 1)), (9, 0), (9, 0)]) ⟨Or.inl rfl, Or.inl rfl, Or.inl rfl, Or.inl rfl, Or.inl rfl, Or.inr rfl, Or.inl rfl, trivial⟩ ?_
        exact h
      · replace h := h.2 q
        refine z_lloadn dX12_worked_63 rfl ?_
        refine z_lload dX12_worked_64 rfl ?_
        obtain ⟨q7, h⟩ := h
        refine z_lsub dX12_worked_66 q7 ?_
        refine z_goto (tgt := 74) dX12_worked_67 rfl ?_
        refine y_cs (mt2 := mX12_held) (en := [(1, (x2 - (M 251 ((M 255 x4) + 1)))), (9, 0)]) (st := []) (as := [(1, (x2 - (M 251 ((M 255 x4) + 1))))]) dX12_worked_74 lX12_376 kX12_held tX12_held rfl (Nat.le_of_ble_eq_true rfl) (Nat.le_of_ble_eq_true rfl) rfl (s_held hG ?_)
        show Y G (d + 1) mX12_worked 77 [(2, 234), (0, x1), (1, x2), (9, 0), (0, x4), (1, (M 251 ((M 255 x4) + 1))), (9, 0)] [(1, (zcl (x2 - (M 251 ((M 255 x4) + 1)))))] M Q
        refine y_lstoren (ls' := [(2, 234), (0, x1), (1, (zcl (x2 - (M 251 ((M 255 x4) + 1))))), (9, 0), (0, x4), (1, (M 251 ((M 255 x4) + 1))), (9, 0)]) dX12_worked_77 rfl (Nat.le_of_ble_eq_true rfl) rfl ?_
        obtain ⟨q8, h⟩ := h
        refine y_iinc (ls' := [(2, 234), (0, x1), (1, (zcl (x2 - (M 251 ((M 255 x4) + 1))))), (9, 0), (0, (x4 + 1)), (1, (M 251 ((M 255 x4) + 1))), (9, 0)]) dX12_worked_78 rfl rfl q8 rfl ?_
        refine z_goto (tgt := 14) dX12_worked_81 rfl ?_
        refine z_sub (ls' := [(2, 234), (0, x1), (1, (zcl (x2 - (M 251 ((M 255 x4) + 1))))), (9, 0), (0, (x4 + 1)), (9, 0), (9, 0)]) ⟨Or.inl rfl, Or.inl rfl, Or.inl rfl, Or.inl rfl, Or.inl rfl, Or.inr rfl, Or.inl rfl, trivial⟩ ?_
        exact h
    · replace h := h.2 q
      refine z_lloadn dX12_worked_45 rfl ?_
      refine z_lload dX12_worked_46 rfl ?_
      obtain ⟨q9, h⟩ := h
      refine z_lmul dX12_worked_48 q9 ?_
      refine z_goto (tgt := 74) dX12_worked_49 rfl ?_
      refine y_cs (mt2 := mX12_held) (en := [(1, (x2 * (M 251 ((M 255 x4) + 1)))), (9, 0)]) (st := []) (as := [(1, (x2 * (M 251 ((M 255 x4) + 1))))]) dX12_worked_74 lX12_376 kX12_held tX12_held rfl (Nat.le_of_ble_eq_true rfl) (Nat.le_of_ble_eq_true rfl) rfl (s_held hG ?_)
      show Y G (d + 1) mX12_worked 77 [(2, 234), (0, x1), (1, x2), (9, 0), (0, x4), (1, (M 251 ((M 255 x4) + 1))), (9, 0)] [(1, (zcl (x2 * (M 251 ((M 255 x4) + 1)))))] M Q
      refine y_lstoren (ls' := [(2, 234), (0, x1), (1, (zcl (x2 * (M 251 ((M 255 x4) + 1))))), (9, 0), (0, x4), (1, (M 251 ((M 255 x4) + 1))), (9, 0)]) dX12_worked_77 rfl (Nat.le_of_ble_eq_true rfl) rfl ?_
      obtain ⟨q10, h⟩ := h
      refine y_iinc (ls' := [(2, 234), (0, x1), (1, (zcl (x2 * (M 251 ((M 255 x4) + 1))))), (9, 0), (0, (x4 + 1)), (1, (M 251 ((M 255 x4) + 1))), (9, 0)]) dX12_worked_78 rfl rfl q10 rfl ?_
      refine z_goto (tgt := 14) dX12_worked_81 rfl ?_
      refine z_sub (ls' := [(2, 234), (0, x1), (1, (zcl (x2 * (M 251 ((M 255 x4) + 1))))), (9, 0), (0, (x4 + 1)), (9, 0), (9, 0)]) ⟨Or.inl rfl, Or.inl rfl, Or.inl rfl, Or.inl rfl, Or.inl rfl, Or.inr rfl, Or.inl rfl, trivial⟩ ?_
      exact h
set_option maxRecDepth 20000 in
set_option maxHeartbeats 4000000 in
theorem bX12_exchange_0 {G : zG} {d : Nat} {M : zM} {Q : zV → zM → Prop} (hG : zP G) {x1 x2 : Int}
    (h : (0 ≤ x1 ∧ x1 < 40) ∧ (0 ≤ x1 ∧ x1 < 40) ∧ (0 ≤ x1 ∧ x1 < 40) ∧ (0 ≤ x2 ∧ x2 < 40) ∧ (0 ≤ x1 ∧ x1 < 40) ∧ (0 ≤ x2 ∧ x2 < 40) ∧ (0 ≤ x1 ∧ x1 < 40) ∧ (0 ≤ x2 ∧ x2 < 40) ∧ (0 ≤ x1 ∧ x1 < 40) ∧ (0 ≤ x2 ∧ x2 < 40) ∧ (0 ≤ x2 ∧ x2 < 40) ∧ (0 ≤ x2 ∧ x2 < 40) ∧ Q (9, 0) (zset (zset (zset (zset (zset (zset M 254 x1 (M 254 x2)) 255 x1 (M 255 x2)) 256 x1 (M 256 x2)) 254 x2 (M 254 x1)) 255 x2 (M 255 x1)) 256 x2 (M 256 x1))) :
    Y G d mX12_exchange 0 [(2, 234), (0, x1), (0, x2), (9, 0), (9, 0), (9, 0)] [] M Q := by
  refine z_aloadn dX12_exchange_0 rfl (Or.inl rfl) ?_
  refine y_getr (v := 254) hG dX12_exchange_1 fX12_75 sh234 (by decide) rfl (by decide +kernel) (by decide) ?_
  refine z_iloadn dX12_exchange_4 rfl ?_
  obtain ⟨q1, h⟩ := h
  refine y_iald (x := (M 254 x1)) dX12_exchange_5 sh254 q1 rfl ?_
  refine y_istoren (ls' := [(2, 234), (0, x1), (0, x2), (0, (M 254 x1)), (9, 0), (9, 0)]) dX12_exchange_6 rfl rfl ?_
  refine z_aloadn dX12_exchange_7 rfl (Or.inl rfl) ?_
  refine y_getr (v := 255) hG dX12_exchange_8 fX12_78 sh234 (by decide) rfl (by decide +kernel) (by decide) ?_
  refine z_iloadn dX12_exchange_11 rfl ?_
  obtain ⟨q2, h⟩ := h
  refine y_iald (x := (M 255 x1)) dX12_exchange_12 sh255 q2 rfl ?_
  refine y_istore (ls' := [(2, 234), (0, x1), (0, x2), (0, (M 254 x1)), (0, (M 255 x1)), (9, 0)]) dX12_exchange_13 rfl rfl ?_
  refine z_aloadn dX12_exchange_15 rfl (Or.inl rfl) ?_
  refine y_getr (v := 256) hG dX12_exchange_16 fX12_81 sh234 (by decide) rfl (by decide +kernel) (by decide) ?_
  refine z_iloadn dX12_exchange_19 rfl ?_
  obtain ⟨q3, h⟩ := h
  refine y_iald (x := (M 256 x1)) dX12_exchange_20 sh256 q3 rfl ?_
  refine y_istore (ls' := [(2, 234), (0, x1), (0, x2), (0, (M 254 x1)), (0, (M 255 x1)), (0, (M 256 x1))]) dX12_exchange_21 rfl rfl ?_
  refine z_aloadn dX12_exchange_23 rfl (Or.inl rfl) ?_
  refine y_getr (v := 254) hG dX12_exchange_24 fX12_75 sh234 (by decide) rfl (by decide +kernel) (by decide) ?_
  refine z_iloadn dX12_exchange_27 rfl ?_
  refine z_aloadn dX12_exchange_28 rfl (Or.inl rfl) ?_
  refine y_getr (v := 254) hG dX12_exchange_29 fX12_75 sh234 (by decide) rfl (by decide +kernel) (by decide) ?_
  refine z_iloadn dX12_exchange_32 rfl ?_
  obtain ⟨q4, h⟩ := h
  refine y_iald (x := (M 254 x2)) dX12_exchange_33 sh254 q4 rfl ?_
  obtain ⟨q5, h⟩ := h
  refine y_iast hG dX12_exchange_34 sh254 q5 ?_
  refine z_aloadn dX12_exchange_35 rfl (Or.inl rfl) ?_
  refine y_getr (v := 255) hG dX12_exchange_36 fX12_78 sh234 (by decide) rfl (by decide +kernel) (by decide) ?_
  refine z_iloadn dX12_exchange_39 rfl ?_
  refine z_aloadn dX12_exchange_40 rfl (Or.inl rfl) ?_
  refine y_getr (v := 255) hG dX12_exchange_41 fX12_78 sh234 (by decide) rfl (by decide +kernel) (by decide) ?_
  refine z_iloadn dX12_exchange_44 rfl ?_
  obtain ⟨q6, h⟩ := h
  refine y_iald (x := (M 255 x2)) dX12_exchange_45 sh255 q6 (zset_ne (fun q => absurd q.1 (by decide))) ?_
  obtain ⟨q7, h⟩ := h
  refine y_iast hG dX12_exchange_46 sh255 q7 ?_
  refine z_aloadn dX12_exchange_47 rfl (Or.inl rfl) ?_
  refine y_getr (v := 256) hG dX12_exchange_48 fX12_81 sh234 (by decide) rfl (by decide +kernel) (by decide) ?_
  refine z_iloadn dX12_exchange_51 rfl ?_
  refine z_aloadn dX12_exchange_52 rfl (Or.inl rfl) ?_
  refine y_getr (v := 256) hG dX12_exchange_53 fX12_81 sh234 (by decide) rfl (by decide +kernel) (by decide) ?_
  refine z_iloadn dX12_exchange_56 rfl ?_
  obtain ⟨q8, h⟩ := h
  refine y_iald (x := (M 256 x2)) dX12_exchange_57 sh256 q8 (((zset_ne (fun q => absurd q.1 (by decide))).trans (zset_ne (fun q => absurd q.1 (by decide))))) ?_
  obtain ⟨q9, h⟩ := h
  refine y_iast hG dX12_exchange_58 sh256 q9 ?_
  refine z_aloadn dX12_exchange_59 rfl (Or.inl rfl) ?_
  refine y_getr (v := 254) hG dX12_exchange_60 fX12_75 sh234 (by decide) rfl (by decide +kernel) (by decide) ?_
  refine z_iloadn dX12_exchange_63 rfl ?_
  refine z_iloadn dX12_exchange_64 rfl ?_
  obtain ⟨q10, h⟩ := h
  refine y_iast hG dX12_exchange_65 sh254 q10 ?_
  refine z_aloadn dX12_exchange_66 rfl (Or.inl rfl) ?_
  refine y_getr (v := 255) hG dX12_exchange_67 fX12_78 sh234 (by decide) rfl (by decide +kernel) (by decide) ?_
  refine z_iloadn dX12_exchange_70 rfl ?_
  refine z_iload dX12_exchange_71 rfl ?_
  obtain ⟨q11, h⟩ := h
  refine y_iast hG dX12_exchange_73 sh255 q11 ?_
  refine z_aloadn dX12_exchange_74 rfl (Or.inl rfl) ?_
  refine y_getr (v := 256) hG dX12_exchange_75 fX12_81 sh234 (by decide) rfl (by decide +kernel) (by decide) ?_
  refine z_iloadn dX12_exchange_78 rfl ?_
  refine z_iload dX12_exchange_79 rfl ?_
  obtain ⟨q12, h⟩ := h
  refine y_iast hG dX12_exchange_81 sh256 q12 ?_
  exact z_return dX12_exchange_82 rfl rfl h
set_option maxRecDepth 20000 in
set_option maxHeartbeats 4000000 in
theorem bX12_isAhead_0 {G : zG} {d : Nat} {M : zM} {Q : zV → zM → Prop} (hG : zP G) {x1 x2 : Int}
    (h : (0 ≤ x1 ∧ x1 < 40) ∧ (0 ≤ x2 ∧ x2 < 40) ∧ (((M 254 x1) = (M 254 x2) → (0 ≤ x1 ∧ x1 < 40) ∧ (0 ≤ x1 ∧ x1 < 40) ∧ (0 ≤ x2 ∧ x2 < 40) ∧ (0 ≤ x2 ∧ x2 < 40) ∧ Y G d mX12_compared 0 [(2, 234), (0, (M 255 x1)), (0, (M 256 x1)), (0, (M 255 x2)), (0, (M 256 x2)), (9, 0)] [] M (fun r M' => Y G (d + 1) mX12_isAhead 64 [(2, 234), (0, x1), (0, x2)] (zpush r []) M' Q)) ∧ (¬ (M 254 x1) = (M 254 x2) → (0 ≤ x1 ∧ x1 < 40) ∧ (0 ≤ x2 ∧ x2 < 40) ∧ (((M 254 x2) ≤ (M 254 x1) → Q (0, 0) M) ∧ ((M 254 x1) < (M 254 x2) → Q (0, 1) M))))) :
    Y G (d + 1) mX12_isAhead 0 [(2, 234), (0, x1), (0, x2)] [] M Q := by
  refine z_aloadn dX12_isAhead_0 rfl (Or.inl rfl) ?_
  refine y_getr (v := 254) hG dX12_isAhead_1 fX12_75 sh234 (by decide) rfl (by decide +kernel) (by decide) ?_
  refine z_iloadn dX12_isAhead_4 rfl ?_
  obtain ⟨q1, h⟩ := h
  refine y_iald (x := (M 254 x1)) dX12_isAhead_5 sh254 q1 rfl ?_
  refine z_aloadn dX12_isAhead_6 rfl (Or.inl rfl) ?_
  refine y_getr (v := 254) hG dX12_isAhead_7 fX12_75 sh234 (by decide) rfl (by decide +kernel) (by decide) ?_
  refine z_iloadn dX12_isAhead_10 rfl ?_
  obtain ⟨q2, h⟩ := h
  refine y_iald (x := (M 254 x2)) dX12_isAhead_11 sh254 q2 rfl ?_
  refine z_icmpeq (tgt := 36) dX12_isAhead_12 rfl (fun q => ?_) (fun q => ?_)
  · replace h := h.1 q
    refine z_aloadn dX12_isAhead_36 rfl (Or.inl rfl) ?_
    refine z_aloadn dX12_isAhead_37 rfl (Or.inl rfl) ?_
    refine y_getr (v := 255) hG dX12_isAhead_38 fX12_78 sh234 (by decide) rfl (by decide +kernel) (by decide) ?_
    refine z_iloadn dX12_isAhead_41 rfl ?_
    obtain ⟨q3, h⟩ := h
    refine y_iald (x := (M 255 x1)) dX12_isAhead_42 sh255 q3 rfl ?_
    refine z_aloadn dX12_isAhead_43 rfl (Or.inl rfl) ?_
    refine y_getr (v := 256) hG dX12_isAhead_44 fX12_81 sh234 (by decide) rfl (by decide +kernel) (by decide) ?_
    refine z_iloadn dX12_isAhead_47 rfl ?_
    obtain ⟨q4, h⟩ := h
    refine y_iald (x := (M 256 x1)) dX12_isAhead_48 sh256 q4 rfl ?_
    refine z_aloadn dX12_isAhead_49 rfl (Or.inl rfl) ?_
    refine y_getr (v := 255) hG dX12_isAhead_50 fX12_78 sh234 (by decide) rfl (by decide +kernel) (by decide) ?_
    refine z_iloadn dX12_isAhead_53 rfl ?_
    obtain ⟨q5, h⟩ := h
    refine y_iald (x := (M 255 x2)) dX12_isAhead_54 sh255 q5 rfl ?_
    refine z_aloadn dX12_isAhead_55 rfl (Or.inl rfl) ?_
    refine y_getr (v := 256) hG dX12_isAhead_56 fX12_81 sh234 (by decide) rfl (by decide +kernel) (by decide) ?_
    refine z_iloadn dX12_isAhead_59 rfl ?_
    obtain ⟨q6, h⟩ := h
    refine y_iald (x := (M 256 x2)) dX12_isAhead_60 sh256 q6 rfl ?_
    refine y_cv (mt2 := mX12_compared) (en := [(2, 234), (0, (M 255 x1)), (0, (M 256 x1)), (0, (M 255 x2)), (0, (M 256 x2)), (9, 0)]) (st := []) (as := [(0, (M 255 x1)), (0, (M 256 x1)), (0, (M 255 x2)), (0, (M 256 x2))]) dX12_isAhead_61 lX12_419 kX12_compared iX12_compared eX12_compared rfl sh234 (by decide +kernel) (Nat.le_of_ble_eq_true rfl) (Nat.le_of_ble_eq_true rfl) rfl ?_
    exact h
  · replace h := h.2 q
    refine z_aloadn dX12_isAhead_15 rfl (Or.inl rfl) ?_
    refine y_getr (v := 254) hG dX12_isAhead_16 fX12_75 sh234 (by decide) rfl (by decide +kernel) (by decide) ?_
    refine z_iloadn dX12_isAhead_19 rfl ?_
    obtain ⟨q7, h⟩ := h
    refine y_iald (x := (M 254 x1)) dX12_isAhead_20 sh254 q7 rfl ?_
    refine z_aloadn dX12_isAhead_21 rfl (Or.inl rfl) ?_
    refine y_getr (v := 254) hG dX12_isAhead_22 fX12_75 sh234 (by decide) rfl (by decide +kernel) (by decide) ?_
    refine z_iloadn dX12_isAhead_25 rfl ?_
    obtain ⟨q8, h⟩ := h
    refine y_iald (x := (M 254 x2)) dX12_isAhead_26 sh254 q8 rfl ?_
    refine z_icmpge (tgt := 34) dX12_isAhead_27 rfl (fun q => ?_) (fun q => ?_)
    · replace h := h.1 q
      refine z_iconst dX12_isAhead_34 ki_0 ?_
      exact z_ireturn dX12_isAhead_35 (Or.inr ⟨rfl, ⟨by decide, by decide⟩⟩) rfl h
    · replace h := h.2 q
      refine z_iconst dX12_isAhead_30 ki_1 ?_
      refine z_goto (tgt := 35) dX12_isAhead_31 rfl ?_
      exact z_ireturn dX12_isAhead_35 (Or.inr ⟨rfl, ⟨by decide, by decide⟩⟩) rfl h
set_option maxRecDepth 20000 in
set_option maxHeartbeats 4000000 in
theorem bX12_isAhead_64 {G : zG} {d : Nat} {M : zM} {Q : zV → zM → Prop} (hG : zP G) {x1 x2 x49 : Int}
    (h : ((0 ≤ x49 → Q (0, 0) M) ∧ (x49 < 0 → Q (0, 1) M))) :
    Y G (d + 1) mX12_isAhead 64 [(2, 234), (0, x1), (0, x2)] [(0, x49)] M Q := by
  refine z_ifge (tgt := 71) dX12_isAhead_64 rfl (fun q => ?_) (fun q => ?_)
  · replace h := h.1 q
    refine z_iconst dX12_isAhead_71 ki_0 ?_
    exact z_ireturn dX12_isAhead_72 (Or.inr ⟨rfl, ⟨by decide, by decide⟩⟩) rfl h
  · replace h := h.2 q
    refine z_iconst dX12_isAhead_67 ki_1 ?_
    refine z_goto (tgt := 72) dX12_isAhead_68 rfl ?_
    exact z_ireturn dX12_isAhead_72 (Or.inr ⟨rfl, ⟨by decide, by decide⟩⟩) rfl h
set_option maxRecDepth 20000 in
set_option maxHeartbeats 4000000 in
theorem bX12_setInOrder_0 {G : zG} {d : Nat} {M : zM} {Q : zV → zM → Prop} (hG : zP G)
    (h : Y G (d + 1) mX12_setInOrder 2 [(2, 234), (0, 0), (9, 0)] [] M Q) :
    Y G (d + 1) mX12_setInOrder 0 [(2, 234), (9, 0), (9, 0)] [] M Q := by
  refine z_iconst dX12_setInOrder_0 ki_0 ?_
  refine y_istoren (ls' := [(2, 234), (0, 0), (9, 0)]) dX12_setInOrder_1 rfl rfl ?_
  exact h
set_option maxRecDepth 20000 in
set_option maxHeartbeats 4000000 in
theorem bX12_setInOrder_2 {G : zG} {d : Nat} {M : zM} {Q : zV → zM → Prop} (hG : zP G) {x1 : Int}
    (h : (((M 234 40) ≤ x1 → Q (9, 0) M) ∧ (x1 < (M 234 40) → (-2147483648 ≤ x1 + 1 ∧ x1 + 1 ≤ 2147483647) ∧ Y G (d + 1) mX12_setInOrder 14 [(2, 234), (0, x1), (0, (x1 + 1))] [] M Q))) :
    Y G (d + 1) mX12_setInOrder 2 [(2, 234), (0, x1), (9, 0)] [] M Q := by
  refine z_iloadn dX12_setInOrder_2 rfl ?_
  refine z_aloadn dX12_setInOrder_3 rfl (Or.inl rfl) ?_
  refine y_getf (x := (M 234 40)) dX12_setInOrder_4 fX12_403 sh234 (by decide) rfl rfl ?_
  refine z_icmpge (tgt := 49) dX12_setInOrder_7 rfl (fun q => ?_) (fun q => ?_)
  · replace h := h.1 q
    exact z_return dX12_setInOrder_49 rfl rfl h
  · replace h := h.2 q
    refine z_iloadn dX12_setInOrder_10 rfl ?_
    refine z_iconst dX12_setInOrder_11 ki_1 ?_
    obtain ⟨q1, h⟩ := h
    refine z_iadd dX12_setInOrder_12 q1 ?_
    refine y_istoren (ls' := [(2, 234), (0, x1), (0, (x1 + 1))]) dX12_setInOrder_13 rfl rfl ?_
    exact h
set_option maxRecDepth 20000 in
set_option maxHeartbeats 4000000 in
theorem bX12_setInOrder_14 {G : zG} {d : Nat} {M : zM} {Q : zV → zM → Prop} (hG : zP G) {x1 x2 : Int}
    (h : (((M 234 40) ≤ x2 → (-2147483648 ≤ x1 + 1 ∧ x1 + 1 ≤ 2147483647) ∧ Y G (d + 1) mX12_setInOrder 2 [(2, 234), (0, (x1 + 1)), (9, 0)] [] M Q) ∧ (x2 < (M 234 40) → Y G d mX12_isAhead 0 [(2, 234), (0, x2), (0, x1)] [] M (fun r M' => Y G (d + 1) mX12_setInOrder 28 [(2, 234), (0, x1), (0, x2)] (zpush r []) M' Q)))) :
    Y G (d + 1) mX12_setInOrder 14 [(2, 234), (0, x1), (0, x2)] [] M Q := by
  refine z_iloadn dX12_setInOrder_14 rfl ?_
  refine z_aloadn dX12_setInOrder_15 rfl (Or.inl rfl) ?_
  refine y_getf (x := (M 234 40)) dX12_setInOrder_16 fX12_403 sh234 (by decide) rfl rfl ?_
  refine z_icmpge (tgt := 43) dX12_setInOrder_19 rfl (fun q => ?_) (fun q => ?_)
  · replace h := h.1 q
    obtain ⟨q1, h⟩ := h
    refine y_iinc (ls' := [(2, 234), (0, (x1 + 1)), (0, x2)]) dX12_setInOrder_43 rfl rfl q1 rfl ?_
    refine z_goto (tgt := 2) dX12_setInOrder_46 rfl ?_
    refine z_sub (ls' := [(2, 234), (0, (x1 + 1)), (9, 0)]) ⟨Or.inl rfl, Or.inl rfl, Or.inr rfl, trivial⟩ ?_
    exact h
  · replace h := h.2 q
    refine z_aloadn dX12_setInOrder_22 rfl (Or.inl rfl) ?_
    refine z_iloadn dX12_setInOrder_23 rfl ?_
    refine z_iloadn dX12_setInOrder_24 rfl ?_
    refine y_cv (mt2 := mX12_isAhead) (en := [(2, 234), (0, x2), (0, x1)]) (st := []) (as := [(0, x2), (0, x1)]) dX12_setInOrder_25 lX12_423 kX12_isAhead iX12_isAhead eX12_isAhead rfl sh234 (by decide +kernel) (Nat.le_of_ble_eq_true rfl) (Nat.le_of_ble_eq_true rfl) rfl ?_
    exact h
set_option maxRecDepth 20000 in
set_option maxHeartbeats 4000000 in
theorem bX12_setInOrder_28 {G : zG} {d : Nat} {M : zM} {Q : zV → zM → Prop} (hG : zP G) {x1 x2 x49 : Int}
    (h : ((x49 = 0 → (-2147483648 ≤ x2 + 1 ∧ x2 + 1 ≤ 2147483647) ∧ Y G (d + 1) mX12_setInOrder 14 [(2, 234), (0, x1), (0, (x2 + 1))] [] M Q) ∧ (¬ x49 = 0 → Y G d mX12_exchange 0 [(2, 234), (0, x1), (0, x2), (9, 0), (9, 0), (9, 0)] [] M (fun r M' => Y G (d + 1) mX12_setInOrder 37 [(2, 234), (0, x1), (0, x2)] (zpush r []) M' Q)))) :
    Y G (d + 1) mX12_setInOrder 28 [(2, 234), (0, x1), (0, x2)] [(0, x49)] M Q := by
  refine z_ifeq (tgt := 37) dX12_setInOrder_28 rfl (fun q => ?_) (fun q => ?_)
  · replace h := h.1 q
    obtain ⟨q1, h⟩ := h
    refine y_iinc (ls' := [(2, 234), (0, x1), (0, (x2 + 1))]) dX12_setInOrder_37 rfl rfl q1 rfl ?_
    refine z_goto (tgt := 14) dX12_setInOrder_40 rfl ?_
    exact h
  · replace h := h.2 q
    refine z_aloadn dX12_setInOrder_31 rfl (Or.inl rfl) ?_
    refine z_iloadn dX12_setInOrder_32 rfl ?_
    refine z_iloadn dX12_setInOrder_33 rfl ?_
    refine y_cv (mt2 := mX12_exchange) (en := [(2, 234), (0, x1), (0, x2), (9, 0), (9, 0), (9, 0)]) (st := []) (as := [(0, x1), (0, x2)]) dX12_setInOrder_34 lX12_426 kX12_exchange iX12_exchange eX12_exchange rfl sh234 (by decide +kernel) (Nat.le_of_ble_eq_true rfl) (Nat.le_of_ble_eq_true rfl) rfl ?_
    exact h
set_option maxRecDepth 20000 in
set_option maxHeartbeats 4000000 in
theorem bX12_setInOrder_37 {G : zG} {d : Nat} {M : zM} {Q : zV → zM → Prop} (hG : zP G) {x1 x2 : Int}
    (h : (-2147483648 ≤ x2 + 1 ∧ x2 + 1 ≤ 2147483647) ∧ Y G (d + 1) mX12_setInOrder 14 [(2, 234), (0, x1), (0, (x2 + 1))] [] M Q) :
    Y G (d + 1) mX12_setInOrder 37 [(2, 234), (0, x1), (0, x2)] [] M Q := by
  obtain ⟨q1, h⟩ := h
  refine y_iinc (ls' := [(2, 234), (0, x1), (0, (x2 + 1))]) dX12_setInOrder_37 rfl rfl q1 rfl ?_
  refine z_goto (tgt := 14) dX12_setInOrder_40 rfl ?_
  exact h
set_option maxRecDepth 20000 in
set_option maxHeartbeats 4000000 in
theorem bX12_put_0 {G : zG} {d : Nat} {M : zM} {Q : zV → zM → Prop} (hG : zP G) {x1 x2 : Int}
    (h : (-2147483648 ≤ (M 234 36) - x1 ∧ (M 234 36) - x1 ≤ 2147483647) ∧ (0 ≤ ((M 234 36) - x1) ∧ ((M 234 36) - x1) < 130) ∧ Y G d mX12_put 23 [(2, 234), (0, x1), (0, x2), (0, (M 252 ((M 234 36) - x1))), (0, 0)] [] (zset M 234 36 ((M 234 36) - x1)) Q) :
    Y G d mX12_put 0 [(2, 234), (0, x1), (0, x2), (9, 0), (9, 0)] [] M Q := by
  refine z_aloadn dX12_put_0 rfl (Or.inl rfl) ?_
  refine z_dup dX12_put_1 (show (2 : Nat) ≠ 1 by decide) ?_
  refine y_getf (x := (M 234 36)) dX12_put_2 fX12_406 sh234 (by decide) rfl rfl ?_
  refine z_iloadn dX12_put_5 rfl ?_
  obtain ⟨q1, h⟩ := h
  refine z_isub dX12_put_6 q1 ?_
  refine y_putf (M' := zset M 234 36 ((M 234 36) - x1)) hG dX12_put_7 fX12_406 sh234 (by decide) ⟨rfl, rfl⟩ p12_36 (fun q => absurd q (by decide)) (by decide) rfl ?_
  refine z_aloadn dX12_put_10 rfl (Or.inl rfl) ?_
  refine y_getr (v := 252) hG dX12_put_11 fX12_69 sh234 (by decide) rfl (by decide +kernel) (by decide) ?_
  refine z_aloadn dX12_put_14 rfl (Or.inl rfl) ?_
  refine y_getf (x := ((M 234 36) - x1)) dX12_put_15 fX12_406 sh234 (by decide) rfl zset_same ?_
  obtain ⟨q2, h⟩ := h
  refine y_iald (x := (M 252 ((M 234 36) - x1))) dX12_put_18 sh252 q2 (zset_ne (fun q => absurd q.1 (by decide))) ?_
  refine y_istoren (ls' := [(2, 234), (0, x1), (0, x2), (0, (M 252 ((M 234 36) - x1))), (9, 0)]) dX12_put_19 rfl rfl ?_
  refine z_iconst dX12_put_20 ki_0 ?_
  refine y_istore (ls' := [(2, 234), (0, x1), (0, x2), (0, (M 252 ((M 234 36) - x1))), (0, 0)]) dX12_put_21 rfl rfl ?_
  exact h
set_option maxRecDepth 20000 in
set_option maxHeartbeats 4000000 in
theorem bX12_put_23 {G : zG} {d : Nat} {M : zM} {Q : zV → zM → Prop} (hG : zP G) {x1 x2 x3 x4 : Int}
    (h : ((x2 ≤ x4 → (-2147483648 ≤ (M 234 36) + 1 ∧ (M 234 36) + 1 ≤ 2147483647) ∧ (-2147483648 ≤ x3 + x2 ∧ x3 + x2 ≤ 2147483647) ∧ (0 ≤ ((M 234 36) + 1) ∧ ((M 234 36) + 1) < 130) ∧ Q (9, 0) (zset (zset M 234 36 ((M 234 36) + 1)) 252 ((M 234 36) + 1) (x3 + x2))) ∧ (x4 < x2 → (-2147483648 ≤ x3 + x4 ∧ x3 + x4 ≤ 2147483647) ∧ (0 ≤ x4 ∧ x4 < 600) ∧ (0 ≤ (x3 + x4) ∧ (x3 + x4) < 600) ∧ (-2147483648 ≤ x4 + 1 ∧ x4 + 1 ≤ 2147483647) ∧ Y G d mX12_put 23 [(2, 234), (0, x1), (0, x2), (0, x3), (0, (x4 + 1))] [] (zset M 251 (x3 + x4) (M 253 x4)) Q))) :
    Y G d mX12_put 23 [(2, 234), (0, x1), (0, x2), (0, x3), (0, x4)] [] M Q := by
  refine z_iload dX12_put_23 rfl ?_
  refine z_iloadn dX12_put_25 rfl ?_
  refine z_icmpge (tgt := 51) dX12_put_26 rfl (fun q => ?_) (fun q => ?_)
  · replace h := h.1 q
    refine z_aloadn dX12_put_51 rfl (Or.inl rfl) ?_
    refine z_dup dX12_put_52 (show (2 : Nat) ≠ 1 by decide) ?_
    refine y_getf (x := (M 234 36)) dX12_put_53 fX12_406 sh234 (by decide) rfl rfl ?_
    refine z_iconst dX12_put_56 ki_1 ?_
    obtain ⟨q1, h⟩ := h
    refine z_iadd dX12_put_57 q1 ?_
    refine y_putf (M' := zset M 234 36 ((M 234 36) + 1)) hG dX12_put_58 fX12_406 sh234 (by decide) ⟨rfl, rfl⟩ p12_36 (fun q => absurd q (by decide)) (by decide) rfl ?_
    refine z_aloadn dX12_put_61 rfl (Or.inl rfl) ?_
    refine y_getr (v := 252) hG dX12_put_62 fX12_69 sh234 (by decide) rfl (by decide +kernel) (by decide) ?_
    refine z_aloadn dX12_put_65 rfl (Or.inl rfl) ?_
    refine y_getf (x := ((M 234 36) + 1)) dX12_put_66 fX12_406 sh234 (by decide) rfl zset_same ?_
    refine z_iloadn dX12_put_69 rfl ?_
    refine z_iloadn dX12_put_70 rfl ?_
    obtain ⟨q2, h⟩ := h
    refine z_iadd dX12_put_71 q2 ?_
    obtain ⟨q3, h⟩ := h
    refine y_iast hG dX12_put_72 sh252 q3 ?_
    exact z_return dX12_put_73 rfl rfl h
  · replace h := h.2 q
    refine z_aloadn dX12_put_29 rfl (Or.inl rfl) ?_
    refine y_getr (v := 251) hG dX12_put_30 fX12_66 sh234 (by decide) rfl (by decide +kernel) (by decide) ?_
    refine z_iloadn dX12_put_33 rfl ?_
    refine z_iload dX12_put_34 rfl ?_
    obtain ⟨q4, h⟩ := h
    refine z_iadd dX12_put_36 q4 ?_
    refine z_aloadn dX12_put_37 rfl (Or.inl rfl) ?_
    refine y_getr (v := 253) hG dX12_put_38 fX12_72 sh234 (by decide) rfl (by decide +kernel) (by decide) ?_
    refine z_iload dX12_put_41 rfl ?_
    obtain ⟨q5, h⟩ := h
    refine y_iald (x := (M 253 x4)) dX12_put_43 sh253 q5 rfl ?_
    obtain ⟨q6, h⟩ := h
    refine y_iast hG dX12_put_44 sh251 q6 ?_
    obtain ⟨q7, h⟩ := h
    refine y_iinc (ls' := [(2, 234), (0, x1), (0, x2), (0, x3), (0, (x4 + 1))]) dX12_put_45 rfl rfl q7 rfl ?_
    refine z_goto (tgt := 23) dX12_put_48 rfl ?_
    exact h
set_option maxRecDepth 20000 in
set_option maxHeartbeats 4000000 in
theorem bX12_putNumber_0 {G : zG} {d : Nat} {M : zM} {Q : zV → zM → Prop} (hG : zP G) {x1 x2 : Int}
    (h : Y G d mX12_put 0 [(2, 234), (0, x1), (0, 2), (9, 0), (9, 0)] [] (zset (zset M 253 0 0) 253 1 x2) (fun r M' => Y G (d + 1) mX12_putNumber 20 [(2, 234), (0, x1), (0, x2)] (zpush r []) M' Q)) :
    Y G (d + 1) mX12_putNumber 0 [(2, 234), (0, x1), (0, x2)] [] M Q := by
  refine z_aloadn dX12_putNumber_0 rfl (Or.inl rfl) ?_
  refine y_getr (v := 253) hG dX12_putNumber_1 fX12_72 sh234 (by decide) rfl (by decide +kernel) (by decide) ?_
  refine z_iconst dX12_putNumber_4 ki_0 ?_
  refine z_iconst dX12_putNumber_5 ki_0 ?_
  refine y_iast hG dX12_putNumber_6 sh253 ⟨by decide, by decide⟩ ?_
  refine z_aloadn dX12_putNumber_7 rfl (Or.inl rfl) ?_
  refine y_getr (v := 253) hG dX12_putNumber_8 fX12_72 sh234 (by decide) rfl (by decide +kernel) (by decide) ?_
  refine z_iconst dX12_putNumber_11 ki_1 ?_
  refine z_iloadn dX12_putNumber_12 rfl ?_
  refine y_iast hG dX12_putNumber_13 sh253 ⟨by decide, by decide⟩ ?_
  refine z_aloadn dX12_putNumber_14 rfl (Or.inl rfl) ?_
  refine z_iloadn dX12_putNumber_15 rfl ?_
  refine z_iconst dX12_putNumber_16 ki_2 ?_
  refine y_cv (mt2 := mX12_put) (en := [(2, 234), (0, x1), (0, 2), (9, 0), (9, 0)]) (st := []) (as := [(0, x1), (0, 2)]) dX12_putNumber_17 lX12_429 kX12_put iX12_put eX12_put rfl sh234 (by decide +kernel) (Nat.le_of_ble_eq_true rfl) (Nat.le_of_ble_eq_true rfl) rfl ?_
  exact h
set_option maxRecDepth 20000 in
set_option maxHeartbeats 4000000 in
theorem bX12_putNumber_20 {G : zG} {d : Nat} {M : zM} {Q : zV → zM → Prop} (hG : zP G) {x1 x2 : Int}
    (h : Q (9, 0) M) :
    Y G (d + 1) mX12_putNumber 20 [(2, 234), (0, x1), (0, x2)] [] M Q := by
  exact z_return dX12_putNumber_20 rfl rfl h
set_option maxRecDepth 20000 in
set_option maxHeartbeats 4000000 in
theorem bX12_saySum_0 {G : zG} {d : Nat} {M : zM} {Q : zV → zM → Prop} (hG : zP G) {x1 x2 x3 x4 : Int}
    (h : ((¬ x1 = 2 → ((zbit x4 1 → Y G d mX12_findTerms 0 [(2, 234), (0, x1), (0, x2), (0, x3), (0, 1), (9, 0), (9, 0), (9, 0), (9, 0), (9, 0), (9, 0), (9, 0), (9, 0)] [] M (fun r M' => Y G (d + 1) mX12_saySum 22 [(2, 234), (0, x1), (0, x2), (0, x3), (0, x4), (9, 0), (9, 0), (9, 0), (9, 0)] (zpush r []) M' Q)) ∧ (¬ (zbit x4 1) → Y G d mX12_findTerms 0 [(2, 234), (0, x1), (0, x2), (0, x3), (0, 0), (9, 0), (9, 0), (9, 0), (9, 0), (9, 0), (9, 0), (9, 0), (9, 0)] [] M (fun r M' => Y G (d + 1) mX12_saySum 22 [(2, 234), (0, x1), (0, x2), (0, x3), (0, x4), (9, 0), (9, 0), (9, 0), (9, 0)] (zpush r []) M' Q)))) ∧ (x1 = 2 → ((zbit x4 0 → Y G d mX12_findTerms 0 [(2, 234), (0, x1), (0, x2), (0, x3), (0, 1), (9, 0), (9, 0), (9, 0), (9, 0), (9, 0), (9, 0), (9, 0), (9, 0)] [] M (fun r M' => Y G (d + 1) mX12_saySum 22 [(2, 234), (0, x1), (0, x2), (0, x3), (0, x4), (9, 0), (9, 0), (9, 0), (9, 0)] (zpush r []) M' Q)) ∧ (¬ (zbit x4 0) → Y G d mX12_findTerms 0 [(2, 234), (0, x1), (0, x2), (0, x3), (0, 0), (9, 0), (9, 0), (9, 0), (9, 0), (9, 0), (9, 0), (9, 0), (9, 0)] [] M (fun r M' => Y G (d + 1) mX12_saySum 22 [(2, 234), (0, x1), (0, x2), (0, x3), (0, x4), (9, 0), (9, 0), (9, 0), (9, 0)] (zpush r []) M' Q)))))) :
    Y G (d + 1) mX12_saySum 0 [(2, 234), (0, x1), (0, x2), (0, x3), (0, x4), (9, 0), (9, 0), (9, 0), (9, 0)] [] M Q := by
  refine z_aloadn dX12_saySum_0 rfl (Or.inl rfl) ?_
  refine z_iloadn dX12_saySum_1 rfl ?_
  refine z_iloadn dX12_saySum_2 rfl ?_
  refine z_iloadn dX12_saySum_3 rfl ?_
  refine z_iload dX12_saySum_4 rfl ?_
  refine z_iloadn dX12_saySum_6 rfl ?_
  refine z_iconst dX12_saySum_7 ki_2 ?_
  refine z_icmpne (tgt := 15) dX12_saySum_8 rfl (fun q => ?_) (fun q => ?_)
  · replace h := h.1 q
    refine z_iconst dX12_saySum_15 ki_1 ?_
    refine y_cs (mt2 := mX12_has) (en := [(0, x4), (0, 1)]) (st := [(0, x3), (0, x2), (0, x1), (2, 234)]) (as := [(0, x4), (0, 1)]) dX12_saySum_16 lX12_373 kX12_has tX12_has rfl (Nat.le_of_ble_eq_true rfl) (Nat.le_of_ble_eq_true rfl) rfl (s_has hG (fun q => ?_) (fun q => ?_))
    · replace h := h.1 q
      show Y G (d + 1) mX12_saySum 19 [(2, 234), (0, x1), (0, x2), (0, x3), (0, x4), (9, 0), (9, 0), (9, 0), (9, 0)] [(0, 1), (0, x3), (0, x2), (0, x1), (2, 234)] M Q
      refine y_cv (mt2 := mX12_findTerms) (en := [(2, 234), (0, x1), (0, x2), (0, x3), (0, 1), (9, 0), (9, 0), (9, 0), (9, 0), (9, 0), (9, 0), (9, 0), (9, 0)]) (st := []) (as := [(0, x1), (0, x2), (0, x3), (0, 1)]) dX12_saySum_19 lX12_432 kX12_findTerms iX12_findTerms eX12_findTerms rfl sh234 (by decide +kernel) (Nat.le_of_ble_eq_true rfl) (Nat.le_of_ble_eq_true rfl) rfl ?_
      exact h
    · replace h := h.2 q
      show Y G (d + 1) mX12_saySum 19 [(2, 234), (0, x1), (0, x2), (0, x3), (0, x4), (9, 0), (9, 0), (9, 0), (9, 0)] [(0, 0), (0, x3), (0, x2), (0, x1), (2, 234)] M Q
      refine y_cv (mt2 := mX12_findTerms) (en := [(2, 234), (0, x1), (0, x2), (0, x3), (0, 0), (9, 0), (9, 0), (9, 0), (9, 0), (9, 0), (9, 0), (9, 0), (9, 0)]) (st := []) (as := [(0, x1), (0, x2), (0, x3), (0, 0)]) dX12_saySum_19 lX12_432 kX12_findTerms iX12_findTerms eX12_findTerms rfl sh234 (by decide +kernel) (Nat.le_of_ble_eq_true rfl) (Nat.le_of_ble_eq_true rfl) rfl ?_
      exact h
  · replace h := h.2 q
    refine z_iconst dX12_saySum_11 ki_0 ?_
    refine z_goto (tgt := 16) dX12_saySum_12 rfl ?_
    refine y_cs (mt2 := mX12_has) (en := [(0, x4), (0, 0)]) (st := [(0, x3), (0, x2), (0, x1), (2, 234)]) (as := [(0, x4), (0, 0)]) dX12_saySum_16 lX12_373 kX12_has tX12_has rfl (Nat.le_of_ble_eq_true rfl) (Nat.le_of_ble_eq_true rfl) rfl (s_has hG (fun q => ?_) (fun q => ?_))
    · replace h := h.1 q
      show Y G (d + 1) mX12_saySum 19 [(2, 234), (0, x1), (0, x2), (0, x3), (0, x4), (9, 0), (9, 0), (9, 0), (9, 0)] [(0, 1), (0, x3), (0, x2), (0, x1), (2, 234)] M Q
      refine y_cv (mt2 := mX12_findTerms) (en := [(2, 234), (0, x1), (0, x2), (0, x3), (0, 1), (9, 0), (9, 0), (9, 0), (9, 0), (9, 0), (9, 0), (9, 0), (9, 0)]) (st := []) (as := [(0, x1), (0, x2), (0, x3), (0, 1)]) dX12_saySum_19 lX12_432 kX12_findTerms iX12_findTerms eX12_findTerms rfl sh234 (by decide +kernel) (Nat.le_of_ble_eq_true rfl) (Nat.le_of_ble_eq_true rfl) rfl ?_
      exact h
    · replace h := h.2 q
      show Y G (d + 1) mX12_saySum 19 [(2, 234), (0, x1), (0, x2), (0, x3), (0, x4), (9, 0), (9, 0), (9, 0), (9, 0)] [(0, 0), (0, x3), (0, x2), (0, x1), (2, 234)] M Q
      refine y_cv (mt2 := mX12_findTerms) (en := [(2, 234), (0, x1), (0, x2), (0, x3), (0, 0), (9, 0), (9, 0), (9, 0), (9, 0), (9, 0), (9, 0), (9, 0), (9, 0)]) (st := []) (as := [(0, x1), (0, x2), (0, x3), (0, 0)]) dX12_saySum_19 lX12_432 kX12_findTerms iX12_findTerms eX12_findTerms rfl sh234 (by decide +kernel) (Nat.le_of_ble_eq_true rfl) (Nat.le_of_ble_eq_true rfl) rfl ?_
      exact h
set_option maxRecDepth 20000 in
set_option maxHeartbeats 4000000 in
theorem bX12_saySum_166 {G : zG} {d : Nat} {M : zM} {Q : zV → zM → Prop} (hG : zP G) {x1 x2 x3 x4 x5 x6 x7 : Int}
    (h : (((M 234 40) ≤ x7 → Y G d mX12_put 0 [(2, 234), (0, x2), (0, x6), (9, 0), (9, 0)] [] M (fun r M' => Y G (d + 1) mX12_saySum 264 [(2, 234), (0, x1), (0, x2), (0, x3), (0, x4), (0, x5), (0, x6), (0, x7), (9, 0)] (zpush r []) M' Q)) ∧ (x7 < (M 234 40) → ((¬ x1 = 2 → Y G (d + 1) mX12_saySum 208 [(2, 234), (0, x1), (0, x2), (0, x3), (0, x4), (0, x5), (0, x6), (0, x7), (0, 0)] [] M Q) ∧ (x1 = 2 → ((¬ x5 = 0 → Y G (d + 1) mX12_saySum 208 [(2, 234), (0, x1), (0, x2), (0, x3), (0, x4), (0, x5), (0, x6), (0, x7), (0, 0)] [] M Q) ∧ (x5 = 0 → (0 ≤ x7 ∧ x7 < 40) ∧ (-2147483648 ≤ 100 + (M 254 x7) ∧ 100 + (M 254 x7) ≤ 2147483647) ∧ (0 ≤ x6 ∧ x6 < 600) ∧ (-2147483648 ≤ x6 + 1 ∧ x6 + 1 ≤ 2147483647) ∧ Y G (d + 1) mX12_saySum 208 [(2, 234), (0, x1), (0, x2), (0, x3), (0, x4), (0, x5), (0, (x6 + 1)), (0, x7), (0, 0)] [] (zset M 253 x6 (100 + (M 254 x7))) Q))))))) :
    Y G (d + 1) mX12_saySum 166 [(2, 234), (0, x1), (0, x2), (0, x3), (0, x4), (0, x5), (0, x6), (0, x7), (9, 0)] [] M Q := by
  refine z_iload dX12_saySum_166 rfl ?_
  refine z_aloadn dX12_saySum_168 rfl (Or.inl rfl) ?_
  refine y_getf (x := (M 234 40)) dX12_saySum_169 fX12_403 sh234 (by decide) rfl rfl ?_
  refine z_icmpge (tgt := 257) dX12_saySum_172 rfl (fun q => ?_) (fun q => ?_)
  · replace h := h.1 q
    refine z_aloadn dX12_saySum_257 rfl (Or.inl rfl) ?_
    refine z_iloadn dX12_saySum_258 rfl ?_
    refine z_iload dX12_saySum_259 rfl ?_
    refine y_cv (mt2 := mX12_put) (en := [(2, 234), (0, x2), (0, x6), (9, 0), (9, 0)]) (st := []) (as := [(0, x2), (0, x6)]) dX12_saySum_261 lX12_429 kX12_put iX12_put eX12_put rfl sh234 (by decide +kernel) (Nat.le_of_ble_eq_true rfl) (Nat.le_of_ble_eq_true rfl) rfl ?_
    exact h
  · replace h := h.2 q
    refine z_iloadn dX12_saySum_175 rfl ?_
    refine z_iconst dX12_saySum_176 ki_2 ?_
    refine z_icmpne (tgt := 205) dX12_saySum_177 rfl (fun q => ?_) (fun q => ?_)
    · replace h := h.1 q
      refine z_iconst dX12_saySum_205 ki_0 ?_
      refine y_istore (ls' := [(2, 234), (0, x1), (0, x2), (0, x3), (0, x4), (0, x5), (0, x6), (0, x7), (0, 0)]) dX12_saySum_206 rfl rfl ?_
      exact h
    · replace h := h.2 q
      refine z_iload dX12_saySum_180 rfl ?_
      refine z_ifne (tgt := 205) dX12_saySum_182 rfl (fun q => ?_) (fun q => ?_)
      · replace h := h.1 q
        refine z_iconst dX12_saySum_205 ki_0 ?_
        refine y_istore (ls' := [(2, 234), (0, x1), (0, x2), (0, x3), (0, x4), (0, x5), (0, x6), (0, x7), (0, 0)]) dX12_saySum_206 rfl rfl ?_
        exact h
      · replace h := h.2 q
        refine z_aloadn dX12_saySum_185 rfl (Or.inl rfl) ?_
        refine y_getr (v := 253) hG dX12_saySum_186 fX12_72 sh234 (by decide) rfl (by decide +kernel) (by decide) ?_
        refine z_iload dX12_saySum_189 rfl ?_
        refine z_bipush dX12_saySum_191 kb_100 ?_
        refine z_aloadn dX12_saySum_193 rfl (Or.inl rfl) ?_
        refine y_getr (v := 254) hG dX12_saySum_194 fX12_75 sh234 (by decide) rfl (by decide +kernel) (by decide) ?_
        refine z_iload dX12_saySum_197 rfl ?_
        obtain ⟨q1, h⟩ := h
        refine y_iald (x := (M 254 x7)) dX12_saySum_199 sh254 q1 rfl ?_
        obtain ⟨q2, h⟩ := h
        refine z_iadd dX12_saySum_200 q2 ?_
        obtain ⟨q3, h⟩ := h
        refine y_iast hG dX12_saySum_201 sh253 q3 ?_
        obtain ⟨q4, h⟩ := h
        refine y_iinc (ls' := [(2, 234), (0, x1), (0, x2), (0, x3), (0, x4), (0, x5), (0, (x6 + 1)), (0, x7), (9, 0)]) dX12_saySum_202 rfl rfl q4 rfl ?_
        refine z_iconst dX12_saySum_205 ki_0 ?_
        refine y_istore (ls' := [(2, 234), (0, x1), (0, x2), (0, x3), (0, x4), (0, x5), (0, (x6 + 1)), (0, x7), (0, 0)]) dX12_saySum_206 rfl rfl ?_
        exact h
set_option maxRecDepth 20000 in
set_option maxHeartbeats 4000000 in
theorem bX12_saySum_208 {G : zG} {d : Nat} {M : zM} {Q : zV → zM → Prop} (hG : zP G) {x1 x2 x3 x4 x5 x6 x7 x8 : Int}
    (h : (0 ≤ x7 ∧ x7 < 40) ∧ (((M 256 x7) ≤ x8 → (-2147483648 ≤ x7 + 1 ∧ x7 + 1 ≤ 2147483647) ∧ Y G (d + 1) mX12_saySum 166 [(2, 234), (0, x1), (0, x2), (0, x3), (0, x4), (0, x5), (0, x6), (0, (x7 + 1)), (9, 0)] [] M Q) ∧ (x8 < (M 256 x7) → (0 ≤ x7 ∧ x7 < 40) ∧ (-2147483648 ≤ (M 255 x7) + x8 ∧ (M 255 x7) + x8 ≤ 2147483647) ∧ (0 ≤ ((M 255 x7) + x8) ∧ ((M 255 x7) + x8) < 600) ∧ (0 ≤ x6 ∧ x6 < 600) ∧ (-2147483648 ≤ x6 + 1 ∧ x6 + 1 ≤ 2147483647) ∧ (-2147483648 ≤ x8 + 1 ∧ x8 + 1 ≤ 2147483647) ∧ Y G (d + 1) mX12_saySum 208 [(2, 234), (0, x1), (0, x2), (0, x3), (0, x4), (0, x5), (0, (x6 + 1)), (0, x7), (0, (x8 + 1))] [] (zset M 253 x6 (M 251 ((M 255 x7) + x8))) Q))) :
    Y G (d + 1) mX12_saySum 208 [(2, 234), (0, x1), (0, x2), (0, x3), (0, x4), (0, x5), (0, x6), (0, x7), (0, x8)] [] M Q := by
  refine z_iload dX12_saySum_208 rfl ?_
  refine z_aloadn dX12_saySum_210 rfl (Or.inl rfl) ?_
  refine y_getr (v := 256) hG dX12_saySum_211 fX12_81 sh234 (by decide) rfl (by decide +kernel) (by decide) ?_
  refine z_iload dX12_saySum_214 rfl ?_
  obtain ⟨q1, h⟩ := h
  refine y_iald (x := (M 256 x7)) dX12_saySum_216 sh256 q1 rfl ?_
  refine z_icmpge (tgt := 251) dX12_saySum_217 rfl (fun q => ?_) (fun q => ?_)
  · replace h := h.1 q
    obtain ⟨q2, h⟩ := h
    refine y_iinc (ls' := [(2, 234), (0, x1), (0, x2), (0, x3), (0, x4), (0, x5), (0, x6), (0, (x7 + 1)), (0, x8)]) dX12_saySum_251 rfl rfl q2 rfl ?_
    refine z_goto (tgt := 166) dX12_saySum_254 rfl ?_
    refine z_sub (ls' := [(2, 234), (0, x1), (0, x2), (0, x3), (0, x4), (0, x5), (0, x6), (0, (x7 + 1)), (9, 0)]) ⟨Or.inl rfl, Or.inl rfl, Or.inl rfl, Or.inl rfl, Or.inl rfl, Or.inl rfl, Or.inl rfl, Or.inl rfl, Or.inr rfl, trivial⟩ ?_
    exact h
  · replace h := h.2 q
    refine z_aloadn dX12_saySum_220 rfl (Or.inl rfl) ?_
    refine y_getr (v := 253) hG dX12_saySum_221 fX12_72 sh234 (by decide) rfl (by decide +kernel) (by decide) ?_
    refine z_iload dX12_saySum_224 rfl ?_
    refine z_aloadn dX12_saySum_226 rfl (Or.inl rfl) ?_
    refine y_getr (v := 251) hG dX12_saySum_227 fX12_66 sh234 (by decide) rfl (by decide +kernel) (by decide) ?_
    refine z_aloadn dX12_saySum_230 rfl (Or.inl rfl) ?_
    refine y_getr (v := 255) hG dX12_saySum_231 fX12_78 sh234 (by decide) rfl (by decide +kernel) (by decide) ?_
    refine z_iload dX12_saySum_234 rfl ?_
    obtain ⟨q3, h⟩ := h
    refine y_iald (x := (M 255 x7)) dX12_saySum_236 sh255 q3 rfl ?_
    refine z_iload dX12_saySum_237 rfl ?_
    obtain ⟨q4, h⟩ := h
    refine z_iadd dX12_saySum_239 q4 ?_
    obtain ⟨q5, h⟩ := h
    refine y_iald (x := (M 251 ((M 255 x7) + x8))) dX12_saySum_240 sh251 q5 rfl ?_
    obtain ⟨q6, h⟩ := h
    refine y_iast hG dX12_saySum_241 sh253 q6 ?_
    obtain ⟨q7, h⟩ := h
    refine y_iinc (ls' := [(2, 234), (0, x1), (0, x2), (0, x3), (0, x4), (0, x5), (0, (x6 + 1)), (0, x7), (0, x8)]) dX12_saySum_242 rfl rfl q7 rfl ?_
    obtain ⟨q8, h⟩ := h
    refine y_iinc (ls' := [(2, 234), (0, x1), (0, x2), (0, x3), (0, x4), (0, x5), (0, (x6 + 1)), (0, x7), (0, (x8 + 1))]) dX12_saySum_245 rfl rfl q8 rfl ?_
    refine z_goto (tgt := 208) dX12_saySum_248 rfl ?_
    exact h
set_option maxRecDepth 20000 in
set_option maxHeartbeats 4000000 in
theorem bX12_saySum_22 {G : zG} {d : Nat} {M : zM} {Q : zV → zM → Prop} (hG : zP G) {x1 x2 x3 x4 : Int}
    (h : ((¬ x1 = 2 → ((zbit x4 3 → ((¬ x1 = 2 → Y G d mX12_leaveOut 0 [(2, 234), (0, 1), (9, 0), (9, 0)] [] M (fun r M' => Y G (d + 1) mX12_saySum 54 [(2, 234), (0, x1), (0, x2), (0, x3), (0, x4), (9, 0), (9, 0), (9, 0), (9, 0)] (zpush r []) M' Q)) ∧ (x1 = 2 → Y G d mX12_leaveOut 0 [(2, 234), (0, 0), (9, 0), (9, 0)] [] M (fun r M' => Y G (d + 1) mX12_saySum 54 [(2, 234), (0, x1), (0, x2), (0, x3), (0, x4), (9, 0), (9, 0), (9, 0), (9, 0)] (zpush r []) M' Q)))) ∧ (¬ (zbit x4 3) → (((M 234 40) = 0 → Y G d mX12_worked 0 [(2, 234), (0, x1), (9, 0), (9, 0), (9, 0), (9, 0), (9, 0)] [] M (fun r M' => Y G (d + 1) mX12_saySum 85 [(2, 234), (0, x1), (0, x2), (0, x3), (0, x4), (9, 0), (9, 0), (9, 0), (9, 0)] (zpush r [(0, x2), (2, 234)]) M' Q)) ∧ (¬ (M 234 40) = 0 → ((zbit x4 7 → Y G d mX12_areNumbers 0 [(2, 234), (9, 0)] [] M (fun r M' => Y G (d + 1) mX12_saySum 75 [(2, 234), (0, x1), (0, x2), (0, x3), (0, x4), (9, 0), (9, 0), (9, 0), (9, 0)] (zpush r []) M' Q)) ∧ (¬ (zbit x4 7) → ((¬ x1 = 2 → ((zbit x4 1 → Y G d mX12_setInOrder 0 [(2, 234), (9, 0), (9, 0)] [] M (fun r M' => Y G (d + 1) mX12_saySum 111 [(2, 234), (0, x1), (0, x2), (0, x3), (0, x4), (9, 0), (9, 0), (9, 0), (9, 0)] (zpush r []) M' Q)) ∧ (¬ (zbit x4 1) → ((¬ (M 234 40) = 1 → Y G (d + 1) mX12_saySum 166 [(2, 234), (0, x1), (0, x2), (0, x3), (0, x4), (0, 0), (0, 2), (0, 0), (9, 0)] [] (zset (zset M 253 0 x1) 253 1 (M 234 40)) Q) ∧ ((M 234 40) = 1 → ((¬ (M 254 0) = 0 → Y G (d + 1) mX12_saySum 166 [(2, 234), (0, x1), (0, x2), (0, x3), (0, x4), (0, 0), (0, 2), (0, 0), (9, 0)] [] (zset (zset M 253 0 x1) 253 1 (M 234 40)) Q) ∧ ((M 254 0) = 0 → Y G (d + 1) mX12_saySum 166 [(2, 234), (0, x1), (0, x2), (0, x3), (0, x4), (0, 1), (0, 0), (0, 0), (9, 0)] [] M Q))))))) ∧ (x1 = 2 → ((zbit x4 0 → Y G d mX12_setInOrder 0 [(2, 234), (9, 0), (9, 0)] [] M (fun r M' => Y G (d + 1) mX12_saySum 111 [(2, 234), (0, x1), (0, x2), (0, x3), (0, x4), (9, 0), (9, 0), (9, 0), (9, 0)] (zpush r []) M' Q)) ∧ (¬ (zbit x4 0) → ((¬ (M 234 40) = 1 → Y G (d + 1) mX12_saySum 166 [(2, 234), (0, x1), (0, x2), (0, x3), (0, x4), (0, 0), (0, 2), (0, 0), (9, 0)] [] (zset (zset M 253 0 x1) 253 1 (M 234 40)) Q) ∧ ((M 234 40) = 1 → ((¬ (M 254 0) = 0 → Y G (d + 1) mX12_saySum 166 [(2, 234), (0, x1), (0, x2), (0, x3), (0, x4), (0, 0), (0, 2), (0, 0), (9, 0)] [] (zset (zset M 253 0 x1) 253 1 (M 234 40)) Q) ∧ ((M 254 0) = 0 → Y G (d + 1) mX12_saySum 166 [(2, 234), (0, x1), (0, x2), (0, x3), (0, x4), (0, 1), (0, 0), (0, 0), (9, 0)] [] M Q))))))))))))))) ∧ (x1 = 2 → ((zbit x4 2 → ((¬ x1 = 2 → Y G d mX12_leaveOut 0 [(2, 234), (0, 1), (9, 0), (9, 0)] [] M (fun r M' => Y G (d + 1) mX12_saySum 54 [(2, 234), (0, x1), (0, x2), (0, x3), (0, x4), (9, 0), (9, 0), (9, 0), (9, 0)] (zpush r []) M' Q)) ∧ (x1 = 2 → Y G d mX12_leaveOut 0 [(2, 234), (0, 0), (9, 0), (9, 0)] [] M (fun r M' => Y G (d + 1) mX12_saySum 54 [(2, 234), (0, x1), (0, x2), (0, x3), (0, x4), (9, 0), (9, 0), (9, 0), (9, 0)] (zpush r []) M' Q)))) ∧ (¬ (zbit x4 2) → (((M 234 40) = 0 → Y G d mX12_worked 0 [(2, 234), (0, x1), (9, 0), (9, 0), (9, 0), (9, 0), (9, 0)] [] M (fun r M' => Y G (d + 1) mX12_saySum 85 [(2, 234), (0, x1), (0, x2), (0, x3), (0, x4), (9, 0), (9, 0), (9, 0), (9, 0)] (zpush r [(0, x2), (2, 234)]) M' Q)) ∧ (¬ (M 234 40) = 0 → ((zbit x4 7 → Y G d mX12_areNumbers 0 [(2, 234), (9, 0)] [] M (fun r M' => Y G (d + 1) mX12_saySum 75 [(2, 234), (0, x1), (0, x2), (0, x3), (0, x4), (9, 0), (9, 0), (9, 0), (9, 0)] (zpush r []) M' Q)) ∧ (¬ (zbit x4 7) → ((¬ x1 = 2 → ((zbit x4 1 → Y G d mX12_setInOrder 0 [(2, 234), (9, 0), (9, 0)] [] M (fun r M' => Y G (d + 1) mX12_saySum 111 [(2, 234), (0, x1), (0, x2), (0, x3), (0, x4), (9, 0), (9, 0), (9, 0), (9, 0)] (zpush r []) M' Q)) ∧ (¬ (zbit x4 1) → ((¬ (M 234 40) = 1 → Y G (d + 1) mX12_saySum 166 [(2, 234), (0, x1), (0, x2), (0, x3), (0, x4), (0, 0), (0, 2), (0, 0), (9, 0)] [] (zset (zset M 253 0 x1) 253 1 (M 234 40)) Q) ∧ ((M 234 40) = 1 → ((¬ (M 254 0) = 0 → Y G (d + 1) mX12_saySum 166 [(2, 234), (0, x1), (0, x2), (0, x3), (0, x4), (0, 0), (0, 2), (0, 0), (9, 0)] [] (zset (zset M 253 0 x1) 253 1 (M 234 40)) Q) ∧ ((M 254 0) = 0 → Y G (d + 1) mX12_saySum 166 [(2, 234), (0, x1), (0, x2), (0, x3), (0, x4), (0, 1), (0, 0), (0, 0), (9, 0)] [] M Q))))))) ∧ (x1 = 2 → ((zbit x4 0 → Y G d mX12_setInOrder 0 [(2, 234), (9, 0), (9, 0)] [] M (fun r M' => Y G (d + 1) mX12_saySum 111 [(2, 234), (0, x1), (0, x2), (0, x3), (0, x4), (9, 0), (9, 0), (9, 0), (9, 0)] (zpush r []) M' Q)) ∧ (¬ (zbit x4 0) → ((¬ (M 234 40) = 1 → Y G (d + 1) mX12_saySum 166 [(2, 234), (0, x1), (0, x2), (0, x3), (0, x4), (0, 0), (0, 2), (0, 0), (9, 0)] [] (zset (zset M 253 0 x1) 253 1 (M 234 40)) Q) ∧ ((M 234 40) = 1 → ((¬ (M 254 0) = 0 → Y G (d + 1) mX12_saySum 166 [(2, 234), (0, x1), (0, x2), (0, x3), (0, x4), (0, 0), (0, 2), (0, 0), (9, 0)] [] (zset (zset M 253 0 x1) 253 1 (M 234 40)) Q) ∧ ((M 254 0) = 0 → Y G (d + 1) mX12_saySum 166 [(2, 234), (0, x1), (0, x2), (0, x3), (0, x4), (0, 1), (0, 0), (0, 0), (9, 0)] [] M Q))))))))))))))))) :
    Y G (d + 1) mX12_saySum 22 [(2, 234), (0, x1), (0, x2), (0, x3), (0, x4), (9, 0), (9, 0), (9, 0), (9, 0)] [] M Q := by
  refine z_iload dX12_saySum_22 rfl ?_
  refine z_iloadn dX12_saySum_24 rfl ?_
  refine z_iconst dX12_saySum_25 ki_2 ?_
  refine z_icmpne (tgt := 33) dX12_saySum_26 rfl (fun q => ?_) (fun q => ?_)
  · replace h := h.1 q
    refine z_iconst dX12_saySum_33 ki_3 ?_
    refine y_cs (mt2 := mX12_has) (en := [(0, x4), (0, 3)]) (st := []) (as := [(0, x4), (0, 3)]) dX12_saySum_34 lX12_373 kX12_has tX12_has rfl (Nat.le_of_ble_eq_true rfl) (Nat.le_of_ble_eq_true rfl) rfl (s_has hG (fun q => ?_) (fun q => ?_))
    · replace h := h.1 q
      show Y G (d + 1) mX12_saySum 37 [(2, 234), (0, x1), (0, x2), (0, x3), (0, x4), (9, 0), (9, 0), (9, 0), (9, 0)] [(0, 1)] M Q
      refine z_ifeq (tgt := 54) dX12_saySum_37 rfl (fun q => absurd q (by decide)) (fun _ => ?_)
      refine z_aloadn dX12_saySum_40 rfl (Or.inl rfl) ?_
      refine z_iloadn dX12_saySum_41 rfl ?_
      refine z_iconst dX12_saySum_42 ki_2 ?_
      refine z_icmpne (tgt := 50) dX12_saySum_43 rfl (fun q => ?_) (fun q => ?_)
      · replace h := h.1 q
        refine z_iconst dX12_saySum_50 ki_1 ?_
        refine y_cv (mt2 := mX12_leaveOut) (en := [(2, 234), (0, 1), (9, 0), (9, 0)]) (st := []) (as := [(0, 1)]) dX12_saySum_51 lX12_436 kX12_leaveOut iX12_leaveOut eX12_leaveOut rfl sh234 (by decide +kernel) (Nat.le_of_ble_eq_true rfl) (Nat.le_of_ble_eq_true rfl) rfl ?_
        exact h
      · replace h := h.2 q
        refine z_iconst dX12_saySum_46 ki_0 ?_
        refine z_goto (tgt := 51) dX12_saySum_47 rfl ?_
        refine y_cv (mt2 := mX12_leaveOut) (en := [(2, 234), (0, 0), (9, 0), (9, 0)]) (st := []) (as := [(0, 0)]) dX12_saySum_51 lX12_436 kX12_leaveOut iX12_leaveOut eX12_leaveOut rfl sh234 (by decide +kernel) (Nat.le_of_ble_eq_true rfl) (Nat.le_of_ble_eq_true rfl) rfl ?_
        exact h
    · replace h := h.2 q
      show Y G (d + 1) mX12_saySum 37 [(2, 234), (0, x1), (0, x2), (0, x3), (0, x4), (9, 0), (9, 0), (9, 0), (9, 0)] [(0, 0)] M Q
      refine z_ifeq (tgt := 54) dX12_saySum_37 rfl (fun _ => ?_) (fun q => absurd q (by decide))
      refine z_aloadn dX12_saySum_54 rfl (Or.inl rfl) ?_
      refine y_getf (x := (M 234 40)) dX12_saySum_55 fX12_403 sh234 (by decide) rfl rfl ?_
      refine z_ifeq (tgt := 78) dX12_saySum_58 rfl (fun q => ?_) (fun q => ?_)
      · replace h := h.1 q
        refine z_aloadn dX12_saySum_78 rfl (Or.inl rfl) ?_
        refine z_iloadn dX12_saySum_79 rfl ?_
        refine z_aloadn dX12_saySum_80 rfl (Or.inl rfl) ?_
        refine z_iloadn dX12_saySum_81 rfl ?_
        refine y_cv (mt2 := mX12_worked) (en := [(2, 234), (0, x1), (9, 0), (9, 0), (9, 0), (9, 0), (9, 0)]) (st := [(0, x2), (2, 234)]) (as := [(0, x1)]) dX12_saySum_82 lX12_443 kX12_worked iX12_worked eX12_worked rfl sh234 (by decide +kernel) (Nat.le_of_ble_eq_true rfl) (Nat.le_of_ble_eq_true rfl) rfl ?_
        exact h
      · replace h := h.2 q
        refine z_iload dX12_saySum_61 rfl ?_
        refine z_bipush dX12_saySum_63 kb_7 ?_
        refine y_cs (mt2 := mX12_has) (en := [(0, x4), (0, 7)]) (st := []) (as := [(0, x4), (0, 7)]) dX12_saySum_65 lX12_373 kX12_has tX12_has rfl (Nat.le_of_ble_eq_true rfl) (Nat.le_of_ble_eq_true rfl) rfl (s_has hG (fun q => ?_) (fun q => ?_))
        · replace h := h.1 q
          show Y G (d + 1) mX12_saySum 68 [(2, 234), (0, x1), (0, x2), (0, x3), (0, x4), (9, 0), (9, 0), (9, 0), (9, 0)] [(0, 1)] M Q
          refine z_ifeq (tgt := 89) dX12_saySum_68 rfl (fun q => absurd q (by decide)) (fun _ => ?_)
          refine z_aloadn dX12_saySum_71 rfl (Or.inl rfl) ?_
          refine y_cv (mt2 := mX12_areNumbers) (en := [(2, 234), (9, 0)]) (st := []) (as := []) dX12_saySum_72 lX12_439 kX12_areNumbers iX12_areNumbers eX12_areNumbers rfl sh234 (by decide +kernel) (Nat.le_of_ble_eq_true rfl) (Nat.le_of_ble_eq_true rfl) rfl ?_
          exact h
        · replace h := h.2 q
          show Y G (d + 1) mX12_saySum 68 [(2, 234), (0, x1), (0, x2), (0, x3), (0, x4), (9, 0), (9, 0), (9, 0), (9, 0)] [(0, 0)] M Q
          refine z_ifeq (tgt := 89) dX12_saySum_68 rfl (fun _ => ?_) (fun q => absurd q (by decide))
          refine z_iload dX12_saySum_89 rfl ?_
          refine z_iloadn dX12_saySum_91 rfl ?_
          refine z_iconst dX12_saySum_92 ki_2 ?_
          refine z_icmpne (tgt := 100) dX12_saySum_93 rfl (fun q => ?_) (fun q => ?_)
          · replace h := h.1 q
            refine z_iconst dX12_saySum_100 ki_1 ?_
            refine y_cs (mt2 := mX12_has) (en := [(0, x4), (0, 1)]) (st := []) (as := [(0, x4), (0, 1)]) dX12_saySum_101 lX12_373 kX12_has tX12_has rfl (Nat.le_of_ble_eq_true rfl) (Nat.le_of_ble_eq_true rfl) rfl (s_has hG (fun q => ?_) (fun q => ?_))
            · replace h := h.1 q
              show Y G (d + 1) mX12_saySum 104 [(2, 234), (0, x1), (0, x2), (0, x3), (0, x4), (9, 0), (9, 0), (9, 0), (9, 0)] [(0, 1)] M Q
              refine z_ifeq (tgt := 111) dX12_saySum_104 rfl (fun q => absurd q (by decide)) (fun _ => ?_)
              refine z_aloadn dX12_saySum_107 rfl (Or.inl rfl) ?_
              refine y_cv (mt2 := mX12_setInOrder) (en := [(2, 234), (9, 0), (9, 0)]) (st := []) (as := []) dX12_saySum_108 lX12_449 kX12_setInOrder iX12_setInOrder eX12_setInOrder rfl sh234 (by decide +kernel) (Nat.le_of_ble_eq_true rfl) (Nat.le_of_ble_eq_true rfl) rfl ?_
              exact h
            · replace h := h.2 q
              show Y G (d + 1) mX12_saySum 104 [(2, 234), (0, x1), (0, x2), (0, x3), (0, x4), (9, 0), (9, 0), (9, 0), (9, 0)] [(0, 0)] M Q
              refine z_ifeq (tgt := 111) dX12_saySum_104 rfl (fun _ => ?_) (fun q => absurd q (by decide))
              refine z_aloadn dX12_saySum_111 rfl (Or.inl rfl) ?_
              refine y_getf (x := (M 234 40)) dX12_saySum_112 fX12_403 sh234 (by decide) rfl rfl ?_
              refine z_iconst dX12_saySum_115 ki_1 ?_
              refine z_icmpne (tgt := 132) dX12_saySum_116 rfl (fun q => ?_) (fun q => ?_)
              · replace h := h.1 q
                refine z_iconst dX12_saySum_132 ki_0 ?_
                refine y_istore (ls' := [(2, 234), (0, x1), (0, x2), (0, x3), (0, x4), (0, 0), (9, 0), (9, 0), (9, 0)]) dX12_saySum_133 rfl rfl ?_
                refine z_iconst dX12_saySum_135 ki_0 ?_
                refine y_istore (ls' := [(2, 234), (0, x1), (0, x2), (0, x3), (0, x4), (0, 0), (0, 0), (9, 0), (9, 0)]) dX12_saySum_136 rfl rfl ?_
                refine z_iload dX12_saySum_138 rfl ?_
                refine z_ifne (tgt := 163) dX12_saySum_140 rfl (fun q => absurd q (by decide)) (fun _ => ?_)
                refine z_aloadn dX12_saySum_143 rfl (Or.inl rfl) ?_
                refine y_getr (v := 253) hG dX12_saySum_144 fX12_72 sh234 (by decide) rfl (by decide +kernel) (by decide) ?_
                refine z_iconst dX12_saySum_147 ki_0 ?_
                refine z_iloadn dX12_saySum_148 rfl ?_
                refine y_iast hG dX12_saySum_149 sh253 ⟨by decide, by decide⟩ ?_
                refine z_aloadn dX12_saySum_150 rfl (Or.inl rfl) ?_
                refine y_getr (v := 253) hG dX12_saySum_151 fX12_72 sh234 (by decide) rfl (by decide +kernel) (by decide) ?_
                refine z_iconst dX12_saySum_154 ki_1 ?_
                refine z_aloadn dX12_saySum_155 rfl (Or.inl rfl) ?_
                refine y_getf (x := (M 234 40)) dX12_saySum_156 fX12_403 sh234 (by decide) rfl (zset_ne (fun q => absurd q.1 (by decide))) ?_
                refine y_iast hG dX12_saySum_159 sh253 ⟨by decide, by decide⟩ ?_
                refine z_iconst dX12_saySum_160 ki_2 ?_
                refine y_istore (ls' := [(2, 234), (0, x1), (0, x2), (0, x3), (0, x4), (0, 0), (0, 2), (9, 0), (9, 0)]) dX12_saySum_161 rfl rfl ?_
                refine z_iconst dX12_saySum_163 ki_0 ?_
                refine y_istore (ls' := [(2, 234), (0, x1), (0, x2), (0, x3), (0, x4), (0, 0), (0, 2), (0, 0), (9, 0)]) dX12_saySum_164 rfl rfl ?_
                exact h
              · replace h := h.2 q
                refine z_aloadn dX12_saySum_119 rfl (Or.inl rfl) ?_
                refine y_getr (v := 254) hG dX12_saySum_120 fX12_75 sh234 (by decide) rfl (by decide +kernel) (by decide) ?_
                refine z_iconst dX12_saySum_123 ki_0 ?_
                refine y_iald (x := (M 254 0)) dX12_saySum_124 sh254 ⟨by decide, by decide⟩ rfl ?_
                refine z_ifne (tgt := 132) dX12_saySum_125 rfl (fun q => ?_) (fun q => ?_)
                · replace h := h.1 q
                  refine z_iconst dX12_saySum_132 ki_0 ?_
                  refine y_istore (ls' := [(2, 234), (0, x1), (0, x2), (0, x3), (0, x4), (0, 0), (9, 0), (9, 0), (9, 0)]) dX12_saySum_133 rfl rfl ?_
                  refine z_iconst dX12_saySum_135 ki_0 ?_
                  refine y_istore (ls' := [(2, 234), (0, x1), (0, x2), (0, x3), (0, x4), (0, 0), (0, 0), (9, 0), (9, 0)]) dX12_saySum_136 rfl rfl ?_
                  refine z_iload dX12_saySum_138 rfl ?_
                  refine z_ifne (tgt := 163) dX12_saySum_140 rfl (fun q => absurd q (by decide)) (fun _ => ?_)
                  refine z_aloadn dX12_saySum_143 rfl (Or.inl rfl) ?_
                  refine y_getr (v := 253) hG dX12_saySum_144 fX12_72 sh234 (by decide) rfl (by decide +kernel) (by decide) ?_
                  refine z_iconst dX12_saySum_147 ki_0 ?_
                  refine z_iloadn dX12_saySum_148 rfl ?_
                  refine y_iast hG dX12_saySum_149 sh253 ⟨by decide, by decide⟩ ?_
                  refine z_aloadn dX12_saySum_150 rfl (Or.inl rfl) ?_
                  refine y_getr (v := 253) hG dX12_saySum_151 fX12_72 sh234 (by decide) rfl (by decide +kernel) (by decide) ?_
                  refine z_iconst dX12_saySum_154 ki_1 ?_
                  refine z_aloadn dX12_saySum_155 rfl (Or.inl rfl) ?_
                  refine y_getf (x := (M 234 40)) dX12_saySum_156 fX12_403 sh234 (by decide) rfl (zset_ne (fun q => absurd q.1 (by decide))) ?_
                  refine y_iast hG dX12_saySum_159 sh253 ⟨by decide, by decide⟩ ?_
                  refine z_iconst dX12_saySum_160 ki_2 ?_
                  refine y_istore (ls' := [(2, 234), (0, x1), (0, x2), (0, x3), (0, x4), (0, 0), (0, 2), (9, 0), (9, 0)]) dX12_saySum_161 rfl rfl ?_
                  refine z_iconst dX12_saySum_163 ki_0 ?_
                  refine y_istore (ls' := [(2, 234), (0, x1), (0, x2), (0, x3), (0, x4), (0, 0), (0, 2), (0, 0), (9, 0)]) dX12_saySum_164 rfl rfl ?_
                  exact h
                · replace h := h.2 q
                  refine z_iconst dX12_saySum_128 ki_1 ?_
                  refine z_goto (tgt := 133) dX12_saySum_129 rfl ?_
                  refine y_istore (ls' := [(2, 234), (0, x1), (0, x2), (0, x3), (0, x4), (0, 1), (9, 0), (9, 0), (9, 0)]) dX12_saySum_133 rfl rfl ?_
                  refine z_iconst dX12_saySum_135 ki_0 ?_
                  refine y_istore (ls' := [(2, 234), (0, x1), (0, x2), (0, x3), (0, x4), (0, 1), (0, 0), (9, 0), (9, 0)]) dX12_saySum_136 rfl rfl ?_
                  refine z_iload dX12_saySum_138 rfl ?_
                  refine z_ifne (tgt := 163) dX12_saySum_140 rfl (fun _ => ?_) (fun q => absurd q (by decide))
                  refine z_iconst dX12_saySum_163 ki_0 ?_
                  refine y_istore (ls' := [(2, 234), (0, x1), (0, x2), (0, x3), (0, x4), (0, 1), (0, 0), (0, 0), (9, 0)]) dX12_saySum_164 rfl rfl ?_
                  exact h
          · replace h := h.2 q
            refine z_iconst dX12_saySum_96 ki_0 ?_
            refine z_goto (tgt := 101) dX12_saySum_97 rfl ?_
            refine y_cs (mt2 := mX12_has) (en := [(0, x4), (0, 0)]) (st := []) (as := [(0, x4), (0, 0)]) dX12_saySum_101 lX12_373 kX12_has tX12_has rfl (Nat.le_of_ble_eq_true rfl) (Nat.le_of_ble_eq_true rfl) rfl (s_has hG (fun q => ?_) (fun q => ?_))
            · replace h := h.1 q
              show Y G (d + 1) mX12_saySum 104 [(2, 234), (0, x1), (0, x2), (0, x3), (0, x4), (9, 0), (9, 0), (9, 0), (9, 0)] [(0, 1)] M Q
              refine z_ifeq (tgt := 111) dX12_saySum_104 rfl (fun q => absurd q (by decide)) (fun _ => ?_)
              refine z_aloadn dX12_saySum_107 rfl (Or.inl rfl) ?_
              refine y_cv (mt2 := mX12_setInOrder) (en := [(2, 234), (9, 0), (9, 0)]) (st := []) (as := []) dX12_saySum_108 lX12_449 kX12_setInOrder iX12_setInOrder eX12_setInOrder rfl sh234 (by decide +kernel) (Nat.le_of_ble_eq_true rfl) (Nat.le_of_ble_eq_true rfl) rfl ?_
              exact h
            · replace h := h.2 q
              show Y G (d + 1) mX12_saySum 104 [(2, 234), (0, x1), (0, x2), (0, x3), (0, x4), (9, 0), (9, 0), (9, 0), (9, 0)] [(0, 0)] M Q
              refine z_ifeq (tgt := 111) dX12_saySum_104 rfl (fun _ => ?_) (fun q => absurd q (by decide))
              refine z_aloadn dX12_saySum_111 rfl (Or.inl rfl) ?_
              refine y_getf (x := (M 234 40)) dX12_saySum_112 fX12_403 sh234 (by decide) rfl rfl ?_
              refine z_iconst dX12_saySum_115 ki_1 ?_
              refine z_icmpne (tgt := 132) dX12_saySum_116 rfl (fun q => ?_) (fun q => ?_)
              · replace h := h.1 q
                refine z_iconst dX12_saySum_132 ki_0 ?_
                refine y_istore (ls' := [(2, 234), (0, x1), (0, x2), (0, x3), (0, x4), (0, 0), (9, 0), (9, 0), (9, 0)]) dX12_saySum_133 rfl rfl ?_
                refine z_iconst dX12_saySum_135 ki_0 ?_
                refine y_istore (ls' := [(2, 234), (0, x1), (0, x2), (0, x3), (0, x4), (0, 0), (0, 0), (9, 0), (9, 0)]) dX12_saySum_136 rfl rfl ?_
                refine z_iload dX12_saySum_138 rfl ?_
                refine z_ifne (tgt := 163) dX12_saySum_140 rfl (fun q => absurd q (by decide)) (fun _ => ?_)
                refine z_aloadn dX12_saySum_143 rfl (Or.inl rfl) ?_
                refine y_getr (v := 253) hG dX12_saySum_144 fX12_72 sh234 (by decide) rfl (by decide +kernel) (by decide) ?_
                refine z_iconst dX12_saySum_147 ki_0 ?_
                refine z_iloadn dX12_saySum_148 rfl ?_
                refine y_iast hG dX12_saySum_149 sh253 ⟨by decide, by decide⟩ ?_
                refine z_aloadn dX12_saySum_150 rfl (Or.inl rfl) ?_
                refine y_getr (v := 253) hG dX12_saySum_151 fX12_72 sh234 (by decide) rfl (by decide +kernel) (by decide) ?_
                refine z_iconst dX12_saySum_154 ki_1 ?_
                refine z_aloadn dX12_saySum_155 rfl (Or.inl rfl) ?_
                refine y_getf (x := (M 234 40)) dX12_saySum_156 fX12_403 sh234 (by decide) rfl (zset_ne (fun q => absurd q.1 (by decide))) ?_
                refine y_iast hG dX12_saySum_159 sh253 ⟨by decide, by decide⟩ ?_
                refine z_iconst dX12_saySum_160 ki_2 ?_
                refine y_istore (ls' := [(2, 234), (0, x1), (0, x2), (0, x3), (0, x4), (0, 0), (0, 2), (9, 0), (9, 0)]) dX12_saySum_161 rfl rfl ?_
                refine z_iconst dX12_saySum_163 ki_0 ?_
                refine y_istore (ls' := [(2, 234), (0, x1), (0, x2), (0, x3), (0, x4), (0, 0), (0, 2), (0, 0), (9, 0)]) dX12_saySum_164 rfl rfl ?_
                exact h
              · replace h := h.2 q
                refine z_aloadn dX12_saySum_119 rfl (Or.inl rfl) ?_
                refine y_getr (v := 254) hG dX12_saySum_120 fX12_75 sh234 (by decide) rfl (by decide +kernel) (by decide) ?_
                refine z_iconst dX12_saySum_123 ki_0 ?_
                refine y_iald (x := (M 254 0)) dX12_saySum_124 sh254 ⟨by decide, by decide⟩ rfl ?_
                refine z_ifne (tgt := 132) dX12_saySum_125 rfl (fun q => ?_) (fun q => ?_)
                · replace h := h.1 q
                  refine z_iconst dX12_saySum_132 ki_0 ?_
                  refine y_istore (ls' := [(2, 234), (0, x1), (0, x2), (0, x3), (0, x4), (0, 0), (9, 0), (9, 0), (9, 0)]) dX12_saySum_133 rfl rfl ?_
                  refine z_iconst dX12_saySum_135 ki_0 ?_
                  refine y_istore (ls' := [(2, 234), (0, x1), (0, x2), (0, x3), (0, x4), (0, 0), (0, 0), (9, 0), (9, 0)]) dX12_saySum_136 rfl rfl ?_
                  refine z_iload dX12_saySum_138 rfl ?_
                  refine z_ifne (tgt := 163) dX12_saySum_140 rfl (fun q => absurd q (by decide)) (fun _ => ?_)
                  refine z_aloadn dX12_saySum_143 rfl (Or.inl rfl) ?_
                  refine y_getr (v := 253) hG dX12_saySum_144 fX12_72 sh234 (by decide) rfl (by decide +kernel) (by decide) ?_
                  refine z_iconst dX12_saySum_147 ki_0 ?_
                  refine z_iloadn dX12_saySum_148 rfl ?_
                  refine y_iast hG dX12_saySum_149 sh253 ⟨by decide, by decide⟩ ?_
                  refine z_aloadn dX12_saySum_150 rfl (Or.inl rfl) ?_
                  refine y_getr (v := 253) hG dX12_saySum_151 fX12_72 sh234 (by decide) rfl (by decide +kernel) (by decide) ?_
                  refine z_iconst dX12_saySum_154 ki_1 ?_
                  refine z_aloadn dX12_saySum_155 rfl (Or.inl rfl) ?_
                  refine y_getf (x := (M 234 40)) dX12_saySum_156 fX12_403 sh234 (by decide) rfl (zset_ne (fun q => absurd q.1 (by decide))) ?_
                  refine y_iast hG dX12_saySum_159 sh253 ⟨by decide, by decide⟩ ?_
                  refine z_iconst dX12_saySum_160 ki_2 ?_
                  refine y_istore (ls' := [(2, 234), (0, x1), (0, x2), (0, x3), (0, x4), (0, 0), (0, 2), (9, 0), (9, 0)]) dX12_saySum_161 rfl rfl ?_
                  refine z_iconst dX12_saySum_163 ki_0 ?_
                  refine y_istore (ls' := [(2, 234), (0, x1), (0, x2), (0, x3), (0, x4), (0, 0), (0, 2), (0, 0), (9, 0)]) dX12_saySum_164 rfl rfl ?_
                  exact h
                · replace h := h.2 q
                  refine z_iconst dX12_saySum_128 ki_1 ?_
                  refine z_goto (tgt := 133) dX12_saySum_129 rfl ?_
                  refine y_istore (ls' := [(2, 234), (0, x1), (0, x2), (0, x3), (0, x4), (0, 1), (9, 0), (9, 0), (9, 0)]) dX12_saySum_133 rfl rfl ?_
                  refine z_iconst dX12_saySum_135 ki_0 ?_
                  refine y_istore (ls' := [(2, 234), (0, x1), (0, x2), (0, x3), (0, x4), (0, 1), (0, 0), (9, 0), (9, 0)]) dX12_saySum_136 rfl rfl ?_
                  refine z_iload dX12_saySum_138 rfl ?_
                  refine z_ifne (tgt := 163) dX12_saySum_140 rfl (fun _ => ?_) (fun q => absurd q (by decide))
                  refine z_iconst dX12_saySum_163 ki_0 ?_
                  refine y_istore (ls' := [(2, 234), (0, x1), (0, x2), (0, x3), (0, x4), (0, 1), (0, 0), (0, 0), (9, 0)]) dX12_saySum_164 rfl rfl ?_
                  exact h
  · replace h := h.2 q
    refine z_iconst dX12_saySum_29 ki_2 ?_
    refine z_goto (tgt := 34) dX12_saySum_30 rfl ?_
    refine y_cs (mt2 := mX12_has) (en := [(0, x4), (0, 2)]) (st := []) (as := [(0, x4), (0, 2)]) dX12_saySum_34 lX12_373 kX12_has tX12_has rfl (Nat.le_of_ble_eq_true rfl) (Nat.le_of_ble_eq_true rfl) rfl (s_has hG (fun q => ?_) (fun q => ?_))
    · replace h := h.1 q
      show Y G (d + 1) mX12_saySum 37 [(2, 234), (0, x1), (0, x2), (0, x3), (0, x4), (9, 0), (9, 0), (9, 0), (9, 0)] [(0, 1)] M Q
      refine z_ifeq (tgt := 54) dX12_saySum_37 rfl (fun q => absurd q (by decide)) (fun _ => ?_)
      refine z_aloadn dX12_saySum_40 rfl (Or.inl rfl) ?_
      refine z_iloadn dX12_saySum_41 rfl ?_
      refine z_iconst dX12_saySum_42 ki_2 ?_
      refine z_icmpne (tgt := 50) dX12_saySum_43 rfl (fun q => ?_) (fun q => ?_)
      · replace h := h.1 q
        refine z_iconst dX12_saySum_50 ki_1 ?_
        refine y_cv (mt2 := mX12_leaveOut) (en := [(2, 234), (0, 1), (9, 0), (9, 0)]) (st := []) (as := [(0, 1)]) dX12_saySum_51 lX12_436 kX12_leaveOut iX12_leaveOut eX12_leaveOut rfl sh234 (by decide +kernel) (Nat.le_of_ble_eq_true rfl) (Nat.le_of_ble_eq_true rfl) rfl ?_
        exact h
      · replace h := h.2 q
        refine z_iconst dX12_saySum_46 ki_0 ?_
        refine z_goto (tgt := 51) dX12_saySum_47 rfl ?_
        refine y_cv (mt2 := mX12_leaveOut) (en := [(2, 234), (0, 0), (9, 0), (9, 0)]) (st := []) (as := [(0, 0)]) dX12_saySum_51 lX12_436 kX12_leaveOut iX12_leaveOut eX12_leaveOut rfl sh234 (by decide +kernel) (Nat.le_of_ble_eq_true rfl) (Nat.le_of_ble_eq_true rfl) rfl ?_
        exact h
    · replace h := h.2 q
      show Y G (d + 1) mX12_saySum 37 [(2, 234), (0, x1), (0, x2), (0, x3), (0, x4), (9, 0), (9, 0), (9, 0), (9, 0)] [(0, 0)] M Q
      refine z_ifeq (tgt := 54) dX12_saySum_37 rfl (fun _ => ?_) (fun q => absurd q (by decide))
      refine z_aloadn dX12_saySum_54 rfl (Or.inl rfl) ?_
      refine y_getf (x := (M 234 40)) dX12_saySum_55 fX12_403 sh234 (by decide) rfl rfl ?_
      refine z_ifeq (tgt := 78) dX12_saySum_58 rfl (fun q => ?_) (fun q => ?_)
      · replace h := h.1 q
        refine z_aloadn dX12_saySum_78 rfl (Or.inl rfl) ?_
        refine z_iloadn dX12_saySum_79 rfl ?_
        refine z_aloadn dX12_saySum_80 rfl (Or.inl rfl) ?_
        refine z_iloadn dX12_saySum_81 rfl ?_
        refine y_cv (mt2 := mX12_worked) (en := [(2, 234), (0, x1), (9, 0), (9, 0), (9, 0), (9, 0), (9, 0)]) (st := [(0, x2), (2, 234)]) (as := [(0, x1)]) dX12_saySum_82 lX12_443 kX12_worked iX12_worked eX12_worked rfl sh234 (by decide +kernel) (Nat.le_of_ble_eq_true rfl) (Nat.le_of_ble_eq_true rfl) rfl ?_
        exact h
      · replace h := h.2 q
        refine z_iload dX12_saySum_61 rfl ?_
        refine z_bipush dX12_saySum_63 kb_7 ?_
        refine y_cs (mt2 := mX12_has) (en := [(0, x4), (0, 7)]) (st := []) (as := [(0, x4), (0, 7)]) dX12_saySum_65 lX12_373 kX12_has tX12_has rfl (Nat.le_of_ble_eq_true rfl) (Nat.le_of_ble_eq_true rfl) rfl (s_has hG (fun q => ?_) (fun q => ?_))
        · replace h := h.1 q
          show Y G (d + 1) mX12_saySum 68 [(2, 234), (0, x1), (0, x2), (0, x3), (0, x4), (9, 0), (9, 0), (9, 0), (9, 0)] [(0, 1)] M Q
          refine z_ifeq (tgt := 89) dX12_saySum_68 rfl (fun q => absurd q (by decide)) (fun _ => ?_)
          refine z_aloadn dX12_saySum_71 rfl (Or.inl rfl) ?_
          refine y_cv (mt2 := mX12_areNumbers) (en := [(2, 234), (9, 0)]) (st := []) (as := []) dX12_saySum_72 lX12_439 kX12_areNumbers iX12_areNumbers eX12_areNumbers rfl sh234 (by decide +kernel) (Nat.le_of_ble_eq_true rfl) (Nat.le_of_ble_eq_true rfl) rfl ?_
          exact h
        · replace h := h.2 q
          show Y G (d + 1) mX12_saySum 68 [(2, 234), (0, x1), (0, x2), (0, x3), (0, x4), (9, 0), (9, 0), (9, 0), (9, 0)] [(0, 0)] M Q
          refine z_ifeq (tgt := 89) dX12_saySum_68 rfl (fun _ => ?_) (fun q => absurd q (by decide))
          refine z_iload dX12_saySum_89 rfl ?_
          refine z_iloadn dX12_saySum_91 rfl ?_
          refine z_iconst dX12_saySum_92 ki_2 ?_
          refine z_icmpne (tgt := 100) dX12_saySum_93 rfl (fun q => ?_) (fun q => ?_)
          · replace h := h.1 q
            refine z_iconst dX12_saySum_100 ki_1 ?_
            refine y_cs (mt2 := mX12_has) (en := [(0, x4), (0, 1)]) (st := []) (as := [(0, x4), (0, 1)]) dX12_saySum_101 lX12_373 kX12_has tX12_has rfl (Nat.le_of_ble_eq_true rfl) (Nat.le_of_ble_eq_true rfl) rfl (s_has hG (fun q => ?_) (fun q => ?_))
            · replace h := h.1 q
              show Y G (d + 1) mX12_saySum 104 [(2, 234), (0, x1), (0, x2), (0, x3), (0, x4), (9, 0), (9, 0), (9, 0), (9, 0)] [(0, 1)] M Q
              refine z_ifeq (tgt := 111) dX12_saySum_104 rfl (fun q => absurd q (by decide)) (fun _ => ?_)
              refine z_aloadn dX12_saySum_107 rfl (Or.inl rfl) ?_
              refine y_cv (mt2 := mX12_setInOrder) (en := [(2, 234), (9, 0), (9, 0)]) (st := []) (as := []) dX12_saySum_108 lX12_449 kX12_setInOrder iX12_setInOrder eX12_setInOrder rfl sh234 (by decide +kernel) (Nat.le_of_ble_eq_true rfl) (Nat.le_of_ble_eq_true rfl) rfl ?_
              exact h
            · replace h := h.2 q
              show Y G (d + 1) mX12_saySum 104 [(2, 234), (0, x1), (0, x2), (0, x3), (0, x4), (9, 0), (9, 0), (9, 0), (9, 0)] [(0, 0)] M Q
              refine z_ifeq (tgt := 111) dX12_saySum_104 rfl (fun _ => ?_) (fun q => absurd q (by decide))
              refine z_aloadn dX12_saySum_111 rfl (Or.inl rfl) ?_
              refine y_getf (x := (M 234 40)) dX12_saySum_112 fX12_403 sh234 (by decide) rfl rfl ?_
              refine z_iconst dX12_saySum_115 ki_1 ?_
              refine z_icmpne (tgt := 132) dX12_saySum_116 rfl (fun q => ?_) (fun q => ?_)
              · replace h := h.1 q
                refine z_iconst dX12_saySum_132 ki_0 ?_
                refine y_istore (ls' := [(2, 234), (0, x1), (0, x2), (0, x3), (0, x4), (0, 0), (9, 0), (9, 0), (9, 0)]) dX12_saySum_133 rfl rfl ?_
                refine z_iconst dX12_saySum_135 ki_0 ?_
                refine y_istore (ls' := [(2, 234), (0, x1), (0, x2), (0, x3), (0, x4), (0, 0), (0, 0), (9, 0), (9, 0)]) dX12_saySum_136 rfl rfl ?_
                refine z_iload dX12_saySum_138 rfl ?_
                refine z_ifne (tgt := 163) dX12_saySum_140 rfl (fun q => absurd q (by decide)) (fun _ => ?_)
                refine z_aloadn dX12_saySum_143 rfl (Or.inl rfl) ?_
                refine y_getr (v := 253) hG dX12_saySum_144 fX12_72 sh234 (by decide) rfl (by decide +kernel) (by decide) ?_
                refine z_iconst dX12_saySum_147 ki_0 ?_
                refine z_iloadn dX12_saySum_148 rfl ?_
                refine y_iast hG dX12_saySum_149 sh253 ⟨by decide, by decide⟩ ?_
                refine z_aloadn dX12_saySum_150 rfl (Or.inl rfl) ?_
                refine y_getr (v := 253) hG dX12_saySum_151 fX12_72 sh234 (by decide) rfl (by decide +kernel) (by decide) ?_
                refine z_iconst dX12_saySum_154 ki_1 ?_
                refine z_aloadn dX12_saySum_155 rfl (Or.inl rfl) ?_
                refine y_getf (x := (M 234 40)) dX12_saySum_156 fX12_403 sh234 (by decide) rfl (zset_ne (fun q => absurd q.1 (by decide))) ?_
                refine y_iast hG dX12_saySum_159 sh253 ⟨by decide, by decide⟩ ?_
                refine z_iconst dX12_saySum_160 ki_2 ?_
                refine y_istore (ls' := [(2, 234), (0, x1), (0, x2), (0, x3), (0, x4), (0, 0), (0, 2), (9, 0), (9, 0)]) dX12_saySum_161 rfl rfl ?_
                refine z_iconst dX12_saySum_163 ki_0 ?_
                refine y_istore (ls' := [(2, 234), (0, x1), (0, x2), (0, x3), (0, x4), (0, 0), (0, 2), (0, 0), (9, 0)]) dX12_saySum_164 rfl rfl ?_
                exact h
              · replace h := h.2 q
                refine z_aloadn dX12_saySum_119 rfl (Or.inl rfl) ?_
                refine y_getr (v := 254) hG dX12_saySum_120 fX12_75 sh234 (by decide) rfl (by decide +kernel) (by decide) ?_
                refine z_iconst dX12_saySum_123 ki_0 ?_
                refine y_iald (x := (M 254 0)) dX12_saySum_124 sh254 ⟨by decide, by decide⟩ rfl ?_
                refine z_ifne (tgt := 132) dX12_saySum_125 rfl (fun q => ?_) (fun q => ?_)
                · replace h := h.1 q
                  refine z_iconst dX12_saySum_132 ki_0 ?_
                  refine y_istore (ls' := [(2, 234), (0, x1), (0, x2), (0, x3), (0, x4), (0, 0), (9, 0), (9, 0), (9, 0)]) dX12_saySum_133 rfl rfl ?_
                  refine z_iconst dX12_saySum_135 ki_0 ?_
                  refine y_istore (ls' := [(2, 234), (0, x1), (0, x2), (0, x3), (0, x4), (0, 0), (0, 0), (9, 0), (9, 0)]) dX12_saySum_136 rfl rfl ?_
                  refine z_iload dX12_saySum_138 rfl ?_
                  refine z_ifne (tgt := 163) dX12_saySum_140 rfl (fun q => absurd q (by decide)) (fun _ => ?_)
                  refine z_aloadn dX12_saySum_143 rfl (Or.inl rfl) ?_
                  refine y_getr (v := 253) hG dX12_saySum_144 fX12_72 sh234 (by decide) rfl (by decide +kernel) (by decide) ?_
                  refine z_iconst dX12_saySum_147 ki_0 ?_
                  refine z_iloadn dX12_saySum_148 rfl ?_
                  refine y_iast hG dX12_saySum_149 sh253 ⟨by decide, by decide⟩ ?_
                  refine z_aloadn dX12_saySum_150 rfl (Or.inl rfl) ?_
                  refine y_getr (v := 253) hG dX12_saySum_151 fX12_72 sh234 (by decide) rfl (by decide +kernel) (by decide) ?_
                  refine z_iconst dX12_saySum_154 ki_1 ?_
                  refine z_aloadn dX12_saySum_155 rfl (Or.inl rfl) ?_
                  refine y_getf (x := (M 234 40)) dX12_saySum_156 fX12_403 sh234 (by decide) rfl (zset_ne (fun q => absurd q.1 (by decide))) ?_
                  refine y_iast hG dX12_saySum_159 sh253 ⟨by decide, by decide⟩ ?_
                  refine z_iconst dX12_saySum_160 ki_2 ?_
                  refine y_istore (ls' := [(2, 234), (0, x1), (0, x2), (0, x3), (0, x4), (0, 0), (0, 2), (9, 0), (9, 0)]) dX12_saySum_161 rfl rfl ?_
                  refine z_iconst dX12_saySum_163 ki_0 ?_
                  refine y_istore (ls' := [(2, 234), (0, x1), (0, x2), (0, x3), (0, x4), (0, 0), (0, 2), (0, 0), (9, 0)]) dX12_saySum_164 rfl rfl ?_
                  exact h
                · replace h := h.2 q
                  refine z_iconst dX12_saySum_128 ki_1 ?_
                  refine z_goto (tgt := 133) dX12_saySum_129 rfl ?_
                  refine y_istore (ls' := [(2, 234), (0, x1), (0, x2), (0, x3), (0, x4), (0, 1), (9, 0), (9, 0), (9, 0)]) dX12_saySum_133 rfl rfl ?_
                  refine z_iconst dX12_saySum_135 ki_0 ?_
                  refine y_istore (ls' := [(2, 234), (0, x1), (0, x2), (0, x3), (0, x4), (0, 1), (0, 0), (9, 0), (9, 0)]) dX12_saySum_136 rfl rfl ?_
                  refine z_iload dX12_saySum_138 rfl ?_
                  refine z_ifne (tgt := 163) dX12_saySum_140 rfl (fun _ => ?_) (fun q => absurd q (by decide))
                  refine z_iconst dX12_saySum_163 ki_0 ?_
                  refine y_istore (ls' := [(2, 234), (0, x1), (0, x2), (0, x3), (0, x4), (0, 1), (0, 0), (0, 0), (9, 0)]) dX12_saySum_164 rfl rfl ?_
                  exact h
          · replace h := h.2 q
            refine z_iconst dX12_saySum_96 ki_0 ?_
            refine z_goto (tgt := 101) dX12_saySum_97 rfl ?_
            refine y_cs (mt2 := mX12_has) (en := [(0, x4), (0, 0)]) (st := []) (as := [(0, x4), (0, 0)]) dX12_saySum_101 lX12_373 kX12_has tX12_has rfl (Nat.le_of_ble_eq_true rfl) (Nat.le_of_ble_eq_true rfl) rfl (s_has hG (fun q => ?_) (fun q => ?_))
            · replace h := h.1 q
              show Y G (d + 1) mX12_saySum 104 [(2, 234), (0, x1), (0, x2), (0, x3), (0, x4), (9, 0), (9, 0), (9, 0), (9, 0)] [(0, 1)] M Q
              refine z_ifeq (tgt := 111) dX12_saySum_104 rfl (fun q => absurd q (by decide)) (fun _ => ?_)
              refine z_aloadn dX12_saySum_107 rfl (Or.inl rfl) ?_
              refine y_cv (mt2 := mX12_setInOrder) (en := [(2, 234), (9, 0), (9, 0)]) (st := []) (as := []) dX12_saySum_108 lX12_449 kX12_setInOrder iX12_setInOrder eX12_setInOrder rfl sh234 (by decide +kernel) (Nat.le_of_ble_eq_true rfl) (Nat.le_of_ble_eq_true rfl) rfl ?_
              exact h
            · replace h := h.2 q
              show Y G (d + 1) mX12_saySum 104 [(2, 234), (0, x1), (0, x2), (0, x3), (0, x4), (9, 0), (9, 0), (9, 0), (9, 0)] [(0, 0)] M Q
              refine z_ifeq (tgt := 111) dX12_saySum_104 rfl (fun _ => ?_) (fun q => absurd q (by decide))
              refine z_aloadn dX12_saySum_111 rfl (Or.inl rfl) ?_
              refine y_getf (x := (M 234 40)) dX12_saySum_112 fX12_403 sh234 (by decide) rfl rfl ?_
              refine z_iconst dX12_saySum_115 ki_1 ?_
              refine z_icmpne (tgt := 132) dX12_saySum_116 rfl (fun q => ?_) (fun q => ?_)
              · replace h := h.1 q
                refine z_iconst dX12_saySum_132 ki_0 ?_
                refine y_istore (ls' := [(2, 234), (0, x1), (0, x2), (0, x3), (0, x4), (0, 0), (9, 0), (9, 0), (9, 0)]) dX12_saySum_133 rfl rfl ?_
                refine z_iconst dX12_saySum_135 ki_0 ?_
                refine y_istore (ls' := [(2, 234), (0, x1), (0, x2), (0, x3), (0, x4), (0, 0), (0, 0), (9, 0), (9, 0)]) dX12_saySum_136 rfl rfl ?_
                refine z_iload dX12_saySum_138 rfl ?_
                refine z_ifne (tgt := 163) dX12_saySum_140 rfl (fun q => absurd q (by decide)) (fun _ => ?_)
                refine z_aloadn dX12_saySum_143 rfl (Or.inl rfl) ?_
                refine y_getr (v := 253) hG dX12_saySum_144 fX12_72 sh234 (by decide) rfl (by decide +kernel) (by decide) ?_
                refine z_iconst dX12_saySum_147 ki_0 ?_
                refine z_iloadn dX12_saySum_148 rfl ?_
                refine y_iast hG dX12_saySum_149 sh253 ⟨by decide, by decide⟩ ?_
                refine z_aloadn dX12_saySum_150 rfl (Or.inl rfl) ?_
                refine y_getr (v := 253) hG dX12_saySum_151 fX12_72 sh234 (by decide) rfl (by decide +kernel) (by decide) ?_
                refine z_iconst dX12_saySum_154 ki_1 ?_
                refine z_aloadn dX12_saySum_155 rfl (Or.inl rfl) ?_
                refine y_getf (x := (M 234 40)) dX12_saySum_156 fX12_403 sh234 (by decide) rfl (zset_ne (fun q => absurd q.1 (by decide))) ?_
                refine y_iast hG dX12_saySum_159 sh253 ⟨by decide, by decide⟩ ?_
                refine z_iconst dX12_saySum_160 ki_2 ?_
                refine y_istore (ls' := [(2, 234), (0, x1), (0, x2), (0, x3), (0, x4), (0, 0), (0, 2), (9, 0), (9, 0)]) dX12_saySum_161 rfl rfl ?_
                refine z_iconst dX12_saySum_163 ki_0 ?_
                refine y_istore (ls' := [(2, 234), (0, x1), (0, x2), (0, x3), (0, x4), (0, 0), (0, 2), (0, 0), (9, 0)]) dX12_saySum_164 rfl rfl ?_
                exact h
              · replace h := h.2 q
                refine z_aloadn dX12_saySum_119 rfl (Or.inl rfl) ?_
                refine y_getr (v := 254) hG dX12_saySum_120 fX12_75 sh234 (by decide) rfl (by decide +kernel) (by decide) ?_
                refine z_iconst dX12_saySum_123 ki_0 ?_
                refine y_iald (x := (M 254 0)) dX12_saySum_124 sh254 ⟨by decide, by decide⟩ rfl ?_
                refine z_ifne (tgt := 132) dX12_saySum_125 rfl (fun q => ?_) (fun q => ?_)
                · replace h := h.1 q
                  refine z_iconst dX12_saySum_132 ki_0 ?_
                  refine y_istore (ls' := [(2, 234), (0, x1), (0, x2), (0, x3), (0, x4), (0, 0), (9, 0), (9, 0), (9, 0)]) dX12_saySum_133 rfl rfl ?_
                  refine z_iconst dX12_saySum_135 ki_0 ?_
                  refine y_istore (ls' := [(2, 234), (0, x1), (0, x2), (0, x3), (0, x4), (0, 0), (0, 0), (9, 0), (9, 0)]) dX12_saySum_136 rfl rfl ?_
                  refine z_iload dX12_saySum_138 rfl ?_
                  refine z_ifne (tgt := 163) dX12_saySum_140 rfl (fun q => absurd q (by decide)) (fun _ => ?_)
                  refine z_aloadn dX12_saySum_143 rfl (Or.inl rfl) ?_
                  refine y_getr (v := 253) hG dX12_saySum_144 fX12_72 sh234 (by decide) rfl (by decide +kernel) (by decide) ?_
                  refine z_iconst dX12_saySum_147 ki_0 ?_
                  refine z_iloadn dX12_saySum_148 rfl ?_
                  refine y_iast hG dX12_saySum_149 sh253 ⟨by decide, by decide⟩ ?_
                  refine z_aloadn dX12_saySum_150 rfl (Or.inl rfl) ?_
                  refine y_getr (v := 253) hG dX12_saySum_151 fX12_72 sh234 (by decide) rfl (by decide +kernel) (by decide) ?_
                  refine z_iconst dX12_saySum_154 ki_1 ?_
                  refine z_aloadn dX12_saySum_155 rfl (Or.inl rfl) ?_
                  refine y_getf (x := (M 234 40)) dX12_saySum_156 fX12_403 sh234 (by decide) rfl (zset_ne (fun q => absurd q.1 (by decide))) ?_
                  refine y_iast hG dX12_saySum_159 sh253 ⟨by decide, by decide⟩ ?_
                  refine z_iconst dX12_saySum_160 ki_2 ?_
                  refine y_istore (ls' := [(2, 234), (0, x1), (0, x2), (0, x3), (0, x4), (0, 0), (0, 2), (9, 0), (9, 0)]) dX12_saySum_161 rfl rfl ?_
                  refine z_iconst dX12_saySum_163 ki_0 ?_
                  refine y_istore (ls' := [(2, 234), (0, x1), (0, x2), (0, x3), (0, x4), (0, 0), (0, 2), (0, 0), (9, 0)]) dX12_saySum_164 rfl rfl ?_
                  exact h
                · replace h := h.2 q
                  refine z_iconst dX12_saySum_128 ki_1 ?_
                  refine z_goto (tgt := 133) dX12_saySum_129 rfl ?_
                  refine y_istore (ls' := [(2, 234), (0, x1), (0, x2), (0, x3), (0, x4), (0, 1), (9, 0), (9, 0), (9, 0)]) dX12_saySum_133 rfl rfl ?_
                  refine z_iconst dX12_saySum_135 ki_0 ?_
                  refine y_istore (ls' := [(2, 234), (0, x1), (0, x2), (0, x3), (0, x4), (0, 1), (0, 0), (9, 0), (9, 0)]) dX12_saySum_136 rfl rfl ?_
                  refine z_iload dX12_saySum_138 rfl ?_
                  refine z_ifne (tgt := 163) dX12_saySum_140 rfl (fun _ => ?_) (fun q => absurd q (by decide))
                  refine z_iconst dX12_saySum_163 ki_0 ?_
                  refine y_istore (ls' := [(2, 234), (0, x1), (0, x2), (0, x3), (0, x4), (0, 1), (0, 0), (0, 0), (9, 0)]) dX12_saySum_164 rfl rfl ?_
                  exact h
set_option maxRecDepth 20000 in
set_option maxHeartbeats 4000000 in
theorem bX12_saySum_264 {G : zG} {d : Nat} {M : zM} {Q : zV → zM → Prop} (hG : zP G) {x1 x2 x3 x4 x5 x6 x7 : Int}
    (h : Q (9, 0) M) :
    Y G (d + 1) mX12_saySum 264 [(2, 234), (0, x1), (0, x2), (0, x3), (0, x4), (0, x5), (0, x6), (0, x7), (9, 0)] [] M Q := by
  exact z_return dX12_saySum_264 rfl rfl h
set_option maxRecDepth 20000 in
set_option maxHeartbeats 4000000 in
theorem bX12_saySum_54 {G : zG} {d : Nat} {M : zM} {Q : zV → zM → Prop} (hG : zP G) {x1 x2 x3 x4 : Int}
    (h : (((M 234 40) = 0 → Y G d mX12_worked 0 [(2, 234), (0, x1), (9, 0), (9, 0), (9, 0), (9, 0), (9, 0)] [] M (fun r M' => Y G (d + 1) mX12_saySum 85 [(2, 234), (0, x1), (0, x2), (0, x3), (0, x4), (9, 0), (9, 0), (9, 0), (9, 0)] (zpush r [(0, x2), (2, 234)]) M' Q)) ∧ (¬ (M 234 40) = 0 → ((zbit x4 7 → Y G d mX12_areNumbers 0 [(2, 234), (9, 0)] [] M (fun r M' => Y G (d + 1) mX12_saySum 75 [(2, 234), (0, x1), (0, x2), (0, x3), (0, x4), (9, 0), (9, 0), (9, 0), (9, 0)] (zpush r []) M' Q)) ∧ (¬ (zbit x4 7) → ((¬ x1 = 2 → ((zbit x4 1 → Y G d mX12_setInOrder 0 [(2, 234), (9, 0), (9, 0)] [] M (fun r M' => Y G (d + 1) mX12_saySum 111 [(2, 234), (0, x1), (0, x2), (0, x3), (0, x4), (9, 0), (9, 0), (9, 0), (9, 0)] (zpush r []) M' Q)) ∧ (¬ (zbit x4 1) → ((¬ (M 234 40) = 1 → Y G (d + 1) mX12_saySum 166 [(2, 234), (0, x1), (0, x2), (0, x3), (0, x4), (0, 0), (0, 2), (0, 0), (9, 0)] [] (zset (zset M 253 0 x1) 253 1 (M 234 40)) Q) ∧ ((M 234 40) = 1 → ((¬ (M 254 0) = 0 → Y G (d + 1) mX12_saySum 166 [(2, 234), (0, x1), (0, x2), (0, x3), (0, x4), (0, 0), (0, 2), (0, 0), (9, 0)] [] (zset (zset M 253 0 x1) 253 1 (M 234 40)) Q) ∧ ((M 254 0) = 0 → Y G (d + 1) mX12_saySum 166 [(2, 234), (0, x1), (0, x2), (0, x3), (0, x4), (0, 1), (0, 0), (0, 0), (9, 0)] [] M Q))))))) ∧ (x1 = 2 → ((zbit x4 0 → Y G d mX12_setInOrder 0 [(2, 234), (9, 0), (9, 0)] [] M (fun r M' => Y G (d + 1) mX12_saySum 111 [(2, 234), (0, x1), (0, x2), (0, x3), (0, x4), (9, 0), (9, 0), (9, 0), (9, 0)] (zpush r []) M' Q)) ∧ (¬ (zbit x4 0) → ((¬ (M 234 40) = 1 → Y G (d + 1) mX12_saySum 166 [(2, 234), (0, x1), (0, x2), (0, x3), (0, x4), (0, 0), (0, 2), (0, 0), (9, 0)] [] (zset (zset M 253 0 x1) 253 1 (M 234 40)) Q) ∧ ((M 234 40) = 1 → ((¬ (M 254 0) = 0 → Y G (d + 1) mX12_saySum 166 [(2, 234), (0, x1), (0, x2), (0, x3), (0, x4), (0, 0), (0, 2), (0, 0), (9, 0)] [] (zset (zset M 253 0 x1) 253 1 (M 234 40)) Q) ∧ ((M 254 0) = 0 → Y G (d + 1) mX12_saySum 166 [(2, 234), (0, x1), (0, x2), (0, x3), (0, x4), (0, 1), (0, 0), (0, 0), (9, 0)] [] M Q))))))))))))) :
    Y G (d + 1) mX12_saySum 54 [(2, 234), (0, x1), (0, x2), (0, x3), (0, x4), (9, 0), (9, 0), (9, 0), (9, 0)] [] M Q := by
  refine z_aloadn dX12_saySum_54 rfl (Or.inl rfl) ?_
  refine y_getf (x := (M 234 40)) dX12_saySum_55 fX12_403 sh234 (by decide) rfl rfl ?_
  refine z_ifeq (tgt := 78) dX12_saySum_58 rfl (fun q => ?_) (fun q => ?_)
  · replace h := h.1 q
    refine z_aloadn dX12_saySum_78 rfl (Or.inl rfl) ?_
    refine z_iloadn dX12_saySum_79 rfl ?_
    refine z_aloadn dX12_saySum_80 rfl (Or.inl rfl) ?_
    refine z_iloadn dX12_saySum_81 rfl ?_
    refine y_cv (mt2 := mX12_worked) (en := [(2, 234), (0, x1), (9, 0), (9, 0), (9, 0), (9, 0), (9, 0)]) (st := [(0, x2), (2, 234)]) (as := [(0, x1)]) dX12_saySum_82 lX12_443 kX12_worked iX12_worked eX12_worked rfl sh234 (by decide +kernel) (Nat.le_of_ble_eq_true rfl) (Nat.le_of_ble_eq_true rfl) rfl ?_
    exact h
  · replace h := h.2 q
    refine z_iload dX12_saySum_61 rfl ?_
    refine z_bipush dX12_saySum_63 kb_7 ?_
    refine y_cs (mt2 := mX12_has) (en := [(0, x4), (0, 7)]) (st := []) (as := [(0, x4), (0, 7)]) dX12_saySum_65 lX12_373 kX12_has tX12_has rfl (Nat.le_of_ble_eq_true rfl) (Nat.le_of_ble_eq_true rfl) rfl (s_has hG (fun q => ?_) (fun q => ?_))
    · replace h := h.1 q
      show Y G (d + 1) mX12_saySum 68 [(2, 234), (0, x1), (0, x2), (0, x3), (0, x4), (9, 0), (9, 0), (9, 0), (9, 0)] [(0, 1)] M Q
      refine z_ifeq (tgt := 89) dX12_saySum_68 rfl (fun q => absurd q (by decide)) (fun _ => ?_)
      refine z_aloadn dX12_saySum_71 rfl (Or.inl rfl) ?_
      refine y_cv (mt2 := mX12_areNumbers) (en := [(2, 234), (9, 0)]) (st := []) (as := []) dX12_saySum_72 lX12_439 kX12_areNumbers iX12_areNumbers eX12_areNumbers rfl sh234 (by decide +kernel) (Nat.le_of_ble_eq_true rfl) (Nat.le_of_ble_eq_true rfl) rfl ?_
      exact h
    · replace h := h.2 q
      show Y G (d + 1) mX12_saySum 68 [(2, 234), (0, x1), (0, x2), (0, x3), (0, x4), (9, 0), (9, 0), (9, 0), (9, 0)] [(0, 0)] M Q
      refine z_ifeq (tgt := 89) dX12_saySum_68 rfl (fun _ => ?_) (fun q => absurd q (by decide))
      refine z_iload dX12_saySum_89 rfl ?_
      refine z_iloadn dX12_saySum_91 rfl ?_
      refine z_iconst dX12_saySum_92 ki_2 ?_
      refine z_icmpne (tgt := 100) dX12_saySum_93 rfl (fun q => ?_) (fun q => ?_)
      · replace h := h.1 q
        refine z_iconst dX12_saySum_100 ki_1 ?_
        refine y_cs (mt2 := mX12_has) (en := [(0, x4), (0, 1)]) (st := []) (as := [(0, x4), (0, 1)]) dX12_saySum_101 lX12_373 kX12_has tX12_has rfl (Nat.le_of_ble_eq_true rfl) (Nat.le_of_ble_eq_true rfl) rfl (s_has hG (fun q => ?_) (fun q => ?_))
        · replace h := h.1 q
          show Y G (d + 1) mX12_saySum 104 [(2, 234), (0, x1), (0, x2), (0, x3), (0, x4), (9, 0), (9, 0), (9, 0), (9, 0)] [(0, 1)] M Q
          refine z_ifeq (tgt := 111) dX12_saySum_104 rfl (fun q => absurd q (by decide)) (fun _ => ?_)
          refine z_aloadn dX12_saySum_107 rfl (Or.inl rfl) ?_
          refine y_cv (mt2 := mX12_setInOrder) (en := [(2, 234), (9, 0), (9, 0)]) (st := []) (as := []) dX12_saySum_108 lX12_449 kX12_setInOrder iX12_setInOrder eX12_setInOrder rfl sh234 (by decide +kernel) (Nat.le_of_ble_eq_true rfl) (Nat.le_of_ble_eq_true rfl) rfl ?_
          exact h
        · replace h := h.2 q
          show Y G (d + 1) mX12_saySum 104 [(2, 234), (0, x1), (0, x2), (0, x3), (0, x4), (9, 0), (9, 0), (9, 0), (9, 0)] [(0, 0)] M Q
          refine z_ifeq (tgt := 111) dX12_saySum_104 rfl (fun _ => ?_) (fun q => absurd q (by decide))
          refine z_aloadn dX12_saySum_111 rfl (Or.inl rfl) ?_
          refine y_getf (x := (M 234 40)) dX12_saySum_112 fX12_403 sh234 (by decide) rfl rfl ?_
          refine z_iconst dX12_saySum_115 ki_1 ?_
          refine z_icmpne (tgt := 132) dX12_saySum_116 rfl (fun q => ?_) (fun q => ?_)
          · replace h := h.1 q
            refine z_iconst dX12_saySum_132 ki_0 ?_
            refine y_istore (ls' := [(2, 234), (0, x1), (0, x2), (0, x3), (0, x4), (0, 0), (9, 0), (9, 0), (9, 0)]) dX12_saySum_133 rfl rfl ?_
            refine z_iconst dX12_saySum_135 ki_0 ?_
            refine y_istore (ls' := [(2, 234), (0, x1), (0, x2), (0, x3), (0, x4), (0, 0), (0, 0), (9, 0), (9, 0)]) dX12_saySum_136 rfl rfl ?_
            refine z_iload dX12_saySum_138 rfl ?_
            refine z_ifne (tgt := 163) dX12_saySum_140 rfl (fun q => absurd q (by decide)) (fun _ => ?_)
            refine z_aloadn dX12_saySum_143 rfl (Or.inl rfl) ?_
            refine y_getr (v := 253) hG dX12_saySum_144 fX12_72 sh234 (by decide) rfl (by decide +kernel) (by decide) ?_
            refine z_iconst dX12_saySum_147 ki_0 ?_
            refine z_iloadn dX12_saySum_148 rfl ?_
            refine y_iast hG dX12_saySum_149 sh253 ⟨by decide, by decide⟩ ?_
            refine z_aloadn dX12_saySum_150 rfl (Or.inl rfl) ?_
            refine y_getr (v := 253) hG dX12_saySum_151 fX12_72 sh234 (by decide) rfl (by decide +kernel) (by decide) ?_
            refine z_iconst dX12_saySum_154 ki_1 ?_
            refine z_aloadn dX12_saySum_155 rfl (Or.inl rfl) ?_
            refine y_getf (x := (M 234 40)) dX12_saySum_156 fX12_403 sh234 (by decide) rfl (zset_ne (fun q => absurd q.1 (by decide))) ?_
            refine y_iast hG dX12_saySum_159 sh253 ⟨by decide, by decide⟩ ?_
            refine z_iconst dX12_saySum_160 ki_2 ?_
            refine y_istore (ls' := [(2, 234), (0, x1), (0, x2), (0, x3), (0, x4), (0, 0), (0, 2), (9, 0), (9, 0)]) dX12_saySum_161 rfl rfl ?_
            refine z_iconst dX12_saySum_163 ki_0 ?_
            refine y_istore (ls' := [(2, 234), (0, x1), (0, x2), (0, x3), (0, x4), (0, 0), (0, 2), (0, 0), (9, 0)]) dX12_saySum_164 rfl rfl ?_
            exact h
          · replace h := h.2 q
            refine z_aloadn dX12_saySum_119 rfl (Or.inl rfl) ?_
            refine y_getr (v := 254) hG dX12_saySum_120 fX12_75 sh234 (by decide) rfl (by decide +kernel) (by decide) ?_
            refine z_iconst dX12_saySum_123 ki_0 ?_
            refine y_iald (x := (M 254 0)) dX12_saySum_124 sh254 ⟨by decide, by decide⟩ rfl ?_
            refine z_ifne (tgt := 132) dX12_saySum_125 rfl (fun q => ?_) (fun q => ?_)
            · replace h := h.1 q
              refine z_iconst dX12_saySum_132 ki_0 ?_
              refine y_istore (ls' := [(2, 234), (0, x1), (0, x2), (0, x3), (0, x4), (0, 0), (9, 0), (9, 0), (9, 0)]) dX12_saySum_133 rfl rfl ?_
              refine z_iconst dX12_saySum_135 ki_0 ?_
              refine y_istore (ls' := [(2, 234), (0, x1), (0, x2), (0, x3), (0, x4), (0, 0), (0, 0), (9, 0), (9, 0)]) dX12_saySum_136 rfl rfl ?_
              refine z_iload dX12_saySum_138 rfl ?_
              refine z_ifne (tgt := 163) dX12_saySum_140 rfl (fun q => absurd q (by decide)) (fun _ => ?_)
              refine z_aloadn dX12_saySum_143 rfl (Or.inl rfl) ?_
              refine y_getr (v := 253) hG dX12_saySum_144 fX12_72 sh234 (by decide) rfl (by decide +kernel) (by decide) ?_
              refine z_iconst dX12_saySum_147 ki_0 ?_
              refine z_iloadn dX12_saySum_148 rfl ?_
              refine y_iast hG dX12_saySum_149 sh253 ⟨by decide, by decide⟩ ?_
              refine z_aloadn dX12_saySum_150 rfl (Or.inl rfl) ?_
              refine y_getr (v := 253) hG dX12_saySum_151 fX12_72 sh234 (by decide) rfl (by decide +kernel) (by decide) ?_
              refine z_iconst dX12_saySum_154 ki_1 ?_
              refine z_aloadn dX12_saySum_155 rfl (Or.inl rfl) ?_
              refine y_getf (x := (M 234 40)) dX12_saySum_156 fX12_403 sh234 (by decide) rfl (zset_ne (fun q => absurd q.1 (by decide))) ?_
              refine y_iast hG dX12_saySum_159 sh253 ⟨by decide, by decide⟩ ?_
              refine z_iconst dX12_saySum_160 ki_2 ?_
              refine y_istore (ls' := [(2, 234), (0, x1), (0, x2), (0, x3), (0, x4), (0, 0), (0, 2), (9, 0), (9, 0)]) dX12_saySum_161 rfl rfl ?_
              refine z_iconst dX12_saySum_163 ki_0 ?_
              refine y_istore (ls' := [(2, 234), (0, x1), (0, x2), (0, x3), (0, x4), (0, 0), (0, 2), (0, 0), (9, 0)]) dX12_saySum_164 rfl rfl ?_
              exact h
            · replace h := h.2 q
              refine z_iconst dX12_saySum_128 ki_1 ?_
              refine z_goto (tgt := 133) dX12_saySum_129 rfl ?_
              refine y_istore (ls' := [(2, 234), (0, x1), (0, x2), (0, x3), (0, x4), (0, 1), (9, 0), (9, 0), (9, 0)]) dX12_saySum_133 rfl rfl ?_
              refine z_iconst dX12_saySum_135 ki_0 ?_
              refine y_istore (ls' := [(2, 234), (0, x1), (0, x2), (0, x3), (0, x4), (0, 1), (0, 0), (9, 0), (9, 0)]) dX12_saySum_136 rfl rfl ?_
              refine z_iload dX12_saySum_138 rfl ?_
              refine z_ifne (tgt := 163) dX12_saySum_140 rfl (fun _ => ?_) (fun q => absurd q (by decide))
              refine z_iconst dX12_saySum_163 ki_0 ?_
              refine y_istore (ls' := [(2, 234), (0, x1), (0, x2), (0, x3), (0, x4), (0, 1), (0, 0), (0, 0), (9, 0)]) dX12_saySum_164 rfl rfl ?_
              exact h
      · replace h := h.2 q
        refine z_iconst dX12_saySum_96 ki_0 ?_
        refine z_goto (tgt := 101) dX12_saySum_97 rfl ?_
        refine y_cs (mt2 := mX12_has) (en := [(0, x4), (0, 0)]) (st := []) (as := [(0, x4), (0, 0)]) dX12_saySum_101 lX12_373 kX12_has tX12_has rfl (Nat.le_of_ble_eq_true rfl) (Nat.le_of_ble_eq_true rfl) rfl (s_has hG (fun q => ?_) (fun q => ?_))
        · replace h := h.1 q
          show Y G (d + 1) mX12_saySum 104 [(2, 234), (0, x1), (0, x2), (0, x3), (0, x4), (9, 0), (9, 0), (9, 0), (9, 0)] [(0, 1)] M Q
          refine z_ifeq (tgt := 111) dX12_saySum_104 rfl (fun q => absurd q (by decide)) (fun _ => ?_)
          refine z_aloadn dX12_saySum_107 rfl (Or.inl rfl) ?_
          refine y_cv (mt2 := mX12_setInOrder) (en := [(2, 234), (9, 0), (9, 0)]) (st := []) (as := []) dX12_saySum_108 lX12_449 kX12_setInOrder iX12_setInOrder eX12_setInOrder rfl sh234 (by decide +kernel) (Nat.le_of_ble_eq_true rfl) (Nat.le_of_ble_eq_true rfl) rfl ?_
          exact h
        · replace h := h.2 q
          show Y G (d + 1) mX12_saySum 104 [(2, 234), (0, x1), (0, x2), (0, x3), (0, x4), (9, 0), (9, 0), (9, 0), (9, 0)] [(0, 0)] M Q
          refine z_ifeq (tgt := 111) dX12_saySum_104 rfl (fun _ => ?_) (fun q => absurd q (by decide))
          refine z_aloadn dX12_saySum_111 rfl (Or.inl rfl) ?_
          refine y_getf (x := (M 234 40)) dX12_saySum_112 fX12_403 sh234 (by decide) rfl rfl ?_
          refine z_iconst dX12_saySum_115 ki_1 ?_
          refine z_icmpne (tgt := 132) dX12_saySum_116 rfl (fun q => ?_) (fun q => ?_)
          · replace h := h.1 q
            refine z_iconst dX12_saySum_132 ki_0 ?_
            refine y_istore (ls' := [(2, 234), (0, x1), (0, x2), (0, x3), (0, x4), (0, 0), (9, 0), (9, 0), (9, 0)]) dX12_saySum_133 rfl rfl ?_
            refine z_iconst dX12_saySum_135 ki_0 ?_
            refine y_istore (ls' := [(2, 234), (0, x1), (0, x2), (0, x3), (0, x4), (0, 0), (0, 0), (9, 0), (9, 0)]) dX12_saySum_136 rfl rfl ?_
            refine z_iload dX12_saySum_138 rfl ?_
            refine z_ifne (tgt := 163) dX12_saySum_140 rfl (fun q => absurd q (by decide)) (fun _ => ?_)
            refine z_aloadn dX12_saySum_143 rfl (Or.inl rfl) ?_
            refine y_getr (v := 253) hG dX12_saySum_144 fX12_72 sh234 (by decide) rfl (by decide +kernel) (by decide) ?_
            refine z_iconst dX12_saySum_147 ki_0 ?_
            refine z_iloadn dX12_saySum_148 rfl ?_
            refine y_iast hG dX12_saySum_149 sh253 ⟨by decide, by decide⟩ ?_
            refine z_aloadn dX12_saySum_150 rfl (Or.inl rfl) ?_
            refine y_getr (v := 253) hG dX12_saySum_151 fX12_72 sh234 (by decide) rfl (by decide +kernel) (by decide) ?_
            refine z_iconst dX12_saySum_154 ki_1 ?_
            refine z_aloadn dX12_saySum_155 rfl (Or.inl rfl) ?_
            refine y_getf (x := (M 234 40)) dX12_saySum_156 fX12_403 sh234 (by decide) rfl (zset_ne (fun q => absurd q.1 (by decide))) ?_
            refine y_iast hG dX12_saySum_159 sh253 ⟨by decide, by decide⟩ ?_
            refine z_iconst dX12_saySum_160 ki_2 ?_
            refine y_istore (ls' := [(2, 234), (0, x1), (0, x2), (0, x3), (0, x4), (0, 0), (0, 2), (9, 0), (9, 0)]) dX12_saySum_161 rfl rfl ?_
            refine z_iconst dX12_saySum_163 ki_0 ?_
            refine y_istore (ls' := [(2, 234), (0, x1), (0, x2), (0, x3), (0, x4), (0, 0), (0, 2), (0, 0), (9, 0)]) dX12_saySum_164 rfl rfl ?_
            exact h
          · replace h := h.2 q
            refine z_aloadn dX12_saySum_119 rfl (Or.inl rfl) ?_
            refine y_getr (v := 254) hG dX12_saySum_120 fX12_75 sh234 (by decide) rfl (by decide +kernel) (by decide) ?_
            refine z_iconst dX12_saySum_123 ki_0 ?_
            refine y_iald (x := (M 254 0)) dX12_saySum_124 sh254 ⟨by decide, by decide⟩ rfl ?_
            refine z_ifne (tgt := 132) dX12_saySum_125 rfl (fun q => ?_) (fun q => ?_)
            · replace h := h.1 q
              refine z_iconst dX12_saySum_132 ki_0 ?_
              refine y_istore (ls' := [(2, 234), (0, x1), (0, x2), (0, x3), (0, x4), (0, 0), (9, 0), (9, 0), (9, 0)]) dX12_saySum_133 rfl rfl ?_
              refine z_iconst dX12_saySum_135 ki_0 ?_
              refine y_istore (ls' := [(2, 234), (0, x1), (0, x2), (0, x3), (0, x4), (0, 0), (0, 0), (9, 0), (9, 0)]) dX12_saySum_136 rfl rfl ?_
              refine z_iload dX12_saySum_138 rfl ?_
              refine z_ifne (tgt := 163) dX12_saySum_140 rfl (fun q => absurd q (by decide)) (fun _ => ?_)
              refine z_aloadn dX12_saySum_143 rfl (Or.inl rfl) ?_
              refine y_getr (v := 253) hG dX12_saySum_144 fX12_72 sh234 (by decide) rfl (by decide +kernel) (by decide) ?_
              refine z_iconst dX12_saySum_147 ki_0 ?_
              refine z_iloadn dX12_saySum_148 rfl ?_
              refine y_iast hG dX12_saySum_149 sh253 ⟨by decide, by decide⟩ ?_
              refine z_aloadn dX12_saySum_150 rfl (Or.inl rfl) ?_
              refine y_getr (v := 253) hG dX12_saySum_151 fX12_72 sh234 (by decide) rfl (by decide +kernel) (by decide) ?_
              refine z_iconst dX12_saySum_154 ki_1 ?_
              refine z_aloadn dX12_saySum_155 rfl (Or.inl rfl) ?_
              refine y_getf (x := (M 234 40)) dX12_saySum_156 fX12_403 sh234 (by decide) rfl (zset_ne (fun q => absurd q.1 (by decide))) ?_
              refine y_iast hG dX12_saySum_159 sh253 ⟨by decide, by decide⟩ ?_
              refine z_iconst dX12_saySum_160 ki_2 ?_
              refine y_istore (ls' := [(2, 234), (0, x1), (0, x2), (0, x3), (0, x4), (0, 0), (0, 2), (9, 0), (9, 0)]) dX12_saySum_161 rfl rfl ?_
              refine z_iconst dX12_saySum_163 ki_0 ?_
              refine y_istore (ls' := [(2, 234), (0, x1), (0, x2), (0, x3), (0, x4), (0, 0), (0, 2), (0, 0), (9, 0)]) dX12_saySum_164 rfl rfl ?_
              exact h
            · replace h := h.2 q
              refine z_iconst dX12_saySum_128 ki_1 ?_
              refine z_goto (tgt := 133) dX12_saySum_129 rfl ?_
              refine y_istore (ls' := [(2, 234), (0, x1), (0, x2), (0, x3), (0, x4), (0, 1), (9, 0), (9, 0), (9, 0)]) dX12_saySum_133 rfl rfl ?_
              refine z_iconst dX12_saySum_135 ki_0 ?_
              refine y_istore (ls' := [(2, 234), (0, x1), (0, x2), (0, x3), (0, x4), (0, 1), (0, 0), (9, 0), (9, 0)]) dX12_saySum_136 rfl rfl ?_
              refine z_iload dX12_saySum_138 rfl ?_
              refine z_ifne (tgt := 163) dX12_saySum_140 rfl (fun _ => ?_) (fun q => absurd q (by decide))
              refine z_iconst dX12_saySum_163 ki_0 ?_
              refine y_istore (ls' := [(2, 234), (0, x1), (0, x2), (0, x3), (0, x4), (0, 1), (0, 0), (0, 0), (9, 0)]) dX12_saySum_164 rfl rfl ?_
              exact h
set_option maxRecDepth 20000 in
set_option maxHeartbeats 4000000 in
theorem bX12_saySum_85 {G : zG} {d : Nat} {M : zM} {Q : zV → zM → Prop} (hG : zP G) {x1 x2 x3 x4 x49 x50 : Int}
    (h : Y G d mX12_putNumber 0 [(2, 234), (0, x50), (0, x49)] [] M (fun r M' => Y G (d + 1) mX12_saySum 88 [(2, 234), (0, x1), (0, x2), (0, x3), (0, x4), (9, 0), (9, 0), (9, 0), (9, 0)] (zpush r []) M' Q)) :
    Y G (d + 1) mX12_saySum 85 [(2, 234), (0, x1), (0, x2), (0, x3), (0, x4), (9, 0), (9, 0), (9, 0), (9, 0)] [(0, x49), (0, x50), (2, 234)] M Q := by
  refine y_cv (mt2 := mX12_putNumber) (en := [(2, 234), (0, x50), (0, x49)]) (st := []) (as := [(0, x50), (0, x49)]) dX12_saySum_85 lX12_446 kX12_putNumber iX12_putNumber eX12_putNumber rfl sh234 (by decide +kernel) (Nat.le_of_ble_eq_true rfl) (Nat.le_of_ble_eq_true rfl) rfl ?_
  exact h
set_option maxRecDepth 20000 in
set_option maxHeartbeats 4000000 in
theorem bX12_saySum_75 {G : zG} {d : Nat} {M : zM} {Q : zV → zM → Prop} (hG : zP G) {x1 x2 x3 x4 x49 : Int}
    (h : ((x49 = 0 → ((¬ x1 = 2 → ((zbit x4 1 → Y G d mX12_setInOrder 0 [(2, 234), (9, 0), (9, 0)] [] M (fun r M' => Y G (d + 1) mX12_saySum 111 [(2, 234), (0, x1), (0, x2), (0, x3), (0, x4), (9, 0), (9, 0), (9, 0), (9, 0)] (zpush r []) M' Q)) ∧ (¬ (zbit x4 1) → ((¬ (M 234 40) = 1 → Y G (d + 1) mX12_saySum 166 [(2, 234), (0, x1), (0, x2), (0, x3), (0, x4), (0, 0), (0, 2), (0, 0), (9, 0)] [] (zset (zset M 253 0 x1) 253 1 (M 234 40)) Q) ∧ ((M 234 40) = 1 → ((¬ (M 254 0) = 0 → Y G (d + 1) mX12_saySum 166 [(2, 234), (0, x1), (0, x2), (0, x3), (0, x4), (0, 0), (0, 2), (0, 0), (9, 0)] [] (zset (zset M 253 0 x1) 253 1 (M 234 40)) Q) ∧ ((M 254 0) = 0 → Y G (d + 1) mX12_saySum 166 [(2, 234), (0, x1), (0, x2), (0, x3), (0, x4), (0, 1), (0, 0), (0, 0), (9, 0)] [] M Q))))))) ∧ (x1 = 2 → ((zbit x4 0 → Y G d mX12_setInOrder 0 [(2, 234), (9, 0), (9, 0)] [] M (fun r M' => Y G (d + 1) mX12_saySum 111 [(2, 234), (0, x1), (0, x2), (0, x3), (0, x4), (9, 0), (9, 0), (9, 0), (9, 0)] (zpush r []) M' Q)) ∧ (¬ (zbit x4 0) → ((¬ (M 234 40) = 1 → Y G (d + 1) mX12_saySum 166 [(2, 234), (0, x1), (0, x2), (0, x3), (0, x4), (0, 0), (0, 2), (0, 0), (9, 0)] [] (zset (zset M 253 0 x1) 253 1 (M 234 40)) Q) ∧ ((M 234 40) = 1 → ((¬ (M 254 0) = 0 → Y G (d + 1) mX12_saySum 166 [(2, 234), (0, x1), (0, x2), (0, x3), (0, x4), (0, 0), (0, 2), (0, 0), (9, 0)] [] (zset (zset M 253 0 x1) 253 1 (M 234 40)) Q) ∧ ((M 254 0) = 0 → Y G (d + 1) mX12_saySum 166 [(2, 234), (0, x1), (0, x2), (0, x3), (0, x4), (0, 1), (0, 0), (0, 0), (9, 0)] [] M Q))))))))) ∧ (¬ x49 = 0 → Y G d mX12_worked 0 [(2, 234), (0, x1), (9, 0), (9, 0), (9, 0), (9, 0), (9, 0)] [] M (fun r M' => Y G (d + 1) mX12_saySum 85 [(2, 234), (0, x1), (0, x2), (0, x3), (0, x4), (9, 0), (9, 0), (9, 0), (9, 0)] (zpush r [(0, x2), (2, 234)]) M' Q)))) :
    Y G (d + 1) mX12_saySum 75 [(2, 234), (0, x1), (0, x2), (0, x3), (0, x4), (9, 0), (9, 0), (9, 0), (9, 0)] [(0, x49)] M Q := by
  refine z_ifeq (tgt := 89) dX12_saySum_75 rfl (fun q => ?_) (fun q => ?_)
  · replace h := h.1 q
    refine z_iload dX12_saySum_89 rfl ?_
    refine z_iloadn dX12_saySum_91 rfl ?_
    refine z_iconst dX12_saySum_92 ki_2 ?_
    refine z_icmpne (tgt := 100) dX12_saySum_93 rfl (fun q => ?_) (fun q => ?_)
    · replace h := h.1 q
      refine z_iconst dX12_saySum_100 ki_1 ?_
      refine y_cs (mt2 := mX12_has) (en := [(0, x4), (0, 1)]) (st := []) (as := [(0, x4), (0, 1)]) dX12_saySum_101 lX12_373 kX12_has tX12_has rfl (Nat.le_of_ble_eq_true rfl) (Nat.le_of_ble_eq_true rfl) rfl (s_has hG (fun q => ?_) (fun q => ?_))
      · replace h := h.1 q
        show Y G (d + 1) mX12_saySum 104 [(2, 234), (0, x1), (0, x2), (0, x3), (0, x4), (9, 0), (9, 0), (9, 0), (9, 0)] [(0, 1)] M Q
        refine z_ifeq (tgt := 111) dX12_saySum_104 rfl (fun q => absurd q (by decide)) (fun _ => ?_)
        refine z_aloadn dX12_saySum_107 rfl (Or.inl rfl) ?_
        refine y_cv (mt2 := mX12_setInOrder) (en := [(2, 234), (9, 0), (9, 0)]) (st := []) (as := []) dX12_saySum_108 lX12_449 kX12_setInOrder iX12_setInOrder eX12_setInOrder rfl sh234 (by decide +kernel) (Nat.le_of_ble_eq_true rfl) (Nat.le_of_ble_eq_true rfl) rfl ?_
        exact h
      · replace h := h.2 q
        show Y G (d + 1) mX12_saySum 104 [(2, 234), (0, x1), (0, x2), (0, x3), (0, x4), (9, 0), (9, 0), (9, 0), (9, 0)] [(0, 0)] M Q
        refine z_ifeq (tgt := 111) dX12_saySum_104 rfl (fun _ => ?_) (fun q => absurd q (by decide))
        refine z_aloadn dX12_saySum_111 rfl (Or.inl rfl) ?_
        refine y_getf (x := (M 234 40)) dX12_saySum_112 fX12_403 sh234 (by decide) rfl rfl ?_
        refine z_iconst dX12_saySum_115 ki_1 ?_
        refine z_icmpne (tgt := 132) dX12_saySum_116 rfl (fun q => ?_) (fun q => ?_)
        · replace h := h.1 q
          refine z_iconst dX12_saySum_132 ki_0 ?_
          refine y_istore (ls' := [(2, 234), (0, x1), (0, x2), (0, x3), (0, x4), (0, 0), (9, 0), (9, 0), (9, 0)]) dX12_saySum_133 rfl rfl ?_
          refine z_iconst dX12_saySum_135 ki_0 ?_
          refine y_istore (ls' := [(2, 234), (0, x1), (0, x2), (0, x3), (0, x4), (0, 0), (0, 0), (9, 0), (9, 0)]) dX12_saySum_136 rfl rfl ?_
          refine z_iload dX12_saySum_138 rfl ?_
          refine z_ifne (tgt := 163) dX12_saySum_140 rfl (fun q => absurd q (by decide)) (fun _ => ?_)
          refine z_aloadn dX12_saySum_143 rfl (Or.inl rfl) ?_
          refine y_getr (v := 253) hG dX12_saySum_144 fX12_72 sh234 (by decide) rfl (by decide +kernel) (by decide) ?_
          refine z_iconst dX12_saySum_147 ki_0 ?_
          refine z_iloadn dX12_saySum_148 rfl ?_
          refine y_iast hG dX12_saySum_149 sh253 ⟨by decide, by decide⟩ ?_
          refine z_aloadn dX12_saySum_150 rfl (Or.inl rfl) ?_
          refine y_getr (v := 253) hG dX12_saySum_151 fX12_72 sh234 (by decide) rfl (by decide +kernel) (by decide) ?_
          refine z_iconst dX12_saySum_154 ki_1 ?_
          refine z_aloadn dX12_saySum_155 rfl (Or.inl rfl) ?_
          refine y_getf (x := (M 234 40)) dX12_saySum_156 fX12_403 sh234 (by decide) rfl (zset_ne (fun q => absurd q.1 (by decide))) ?_
          refine y_iast hG dX12_saySum_159 sh253 ⟨by decide, by decide⟩ ?_
          refine z_iconst dX12_saySum_160 ki_2 ?_
          refine y_istore (ls' := [(2, 234), (0, x1), (0, x2), (0, x3), (0, x4), (0, 0), (0, 2), (9, 0), (9, 0)]) dX12_saySum_161 rfl rfl ?_
          refine z_iconst dX12_saySum_163 ki_0 ?_
          refine y_istore (ls' := [(2, 234), (0, x1), (0, x2), (0, x3), (0, x4), (0, 0), (0, 2), (0, 0), (9, 0)]) dX12_saySum_164 rfl rfl ?_
          exact h
        · replace h := h.2 q
          refine z_aloadn dX12_saySum_119 rfl (Or.inl rfl) ?_
          refine y_getr (v := 254) hG dX12_saySum_120 fX12_75 sh234 (by decide) rfl (by decide +kernel) (by decide) ?_
          refine z_iconst dX12_saySum_123 ki_0 ?_
          refine y_iald (x := (M 254 0)) dX12_saySum_124 sh254 ⟨by decide, by decide⟩ rfl ?_
          refine z_ifne (tgt := 132) dX12_saySum_125 rfl (fun q => ?_) (fun q => ?_)
          · replace h := h.1 q
            refine z_iconst dX12_saySum_132 ki_0 ?_
            refine y_istore (ls' := [(2, 234), (0, x1), (0, x2), (0, x3), (0, x4), (0, 0), (9, 0), (9, 0), (9, 0)]) dX12_saySum_133 rfl rfl ?_
            refine z_iconst dX12_saySum_135 ki_0 ?_
            refine y_istore (ls' := [(2, 234), (0, x1), (0, x2), (0, x3), (0, x4), (0, 0), (0, 0), (9, 0), (9, 0)]) dX12_saySum_136 rfl rfl ?_
            refine z_iload dX12_saySum_138 rfl ?_
            refine z_ifne (tgt := 163) dX12_saySum_140 rfl (fun q => absurd q (by decide)) (fun _ => ?_)
            refine z_aloadn dX12_saySum_143 rfl (Or.inl rfl) ?_
            refine y_getr (v := 253) hG dX12_saySum_144 fX12_72 sh234 (by decide) rfl (by decide +kernel) (by decide) ?_
            refine z_iconst dX12_saySum_147 ki_0 ?_
            refine z_iloadn dX12_saySum_148 rfl ?_
            refine y_iast hG dX12_saySum_149 sh253 ⟨by decide, by decide⟩ ?_
            refine z_aloadn dX12_saySum_150 rfl (Or.inl rfl) ?_
            refine y_getr (v := 253) hG dX12_saySum_151 fX12_72 sh234 (by decide) rfl (by decide +kernel) (by decide) ?_
            refine z_iconst dX12_saySum_154 ki_1 ?_
            refine z_aloadn dX12_saySum_155 rfl (Or.inl rfl) ?_
            refine y_getf (x := (M 234 40)) dX12_saySum_156 fX12_403 sh234 (by decide) rfl (zset_ne (fun q => absurd q.1 (by decide))) ?_
            refine y_iast hG dX12_saySum_159 sh253 ⟨by decide, by decide⟩ ?_
            refine z_iconst dX12_saySum_160 ki_2 ?_
            refine y_istore (ls' := [(2, 234), (0, x1), (0, x2), (0, x3), (0, x4), (0, 0), (0, 2), (9, 0), (9, 0)]) dX12_saySum_161 rfl rfl ?_
            refine z_iconst dX12_saySum_163 ki_0 ?_
            refine y_istore (ls' := [(2, 234), (0, x1), (0, x2), (0, x3), (0, x4), (0, 0), (0, 2), (0, 0), (9, 0)]) dX12_saySum_164 rfl rfl ?_
            exact h
          · replace h := h.2 q
            refine z_iconst dX12_saySum_128 ki_1 ?_
            refine z_goto (tgt := 133) dX12_saySum_129 rfl ?_
            refine y_istore (ls' := [(2, 234), (0, x1), (0, x2), (0, x3), (0, x4), (0, 1), (9, 0), (9, 0), (9, 0)]) dX12_saySum_133 rfl rfl ?_
            refine z_iconst dX12_saySum_135 ki_0 ?_
            refine y_istore (ls' := [(2, 234), (0, x1), (0, x2), (0, x3), (0, x4), (0, 1), (0, 0), (9, 0), (9, 0)]) dX12_saySum_136 rfl rfl ?_
            refine z_iload dX12_saySum_138 rfl ?_
            refine z_ifne (tgt := 163) dX12_saySum_140 rfl (fun _ => ?_) (fun q => absurd q (by decide))
            refine z_iconst dX12_saySum_163 ki_0 ?_
            refine y_istore (ls' := [(2, 234), (0, x1), (0, x2), (0, x3), (0, x4), (0, 1), (0, 0), (0, 0), (9, 0)]) dX12_saySum_164 rfl rfl ?_
            exact h
    · replace h := h.2 q
      refine z_iconst dX12_saySum_96 ki_0 ?_
      refine z_goto (tgt := 101) dX12_saySum_97 rfl ?_
      refine y_cs (mt2 := mX12_has) (en := [(0, x4), (0, 0)]) (st := []) (as := [(0, x4), (0, 0)]) dX12_saySum_101 lX12_373 kX12_has tX12_has rfl (Nat.le_of_ble_eq_true rfl) (Nat.le_of_ble_eq_true rfl) rfl (s_has hG (fun q => ?_) (fun q => ?_))
      · replace h := h.1 q
        show Y G (d + 1) mX12_saySum 104 [(2, 234), (0, x1), (0, x2), (0, x3), (0, x4), (9, 0), (9, 0), (9, 0), (9, 0)] [(0, 1)] M Q
        refine z_ifeq (tgt := 111) dX12_saySum_104 rfl (fun q => absurd q (by decide)) (fun _ => ?_)
        refine z_aloadn dX12_saySum_107 rfl (Or.inl rfl) ?_
        refine y_cv (mt2 := mX12_setInOrder) (en := [(2, 234), (9, 0), (9, 0)]) (st := []) (as := []) dX12_saySum_108 lX12_449 kX12_setInOrder iX12_setInOrder eX12_setInOrder rfl sh234 (by decide +kernel) (Nat.le_of_ble_eq_true rfl) (Nat.le_of_ble_eq_true rfl) rfl ?_
        exact h
      · replace h := h.2 q
        show Y G (d + 1) mX12_saySum 104 [(2, 234), (0, x1), (0, x2), (0, x3), (0, x4), (9, 0), (9, 0), (9, 0), (9, 0)] [(0, 0)] M Q
        refine z_ifeq (tgt := 111) dX12_saySum_104 rfl (fun _ => ?_) (fun q => absurd q (by decide))
        refine z_aloadn dX12_saySum_111 rfl (Or.inl rfl) ?_
        refine y_getf (x := (M 234 40)) dX12_saySum_112 fX12_403 sh234 (by decide) rfl rfl ?_
        refine z_iconst dX12_saySum_115 ki_1 ?_
        refine z_icmpne (tgt := 132) dX12_saySum_116 rfl (fun q => ?_) (fun q => ?_)
        · replace h := h.1 q
          refine z_iconst dX12_saySum_132 ki_0 ?_
          refine y_istore (ls' := [(2, 234), (0, x1), (0, x2), (0, x3), (0, x4), (0, 0), (9, 0), (9, 0), (9, 0)]) dX12_saySum_133 rfl rfl ?_
          refine z_iconst dX12_saySum_135 ki_0 ?_
          refine y_istore (ls' := [(2, 234), (0, x1), (0, x2), (0, x3), (0, x4), (0, 0), (0, 0), (9, 0), (9, 0)]) dX12_saySum_136 rfl rfl ?_
          refine z_iload dX12_saySum_138 rfl ?_
          refine z_ifne (tgt := 163) dX12_saySum_140 rfl (fun q => absurd q (by decide)) (fun _ => ?_)
          refine z_aloadn dX12_saySum_143 rfl (Or.inl rfl) ?_
          refine y_getr (v := 253) hG dX12_saySum_144 fX12_72 sh234 (by decide) rfl (by decide +kernel) (by decide) ?_
          refine z_iconst dX12_saySum_147 ki_0 ?_
          refine z_iloadn dX12_saySum_148 rfl ?_
          refine y_iast hG dX12_saySum_149 sh253 ⟨by decide, by decide⟩ ?_
          refine z_aloadn dX12_saySum_150 rfl (Or.inl rfl) ?_
          refine y_getr (v := 253) hG dX12_saySum_151 fX12_72 sh234 (by decide) rfl (by decide +kernel) (by decide) ?_
          refine z_iconst dX12_saySum_154 ki_1 ?_
          refine z_aloadn dX12_saySum_155 rfl (Or.inl rfl) ?_
          refine y_getf (x := (M 234 40)) dX12_saySum_156 fX12_403 sh234 (by decide) rfl (zset_ne (fun q => absurd q.1 (by decide))) ?_
          refine y_iast hG dX12_saySum_159 sh253 ⟨by decide, by decide⟩ ?_
          refine z_iconst dX12_saySum_160 ki_2 ?_
          refine y_istore (ls' := [(2, 234), (0, x1), (0, x2), (0, x3), (0, x4), (0, 0), (0, 2), (9, 0), (9, 0)]) dX12_saySum_161 rfl rfl ?_
          refine z_iconst dX12_saySum_163 ki_0 ?_
          refine y_istore (ls' := [(2, 234), (0, x1), (0, x2), (0, x3), (0, x4), (0, 0), (0, 2), (0, 0), (9, 0)]) dX12_saySum_164 rfl rfl ?_
          exact h
        · replace h := h.2 q
          refine z_aloadn dX12_saySum_119 rfl (Or.inl rfl) ?_
          refine y_getr (v := 254) hG dX12_saySum_120 fX12_75 sh234 (by decide) rfl (by decide +kernel) (by decide) ?_
          refine z_iconst dX12_saySum_123 ki_0 ?_
          refine y_iald (x := (M 254 0)) dX12_saySum_124 sh254 ⟨by decide, by decide⟩ rfl ?_
          refine z_ifne (tgt := 132) dX12_saySum_125 rfl (fun q => ?_) (fun q => ?_)
          · replace h := h.1 q
            refine z_iconst dX12_saySum_132 ki_0 ?_
            refine y_istore (ls' := [(2, 234), (0, x1), (0, x2), (0, x3), (0, x4), (0, 0), (9, 0), (9, 0), (9, 0)]) dX12_saySum_133 rfl rfl ?_
            refine z_iconst dX12_saySum_135 ki_0 ?_
            refine y_istore (ls' := [(2, 234), (0, x1), (0, x2), (0, x3), (0, x4), (0, 0), (0, 0), (9, 0), (9, 0)]) dX12_saySum_136 rfl rfl ?_
            refine z_iload dX12_saySum_138 rfl ?_
            refine z_ifne (tgt := 163) dX12_saySum_140 rfl (fun q => absurd q (by decide)) (fun _ => ?_)
            refine z_aloadn dX12_saySum_143 rfl (Or.inl rfl) ?_
            refine y_getr (v := 253) hG dX12_saySum_144 fX12_72 sh234 (by decide) rfl (by decide +kernel) (by decide) ?_
            refine z_iconst dX12_saySum_147 ki_0 ?_
            refine z_iloadn dX12_saySum_148 rfl ?_
            refine y_iast hG dX12_saySum_149 sh253 ⟨by decide, by decide⟩ ?_
            refine z_aloadn dX12_saySum_150 rfl (Or.inl rfl) ?_
            refine y_getr (v := 253) hG dX12_saySum_151 fX12_72 sh234 (by decide) rfl (by decide +kernel) (by decide) ?_
            refine z_iconst dX12_saySum_154 ki_1 ?_
            refine z_aloadn dX12_saySum_155 rfl (Or.inl rfl) ?_
            refine y_getf (x := (M 234 40)) dX12_saySum_156 fX12_403 sh234 (by decide) rfl (zset_ne (fun q => absurd q.1 (by decide))) ?_
            refine y_iast hG dX12_saySum_159 sh253 ⟨by decide, by decide⟩ ?_
            refine z_iconst dX12_saySum_160 ki_2 ?_
            refine y_istore (ls' := [(2, 234), (0, x1), (0, x2), (0, x3), (0, x4), (0, 0), (0, 2), (9, 0), (9, 0)]) dX12_saySum_161 rfl rfl ?_
            refine z_iconst dX12_saySum_163 ki_0 ?_
            refine y_istore (ls' := [(2, 234), (0, x1), (0, x2), (0, x3), (0, x4), (0, 0), (0, 2), (0, 0), (9, 0)]) dX12_saySum_164 rfl rfl ?_
            exact h
          · replace h := h.2 q
            refine z_iconst dX12_saySum_128 ki_1 ?_
            refine z_goto (tgt := 133) dX12_saySum_129 rfl ?_
            refine y_istore (ls' := [(2, 234), (0, x1), (0, x2), (0, x3), (0, x4), (0, 1), (9, 0), (9, 0), (9, 0)]) dX12_saySum_133 rfl rfl ?_
            refine z_iconst dX12_saySum_135 ki_0 ?_
            refine y_istore (ls' := [(2, 234), (0, x1), (0, x2), (0, x3), (0, x4), (0, 1), (0, 0), (9, 0), (9, 0)]) dX12_saySum_136 rfl rfl ?_
            refine z_iload dX12_saySum_138 rfl ?_
            refine z_ifne (tgt := 163) dX12_saySum_140 rfl (fun _ => ?_) (fun q => absurd q (by decide))
            refine z_iconst dX12_saySum_163 ki_0 ?_
            refine y_istore (ls' := [(2, 234), (0, x1), (0, x2), (0, x3), (0, x4), (0, 1), (0, 0), (0, 0), (9, 0)]) dX12_saySum_164 rfl rfl ?_
            exact h
  · replace h := h.2 q
    refine z_aloadn dX12_saySum_78 rfl (Or.inl rfl) ?_
    refine z_iloadn dX12_saySum_79 rfl ?_
    refine z_aloadn dX12_saySum_80 rfl (Or.inl rfl) ?_
    refine z_iloadn dX12_saySum_81 rfl ?_
    refine y_cv (mt2 := mX12_worked) (en := [(2, 234), (0, x1), (9, 0), (9, 0), (9, 0), (9, 0), (9, 0)]) (st := [(0, x2), (2, 234)]) (as := [(0, x1)]) dX12_saySum_82 lX12_443 kX12_worked iX12_worked eX12_worked rfl sh234 (by decide +kernel) (Nat.le_of_ble_eq_true rfl) (Nat.le_of_ble_eq_true rfl) rfl ?_
    exact h
set_option maxRecDepth 20000 in
set_option maxHeartbeats 4000000 in
theorem bX12_saySum_111 {G : zG} {d : Nat} {M : zM} {Q : zV → zM → Prop} (hG : zP G) {x1 x2 x3 x4 : Int}
    (h : ((¬ (M 234 40) = 1 → Y G (d + 1) mX12_saySum 166 [(2, 234), (0, x1), (0, x2), (0, x3), (0, x4), (0, 0), (0, 2), (0, 0), (9, 0)] [] (zset (zset M 253 0 x1) 253 1 (M 234 40)) Q) ∧ ((M 234 40) = 1 → ((¬ (M 254 0) = 0 → Y G (d + 1) mX12_saySum 166 [(2, 234), (0, x1), (0, x2), (0, x3), (0, x4), (0, 0), (0, 2), (0, 0), (9, 0)] [] (zset (zset M 253 0 x1) 253 1 (M 234 40)) Q) ∧ ((M 254 0) = 0 → Y G (d + 1) mX12_saySum 166 [(2, 234), (0, x1), (0, x2), (0, x3), (0, x4), (0, 1), (0, 0), (0, 0), (9, 0)] [] M Q))))) :
    Y G (d + 1) mX12_saySum 111 [(2, 234), (0, x1), (0, x2), (0, x3), (0, x4), (9, 0), (9, 0), (9, 0), (9, 0)] [] M Q := by
  refine z_aloadn dX12_saySum_111 rfl (Or.inl rfl) ?_
  refine y_getf (x := (M 234 40)) dX12_saySum_112 fX12_403 sh234 (by decide) rfl rfl ?_
  refine z_iconst dX12_saySum_115 ki_1 ?_
  refine z_icmpne (tgt := 132) dX12_saySum_116 rfl (fun q => ?_) (fun q => ?_)
  · replace h := h.1 q
    refine z_iconst dX12_saySum_132 ki_0 ?_
    refine y_istore (ls' := [(2, 234), (0, x1), (0, x2), (0, x3), (0, x4), (0, 0), (9, 0), (9, 0), (9, 0)]) dX12_saySum_133 rfl rfl ?_
    refine z_iconst dX12_saySum_135 ki_0 ?_
    refine y_istore (ls' := [(2, 234), (0, x1), (0, x2), (0, x3), (0, x4), (0, 0), (0, 0), (9, 0), (9, 0)]) dX12_saySum_136 rfl rfl ?_
    refine z_iload dX12_saySum_138 rfl ?_
    refine z_ifne (tgt := 163) dX12_saySum_140 rfl (fun q => absurd q (by decide)) (fun _ => ?_)
    refine z_aloadn dX12_saySum_143 rfl (Or.inl rfl) ?_
    refine y_getr (v := 253) hG dX12_saySum_144 fX12_72 sh234 (by decide) rfl (by decide +kernel) (by decide) ?_
    refine z_iconst dX12_saySum_147 ki_0 ?_
    refine z_iloadn dX12_saySum_148 rfl ?_
    refine y_iast hG dX12_saySum_149 sh253 ⟨by decide, by decide⟩ ?_
    refine z_aloadn dX12_saySum_150 rfl (Or.inl rfl) ?_
    refine y_getr (v := 253) hG dX12_saySum_151 fX12_72 sh234 (by decide) rfl (by decide +kernel) (by decide) ?_
    refine z_iconst dX12_saySum_154 ki_1 ?_
    refine z_aloadn dX12_saySum_155 rfl (Or.inl rfl) ?_
    refine y_getf (x := (M 234 40)) dX12_saySum_156 fX12_403 sh234 (by decide) rfl (zset_ne (fun q => absurd q.1 (by decide))) ?_
    refine y_iast hG dX12_saySum_159 sh253 ⟨by decide, by decide⟩ ?_
    refine z_iconst dX12_saySum_160 ki_2 ?_
    refine y_istore (ls' := [(2, 234), (0, x1), (0, x2), (0, x3), (0, x4), (0, 0), (0, 2), (9, 0), (9, 0)]) dX12_saySum_161 rfl rfl ?_
    refine z_iconst dX12_saySum_163 ki_0 ?_
    refine y_istore (ls' := [(2, 234), (0, x1), (0, x2), (0, x3), (0, x4), (0, 0), (0, 2), (0, 0), (9, 0)]) dX12_saySum_164 rfl rfl ?_
    exact h
  · replace h := h.2 q
    refine z_aloadn dX12_saySum_119 rfl (Or.inl rfl) ?_
    refine y_getr (v := 254) hG dX12_saySum_120 fX12_75 sh234 (by decide) rfl (by decide +kernel) (by decide) ?_
    refine z_iconst dX12_saySum_123 ki_0 ?_
    refine y_iald (x := (M 254 0)) dX12_saySum_124 sh254 ⟨by decide, by decide⟩ rfl ?_
    refine z_ifne (tgt := 132) dX12_saySum_125 rfl (fun q => ?_) (fun q => ?_)
    · replace h := h.1 q
      refine z_iconst dX12_saySum_132 ki_0 ?_
      refine y_istore (ls' := [(2, 234), (0, x1), (0, x2), (0, x3), (0, x4), (0, 0), (9, 0), (9, 0), (9, 0)]) dX12_saySum_133 rfl rfl ?_
      refine z_iconst dX12_saySum_135 ki_0 ?_
      refine y_istore (ls' := [(2, 234), (0, x1), (0, x2), (0, x3), (0, x4), (0, 0), (0, 0), (9, 0), (9, 0)]) dX12_saySum_136 rfl rfl ?_
      refine z_iload dX12_saySum_138 rfl ?_
      refine z_ifne (tgt := 163) dX12_saySum_140 rfl (fun q => absurd q (by decide)) (fun _ => ?_)
      refine z_aloadn dX12_saySum_143 rfl (Or.inl rfl) ?_
      refine y_getr (v := 253) hG dX12_saySum_144 fX12_72 sh234 (by decide) rfl (by decide +kernel) (by decide) ?_
      refine z_iconst dX12_saySum_147 ki_0 ?_
      refine z_iloadn dX12_saySum_148 rfl ?_
      refine y_iast hG dX12_saySum_149 sh253 ⟨by decide, by decide⟩ ?_
      refine z_aloadn dX12_saySum_150 rfl (Or.inl rfl) ?_
      refine y_getr (v := 253) hG dX12_saySum_151 fX12_72 sh234 (by decide) rfl (by decide +kernel) (by decide) ?_
      refine z_iconst dX12_saySum_154 ki_1 ?_
      refine z_aloadn dX12_saySum_155 rfl (Or.inl rfl) ?_
      refine y_getf (x := (M 234 40)) dX12_saySum_156 fX12_403 sh234 (by decide) rfl (zset_ne (fun q => absurd q.1 (by decide))) ?_
      refine y_iast hG dX12_saySum_159 sh253 ⟨by decide, by decide⟩ ?_
      refine z_iconst dX12_saySum_160 ki_2 ?_
      refine y_istore (ls' := [(2, 234), (0, x1), (0, x2), (0, x3), (0, x4), (0, 0), (0, 2), (9, 0), (9, 0)]) dX12_saySum_161 rfl rfl ?_
      refine z_iconst dX12_saySum_163 ki_0 ?_
      refine y_istore (ls' := [(2, 234), (0, x1), (0, x2), (0, x3), (0, x4), (0, 0), (0, 2), (0, 0), (9, 0)]) dX12_saySum_164 rfl rfl ?_
      exact h
    · replace h := h.2 q
      refine z_iconst dX12_saySum_128 ki_1 ?_
      refine z_goto (tgt := 133) dX12_saySum_129 rfl ?_
      refine y_istore (ls' := [(2, 234), (0, x1), (0, x2), (0, x3), (0, x4), (0, 1), (9, 0), (9, 0), (9, 0)]) dX12_saySum_133 rfl rfl ?_
      refine z_iconst dX12_saySum_135 ki_0 ?_
      refine y_istore (ls' := [(2, 234), (0, x1), (0, x2), (0, x3), (0, x4), (0, 1), (0, 0), (9, 0), (9, 0)]) dX12_saySum_136 rfl rfl ?_
      refine z_iload dX12_saySum_138 rfl ?_
      refine z_ifne (tgt := 163) dX12_saySum_140 rfl (fun _ => ?_) (fun q => absurd q (by decide))
      refine z_iconst dX12_saySum_163 ki_0 ?_
      refine y_istore (ls' := [(2, 234), (0, x1), (0, x2), (0, x3), (0, x4), (0, 1), (0, 0), (0, 0), (9, 0)]) dX12_saySum_164 rfl rfl ?_
      exact h
set_option maxRecDepth 20000 in
set_option maxHeartbeats 4000000 in
theorem bX12_saySum_88 {G : zG} {d : Nat} {M : zM} {Q : zV → zM → Prop} (hG : zP G) {x1 x2 x3 x4 : Int}
    (h : Q (9, 0) M) :
    Y G (d + 1) mX12_saySum 88 [(2, 234), (0, x1), (0, x2), (0, x3), (0, x4), (9, 0), (9, 0), (9, 0), (9, 0)] [] M Q := by
  exact z_return dX12_saySum_88 rfl rfl h
set_option maxRecDepth 20000 in
set_option maxHeartbeats 4000000 in
theorem bX12_lay_0 {G : zG} {d : Nat} {M : zM} {Q : zV → zM → Prop} (hG : zP G) {x1 x2 : Int}
    (h : Y G d mX12_lay 5 [(2, 234), (0, x1), (0, x2), (0, x1), (0, 0)] [] M Q) :
    Y G d mX12_lay 0 [(2, 234), (0, x1), (0, x2), (9, 0), (9, 0)] [] M Q := by
  refine z_iloadn dX12_lay_0 rfl ?_
  refine y_istoren (ls' := [(2, 234), (0, x1), (0, x2), (0, x1), (9, 0)]) dX12_lay_1 rfl rfl ?_
  refine z_iconst dX12_lay_2 ki_0 ?_
  refine y_istore (ls' := [(2, 234), (0, x1), (0, x2), (0, x1), (0, 0)]) dX12_lay_3 rfl rfl ?_
  exact h
set_option maxRecDepth 20000 in
set_option maxHeartbeats 4000000 in
theorem bX12_lay_5 {G : zG} {d : Nat} {M : zM} {Q : zV → zM → Prop} (hG : zP G) {x1 x2 x3 x4 : Int}
    (h : (0 ≤ x2 ∧ x2 < 40) ∧ (((M 256 x2) ≤ x4 → Q (0, x3) M) ∧ (x4 < (M 256 x2) → (0 ≤ x2 ∧ x2 < 40) ∧ (-2147483648 ≤ (M 255 x2) + x4 ∧ (M 255 x2) + x4 ≤ 2147483647) ∧ (0 ≤ ((M 255 x2) + x4) ∧ ((M 255 x2) + x4) < 600) ∧ (0 ≤ x3 ∧ x3 < 600) ∧ (-2147483648 ≤ x3 + 1 ∧ x3 + 1 ≤ 2147483647) ∧ (-2147483648 ≤ x4 + 1 ∧ x4 + 1 ≤ 2147483647) ∧ Y G d mX12_lay 5 [(2, 234), (0, x1), (0, x2), (0, (x3 + 1)), (0, (x4 + 1))] [] (zset M 253 x3 (M 251 ((M 255 x2) + x4))) Q))) :
    Y G d mX12_lay 5 [(2, 234), (0, x1), (0, x2), (0, x3), (0, x4)] [] M Q := by
  refine z_iload dX12_lay_5 rfl ?_
  refine z_aloadn dX12_lay_7 rfl (Or.inl rfl) ?_
  refine y_getr (v := 256) hG dX12_lay_8 fX12_81 sh234 (by decide) rfl (by decide +kernel) (by decide) ?_
  refine z_iloadn dX12_lay_11 rfl ?_
  obtain ⟨q1, h⟩ := h
  refine y_iald (x := (M 256 x2)) dX12_lay_12 sh256 q1 rfl ?_
  refine z_icmpge (tgt := 45) dX12_lay_13 rfl (fun q => ?_) (fun q => ?_)
  · replace h := h.1 q
    refine z_iloadn dX12_lay_45 rfl ?_
    exact z_ireturn dX12_lay_46 (Or.inl rfl) rfl h
  · replace h := h.2 q
    refine z_aloadn dX12_lay_16 rfl (Or.inl rfl) ?_
    refine y_getr (v := 253) hG dX12_lay_17 fX12_72 sh234 (by decide) rfl (by decide +kernel) (by decide) ?_
    refine z_iloadn dX12_lay_20 rfl ?_
    refine z_aloadn dX12_lay_21 rfl (Or.inl rfl) ?_
    refine y_getr (v := 251) hG dX12_lay_22 fX12_66 sh234 (by decide) rfl (by decide +kernel) (by decide) ?_
    refine z_aloadn dX12_lay_25 rfl (Or.inl rfl) ?_
    refine y_getr (v := 255) hG dX12_lay_26 fX12_78 sh234 (by decide) rfl (by decide +kernel) (by decide) ?_
    refine z_iloadn dX12_lay_29 rfl ?_
    obtain ⟨q2, h⟩ := h
    refine y_iald (x := (M 255 x2)) dX12_lay_30 sh255 q2 rfl ?_
    refine z_iload dX12_lay_31 rfl ?_
    obtain ⟨q3, h⟩ := h
    refine z_iadd dX12_lay_33 q3 ?_
    obtain ⟨q4, h⟩ := h
    refine y_iald (x := (M 251 ((M 255 x2) + x4))) dX12_lay_34 sh251 q4 rfl ?_
    obtain ⟨q5, h⟩ := h
    refine y_iast hG dX12_lay_35 sh253 q5 ?_
    obtain ⟨q6, h⟩ := h
    refine y_iinc (ls' := [(2, 234), (0, x1), (0, x2), (0, (x3 + 1)), (0, x4)]) dX12_lay_36 rfl rfl q6 rfl ?_
    obtain ⟨q7, h⟩ := h
    refine y_iinc (ls' := [(2, 234), (0, x1), (0, x2), (0, (x3 + 1)), (0, (x4 + 1))]) dX12_lay_39 rfl rfl q7 rfl ?_
    refine z_goto (tgt := 5) dX12_lay_42 rfl ?_
    exact h
set_option maxRecDepth 20000 in
set_option maxHeartbeats 4000000 in
theorem bX12_areAlike_0 {G : zG} {d : Nat} {M : zM} {Q : zV → zM → Prop} (hG : zP G) {x1 x2 : Int}
    (h : (0 ≤ x1 ∧ x1 < 40) ∧ (0 ≤ x1 ∧ x1 < 40) ∧ (0 ≤ x2 ∧ x2 < 40) ∧ (0 ≤ x2 ∧ x2 < 40) ∧ Y G d mX12_compared 0 [(2, 234), (0, (M 255 x1)), (0, (M 256 x1)), (0, (M 255 x2)), (0, (M 256 x2)), (9, 0)] [] M (fun r M' => Y G (d + 1) mX12_areAlike 28 [(2, 234), (0, x1), (0, x2)] (zpush r []) M' Q)) :
    Y G (d + 1) mX12_areAlike 0 [(2, 234), (0, x1), (0, x2)] [] M Q := by
  refine z_aloadn dX12_areAlike_0 rfl (Or.inl rfl) ?_
  refine z_aloadn dX12_areAlike_1 rfl (Or.inl rfl) ?_
  refine y_getr (v := 255) hG dX12_areAlike_2 fX12_78 sh234 (by decide) rfl (by decide +kernel) (by decide) ?_
  refine z_iloadn dX12_areAlike_5 rfl ?_
  obtain ⟨q1, h⟩ := h
  refine y_iald (x := (M 255 x1)) dX12_areAlike_6 sh255 q1 rfl ?_
  refine z_aloadn dX12_areAlike_7 rfl (Or.inl rfl) ?_
  refine y_getr (v := 256) hG dX12_areAlike_8 fX12_81 sh234 (by decide) rfl (by decide +kernel) (by decide) ?_
  refine z_iloadn dX12_areAlike_11 rfl ?_
  obtain ⟨q2, h⟩ := h
  refine y_iald (x := (M 256 x1)) dX12_areAlike_12 sh256 q2 rfl ?_
  refine z_aloadn dX12_areAlike_13 rfl (Or.inl rfl) ?_
  refine y_getr (v := 255) hG dX12_areAlike_14 fX12_78 sh234 (by decide) rfl (by decide +kernel) (by decide) ?_
  refine z_iloadn dX12_areAlike_17 rfl ?_
  obtain ⟨q3, h⟩ := h
  refine y_iald (x := (M 255 x2)) dX12_areAlike_18 sh255 q3 rfl ?_
  refine z_aloadn dX12_areAlike_19 rfl (Or.inl rfl) ?_
  refine y_getr (v := 256) hG dX12_areAlike_20 fX12_81 sh234 (by decide) rfl (by decide +kernel) (by decide) ?_
  refine z_iloadn dX12_areAlike_23 rfl ?_
  obtain ⟨q4, h⟩ := h
  refine y_iald (x := (M 256 x2)) dX12_areAlike_24 sh256 q4 rfl ?_
  refine y_cv (mt2 := mX12_compared) (en := [(2, 234), (0, (M 255 x1)), (0, (M 256 x1)), (0, (M 255 x2)), (0, (M 256 x2)), (9, 0)]) (st := []) (as := [(0, (M 255 x1)), (0, (M 256 x1)), (0, (M 255 x2)), (0, (M 256 x2))]) dX12_areAlike_25 lX12_419 kX12_compared iX12_compared eX12_compared rfl sh234 (by decide +kernel) (Nat.le_of_ble_eq_true rfl) (Nat.le_of_ble_eq_true rfl) rfl ?_
  exact h
set_option maxRecDepth 20000 in
set_option maxHeartbeats 4000000 in
theorem bX12_areAlike_28 {G : zG} {d : Nat} {M : zM} {Q : zV → zM → Prop} (hG : zP G) {x1 x2 x49 : Int}
    (h : ((¬ x49 = 0 → Q (0, 0) M) ∧ (x49 = 0 → Q (0, 1) M))) :
    Y G (d + 1) mX12_areAlike 28 [(2, 234), (0, x1), (0, x2)] [(0, x49)] M Q := by
  refine z_ifne (tgt := 35) dX12_areAlike_28 rfl (fun q => ?_) (fun q => ?_)
  · replace h := h.1 q
    refine z_iconst dX12_areAlike_35 ki_0 ?_
    exact z_ireturn dX12_areAlike_36 (Or.inr ⟨rfl, ⟨by decide, by decide⟩⟩) rfl h
  · replace h := h.2 q
    refine z_iconst dX12_areAlike_31 ki_1 ?_
    refine z_goto (tgt := 36) dX12_areAlike_32 rfl ?_
    exact z_ireturn dX12_areAlike_36 (Or.inr ⟨rfl, ⟨by decide, by decide⟩⟩) rfl h
set_option maxRecDepth 20000 in
set_option maxHeartbeats 4000000 in
theorem bX12_sayWord_0 {G : zG} {d : Nat} {M : zM} {Q : zV → zM → Prop} (hG : zP G) {x1 x2 x3 : Int}
    (h : Y G d mX12_findTerms 0 [(2, 234), (0, (-1)), (0, x2), (0, 0), (0, 0), (9, 0), (9, 0), (9, 0), (9, 0), (9, 0), (9, 0), (9, 0), (9, 0)] [] M (fun r M' => Y G (d + 1) mX12_sayWord 8 [(2, 234), (0, x1), (0, x2), (0, x3), (9, 0), (9, 0), (9, 0), (9, 0)] (zpush r []) M' Q)) :
    Y G (d + 1) mX12_sayWord 0 [(2, 234), (0, x1), (0, x2), (0, x3), (9, 0), (9, 0), (9, 0), (9, 0)] [] M Q := by
  refine z_aloadn dX12_sayWord_0 rfl (Or.inl rfl) ?_
  refine z_iconst dX12_sayWord_1 ki_m1 ?_
  refine z_iloadn dX12_sayWord_2 rfl ?_
  refine z_iconst dX12_sayWord_3 ki_0 ?_
  refine z_iconst dX12_sayWord_4 ki_0 ?_
  refine y_cv (mt2 := mX12_findTerms) (en := [(2, 234), (0, (-1)), (0, x2), (0, 0), (0, 0), (9, 0), (9, 0), (9, 0), (9, 0), (9, 0), (9, 0), (9, 0), (9, 0)]) (st := []) (as := [(0, (-1)), (0, x2), (0, 0), (0, 0)]) dX12_sayWord_5 lX12_432 kX12_findTerms iX12_findTerms eX12_findTerms rfl sh234 (by decide +kernel) (Nat.le_of_ble_eq_true rfl) (Nat.le_of_ble_eq_true rfl) rfl ?_
  exact h
set_option maxRecDepth 20000 in
set_option maxHeartbeats 4000000 in
theorem bX12_sayWord_8 {G : zG} {d : Nat} {M : zM} {Q : zV → zM → Prop} (hG : zP G) {x1 x2 x3 : Int}
    (h : ((x1 = 8 → ((zbit x3 7 → Y G d mX12_areNumbers 0 [(2, 234), (9, 0)] [] M (fun r M' => Y G (d + 1) mX12_sayWord 45 [(2, 234), (0, x1), (0, x2), (0, x3), (0, 1), (9, 0), (9, 0), (9, 0)] (zpush r []) M' Q)) ∧ (¬ (zbit x3 7) → ((zbit x3 5 → Y G d mX12_areAlike 0 [(2, 234), (0, 0), (0, 1)] [] M (fun r M' => Y G (d + 1) mX12_sayWord 107 [(2, 234), (0, x1), (0, x2), (0, x3), (0, 1), (9, 0), (9, 0), (9, 0)] (zpush r []) M' Q)) ∧ (¬ (zbit x3 5) → ((¬ x2 = 2 → Y G d mX12_lay 0 [(2, 234), (0, 1), (0, 0), (9, 0), (9, 0)] [] (zset M 253 0 x1) (fun r M' => Y G (d + 1) mX12_sayWord 188 [(2, 234), (0, x1), (0, x2), (0, x3), (0, 1), (0, 0), (0, 0), (9, 0)] (zpush r []) M' Q)) ∧ (x2 = 2 → ((zbit x3 5 → Y G d mX12_isAhead 0 [(2, 234), (0, 1), (0, 0)] [] M (fun r M' => Y G (d + 1) mX12_sayWord 157 [(2, 234), (0, x1), (0, x2), (0, x3), (0, 1), (0, 0), (0, 1), (9, 0)] (zpush r []) M' Q)) ∧ (¬ (zbit x3 5) → Y G d mX12_lay 0 [(2, 234), (0, 1), (0, 0), (9, 0), (9, 0)] [] (zset M 253 0 x1) (fun r M' => Y G (d + 1) mX12_sayWord 188 [(2, 234), (0, x1), (0, x2), (0, x3), (0, 1), (0, 0), (0, 0), (9, 0)] (zpush r []) M' Q)))))))))) ∧ (¬ x1 = 8 → ((¬ x1 = 9 → ((¬ x2 = 2 → Y G d mX12_lay 0 [(2, 234), (0, 1), (0, 0), (9, 0), (9, 0)] [] (zset M 253 0 x1) (fun r M' => Y G (d + 1) mX12_sayWord 188 [(2, 234), (0, x1), (0, x2), (0, x3), (0, 0), (0, 0), (0, 0), (9, 0)] (zpush r []) M' Q)) ∧ (x2 = 2 → ((zbit x3 4 → Y G d mX12_isAhead 0 [(2, 234), (0, 1), (0, 0)] [] M (fun r M' => Y G (d + 1) mX12_sayWord 157 [(2, 234), (0, x1), (0, x2), (0, x3), (0, 0), (0, 0), (0, 1), (9, 0)] (zpush r []) M' Q)) ∧ (¬ (zbit x3 4) → Y G d mX12_lay 0 [(2, 234), (0, 1), (0, 0), (9, 0), (9, 0)] [] (zset M 253 0 x1) (fun r M' => Y G (d + 1) mX12_sayWord 188 [(2, 234), (0, x1), (0, x2), (0, x3), (0, 0), (0, 0), (0, 0), (9, 0)] (zpush r []) M' Q)))))) ∧ (x1 = 9 → ((zbit x3 7 → Y G d mX12_areNumbers 0 [(2, 234), (9, 0)] [] M (fun r M' => Y G (d + 1) mX12_sayWord 45 [(2, 234), (0, x1), (0, x2), (0, x3), (0, 1), (9, 0), (9, 0), (9, 0)] (zpush r []) M' Q)) ∧ (¬ (zbit x3 7) → ((zbit x3 5 → Y G d mX12_areAlike 0 [(2, 234), (0, 0), (0, 1)] [] M (fun r M' => Y G (d + 1) mX12_sayWord 107 [(2, 234), (0, x1), (0, x2), (0, x3), (0, 1), (9, 0), (9, 0), (9, 0)] (zpush r []) M' Q)) ∧ (¬ (zbit x3 5) → ((¬ x2 = 2 → Y G d mX12_lay 0 [(2, 234), (0, 1), (0, 0), (9, 0), (9, 0)] [] (zset M 253 0 x1) (fun r M' => Y G (d + 1) mX12_sayWord 188 [(2, 234), (0, x1), (0, x2), (0, x3), (0, 1), (0, 0), (0, 0), (9, 0)] (zpush r []) M' Q)) ∧ (x2 = 2 → ((zbit x3 5 → Y G d mX12_isAhead 0 [(2, 234), (0, 1), (0, 0)] [] M (fun r M' => Y G (d + 1) mX12_sayWord 157 [(2, 234), (0, x1), (0, x2), (0, x3), (0, 1), (0, 0), (0, 1), (9, 0)] (zpush r []) M' Q)) ∧ (¬ (zbit x3 5) → Y G d mX12_lay 0 [(2, 234), (0, 1), (0, 0), (9, 0), (9, 0)] [] (zset M 253 0 x1) (fun r M' => Y G (d + 1) mX12_sayWord 188 [(2, 234), (0, x1), (0, x2), (0, x3), (0, 1), (0, 0), (0, 0), (9, 0)] (zpush r []) M' Q)))))))))))))) :
    Y G (d + 1) mX12_sayWord 8 [(2, 234), (0, x1), (0, x2), (0, x3), (9, 0), (9, 0), (9, 0), (9, 0)] [] M Q := by
  refine z_iloadn dX12_sayWord_8 rfl ?_
  refine z_bipush dX12_sayWord_9 kb_8 ?_
  refine z_icmpeq (tgt := 20) dX12_sayWord_11 rfl (fun q => ?_) (fun q => ?_)
  · replace h := h.1 q
    refine z_iconst dX12_sayWord_20 ki_1 ?_
    refine z_goto (tgt := 25) dX12_sayWord_21 rfl ?_
    refine y_istore (ls' := [(2, 234), (0, x1), (0, x2), (0, x3), (0, 1), (9, 0), (9, 0), (9, 0)]) dX12_sayWord_25 rfl rfl ?_
    refine z_iload dX12_sayWord_27 rfl ?_
    refine z_ifeq (tgt := 88) dX12_sayWord_29 rfl (fun q => absurd q (by decide)) (fun _ => ?_)
    refine z_iloadn dX12_sayWord_32 rfl ?_
    refine z_bipush dX12_sayWord_33 kb_7 ?_
    refine y_cs (mt2 := mX12_has) (en := [(0, x3), (0, 7)]) (st := []) (as := [(0, x3), (0, 7)]) dX12_sayWord_35 lX12_373 kX12_has tX12_has rfl (Nat.le_of_ble_eq_true rfl) (Nat.le_of_ble_eq_true rfl) rfl (s_has hG (fun q => ?_) (fun q => ?_))
    · replace h := h.1 q
      show Y G (d + 1) mX12_sayWord 38 [(2, 234), (0, x1), (0, x2), (0, x3), (0, 1), (9, 0), (9, 0), (9, 0)] [(0, 1)] M Q
      refine z_ifeq (tgt := 88) dX12_sayWord_38 rfl (fun q => absurd q (by decide)) (fun _ => ?_)
      refine z_aloadn dX12_sayWord_41 rfl (Or.inl rfl) ?_
      refine y_cv (mt2 := mX12_areNumbers) (en := [(2, 234), (9, 0)]) (st := []) (as := []) dX12_sayWord_42 lX12_439 kX12_areNumbers iX12_areNumbers eX12_areNumbers rfl sh234 (by decide +kernel) (Nat.le_of_ble_eq_true rfl) (Nat.le_of_ble_eq_true rfl) rfl ?_
      exact h
    · replace h := h.2 q
      show Y G (d + 1) mX12_sayWord 38 [(2, 234), (0, x1), (0, x2), (0, x3), (0, 1), (9, 0), (9, 0), (9, 0)] [(0, 0)] M Q
      refine z_ifeq (tgt := 88) dX12_sayWord_38 rfl (fun _ => ?_) (fun q => absurd q (by decide))
      refine z_iload dX12_sayWord_88 rfl ?_
      refine z_ifeq (tgt := 114) dX12_sayWord_90 rfl (fun q => absurd q (by decide)) (fun _ => ?_)
      refine z_iloadn dX12_sayWord_93 rfl ?_
      refine z_iconst dX12_sayWord_94 ki_5 ?_
      refine y_cs (mt2 := mX12_has) (en := [(0, x3), (0, 5)]) (st := []) (as := [(0, x3), (0, 5)]) dX12_sayWord_95 lX12_373 kX12_has tX12_has rfl (Nat.le_of_ble_eq_true rfl) (Nat.le_of_ble_eq_true rfl) rfl (s_has hG (fun q => ?_) (fun q => ?_))
      · replace h := h.1 q
        show Y G (d + 1) mX12_sayWord 98 [(2, 234), (0, x1), (0, x2), (0, x3), (0, 1), (9, 0), (9, 0), (9, 0)] [(0, 1)] M Q
        refine z_ifeq (tgt := 114) dX12_sayWord_98 rfl (fun q => absurd q (by decide)) (fun _ => ?_)
        refine z_aloadn dX12_sayWord_101 rfl (Or.inl rfl) ?_
        refine z_iconst dX12_sayWord_102 ki_0 ?_
        refine z_iconst dX12_sayWord_103 ki_1 ?_
        refine y_cv (mt2 := mX12_areAlike) (en := [(2, 234), (0, 0), (0, 1)]) (st := []) (as := [(0, 0), (0, 1)]) dX12_sayWord_104 lX12_452 kX12_areAlike iX12_areAlike eX12_areAlike rfl sh234 (by decide +kernel) (Nat.le_of_ble_eq_true rfl) (Nat.le_of_ble_eq_true rfl) rfl ?_
        exact h
      · replace h := h.2 q
        show Y G (d + 1) mX12_sayWord 98 [(2, 234), (0, x1), (0, x2), (0, x3), (0, 1), (9, 0), (9, 0), (9, 0)] [(0, 0)] M Q
        refine z_ifeq (tgt := 114) dX12_sayWord_98 rfl (fun _ => ?_) (fun q => absurd q (by decide))
        refine z_iconst dX12_sayWord_114 ki_0 ?_
        refine y_istore (ls' := [(2, 234), (0, x1), (0, x2), (0, x3), (0, 1), (0, 0), (9, 0), (9, 0)]) dX12_sayWord_115 rfl rfl ?_
        refine z_iloadn dX12_sayWord_117 rfl ?_
        refine z_iconst dX12_sayWord_118 ki_2 ?_
        refine z_icmpne (tgt := 143) dX12_sayWord_119 rfl (fun q => ?_) (fun q => ?_)
        · replace h := h.1 q
          refine z_iconst dX12_sayWord_143 ki_0 ?_
          refine y_istore (ls' := [(2, 234), (0, x1), (0, x2), (0, x3), (0, 1), (0, 0), (0, 0), (9, 0)]) dX12_sayWord_144 rfl rfl ?_
          refine z_iload dX12_sayWord_146 rfl ?_
          refine z_ifeq (tgt := 166) dX12_sayWord_148 rfl (fun _ => ?_) (fun q => absurd q (by decide))
          refine z_aloadn dX12_sayWord_166 rfl (Or.inl rfl) ?_
          refine y_getr (v := 253) hG dX12_sayWord_167 fX12_72 sh234 (by decide) rfl (by decide +kernel) (by decide) ?_
          refine z_iconst dX12_sayWord_170 ki_0 ?_
          refine z_iloadn dX12_sayWord_171 rfl ?_
          refine y_iast hG dX12_sayWord_172 sh253 ⟨by decide, by decide⟩ ?_
          refine z_aloadn dX12_sayWord_173 rfl (Or.inl rfl) ?_
          refine z_iload dX12_sayWord_174 rfl ?_
          refine z_ifeq (tgt := 183) dX12_sayWord_176 rfl (fun _ => ?_) (fun q => absurd q (by decide))
          refine z_iconst dX12_sayWord_183 ki_1 ?_
          refine z_iconst dX12_sayWord_184 ki_0 ?_
          refine y_cv (mt2 := mX12_lay) (en := [(2, 234), (0, 1), (0, 0), (9, 0), (9, 0)]) (st := []) (as := [(0, 1), (0, 0)]) dX12_sayWord_185 lX12_455 kX12_lay iX12_lay eX12_lay rfl sh234 (by decide +kernel) (Nat.le_of_ble_eq_true rfl) (Nat.le_of_ble_eq_true rfl) rfl ?_
          exact h
        · replace h := h.2 q
          refine z_iloadn dX12_sayWord_122 rfl ?_
          refine z_iload dX12_sayWord_123 rfl ?_
          refine z_ifeq (tgt := 132) dX12_sayWord_125 rfl (fun q => absurd q (by decide)) (fun _ => ?_)
          refine z_iconst dX12_sayWord_128 ki_5 ?_
          refine z_goto (tgt := 133) dX12_sayWord_129 rfl ?_
          refine y_cs (mt2 := mX12_has) (en := [(0, x3), (0, 5)]) (st := []) (as := [(0, x3), (0, 5)]) dX12_sayWord_133 lX12_373 kX12_has tX12_has rfl (Nat.le_of_ble_eq_true rfl) (Nat.le_of_ble_eq_true rfl) rfl (s_has hG (fun q => ?_) (fun q => ?_))
          · replace h := h.1 q
            show Y G (d + 1) mX12_sayWord 136 [(2, 234), (0, x1), (0, x2), (0, x3), (0, 1), (0, 0), (9, 0), (9, 0)] [(0, 1)] M Q
            refine z_ifeq (tgt := 143) dX12_sayWord_136 rfl (fun q => absurd q (by decide)) (fun _ => ?_)
            refine z_iconst dX12_sayWord_139 ki_1 ?_
            refine z_goto (tgt := 144) dX12_sayWord_140 rfl ?_
            refine y_istore (ls' := [(2, 234), (0, x1), (0, x2), (0, x3), (0, 1), (0, 0), (0, 1), (9, 0)]) dX12_sayWord_144 rfl rfl ?_
            refine z_iload dX12_sayWord_146 rfl ?_
            refine z_ifeq (tgt := 166) dX12_sayWord_148 rfl (fun q => absurd q (by decide)) (fun _ => ?_)
            refine z_aloadn dX12_sayWord_151 rfl (Or.inl rfl) ?_
            refine z_iconst dX12_sayWord_152 ki_1 ?_
            refine z_iconst dX12_sayWord_153 ki_0 ?_
            refine y_cv (mt2 := mX12_isAhead) (en := [(2, 234), (0, 1), (0, 0)]) (st := []) (as := [(0, 1), (0, 0)]) dX12_sayWord_154 lX12_423 kX12_isAhead iX12_isAhead eX12_isAhead rfl sh234 (by decide +kernel) (Nat.le_of_ble_eq_true rfl) (Nat.le_of_ble_eq_true rfl) rfl ?_
            exact h
          · replace h := h.2 q
            show Y G (d + 1) mX12_sayWord 136 [(2, 234), (0, x1), (0, x2), (0, x3), (0, 1), (0, 0), (9, 0), (9, 0)] [(0, 0)] M Q
            refine z_ifeq (tgt := 143) dX12_sayWord_136 rfl (fun _ => ?_) (fun q => absurd q (by decide))
            refine z_iconst dX12_sayWord_143 ki_0 ?_
            refine y_istore (ls' := [(2, 234), (0, x1), (0, x2), (0, x3), (0, 1), (0, 0), (0, 0), (9, 0)]) dX12_sayWord_144 rfl rfl ?_
            refine z_iload dX12_sayWord_146 rfl ?_
            refine z_ifeq (tgt := 166) dX12_sayWord_148 rfl (fun _ => ?_) (fun q => absurd q (by decide))
            refine z_aloadn dX12_sayWord_166 rfl (Or.inl rfl) ?_
            refine y_getr (v := 253) hG dX12_sayWord_167 fX12_72 sh234 (by decide) rfl (by decide +kernel) (by decide) ?_
            refine z_iconst dX12_sayWord_170 ki_0 ?_
            refine z_iloadn dX12_sayWord_171 rfl ?_
            refine y_iast hG dX12_sayWord_172 sh253 ⟨by decide, by decide⟩ ?_
            refine z_aloadn dX12_sayWord_173 rfl (Or.inl rfl) ?_
            refine z_iload dX12_sayWord_174 rfl ?_
            refine z_ifeq (tgt := 183) dX12_sayWord_176 rfl (fun _ => ?_) (fun q => absurd q (by decide))
            refine z_iconst dX12_sayWord_183 ki_1 ?_
            refine z_iconst dX12_sayWord_184 ki_0 ?_
            refine y_cv (mt2 := mX12_lay) (en := [(2, 234), (0, 1), (0, 0), (9, 0), (9, 0)]) (st := []) (as := [(0, 1), (0, 0)]) dX12_sayWord_185 lX12_455 kX12_lay iX12_lay eX12_lay rfl sh234 (by decide +kernel) (Nat.le_of_ble_eq_true rfl) (Nat.le_of_ble_eq_true rfl) rfl ?_
            exact h
  · replace h := h.2 q
    refine z_iloadn dX12_sayWord_14 rfl ?_
    refine z_bipush dX12_sayWord_15 kb_9 ?_
    refine z_icmpne (tgt := 24) dX12_sayWord_17 rfl (fun q => ?_) (fun q => ?_)
    · replace h := h.1 q
      refine z_iconst dX12_sayWord_24 ki_0 ?_
      refine y_istore (ls' := [(2, 234), (0, x1), (0, x2), (0, x3), (0, 0), (9, 0), (9, 0), (9, 0)]) dX12_sayWord_25 rfl rfl ?_
      refine z_iload dX12_sayWord_27 rfl ?_
      refine z_ifeq (tgt := 88) dX12_sayWord_29 rfl (fun _ => ?_) (fun q => absurd q (by decide))
      refine z_iload dX12_sayWord_88 rfl ?_
      refine z_ifeq (tgt := 114) dX12_sayWord_90 rfl (fun _ => ?_) (fun q => absurd q (by decide))
      refine z_iconst dX12_sayWord_114 ki_0 ?_
      refine y_istore (ls' := [(2, 234), (0, x1), (0, x2), (0, x3), (0, 0), (0, 0), (9, 0), (9, 0)]) dX12_sayWord_115 rfl rfl ?_
      refine z_iloadn dX12_sayWord_117 rfl ?_
      refine z_iconst dX12_sayWord_118 ki_2 ?_
      refine z_icmpne (tgt := 143) dX12_sayWord_119 rfl (fun q => ?_) (fun q => ?_)
      · replace h := h.1 q
        refine z_iconst dX12_sayWord_143 ki_0 ?_
        refine y_istore (ls' := [(2, 234), (0, x1), (0, x2), (0, x3), (0, 0), (0, 0), (0, 0), (9, 0)]) dX12_sayWord_144 rfl rfl ?_
        refine z_iload dX12_sayWord_146 rfl ?_
        refine z_ifeq (tgt := 166) dX12_sayWord_148 rfl (fun _ => ?_) (fun q => absurd q (by decide))
        refine z_aloadn dX12_sayWord_166 rfl (Or.inl rfl) ?_
        refine y_getr (v := 253) hG dX12_sayWord_167 fX12_72 sh234 (by decide) rfl (by decide +kernel) (by decide) ?_
        refine z_iconst dX12_sayWord_170 ki_0 ?_
        refine z_iloadn dX12_sayWord_171 rfl ?_
        refine y_iast hG dX12_sayWord_172 sh253 ⟨by decide, by decide⟩ ?_
        refine z_aloadn dX12_sayWord_173 rfl (Or.inl rfl) ?_
        refine z_iload dX12_sayWord_174 rfl ?_
        refine z_ifeq (tgt := 183) dX12_sayWord_176 rfl (fun _ => ?_) (fun q => absurd q (by decide))
        refine z_iconst dX12_sayWord_183 ki_1 ?_
        refine z_iconst dX12_sayWord_184 ki_0 ?_
        refine y_cv (mt2 := mX12_lay) (en := [(2, 234), (0, 1), (0, 0), (9, 0), (9, 0)]) (st := []) (as := [(0, 1), (0, 0)]) dX12_sayWord_185 lX12_455 kX12_lay iX12_lay eX12_lay rfl sh234 (by decide +kernel) (Nat.le_of_ble_eq_true rfl) (Nat.le_of_ble_eq_true rfl) rfl ?_
        exact h
      · replace h := h.2 q
        refine z_iloadn dX12_sayWord_122 rfl ?_
        refine z_iload dX12_sayWord_123 rfl ?_
        refine z_ifeq (tgt := 132) dX12_sayWord_125 rfl (fun _ => ?_) (fun q => absurd q (by decide))
        refine z_iconst dX12_sayWord_132 ki_4 ?_
        refine y_cs (mt2 := mX12_has) (en := [(0, x3), (0, 4)]) (st := []) (as := [(0, x3), (0, 4)]) dX12_sayWord_133 lX12_373 kX12_has tX12_has rfl (Nat.le_of_ble_eq_true rfl) (Nat.le_of_ble_eq_true rfl) rfl (s_has hG (fun q => ?_) (fun q => ?_))
        · replace h := h.1 q
          show Y G (d + 1) mX12_sayWord 136 [(2, 234), (0, x1), (0, x2), (0, x3), (0, 0), (0, 0), (9, 0), (9, 0)] [(0, 1)] M Q
          refine z_ifeq (tgt := 143) dX12_sayWord_136 rfl (fun q => absurd q (by decide)) (fun _ => ?_)
          refine z_iconst dX12_sayWord_139 ki_1 ?_
          refine z_goto (tgt := 144) dX12_sayWord_140 rfl ?_
          refine y_istore (ls' := [(2, 234), (0, x1), (0, x2), (0, x3), (0, 0), (0, 0), (0, 1), (9, 0)]) dX12_sayWord_144 rfl rfl ?_
          refine z_iload dX12_sayWord_146 rfl ?_
          refine z_ifeq (tgt := 166) dX12_sayWord_148 rfl (fun q => absurd q (by decide)) (fun _ => ?_)
          refine z_aloadn dX12_sayWord_151 rfl (Or.inl rfl) ?_
          refine z_iconst dX12_sayWord_152 ki_1 ?_
          refine z_iconst dX12_sayWord_153 ki_0 ?_
          refine y_cv (mt2 := mX12_isAhead) (en := [(2, 234), (0, 1), (0, 0)]) (st := []) (as := [(0, 1), (0, 0)]) dX12_sayWord_154 lX12_423 kX12_isAhead iX12_isAhead eX12_isAhead rfl sh234 (by decide +kernel) (Nat.le_of_ble_eq_true rfl) (Nat.le_of_ble_eq_true rfl) rfl ?_
          exact h
        · replace h := h.2 q
          show Y G (d + 1) mX12_sayWord 136 [(2, 234), (0, x1), (0, x2), (0, x3), (0, 0), (0, 0), (9, 0), (9, 0)] [(0, 0)] M Q
          refine z_ifeq (tgt := 143) dX12_sayWord_136 rfl (fun _ => ?_) (fun q => absurd q (by decide))
          refine z_iconst dX12_sayWord_143 ki_0 ?_
          refine y_istore (ls' := [(2, 234), (0, x1), (0, x2), (0, x3), (0, 0), (0, 0), (0, 0), (9, 0)]) dX12_sayWord_144 rfl rfl ?_
          refine z_iload dX12_sayWord_146 rfl ?_
          refine z_ifeq (tgt := 166) dX12_sayWord_148 rfl (fun _ => ?_) (fun q => absurd q (by decide))
          refine z_aloadn dX12_sayWord_166 rfl (Or.inl rfl) ?_
          refine y_getr (v := 253) hG dX12_sayWord_167 fX12_72 sh234 (by decide) rfl (by decide +kernel) (by decide) ?_
          refine z_iconst dX12_sayWord_170 ki_0 ?_
          refine z_iloadn dX12_sayWord_171 rfl ?_
          refine y_iast hG dX12_sayWord_172 sh253 ⟨by decide, by decide⟩ ?_
          refine z_aloadn dX12_sayWord_173 rfl (Or.inl rfl) ?_
          refine z_iload dX12_sayWord_174 rfl ?_
          refine z_ifeq (tgt := 183) dX12_sayWord_176 rfl (fun _ => ?_) (fun q => absurd q (by decide))
          refine z_iconst dX12_sayWord_183 ki_1 ?_
          refine z_iconst dX12_sayWord_184 ki_0 ?_
          refine y_cv (mt2 := mX12_lay) (en := [(2, 234), (0, 1), (0, 0), (9, 0), (9, 0)]) (st := []) (as := [(0, 1), (0, 0)]) dX12_sayWord_185 lX12_455 kX12_lay iX12_lay eX12_lay rfl sh234 (by decide +kernel) (Nat.le_of_ble_eq_true rfl) (Nat.le_of_ble_eq_true rfl) rfl ?_
          exact h
    · replace h := h.2 q
      refine z_iconst dX12_sayWord_20 ki_1 ?_
      refine z_goto (tgt := 25) dX12_sayWord_21 rfl ?_
      refine y_istore (ls' := [(2, 234), (0, x1), (0, x2), (0, x3), (0, 1), (9, 0), (9, 0), (9, 0)]) dX12_sayWord_25 rfl rfl ?_
      refine z_iload dX12_sayWord_27 rfl ?_
      refine z_ifeq (tgt := 88) dX12_sayWord_29 rfl (fun q => absurd q (by decide)) (fun _ => ?_)
      refine z_iloadn dX12_sayWord_32 rfl ?_
      refine z_bipush dX12_sayWord_33 kb_7 ?_
      refine y_cs (mt2 := mX12_has) (en := [(0, x3), (0, 7)]) (st := []) (as := [(0, x3), (0, 7)]) dX12_sayWord_35 lX12_373 kX12_has tX12_has rfl (Nat.le_of_ble_eq_true rfl) (Nat.le_of_ble_eq_true rfl) rfl (s_has hG (fun q => ?_) (fun q => ?_))
      · replace h := h.1 q
        show Y G (d + 1) mX12_sayWord 38 [(2, 234), (0, x1), (0, x2), (0, x3), (0, 1), (9, 0), (9, 0), (9, 0)] [(0, 1)] M Q
        refine z_ifeq (tgt := 88) dX12_sayWord_38 rfl (fun q => absurd q (by decide)) (fun _ => ?_)
        refine z_aloadn dX12_sayWord_41 rfl (Or.inl rfl) ?_
        refine y_cv (mt2 := mX12_areNumbers) (en := [(2, 234), (9, 0)]) (st := []) (as := []) dX12_sayWord_42 lX12_439 kX12_areNumbers iX12_areNumbers eX12_areNumbers rfl sh234 (by decide +kernel) (Nat.le_of_ble_eq_true rfl) (Nat.le_of_ble_eq_true rfl) rfl ?_
        exact h
      · replace h := h.2 q
        show Y G (d + 1) mX12_sayWord 38 [(2, 234), (0, x1), (0, x2), (0, x3), (0, 1), (9, 0), (9, 0), (9, 0)] [(0, 0)] M Q
        refine z_ifeq (tgt := 88) dX12_sayWord_38 rfl (fun _ => ?_) (fun q => absurd q (by decide))
        refine z_iload dX12_sayWord_88 rfl ?_
        refine z_ifeq (tgt := 114) dX12_sayWord_90 rfl (fun q => absurd q (by decide)) (fun _ => ?_)
        refine z_iloadn dX12_sayWord_93 rfl ?_
        refine z_iconst dX12_sayWord_94 ki_5 ?_
        refine y_cs (mt2 := mX12_has) (en := [(0, x3), (0, 5)]) (st := []) (as := [(0, x3), (0, 5)]) dX12_sayWord_95 lX12_373 kX12_has tX12_has rfl (Nat.le_of_ble_eq_true rfl) (Nat.le_of_ble_eq_true rfl) rfl (s_has hG (fun q => ?_) (fun q => ?_))
        · replace h := h.1 q
          show Y G (d + 1) mX12_sayWord 98 [(2, 234), (0, x1), (0, x2), (0, x3), (0, 1), (9, 0), (9, 0), (9, 0)] [(0, 1)] M Q
          refine z_ifeq (tgt := 114) dX12_sayWord_98 rfl (fun q => absurd q (by decide)) (fun _ => ?_)
          refine z_aloadn dX12_sayWord_101 rfl (Or.inl rfl) ?_
          refine z_iconst dX12_sayWord_102 ki_0 ?_
          refine z_iconst dX12_sayWord_103 ki_1 ?_
          refine y_cv (mt2 := mX12_areAlike) (en := [(2, 234), (0, 0), (0, 1)]) (st := []) (as := [(0, 0), (0, 1)]) dX12_sayWord_104 lX12_452 kX12_areAlike iX12_areAlike eX12_areAlike rfl sh234 (by decide +kernel) (Nat.le_of_ble_eq_true rfl) (Nat.le_of_ble_eq_true rfl) rfl ?_
          exact h
        · replace h := h.2 q
          show Y G (d + 1) mX12_sayWord 98 [(2, 234), (0, x1), (0, x2), (0, x3), (0, 1), (9, 0), (9, 0), (9, 0)] [(0, 0)] M Q
          refine z_ifeq (tgt := 114) dX12_sayWord_98 rfl (fun _ => ?_) (fun q => absurd q (by decide))
          refine z_iconst dX12_sayWord_114 ki_0 ?_
          refine y_istore (ls' := [(2, 234), (0, x1), (0, x2), (0, x3), (0, 1), (0, 0), (9, 0), (9, 0)]) dX12_sayWord_115 rfl rfl ?_
          refine z_iloadn dX12_sayWord_117 rfl ?_
          refine z_iconst dX12_sayWord_118 ki_2 ?_
          refine z_icmpne (tgt := 143) dX12_sayWord_119 rfl (fun q => ?_) (fun q => ?_)
          · replace h := h.1 q
            refine z_iconst dX12_sayWord_143 ki_0 ?_
            refine y_istore (ls' := [(2, 234), (0, x1), (0, x2), (0, x3), (0, 1), (0, 0), (0, 0), (9, 0)]) dX12_sayWord_144 rfl rfl ?_
            refine z_iload dX12_sayWord_146 rfl ?_
            refine z_ifeq (tgt := 166) dX12_sayWord_148 rfl (fun _ => ?_) (fun q => absurd q (by decide))
            refine z_aloadn dX12_sayWord_166 rfl (Or.inl rfl) ?_
            refine y_getr (v := 253) hG dX12_sayWord_167 fX12_72 sh234 (by decide) rfl (by decide +kernel) (by decide) ?_
            refine z_iconst dX12_sayWord_170 ki_0 ?_
            refine z_iloadn dX12_sayWord_171 rfl ?_
            refine y_iast hG dX12_sayWord_172 sh253 ⟨by decide, by decide⟩ ?_
            refine z_aloadn dX12_sayWord_173 rfl (Or.inl rfl) ?_
            refine z_iload dX12_sayWord_174 rfl ?_
            refine z_ifeq (tgt := 183) dX12_sayWord_176 rfl (fun _ => ?_) (fun q => absurd q (by decide))
            refine z_iconst dX12_sayWord_183 ki_1 ?_
            refine z_iconst dX12_sayWord_184 ki_0 ?_
            refine y_cv (mt2 := mX12_lay) (en := [(2, 234), (0, 1), (0, 0), (9, 0), (9, 0)]) (st := []) (as := [(0, 1), (0, 0)]) dX12_sayWord_185 lX12_455 kX12_lay iX12_lay eX12_lay rfl sh234 (by decide +kernel) (Nat.le_of_ble_eq_true rfl) (Nat.le_of_ble_eq_true rfl) rfl ?_
            exact h
          · replace h := h.2 q
            refine z_iloadn dX12_sayWord_122 rfl ?_
            refine z_iload dX12_sayWord_123 rfl ?_
            refine z_ifeq (tgt := 132) dX12_sayWord_125 rfl (fun q => absurd q (by decide)) (fun _ => ?_)
            refine z_iconst dX12_sayWord_128 ki_5 ?_
            refine z_goto (tgt := 133) dX12_sayWord_129 rfl ?_
            refine y_cs (mt2 := mX12_has) (en := [(0, x3), (0, 5)]) (st := []) (as := [(0, x3), (0, 5)]) dX12_sayWord_133 lX12_373 kX12_has tX12_has rfl (Nat.le_of_ble_eq_true rfl) (Nat.le_of_ble_eq_true rfl) rfl (s_has hG (fun q => ?_) (fun q => ?_))
            · replace h := h.1 q
              show Y G (d + 1) mX12_sayWord 136 [(2, 234), (0, x1), (0, x2), (0, x3), (0, 1), (0, 0), (9, 0), (9, 0)] [(0, 1)] M Q
              refine z_ifeq (tgt := 143) dX12_sayWord_136 rfl (fun q => absurd q (by decide)) (fun _ => ?_)
              refine z_iconst dX12_sayWord_139 ki_1 ?_
              refine z_goto (tgt := 144) dX12_sayWord_140 rfl ?_
              refine y_istore (ls' := [(2, 234), (0, x1), (0, x2), (0, x3), (0, 1), (0, 0), (0, 1), (9, 0)]) dX12_sayWord_144 rfl rfl ?_
              refine z_iload dX12_sayWord_146 rfl ?_
              refine z_ifeq (tgt := 166) dX12_sayWord_148 rfl (fun q => absurd q (by decide)) (fun _ => ?_)
              refine z_aloadn dX12_sayWord_151 rfl (Or.inl rfl) ?_
              refine z_iconst dX12_sayWord_152 ki_1 ?_
              refine z_iconst dX12_sayWord_153 ki_0 ?_
              refine y_cv (mt2 := mX12_isAhead) (en := [(2, 234), (0, 1), (0, 0)]) (st := []) (as := [(0, 1), (0, 0)]) dX12_sayWord_154 lX12_423 kX12_isAhead iX12_isAhead eX12_isAhead rfl sh234 (by decide +kernel) (Nat.le_of_ble_eq_true rfl) (Nat.le_of_ble_eq_true rfl) rfl ?_
              exact h
            · replace h := h.2 q
              show Y G (d + 1) mX12_sayWord 136 [(2, 234), (0, x1), (0, x2), (0, x3), (0, 1), (0, 0), (9, 0), (9, 0)] [(0, 0)] M Q
              refine z_ifeq (tgt := 143) dX12_sayWord_136 rfl (fun _ => ?_) (fun q => absurd q (by decide))
              refine z_iconst dX12_sayWord_143 ki_0 ?_
              refine y_istore (ls' := [(2, 234), (0, x1), (0, x2), (0, x3), (0, 1), (0, 0), (0, 0), (9, 0)]) dX12_sayWord_144 rfl rfl ?_
              refine z_iload dX12_sayWord_146 rfl ?_
              refine z_ifeq (tgt := 166) dX12_sayWord_148 rfl (fun _ => ?_) (fun q => absurd q (by decide))
              refine z_aloadn dX12_sayWord_166 rfl (Or.inl rfl) ?_
              refine y_getr (v := 253) hG dX12_sayWord_167 fX12_72 sh234 (by decide) rfl (by decide +kernel) (by decide) ?_
              refine z_iconst dX12_sayWord_170 ki_0 ?_
              refine z_iloadn dX12_sayWord_171 rfl ?_
              refine y_iast hG dX12_sayWord_172 sh253 ⟨by decide, by decide⟩ ?_
              refine z_aloadn dX12_sayWord_173 rfl (Or.inl rfl) ?_
              refine z_iload dX12_sayWord_174 rfl ?_
              refine z_ifeq (tgt := 183) dX12_sayWord_176 rfl (fun _ => ?_) (fun q => absurd q (by decide))
              refine z_iconst dX12_sayWord_183 ki_1 ?_
              refine z_iconst dX12_sayWord_184 ki_0 ?_
              refine y_cv (mt2 := mX12_lay) (en := [(2, 234), (0, 1), (0, 0), (9, 0), (9, 0)]) (st := []) (as := [(0, 1), (0, 0)]) dX12_sayWord_185 lX12_455 kX12_lay iX12_lay eX12_lay rfl sh234 (by decide +kernel) (Nat.le_of_ble_eq_true rfl) (Nat.le_of_ble_eq_true rfl) rfl ?_
              exact h
set_option maxRecDepth 20000 in
set_option maxHeartbeats 4000000 in
theorem bX12_sayWord_45 {G : zG} {d : Nat} {M : zM} {Q : zV → zM → Prop} (hG : zP G) {x1 x2 x3 x4 x49 : Int}
    (h : ((x49 = 0 → ((x4 = 0 → ((¬ x2 = 2 → Y G d mX12_lay 0 [(2, 234), (0, 1), (0, 0), (9, 0), (9, 0)] [] (zset M 253 0 x1) (fun r M' => Y G (d + 1) mX12_sayWord 188 [(2, 234), (0, x1), (0, x2), (0, x3), (0, x4), (0, 0), (0, 0), (9, 0)] (zpush r []) M' Q)) ∧ (x2 = 2 → ((x4 = 0 → ((zbit x3 4 → Y G d mX12_isAhead 0 [(2, 234), (0, 1), (0, 0)] [] M (fun r M' => Y G (d + 1) mX12_sayWord 157 [(2, 234), (0, x1), (0, x2), (0, x3), (0, x4), (0, 0), (0, 1), (9, 0)] (zpush r []) M' Q)) ∧ (¬ (zbit x3 4) → Y G d mX12_lay 0 [(2, 234), (0, 1), (0, 0), (9, 0), (9, 0)] [] (zset M 253 0 x1) (fun r M' => Y G (d + 1) mX12_sayWord 188 [(2, 234), (0, x1), (0, x2), (0, x3), (0, x4), (0, 0), (0, 0), (9, 0)] (zpush r []) M' Q)))) ∧ (¬ x4 = 0 → ((zbit x3 5 → Y G d mX12_isAhead 0 [(2, 234), (0, 1), (0, 0)] [] M (fun r M' => Y G (d + 1) mX12_sayWord 157 [(2, 234), (0, x1), (0, x2), (0, x3), (0, x4), (0, 0), (0, 1), (9, 0)] (zpush r []) M' Q)) ∧ (¬ (zbit x3 5) → Y G d mX12_lay 0 [(2, 234), (0, 1), (0, 0), (9, 0), (9, 0)] [] (zset M 253 0 x1) (fun r M' => Y G (d + 1) mX12_sayWord 188 [(2, 234), (0, x1), (0, x2), (0, x3), (0, x4), (0, 0), (0, 0), (9, 0)] (zpush r []) M' Q)))))))) ∧ (¬ x4 = 0 → ((zbit x3 5 → Y G d mX12_areAlike 0 [(2, 234), (0, 0), (0, 1)] [] M (fun r M' => Y G (d + 1) mX12_sayWord 107 [(2, 234), (0, x1), (0, x2), (0, x3), (0, x4), (9, 0), (9, 0), (9, 0)] (zpush r []) M' Q)) ∧ (¬ (zbit x3 5) → ((¬ x2 = 2 → Y G d mX12_lay 0 [(2, 234), (0, 1), (0, 0), (9, 0), (9, 0)] [] (zset M 253 0 x1) (fun r M' => Y G (d + 1) mX12_sayWord 188 [(2, 234), (0, x1), (0, x2), (0, x3), (0, x4), (0, 0), (0, 0), (9, 0)] (zpush r []) M' Q)) ∧ (x2 = 2 → ((x4 = 0 → ((zbit x3 4 → Y G d mX12_isAhead 0 [(2, 234), (0, 1), (0, 0)] [] M (fun r M' => Y G (d + 1) mX12_sayWord 157 [(2, 234), (0, x1), (0, x2), (0, x3), (0, x4), (0, 0), (0, 1), (9, 0)] (zpush r []) M' Q)) ∧ (¬ (zbit x3 4) → Y G d mX12_lay 0 [(2, 234), (0, 1), (0, 0), (9, 0), (9, 0)] [] (zset M 253 0 x1) (fun r M' => Y G (d + 1) mX12_sayWord 188 [(2, 234), (0, x1), (0, x2), (0, x3), (0, x4), (0, 0), (0, 0), (9, 0)] (zpush r []) M' Q)))) ∧ (¬ x4 = 0 → ((zbit x3 5 → Y G d mX12_isAhead 0 [(2, 234), (0, 1), (0, 0)] [] M (fun r M' => Y G (d + 1) mX12_sayWord 157 [(2, 234), (0, x1), (0, x2), (0, x3), (0, x4), (0, 0), (0, 1), (9, 0)] (zpush r []) M' Q)) ∧ (¬ (zbit x3 5) → Y G d mX12_lay 0 [(2, 234), (0, 1), (0, 0), (9, 0), (9, 0)] [] (zset M 253 0 x1) (fun r M' => Y G (d + 1) mX12_sayWord 188 [(2, 234), (0, x1), (0, x2), (0, x3), (0, x4), (0, 0), (0, 0), (9, 0)] (zpush r []) M' Q)))))))))))) ∧ (¬ x49 = 0 → (-2147483648 ≤ (M 255 0) + 1 ∧ (M 255 0) + 1 ≤ 2147483647) ∧ (0 ≤ ((M 255 0) + 1) ∧ ((M 255 0) + 1) < 600) ∧ (-2147483648 ≤ (M 255 1) + 1 ∧ (M 255 1) + 1 ≤ 2147483647) ∧ (0 ≤ ((M 255 1) + 1) ∧ ((M 255 1) + 1) < 600) ∧ Y G d mX12_ofTwo 0 [(2, 234), (0, x1), (1, (M 251 ((M 255 0) + 1))), (9, 0), (1, (M 251 ((M 255 1) + 1))), (9, 0)] [] M (fun r M' => Y G (d + 1) mX12_sayWord 83 [(2, 234), (0, x1), (0, x2), (0, x3), (0, x4), (9, 0), (9, 0), (9, 0)] (zpush r [(0, x2), (2, 234)]) M' Q)))) :
    Y G (d + 1) mX12_sayWord 45 [(2, 234), (0, x1), (0, x2), (0, x3), (0, x4), (9, 0), (9, 0), (9, 0)] [(0, x49)] M Q := by
  refine z_ifeq (tgt := 88) dX12_sayWord_45 rfl (fun q => ?_) (fun q => ?_)
  · replace h := h.1 q
    refine z_iload dX12_sayWord_88 rfl ?_
    refine z_ifeq (tgt := 114) dX12_sayWord_90 rfl (fun q => ?_) (fun q => ?_)
    · replace h := h.1 q
      refine z_iconst dX12_sayWord_114 ki_0 ?_
      refine y_istore (ls' := [(2, 234), (0, x1), (0, x2), (0, x3), (0, x4), (0, 0), (9, 0), (9, 0)]) dX12_sayWord_115 rfl rfl ?_
      refine z_iloadn dX12_sayWord_117 rfl ?_
      refine z_iconst dX12_sayWord_118 ki_2 ?_
      refine z_icmpne (tgt := 143) dX12_sayWord_119 rfl (fun q => ?_) (fun q => ?_)
      · replace h := h.1 q
        refine z_iconst dX12_sayWord_143 ki_0 ?_
        refine y_istore (ls' := [(2, 234), (0, x1), (0, x2), (0, x3), (0, x4), (0, 0), (0, 0), (9, 0)]) dX12_sayWord_144 rfl rfl ?_
        refine z_iload dX12_sayWord_146 rfl ?_
        refine z_ifeq (tgt := 166) dX12_sayWord_148 rfl (fun _ => ?_) (fun q => absurd q (by decide))
        refine z_aloadn dX12_sayWord_166 rfl (Or.inl rfl) ?_
        refine y_getr (v := 253) hG dX12_sayWord_167 fX12_72 sh234 (by decide) rfl (by decide +kernel) (by decide) ?_
        refine z_iconst dX12_sayWord_170 ki_0 ?_
        refine z_iloadn dX12_sayWord_171 rfl ?_
        refine y_iast hG dX12_sayWord_172 sh253 ⟨by decide, by decide⟩ ?_
        refine z_aloadn dX12_sayWord_173 rfl (Or.inl rfl) ?_
        refine z_iload dX12_sayWord_174 rfl ?_
        refine z_ifeq (tgt := 183) dX12_sayWord_176 rfl (fun _ => ?_) (fun q => absurd q (by decide))
        refine z_iconst dX12_sayWord_183 ki_1 ?_
        refine z_iconst dX12_sayWord_184 ki_0 ?_
        refine y_cv (mt2 := mX12_lay) (en := [(2, 234), (0, 1), (0, 0), (9, 0), (9, 0)]) (st := []) (as := [(0, 1), (0, 0)]) dX12_sayWord_185 lX12_455 kX12_lay iX12_lay eX12_lay rfl sh234 (by decide +kernel) (Nat.le_of_ble_eq_true rfl) (Nat.le_of_ble_eq_true rfl) rfl ?_
        exact h
      · replace h := h.2 q
        refine z_iloadn dX12_sayWord_122 rfl ?_
        refine z_iload dX12_sayWord_123 rfl ?_
        refine z_ifeq (tgt := 132) dX12_sayWord_125 rfl (fun q => ?_) (fun q => ?_)
        · replace h := h.1 q
          refine z_iconst dX12_sayWord_132 ki_4 ?_
          refine y_cs (mt2 := mX12_has) (en := [(0, x3), (0, 4)]) (st := []) (as := [(0, x3), (0, 4)]) dX12_sayWord_133 lX12_373 kX12_has tX12_has rfl (Nat.le_of_ble_eq_true rfl) (Nat.le_of_ble_eq_true rfl) rfl (s_has hG (fun q => ?_) (fun q => ?_))
          · replace h := h.1 q
            show Y G (d + 1) mX12_sayWord 136 [(2, 234), (0, x1), (0, x2), (0, x3), (0, x4), (0, 0), (9, 0), (9, 0)] [(0, 1)] M Q
            refine z_ifeq (tgt := 143) dX12_sayWord_136 rfl (fun q => absurd q (by decide)) (fun _ => ?_)
            refine z_iconst dX12_sayWord_139 ki_1 ?_
            refine z_goto (tgt := 144) dX12_sayWord_140 rfl ?_
            refine y_istore (ls' := [(2, 234), (0, x1), (0, x2), (0, x3), (0, x4), (0, 0), (0, 1), (9, 0)]) dX12_sayWord_144 rfl rfl ?_
            refine z_iload dX12_sayWord_146 rfl ?_
            refine z_ifeq (tgt := 166) dX12_sayWord_148 rfl (fun q => absurd q (by decide)) (fun _ => ?_)
            refine z_aloadn dX12_sayWord_151 rfl (Or.inl rfl) ?_
            refine z_iconst dX12_sayWord_152 ki_1 ?_
            refine z_iconst dX12_sayWord_153 ki_0 ?_
            refine y_cv (mt2 := mX12_isAhead) (en := [(2, 234), (0, 1), (0, 0)]) (st := []) (as := [(0, 1), (0, 0)]) dX12_sayWord_154 lX12_423 kX12_isAhead iX12_isAhead eX12_isAhead rfl sh234 (by decide +kernel) (Nat.le_of_ble_eq_true rfl) (Nat.le_of_ble_eq_true rfl) rfl ?_
            exact h
          · replace h := h.2 q
            show Y G (d + 1) mX12_sayWord 136 [(2, 234), (0, x1), (0, x2), (0, x3), (0, x4), (0, 0), (9, 0), (9, 0)] [(0, 0)] M Q
            refine z_ifeq (tgt := 143) dX12_sayWord_136 rfl (fun _ => ?_) (fun q => absurd q (by decide))
            refine z_iconst dX12_sayWord_143 ki_0 ?_
            refine y_istore (ls' := [(2, 234), (0, x1), (0, x2), (0, x3), (0, x4), (0, 0), (0, 0), (9, 0)]) dX12_sayWord_144 rfl rfl ?_
            refine z_iload dX12_sayWord_146 rfl ?_
            refine z_ifeq (tgt := 166) dX12_sayWord_148 rfl (fun _ => ?_) (fun q => absurd q (by decide))
            refine z_aloadn dX12_sayWord_166 rfl (Or.inl rfl) ?_
            refine y_getr (v := 253) hG dX12_sayWord_167 fX12_72 sh234 (by decide) rfl (by decide +kernel) (by decide) ?_
            refine z_iconst dX12_sayWord_170 ki_0 ?_
            refine z_iloadn dX12_sayWord_171 rfl ?_
            refine y_iast hG dX12_sayWord_172 sh253 ⟨by decide, by decide⟩ ?_
            refine z_aloadn dX12_sayWord_173 rfl (Or.inl rfl) ?_
            refine z_iload dX12_sayWord_174 rfl ?_
            refine z_ifeq (tgt := 183) dX12_sayWord_176 rfl (fun _ => ?_) (fun q => absurd q (by decide))
            refine z_iconst dX12_sayWord_183 ki_1 ?_
            refine z_iconst dX12_sayWord_184 ki_0 ?_
            refine y_cv (mt2 := mX12_lay) (en := [(2, 234), (0, 1), (0, 0), (9, 0), (9, 0)]) (st := []) (as := [(0, 1), (0, 0)]) dX12_sayWord_185 lX12_455 kX12_lay iX12_lay eX12_lay rfl sh234 (by decide +kernel) (Nat.le_of_ble_eq_true rfl) (Nat.le_of_ble_eq_true rfl) rfl ?_
            exact h
        · replace h := h.2 q
          refine z_iconst dX12_sayWord_128 ki_5 ?_
          refine z_goto (tgt := 133) dX12_sayWord_129 rfl ?_
          refine y_cs (mt2 := mX12_has) (en := [(0, x3), (0, 5)]) (st := []) (as := [(0, x3), (0, 5)]) dX12_sayWord_133 lX12_373 kX12_has tX12_has rfl (Nat.le_of_ble_eq_true rfl) (Nat.le_of_ble_eq_true rfl) rfl (s_has hG (fun q => ?_) (fun q => ?_))
          · replace h := h.1 q
            show Y G (d + 1) mX12_sayWord 136 [(2, 234), (0, x1), (0, x2), (0, x3), (0, x4), (0, 0), (9, 0), (9, 0)] [(0, 1)] M Q
            refine z_ifeq (tgt := 143) dX12_sayWord_136 rfl (fun q => absurd q (by decide)) (fun _ => ?_)
            refine z_iconst dX12_sayWord_139 ki_1 ?_
            refine z_goto (tgt := 144) dX12_sayWord_140 rfl ?_
            refine y_istore (ls' := [(2, 234), (0, x1), (0, x2), (0, x3), (0, x4), (0, 0), (0, 1), (9, 0)]) dX12_sayWord_144 rfl rfl ?_
            refine z_iload dX12_sayWord_146 rfl ?_
            refine z_ifeq (tgt := 166) dX12_sayWord_148 rfl (fun q => absurd q (by decide)) (fun _ => ?_)
            refine z_aloadn dX12_sayWord_151 rfl (Or.inl rfl) ?_
            refine z_iconst dX12_sayWord_152 ki_1 ?_
            refine z_iconst dX12_sayWord_153 ki_0 ?_
            refine y_cv (mt2 := mX12_isAhead) (en := [(2, 234), (0, 1), (0, 0)]) (st := []) (as := [(0, 1), (0, 0)]) dX12_sayWord_154 lX12_423 kX12_isAhead iX12_isAhead eX12_isAhead rfl sh234 (by decide +kernel) (Nat.le_of_ble_eq_true rfl) (Nat.le_of_ble_eq_true rfl) rfl ?_
            exact h
          · replace h := h.2 q
            show Y G (d + 1) mX12_sayWord 136 [(2, 234), (0, x1), (0, x2), (0, x3), (0, x4), (0, 0), (9, 0), (9, 0)] [(0, 0)] M Q
            refine z_ifeq (tgt := 143) dX12_sayWord_136 rfl (fun _ => ?_) (fun q => absurd q (by decide))
            refine z_iconst dX12_sayWord_143 ki_0 ?_
            refine y_istore (ls' := [(2, 234), (0, x1), (0, x2), (0, x3), (0, x4), (0, 0), (0, 0), (9, 0)]) dX12_sayWord_144 rfl rfl ?_
            refine z_iload dX12_sayWord_146 rfl ?_
            refine z_ifeq (tgt := 166) dX12_sayWord_148 rfl (fun _ => ?_) (fun q => absurd q (by decide))
            refine z_aloadn dX12_sayWord_166 rfl (Or.inl rfl) ?_
            refine y_getr (v := 253) hG dX12_sayWord_167 fX12_72 sh234 (by decide) rfl (by decide +kernel) (by decide) ?_
            refine z_iconst dX12_sayWord_170 ki_0 ?_
            refine z_iloadn dX12_sayWord_171 rfl ?_
            refine y_iast hG dX12_sayWord_172 sh253 ⟨by decide, by decide⟩ ?_
            refine z_aloadn dX12_sayWord_173 rfl (Or.inl rfl) ?_
            refine z_iload dX12_sayWord_174 rfl ?_
            refine z_ifeq (tgt := 183) dX12_sayWord_176 rfl (fun _ => ?_) (fun q => absurd q (by decide))
            refine z_iconst dX12_sayWord_183 ki_1 ?_
            refine z_iconst dX12_sayWord_184 ki_0 ?_
            refine y_cv (mt2 := mX12_lay) (en := [(2, 234), (0, 1), (0, 0), (9, 0), (9, 0)]) (st := []) (as := [(0, 1), (0, 0)]) dX12_sayWord_185 lX12_455 kX12_lay iX12_lay eX12_lay rfl sh234 (by decide +kernel) (Nat.le_of_ble_eq_true rfl) (Nat.le_of_ble_eq_true rfl) rfl ?_
            exact h
    · replace h := h.2 q
      refine z_iloadn dX12_sayWord_93 rfl ?_
      refine z_iconst dX12_sayWord_94 ki_5 ?_
      refine y_cs (mt2 := mX12_has) (en := [(0, x3), (0, 5)]) (st := []) (as := [(0, x3), (0, 5)]) dX12_sayWord_95 lX12_373 kX12_has tX12_has rfl (Nat.le_of_ble_eq_true rfl) (Nat.le_of_ble_eq_true rfl) rfl (s_has hG (fun q => ?_) (fun q => ?_))
      · replace h := h.1 q
        show Y G (d + 1) mX12_sayWord 98 [(2, 234), (0, x1), (0, x2), (0, x3), (0, x4), (9, 0), (9, 0), (9, 0)] [(0, 1)] M Q
        refine z_ifeq (tgt := 114) dX12_sayWord_98 rfl (fun q => absurd q (by decide)) (fun _ => ?_)
        refine z_aloadn dX12_sayWord_101 rfl (Or.inl rfl) ?_
        refine z_iconst dX12_sayWord_102 ki_0 ?_
        refine z_iconst dX12_sayWord_103 ki_1 ?_
        refine y_cv (mt2 := mX12_areAlike) (en := [(2, 234), (0, 0), (0, 1)]) (st := []) (as := [(0, 0), (0, 1)]) dX12_sayWord_104 lX12_452 kX12_areAlike iX12_areAlike eX12_areAlike rfl sh234 (by decide +kernel) (Nat.le_of_ble_eq_true rfl) (Nat.le_of_ble_eq_true rfl) rfl ?_
        exact h
      · replace h := h.2 q
        show Y G (d + 1) mX12_sayWord 98 [(2, 234), (0, x1), (0, x2), (0, x3), (0, x4), (9, 0), (9, 0), (9, 0)] [(0, 0)] M Q
        refine z_ifeq (tgt := 114) dX12_sayWord_98 rfl (fun _ => ?_) (fun q => absurd q (by decide))
        refine z_iconst dX12_sayWord_114 ki_0 ?_
        refine y_istore (ls' := [(2, 234), (0, x1), (0, x2), (0, x3), (0, x4), (0, 0), (9, 0), (9, 0)]) dX12_sayWord_115 rfl rfl ?_
        refine z_iloadn dX12_sayWord_117 rfl ?_
        refine z_iconst dX12_sayWord_118 ki_2 ?_
        refine z_icmpne (tgt := 143) dX12_sayWord_119 rfl (fun q => ?_) (fun q => ?_)
        · replace h := h.1 q
          refine z_iconst dX12_sayWord_143 ki_0 ?_
          refine y_istore (ls' := [(2, 234), (0, x1), (0, x2), (0, x3), (0, x4), (0, 0), (0, 0), (9, 0)]) dX12_sayWord_144 rfl rfl ?_
          refine z_iload dX12_sayWord_146 rfl ?_
          refine z_ifeq (tgt := 166) dX12_sayWord_148 rfl (fun _ => ?_) (fun q => absurd q (by decide))
          refine z_aloadn dX12_sayWord_166 rfl (Or.inl rfl) ?_
          refine y_getr (v := 253) hG dX12_sayWord_167 fX12_72 sh234 (by decide) rfl (by decide +kernel) (by decide) ?_
          refine z_iconst dX12_sayWord_170 ki_0 ?_
          refine z_iloadn dX12_sayWord_171 rfl ?_
          refine y_iast hG dX12_sayWord_172 sh253 ⟨by decide, by decide⟩ ?_
          refine z_aloadn dX12_sayWord_173 rfl (Or.inl rfl) ?_
          refine z_iload dX12_sayWord_174 rfl ?_
          refine z_ifeq (tgt := 183) dX12_sayWord_176 rfl (fun _ => ?_) (fun q => absurd q (by decide))
          refine z_iconst dX12_sayWord_183 ki_1 ?_
          refine z_iconst dX12_sayWord_184 ki_0 ?_
          refine y_cv (mt2 := mX12_lay) (en := [(2, 234), (0, 1), (0, 0), (9, 0), (9, 0)]) (st := []) (as := [(0, 1), (0, 0)]) dX12_sayWord_185 lX12_455 kX12_lay iX12_lay eX12_lay rfl sh234 (by decide +kernel) (Nat.le_of_ble_eq_true rfl) (Nat.le_of_ble_eq_true rfl) rfl ?_
          exact h
        · replace h := h.2 q
          refine z_iloadn dX12_sayWord_122 rfl ?_
          refine z_iload dX12_sayWord_123 rfl ?_
          refine z_ifeq (tgt := 132) dX12_sayWord_125 rfl (fun q => ?_) (fun q => ?_)
          · replace h := h.1 q
            refine z_iconst dX12_sayWord_132 ki_4 ?_
            refine y_cs (mt2 := mX12_has) (en := [(0, x3), (0, 4)]) (st := []) (as := [(0, x3), (0, 4)]) dX12_sayWord_133 lX12_373 kX12_has tX12_has rfl (Nat.le_of_ble_eq_true rfl) (Nat.le_of_ble_eq_true rfl) rfl (s_has hG (fun q => ?_) (fun q => ?_))
            · replace h := h.1 q
              show Y G (d + 1) mX12_sayWord 136 [(2, 234), (0, x1), (0, x2), (0, x3), (0, x4), (0, 0), (9, 0), (9, 0)] [(0, 1)] M Q
              refine z_ifeq (tgt := 143) dX12_sayWord_136 rfl (fun q => absurd q (by decide)) (fun _ => ?_)
              refine z_iconst dX12_sayWord_139 ki_1 ?_
              refine z_goto (tgt := 144) dX12_sayWord_140 rfl ?_
              refine y_istore (ls' := [(2, 234), (0, x1), (0, x2), (0, x3), (0, x4), (0, 0), (0, 1), (9, 0)]) dX12_sayWord_144 rfl rfl ?_
              refine z_iload dX12_sayWord_146 rfl ?_
              refine z_ifeq (tgt := 166) dX12_sayWord_148 rfl (fun q => absurd q (by decide)) (fun _ => ?_)
              refine z_aloadn dX12_sayWord_151 rfl (Or.inl rfl) ?_
              refine z_iconst dX12_sayWord_152 ki_1 ?_
              refine z_iconst dX12_sayWord_153 ki_0 ?_
              refine y_cv (mt2 := mX12_isAhead) (en := [(2, 234), (0, 1), (0, 0)]) (st := []) (as := [(0, 1), (0, 0)]) dX12_sayWord_154 lX12_423 kX12_isAhead iX12_isAhead eX12_isAhead rfl sh234 (by decide +kernel) (Nat.le_of_ble_eq_true rfl) (Nat.le_of_ble_eq_true rfl) rfl ?_
              exact h
            · replace h := h.2 q
              show Y G (d + 1) mX12_sayWord 136 [(2, 234), (0, x1), (0, x2), (0, x3), (0, x4), (0, 0), (9, 0), (9, 0)] [(0, 0)] M Q
              refine z_ifeq (tgt := 143) dX12_sayWord_136 rfl (fun _ => ?_) (fun q => absurd q (by decide))
              refine z_iconst dX12_sayWord_143 ki_0 ?_
              refine y_istore (ls' := [(2, 234), (0, x1), (0, x2), (0, x3), (0, x4), (0, 0), (0, 0), (9, 0)]) dX12_sayWord_144 rfl rfl ?_
              refine z_iload dX12_sayWord_146 rfl ?_
              refine z_ifeq (tgt := 166) dX12_sayWord_148 rfl (fun _ => ?_) (fun q => absurd q (by decide))
              refine z_aloadn dX12_sayWord_166 rfl (Or.inl rfl) ?_
              refine y_getr (v := 253) hG dX12_sayWord_167 fX12_72 sh234 (by decide) rfl (by decide +kernel) (by decide) ?_
              refine z_iconst dX12_sayWord_170 ki_0 ?_
              refine z_iloadn dX12_sayWord_171 rfl ?_
              refine y_iast hG dX12_sayWord_172 sh253 ⟨by decide, by decide⟩ ?_
              refine z_aloadn dX12_sayWord_173 rfl (Or.inl rfl) ?_
              refine z_iload dX12_sayWord_174 rfl ?_
              refine z_ifeq (tgt := 183) dX12_sayWord_176 rfl (fun _ => ?_) (fun q => absurd q (by decide))
              refine z_iconst dX12_sayWord_183 ki_1 ?_
              refine z_iconst dX12_sayWord_184 ki_0 ?_
              refine y_cv (mt2 := mX12_lay) (en := [(2, 234), (0, 1), (0, 0), (9, 0), (9, 0)]) (st := []) (as := [(0, 1), (0, 0)]) dX12_sayWord_185 lX12_455 kX12_lay iX12_lay eX12_lay rfl sh234 (by decide +kernel) (Nat.le_of_ble_eq_true rfl) (Nat.le_of_ble_eq_true rfl) rfl ?_
              exact h
          · replace h := h.2 q
            refine z_iconst dX12_sayWord_128 ki_5 ?_
            refine z_goto (tgt := 133) dX12_sayWord_129 rfl ?_
            refine y_cs (mt2 := mX12_has) (en := [(0, x3), (0, 5)]) (st := []) (as := [(0, x3), (0, 5)]) dX12_sayWord_133 lX12_373 kX12_has tX12_has rfl (Nat.le_of_ble_eq_true rfl) (Nat.le_of_ble_eq_true rfl) rfl (s_has hG (fun q => ?_) (fun q => ?_))
            · replace h := h.1 q
              show Y G (d + 1) mX12_sayWord 136 [(2, 234), (0, x1), (0, x2), (0, x3), (0, x4), (0, 0), (9, 0), (9, 0)] [(0, 1)] M Q
              refine z_ifeq (tgt := 143) dX12_sayWord_136 rfl (fun q => absurd q (by decide)) (fun _ => ?_)
              refine z_iconst dX12_sayWord_139 ki_1 ?_
              refine z_goto (tgt := 144) dX12_sayWord_140 rfl ?_
              refine y_istore (ls' := [(2, 234), (0, x1), (0, x2), (0, x3), (0, x4), (0, 0), (0, 1), (9, 0)]) dX12_sayWord_144 rfl rfl ?_
              refine z_iload dX12_sayWord_146 rfl ?_
              refine z_ifeq (tgt := 166) dX12_sayWord_148 rfl (fun q => absurd q (by decide)) (fun _ => ?_)
              refine z_aloadn dX12_sayWord_151 rfl (Or.inl rfl) ?_
              refine z_iconst dX12_sayWord_152 ki_1 ?_
              refine z_iconst dX12_sayWord_153 ki_0 ?_
              refine y_cv (mt2 := mX12_isAhead) (en := [(2, 234), (0, 1), (0, 0)]) (st := []) (as := [(0, 1), (0, 0)]) dX12_sayWord_154 lX12_423 kX12_isAhead iX12_isAhead eX12_isAhead rfl sh234 (by decide +kernel) (Nat.le_of_ble_eq_true rfl) (Nat.le_of_ble_eq_true rfl) rfl ?_
              exact h
            · replace h := h.2 q
              show Y G (d + 1) mX12_sayWord 136 [(2, 234), (0, x1), (0, x2), (0, x3), (0, x4), (0, 0), (9, 0), (9, 0)] [(0, 0)] M Q
              refine z_ifeq (tgt := 143) dX12_sayWord_136 rfl (fun _ => ?_) (fun q => absurd q (by decide))
              refine z_iconst dX12_sayWord_143 ki_0 ?_
              refine y_istore (ls' := [(2, 234), (0, x1), (0, x2), (0, x3), (0, x4), (0, 0), (0, 0), (9, 0)]) dX12_sayWord_144 rfl rfl ?_
              refine z_iload dX12_sayWord_146 rfl ?_
              refine z_ifeq (tgt := 166) dX12_sayWord_148 rfl (fun _ => ?_) (fun q => absurd q (by decide))
              refine z_aloadn dX12_sayWord_166 rfl (Or.inl rfl) ?_
              refine y_getr (v := 253) hG dX12_sayWord_167 fX12_72 sh234 (by decide) rfl (by decide +kernel) (by decide) ?_
              refine z_iconst dX12_sayWord_170 ki_0 ?_
              refine z_iloadn dX12_sayWord_171 rfl ?_
              refine y_iast hG dX12_sayWord_172 sh253 ⟨by decide, by decide⟩ ?_
              refine z_aloadn dX12_sayWord_173 rfl (Or.inl rfl) ?_
              refine z_iload dX12_sayWord_174 rfl ?_
              refine z_ifeq (tgt := 183) dX12_sayWord_176 rfl (fun _ => ?_) (fun q => absurd q (by decide))
              refine z_iconst dX12_sayWord_183 ki_1 ?_
              refine z_iconst dX12_sayWord_184 ki_0 ?_
              refine y_cv (mt2 := mX12_lay) (en := [(2, 234), (0, 1), (0, 0), (9, 0), (9, 0)]) (st := []) (as := [(0, 1), (0, 0)]) dX12_sayWord_185 lX12_455 kX12_lay iX12_lay eX12_lay rfl sh234 (by decide +kernel) (Nat.le_of_ble_eq_true rfl) (Nat.le_of_ble_eq_true rfl) rfl ?_
              exact h
  · replace h := h.2 q
    refine z_aloadn dX12_sayWord_48 rfl (Or.inl rfl) ?_
    refine z_iloadn dX12_sayWord_49 rfl ?_
    refine z_aloadn dX12_sayWord_50 rfl (Or.inl rfl) ?_
    refine z_iloadn dX12_sayWord_51 rfl ?_
    refine z_aloadn dX12_sayWord_52 rfl (Or.inl rfl) ?_
    refine y_getr (v := 251) hG dX12_sayWord_53 fX12_66 sh234 (by decide) rfl (by decide +kernel) (by decide) ?_
    refine z_aloadn dX12_sayWord_56 rfl (Or.inl rfl) ?_
    refine y_getr (v := 255) hG dX12_sayWord_57 fX12_78 sh234 (by decide) rfl (by decide +kernel) (by decide) ?_
    refine z_iconst dX12_sayWord_60 ki_0 ?_
    refine y_iald (x := (M 255 0)) dX12_sayWord_61 sh255 ⟨by decide, by decide⟩ rfl ?_
    refine z_iconst dX12_sayWord_62 ki_1 ?_
    obtain ⟨q1, h⟩ := h
    refine z_iadd dX12_sayWord_63 q1 ?_
    obtain ⟨q2, h⟩ := h
    refine y_iald (x := (M 251 ((M 255 0) + 1))) dX12_sayWord_64 sh251 q2 rfl ?_
    refine z_i2l dX12_sayWord_65 ?_
    refine z_aloadn dX12_sayWord_66 rfl (Or.inl rfl) ?_
    refine y_getr (v := 251) hG dX12_sayWord_67 fX12_66 sh234 (by decide) rfl (by decide +kernel) (by decide) ?_
    refine z_aloadn dX12_sayWord_70 rfl (Or.inl rfl) ?_
    refine y_getr (v := 255) hG dX12_sayWord_71 fX12_78 sh234 (by decide) rfl (by decide +kernel) (by decide) ?_
    refine z_iconst dX12_sayWord_74 ki_1 ?_
    refine y_iald (x := (M 255 1)) dX12_sayWord_75 sh255 ⟨by decide, by decide⟩ rfl ?_
    refine z_iconst dX12_sayWord_76 ki_1 ?_
    obtain ⟨q3, h⟩ := h
    refine z_iadd dX12_sayWord_77 q3 ?_
    obtain ⟨q4, h⟩ := h
    refine y_iald (x := (M 251 ((M 255 1) + 1))) dX12_sayWord_78 sh251 q4 rfl ?_
    refine z_i2l dX12_sayWord_79 ?_
    refine y_cv (mt2 := mX12_ofTwo) (en := [(2, 234), (0, x1), (1, (M 251 ((M 255 0) + 1))), (9, 0), (1, (M 251 ((M 255 1) + 1))), (9, 0)]) (st := [(0, x2), (2, 234)]) (as := [(0, x1), (1, (M 251 ((M 255 0) + 1))), (1, (M 251 ((M 255 1) + 1)))]) dX12_sayWord_80 lX12_388 kX12_ofTwo iX12_ofTwo eX12_ofTwo rfl sh234 (by decide +kernel) (Nat.le_of_ble_eq_true rfl) (Nat.le_of_ble_eq_true rfl) rfl ?_
    exact h
set_option maxRecDepth 20000 in
set_option maxHeartbeats 4000000 in
theorem bX12_sayWord_107 {G : zG} {d : Nat} {M : zM} {Q : zV → zM → Prop} (hG : zP G) {x1 x2 x3 x4 x49 : Int}
    (h : ((x49 = 0 → ((¬ x2 = 2 → Y G d mX12_lay 0 [(2, 234), (0, 1), (0, 0), (9, 0), (9, 0)] [] (zset M 253 0 x1) (fun r M' => Y G (d + 1) mX12_sayWord 188 [(2, 234), (0, x1), (0, x2), (0, x3), (0, x4), (0, 0), (0, 0), (9, 0)] (zpush r []) M' Q)) ∧ (x2 = 2 → ((x4 = 0 → ((zbit x3 4 → Y G d mX12_isAhead 0 [(2, 234), (0, 1), (0, 0)] [] M (fun r M' => Y G (d + 1) mX12_sayWord 157 [(2, 234), (0, x1), (0, x2), (0, x3), (0, x4), (0, 0), (0, 1), (9, 0)] (zpush r []) M' Q)) ∧ (¬ (zbit x3 4) → Y G d mX12_lay 0 [(2, 234), (0, 1), (0, 0), (9, 0), (9, 0)] [] (zset M 253 0 x1) (fun r M' => Y G (d + 1) mX12_sayWord 188 [(2, 234), (0, x1), (0, x2), (0, x3), (0, x4), (0, 0), (0, 0), (9, 0)] (zpush r []) M' Q)))) ∧ (¬ x4 = 0 → ((zbit x3 5 → Y G d mX12_isAhead 0 [(2, 234), (0, 1), (0, 0)] [] M (fun r M' => Y G (d + 1) mX12_sayWord 157 [(2, 234), (0, x1), (0, x2), (0, x3), (0, x4), (0, 0), (0, 1), (9, 0)] (zpush r []) M' Q)) ∧ (¬ (zbit x3 5) → Y G d mX12_lay 0 [(2, 234), (0, 1), (0, 0), (9, 0), (9, 0)] [] (zset M 253 0 x1) (fun r M' => Y G (d + 1) mX12_sayWord 188 [(2, 234), (0, x1), (0, x2), (0, x3), (0, x4), (0, 0), (0, 0), (9, 0)] (zpush r []) M' Q)))))))) ∧ (¬ x49 = 0 → ((¬ x2 = 2 → Y G d mX12_lay 0 [(2, 234), (0, 0), (0, 0), (9, 0), (9, 0)] [] (zset M 253 0 x1) (fun r M' => Y G (d + 1) mX12_sayWord 188 [(2, 234), (0, x1), (0, x2), (0, x3), (0, x4), (0, 1), (0, 0), (9, 0)] (zpush r []) M' Q)) ∧ (x2 = 2 → ((x4 = 0 → ((zbit x3 4 → Y G d mX12_isAhead 0 [(2, 234), (0, 1), (0, 0)] [] M (fun r M' => Y G (d + 1) mX12_sayWord 157 [(2, 234), (0, x1), (0, x2), (0, x3), (0, x4), (0, 1), (0, 1), (9, 0)] (zpush r []) M' Q)) ∧ (¬ (zbit x3 4) → Y G d mX12_lay 0 [(2, 234), (0, 0), (0, 0), (9, 0), (9, 0)] [] (zset M 253 0 x1) (fun r M' => Y G (d + 1) mX12_sayWord 188 [(2, 234), (0, x1), (0, x2), (0, x3), (0, x4), (0, 1), (0, 0), (9, 0)] (zpush r []) M' Q)))) ∧ (¬ x4 = 0 → ((zbit x3 5 → Y G d mX12_isAhead 0 [(2, 234), (0, 1), (0, 0)] [] M (fun r M' => Y G (d + 1) mX12_sayWord 157 [(2, 234), (0, x1), (0, x2), (0, x3), (0, x4), (0, 1), (0, 1), (9, 0)] (zpush r []) M' Q)) ∧ (¬ (zbit x3 5) → Y G d mX12_lay 0 [(2, 234), (0, 0), (0, 0), (9, 0), (9, 0)] [] (zset M 253 0 x1) (fun r M' => Y G (d + 1) mX12_sayWord 188 [(2, 234), (0, x1), (0, x2), (0, x3), (0, x4), (0, 1), (0, 0), (9, 0)] (zpush r []) M' Q)))))))))) :
    Y G (d + 1) mX12_sayWord 107 [(2, 234), (0, x1), (0, x2), (0, x3), (0, x4), (9, 0), (9, 0), (9, 0)] [(0, x49)] M Q := by
  refine z_ifeq (tgt := 114) dX12_sayWord_107 rfl (fun q => ?_) (fun q => ?_)
  · replace h := h.1 q
    refine z_iconst dX12_sayWord_114 ki_0 ?_
    refine y_istore (ls' := [(2, 234), (0, x1), (0, x2), (0, x3), (0, x4), (0, 0), (9, 0), (9, 0)]) dX12_sayWord_115 rfl rfl ?_
    refine z_iloadn dX12_sayWord_117 rfl ?_
    refine z_iconst dX12_sayWord_118 ki_2 ?_
    refine z_icmpne (tgt := 143) dX12_sayWord_119 rfl (fun q => ?_) (fun q => ?_)
    · replace h := h.1 q
      refine z_iconst dX12_sayWord_143 ki_0 ?_
      refine y_istore (ls' := [(2, 234), (0, x1), (0, x2), (0, x3), (0, x4), (0, 0), (0, 0), (9, 0)]) dX12_sayWord_144 rfl rfl ?_
      refine z_iload dX12_sayWord_146 rfl ?_
      refine z_ifeq (tgt := 166) dX12_sayWord_148 rfl (fun _ => ?_) (fun q => absurd q (by decide))
      refine z_aloadn dX12_sayWord_166 rfl (Or.inl rfl) ?_
      refine y_getr (v := 253) hG dX12_sayWord_167 fX12_72 sh234 (by decide) rfl (by decide +kernel) (by decide) ?_
      refine z_iconst dX12_sayWord_170 ki_0 ?_
      refine z_iloadn dX12_sayWord_171 rfl ?_
      refine y_iast hG dX12_sayWord_172 sh253 ⟨by decide, by decide⟩ ?_
      refine z_aloadn dX12_sayWord_173 rfl (Or.inl rfl) ?_
      refine z_iload dX12_sayWord_174 rfl ?_
      refine z_ifeq (tgt := 183) dX12_sayWord_176 rfl (fun _ => ?_) (fun q => absurd q (by decide))
      refine z_iconst dX12_sayWord_183 ki_1 ?_
      refine z_iconst dX12_sayWord_184 ki_0 ?_
      refine y_cv (mt2 := mX12_lay) (en := [(2, 234), (0, 1), (0, 0), (9, 0), (9, 0)]) (st := []) (as := [(0, 1), (0, 0)]) dX12_sayWord_185 lX12_455 kX12_lay iX12_lay eX12_lay rfl sh234 (by decide +kernel) (Nat.le_of_ble_eq_true rfl) (Nat.le_of_ble_eq_true rfl) rfl ?_
      exact h
    · replace h := h.2 q
      refine z_iloadn dX12_sayWord_122 rfl ?_
      refine z_iload dX12_sayWord_123 rfl ?_
      refine z_ifeq (tgt := 132) dX12_sayWord_125 rfl (fun q => ?_) (fun q => ?_)
      · replace h := h.1 q
        refine z_iconst dX12_sayWord_132 ki_4 ?_
        refine y_cs (mt2 := mX12_has) (en := [(0, x3), (0, 4)]) (st := []) (as := [(0, x3), (0, 4)]) dX12_sayWord_133 lX12_373 kX12_has tX12_has rfl (Nat.le_of_ble_eq_true rfl) (Nat.le_of_ble_eq_true rfl) rfl (s_has hG (fun q => ?_) (fun q => ?_))
        · replace h := h.1 q
          show Y G (d + 1) mX12_sayWord 136 [(2, 234), (0, x1), (0, x2), (0, x3), (0, x4), (0, 0), (9, 0), (9, 0)] [(0, 1)] M Q
          refine z_ifeq (tgt := 143) dX12_sayWord_136 rfl (fun q => absurd q (by decide)) (fun _ => ?_)
          refine z_iconst dX12_sayWord_139 ki_1 ?_
          refine z_goto (tgt := 144) dX12_sayWord_140 rfl ?_
          refine y_istore (ls' := [(2, 234), (0, x1), (0, x2), (0, x3), (0, x4), (0, 0), (0, 1), (9, 0)]) dX12_sayWord_144 rfl rfl ?_
          refine z_iload dX12_sayWord_146 rfl ?_
          refine z_ifeq (tgt := 166) dX12_sayWord_148 rfl (fun q => absurd q (by decide)) (fun _ => ?_)
          refine z_aloadn dX12_sayWord_151 rfl (Or.inl rfl) ?_
          refine z_iconst dX12_sayWord_152 ki_1 ?_
          refine z_iconst dX12_sayWord_153 ki_0 ?_
          refine y_cv (mt2 := mX12_isAhead) (en := [(2, 234), (0, 1), (0, 0)]) (st := []) (as := [(0, 1), (0, 0)]) dX12_sayWord_154 lX12_423 kX12_isAhead iX12_isAhead eX12_isAhead rfl sh234 (by decide +kernel) (Nat.le_of_ble_eq_true rfl) (Nat.le_of_ble_eq_true rfl) rfl ?_
          exact h
        · replace h := h.2 q
          show Y G (d + 1) mX12_sayWord 136 [(2, 234), (0, x1), (0, x2), (0, x3), (0, x4), (0, 0), (9, 0), (9, 0)] [(0, 0)] M Q
          refine z_ifeq (tgt := 143) dX12_sayWord_136 rfl (fun _ => ?_) (fun q => absurd q (by decide))
          refine z_iconst dX12_sayWord_143 ki_0 ?_
          refine y_istore (ls' := [(2, 234), (0, x1), (0, x2), (0, x3), (0, x4), (0, 0), (0, 0), (9, 0)]) dX12_sayWord_144 rfl rfl ?_
          refine z_iload dX12_sayWord_146 rfl ?_
          refine z_ifeq (tgt := 166) dX12_sayWord_148 rfl (fun _ => ?_) (fun q => absurd q (by decide))
          refine z_aloadn dX12_sayWord_166 rfl (Or.inl rfl) ?_
          refine y_getr (v := 253) hG dX12_sayWord_167 fX12_72 sh234 (by decide) rfl (by decide +kernel) (by decide) ?_
          refine z_iconst dX12_sayWord_170 ki_0 ?_
          refine z_iloadn dX12_sayWord_171 rfl ?_
          refine y_iast hG dX12_sayWord_172 sh253 ⟨by decide, by decide⟩ ?_
          refine z_aloadn dX12_sayWord_173 rfl (Or.inl rfl) ?_
          refine z_iload dX12_sayWord_174 rfl ?_
          refine z_ifeq (tgt := 183) dX12_sayWord_176 rfl (fun _ => ?_) (fun q => absurd q (by decide))
          refine z_iconst dX12_sayWord_183 ki_1 ?_
          refine z_iconst dX12_sayWord_184 ki_0 ?_
          refine y_cv (mt2 := mX12_lay) (en := [(2, 234), (0, 1), (0, 0), (9, 0), (9, 0)]) (st := []) (as := [(0, 1), (0, 0)]) dX12_sayWord_185 lX12_455 kX12_lay iX12_lay eX12_lay rfl sh234 (by decide +kernel) (Nat.le_of_ble_eq_true rfl) (Nat.le_of_ble_eq_true rfl) rfl ?_
          exact h
      · replace h := h.2 q
        refine z_iconst dX12_sayWord_128 ki_5 ?_
        refine z_goto (tgt := 133) dX12_sayWord_129 rfl ?_
        refine y_cs (mt2 := mX12_has) (en := [(0, x3), (0, 5)]) (st := []) (as := [(0, x3), (0, 5)]) dX12_sayWord_133 lX12_373 kX12_has tX12_has rfl (Nat.le_of_ble_eq_true rfl) (Nat.le_of_ble_eq_true rfl) rfl (s_has hG (fun q => ?_) (fun q => ?_))
        · replace h := h.1 q
          show Y G (d + 1) mX12_sayWord 136 [(2, 234), (0, x1), (0, x2), (0, x3), (0, x4), (0, 0), (9, 0), (9, 0)] [(0, 1)] M Q
          refine z_ifeq (tgt := 143) dX12_sayWord_136 rfl (fun q => absurd q (by decide)) (fun _ => ?_)
          refine z_iconst dX12_sayWord_139 ki_1 ?_
          refine z_goto (tgt := 144) dX12_sayWord_140 rfl ?_
          refine y_istore (ls' := [(2, 234), (0, x1), (0, x2), (0, x3), (0, x4), (0, 0), (0, 1), (9, 0)]) dX12_sayWord_144 rfl rfl ?_
          refine z_iload dX12_sayWord_146 rfl ?_
          refine z_ifeq (tgt := 166) dX12_sayWord_148 rfl (fun q => absurd q (by decide)) (fun _ => ?_)
          refine z_aloadn dX12_sayWord_151 rfl (Or.inl rfl) ?_
          refine z_iconst dX12_sayWord_152 ki_1 ?_
          refine z_iconst dX12_sayWord_153 ki_0 ?_
          refine y_cv (mt2 := mX12_isAhead) (en := [(2, 234), (0, 1), (0, 0)]) (st := []) (as := [(0, 1), (0, 0)]) dX12_sayWord_154 lX12_423 kX12_isAhead iX12_isAhead eX12_isAhead rfl sh234 (by decide +kernel) (Nat.le_of_ble_eq_true rfl) (Nat.le_of_ble_eq_true rfl) rfl ?_
          exact h
        · replace h := h.2 q
          show Y G (d + 1) mX12_sayWord 136 [(2, 234), (0, x1), (0, x2), (0, x3), (0, x4), (0, 0), (9, 0), (9, 0)] [(0, 0)] M Q
          refine z_ifeq (tgt := 143) dX12_sayWord_136 rfl (fun _ => ?_) (fun q => absurd q (by decide))
          refine z_iconst dX12_sayWord_143 ki_0 ?_
          refine y_istore (ls' := [(2, 234), (0, x1), (0, x2), (0, x3), (0, x4), (0, 0), (0, 0), (9, 0)]) dX12_sayWord_144 rfl rfl ?_
          refine z_iload dX12_sayWord_146 rfl ?_
          refine z_ifeq (tgt := 166) dX12_sayWord_148 rfl (fun _ => ?_) (fun q => absurd q (by decide))
          refine z_aloadn dX12_sayWord_166 rfl (Or.inl rfl) ?_
          refine y_getr (v := 253) hG dX12_sayWord_167 fX12_72 sh234 (by decide) rfl (by decide +kernel) (by decide) ?_
          refine z_iconst dX12_sayWord_170 ki_0 ?_
          refine z_iloadn dX12_sayWord_171 rfl ?_
          refine y_iast hG dX12_sayWord_172 sh253 ⟨by decide, by decide⟩ ?_
          refine z_aloadn dX12_sayWord_173 rfl (Or.inl rfl) ?_
          refine z_iload dX12_sayWord_174 rfl ?_
          refine z_ifeq (tgt := 183) dX12_sayWord_176 rfl (fun _ => ?_) (fun q => absurd q (by decide))
          refine z_iconst dX12_sayWord_183 ki_1 ?_
          refine z_iconst dX12_sayWord_184 ki_0 ?_
          refine y_cv (mt2 := mX12_lay) (en := [(2, 234), (0, 1), (0, 0), (9, 0), (9, 0)]) (st := []) (as := [(0, 1), (0, 0)]) dX12_sayWord_185 lX12_455 kX12_lay iX12_lay eX12_lay rfl sh234 (by decide +kernel) (Nat.le_of_ble_eq_true rfl) (Nat.le_of_ble_eq_true rfl) rfl ?_
          exact h
  · replace h := h.2 q
    refine z_iconst dX12_sayWord_110 ki_1 ?_
    refine z_goto (tgt := 115) dX12_sayWord_111 rfl ?_
    refine y_istore (ls' := [(2, 234), (0, x1), (0, x2), (0, x3), (0, x4), (0, 1), (9, 0), (9, 0)]) dX12_sayWord_115 rfl rfl ?_
    refine z_iloadn dX12_sayWord_117 rfl ?_
    refine z_iconst dX12_sayWord_118 ki_2 ?_
    refine z_icmpne (tgt := 143) dX12_sayWord_119 rfl (fun q => ?_) (fun q => ?_)
    · replace h := h.1 q
      refine z_iconst dX12_sayWord_143 ki_0 ?_
      refine y_istore (ls' := [(2, 234), (0, x1), (0, x2), (0, x3), (0, x4), (0, 1), (0, 0), (9, 0)]) dX12_sayWord_144 rfl rfl ?_
      refine z_iload dX12_sayWord_146 rfl ?_
      refine z_ifeq (tgt := 166) dX12_sayWord_148 rfl (fun _ => ?_) (fun q => absurd q (by decide))
      refine z_aloadn dX12_sayWord_166 rfl (Or.inl rfl) ?_
      refine y_getr (v := 253) hG dX12_sayWord_167 fX12_72 sh234 (by decide) rfl (by decide +kernel) (by decide) ?_
      refine z_iconst dX12_sayWord_170 ki_0 ?_
      refine z_iloadn dX12_sayWord_171 rfl ?_
      refine y_iast hG dX12_sayWord_172 sh253 ⟨by decide, by decide⟩ ?_
      refine z_aloadn dX12_sayWord_173 rfl (Or.inl rfl) ?_
      refine z_iload dX12_sayWord_174 rfl ?_
      refine z_ifeq (tgt := 183) dX12_sayWord_176 rfl (fun q => absurd q (by decide)) (fun _ => ?_)
      refine z_iconst dX12_sayWord_179 ki_0 ?_
      refine z_goto (tgt := 184) dX12_sayWord_180 rfl ?_
      refine z_iconst dX12_sayWord_184 ki_0 ?_
      refine y_cv (mt2 := mX12_lay) (en := [(2, 234), (0, 0), (0, 0), (9, 0), (9, 0)]) (st := []) (as := [(0, 0), (0, 0)]) dX12_sayWord_185 lX12_455 kX12_lay iX12_lay eX12_lay rfl sh234 (by decide +kernel) (Nat.le_of_ble_eq_true rfl) (Nat.le_of_ble_eq_true rfl) rfl ?_
      exact h
    · replace h := h.2 q
      refine z_iloadn dX12_sayWord_122 rfl ?_
      refine z_iload dX12_sayWord_123 rfl ?_
      refine z_ifeq (tgt := 132) dX12_sayWord_125 rfl (fun q => ?_) (fun q => ?_)
      · replace h := h.1 q
        refine z_iconst dX12_sayWord_132 ki_4 ?_
        refine y_cs (mt2 := mX12_has) (en := [(0, x3), (0, 4)]) (st := []) (as := [(0, x3), (0, 4)]) dX12_sayWord_133 lX12_373 kX12_has tX12_has rfl (Nat.le_of_ble_eq_true rfl) (Nat.le_of_ble_eq_true rfl) rfl (s_has hG (fun q => ?_) (fun q => ?_))
        · replace h := h.1 q
          show Y G (d + 1) mX12_sayWord 136 [(2, 234), (0, x1), (0, x2), (0, x3), (0, x4), (0, 1), (9, 0), (9, 0)] [(0, 1)] M Q
          refine z_ifeq (tgt := 143) dX12_sayWord_136 rfl (fun q => absurd q (by decide)) (fun _ => ?_)
          refine z_iconst dX12_sayWord_139 ki_1 ?_
          refine z_goto (tgt := 144) dX12_sayWord_140 rfl ?_
          refine y_istore (ls' := [(2, 234), (0, x1), (0, x2), (0, x3), (0, x4), (0, 1), (0, 1), (9, 0)]) dX12_sayWord_144 rfl rfl ?_
          refine z_iload dX12_sayWord_146 rfl ?_
          refine z_ifeq (tgt := 166) dX12_sayWord_148 rfl (fun q => absurd q (by decide)) (fun _ => ?_)
          refine z_aloadn dX12_sayWord_151 rfl (Or.inl rfl) ?_
          refine z_iconst dX12_sayWord_152 ki_1 ?_
          refine z_iconst dX12_sayWord_153 ki_0 ?_
          refine y_cv (mt2 := mX12_isAhead) (en := [(2, 234), (0, 1), (0, 0)]) (st := []) (as := [(0, 1), (0, 0)]) dX12_sayWord_154 lX12_423 kX12_isAhead iX12_isAhead eX12_isAhead rfl sh234 (by decide +kernel) (Nat.le_of_ble_eq_true rfl) (Nat.le_of_ble_eq_true rfl) rfl ?_
          exact h
        · replace h := h.2 q
          show Y G (d + 1) mX12_sayWord 136 [(2, 234), (0, x1), (0, x2), (0, x3), (0, x4), (0, 1), (9, 0), (9, 0)] [(0, 0)] M Q
          refine z_ifeq (tgt := 143) dX12_sayWord_136 rfl (fun _ => ?_) (fun q => absurd q (by decide))
          refine z_iconst dX12_sayWord_143 ki_0 ?_
          refine y_istore (ls' := [(2, 234), (0, x1), (0, x2), (0, x3), (0, x4), (0, 1), (0, 0), (9, 0)]) dX12_sayWord_144 rfl rfl ?_
          refine z_iload dX12_sayWord_146 rfl ?_
          refine z_ifeq (tgt := 166) dX12_sayWord_148 rfl (fun _ => ?_) (fun q => absurd q (by decide))
          refine z_aloadn dX12_sayWord_166 rfl (Or.inl rfl) ?_
          refine y_getr (v := 253) hG dX12_sayWord_167 fX12_72 sh234 (by decide) rfl (by decide +kernel) (by decide) ?_
          refine z_iconst dX12_sayWord_170 ki_0 ?_
          refine z_iloadn dX12_sayWord_171 rfl ?_
          refine y_iast hG dX12_sayWord_172 sh253 ⟨by decide, by decide⟩ ?_
          refine z_aloadn dX12_sayWord_173 rfl (Or.inl rfl) ?_
          refine z_iload dX12_sayWord_174 rfl ?_
          refine z_ifeq (tgt := 183) dX12_sayWord_176 rfl (fun q => absurd q (by decide)) (fun _ => ?_)
          refine z_iconst dX12_sayWord_179 ki_0 ?_
          refine z_goto (tgt := 184) dX12_sayWord_180 rfl ?_
          refine z_iconst dX12_sayWord_184 ki_0 ?_
          refine y_cv (mt2 := mX12_lay) (en := [(2, 234), (0, 0), (0, 0), (9, 0), (9, 0)]) (st := []) (as := [(0, 0), (0, 0)]) dX12_sayWord_185 lX12_455 kX12_lay iX12_lay eX12_lay rfl sh234 (by decide +kernel) (Nat.le_of_ble_eq_true rfl) (Nat.le_of_ble_eq_true rfl) rfl ?_
          exact h
      · replace h := h.2 q
        refine z_iconst dX12_sayWord_128 ki_5 ?_
        refine z_goto (tgt := 133) dX12_sayWord_129 rfl ?_
        refine y_cs (mt2 := mX12_has) (en := [(0, x3), (0, 5)]) (st := []) (as := [(0, x3), (0, 5)]) dX12_sayWord_133 lX12_373 kX12_has tX12_has rfl (Nat.le_of_ble_eq_true rfl) (Nat.le_of_ble_eq_true rfl) rfl (s_has hG (fun q => ?_) (fun q => ?_))
        · replace h := h.1 q
          show Y G (d + 1) mX12_sayWord 136 [(2, 234), (0, x1), (0, x2), (0, x3), (0, x4), (0, 1), (9, 0), (9, 0)] [(0, 1)] M Q
          refine z_ifeq (tgt := 143) dX12_sayWord_136 rfl (fun q => absurd q (by decide)) (fun _ => ?_)
          refine z_iconst dX12_sayWord_139 ki_1 ?_
          refine z_goto (tgt := 144) dX12_sayWord_140 rfl ?_
          refine y_istore (ls' := [(2, 234), (0, x1), (0, x2), (0, x3), (0, x4), (0, 1), (0, 1), (9, 0)]) dX12_sayWord_144 rfl rfl ?_
          refine z_iload dX12_sayWord_146 rfl ?_
          refine z_ifeq (tgt := 166) dX12_sayWord_148 rfl (fun q => absurd q (by decide)) (fun _ => ?_)
          refine z_aloadn dX12_sayWord_151 rfl (Or.inl rfl) ?_
          refine z_iconst dX12_sayWord_152 ki_1 ?_
          refine z_iconst dX12_sayWord_153 ki_0 ?_
          refine y_cv (mt2 := mX12_isAhead) (en := [(2, 234), (0, 1), (0, 0)]) (st := []) (as := [(0, 1), (0, 0)]) dX12_sayWord_154 lX12_423 kX12_isAhead iX12_isAhead eX12_isAhead rfl sh234 (by decide +kernel) (Nat.le_of_ble_eq_true rfl) (Nat.le_of_ble_eq_true rfl) rfl ?_
          exact h
        · replace h := h.2 q
          show Y G (d + 1) mX12_sayWord 136 [(2, 234), (0, x1), (0, x2), (0, x3), (0, x4), (0, 1), (9, 0), (9, 0)] [(0, 0)] M Q
          refine z_ifeq (tgt := 143) dX12_sayWord_136 rfl (fun _ => ?_) (fun q => absurd q (by decide))
          refine z_iconst dX12_sayWord_143 ki_0 ?_
          refine y_istore (ls' := [(2, 234), (0, x1), (0, x2), (0, x3), (0, x4), (0, 1), (0, 0), (9, 0)]) dX12_sayWord_144 rfl rfl ?_
          refine z_iload dX12_sayWord_146 rfl ?_
          refine z_ifeq (tgt := 166) dX12_sayWord_148 rfl (fun _ => ?_) (fun q => absurd q (by decide))
          refine z_aloadn dX12_sayWord_166 rfl (Or.inl rfl) ?_
          refine y_getr (v := 253) hG dX12_sayWord_167 fX12_72 sh234 (by decide) rfl (by decide +kernel) (by decide) ?_
          refine z_iconst dX12_sayWord_170 ki_0 ?_
          refine z_iloadn dX12_sayWord_171 rfl ?_
          refine y_iast hG dX12_sayWord_172 sh253 ⟨by decide, by decide⟩ ?_
          refine z_aloadn dX12_sayWord_173 rfl (Or.inl rfl) ?_
          refine z_iload dX12_sayWord_174 rfl ?_
          refine z_ifeq (tgt := 183) dX12_sayWord_176 rfl (fun q => absurd q (by decide)) (fun _ => ?_)
          refine z_iconst dX12_sayWord_179 ki_0 ?_
          refine z_goto (tgt := 184) dX12_sayWord_180 rfl ?_
          refine z_iconst dX12_sayWord_184 ki_0 ?_
          refine y_cv (mt2 := mX12_lay) (en := [(2, 234), (0, 0), (0, 0), (9, 0), (9, 0)]) (st := []) (as := [(0, 0), (0, 0)]) dX12_sayWord_185 lX12_455 kX12_lay iX12_lay eX12_lay rfl sh234 (by decide +kernel) (Nat.le_of_ble_eq_true rfl) (Nat.le_of_ble_eq_true rfl) rfl ?_
          exact h
set_option maxRecDepth 20000 in
set_option maxHeartbeats 4000000 in
theorem bX12_sayWord_188 {G : zG} {d : Nat} {M : zM} {Q : zV → zM → Prop} (hG : zP G) {x1 x2 x3 x4 x5 x6 x49 : Int}
    (h : ((¬ x2 = 2 → Y G d mX12_put 0 [(2, 234), (0, x2), (0, x49), (9, 0), (9, 0)] [] M (fun r M' => Y G (d + 1) mX12_sayWord 216 [(2, 234), (0, x1), (0, x2), (0, x3), (0, x4), (0, x5), (0, x6), (0, x49)] (zpush r []) M' Q)) ∧ (x2 = 2 → ((¬ x5 = 0 → Y G d mX12_put 0 [(2, 234), (0, x2), (0, x49), (9, 0), (9, 0)] [] M (fun r M' => Y G (d + 1) mX12_sayWord 216 [(2, 234), (0, x1), (0, x2), (0, x3), (0, x4), (0, x5), (0, x6), (0, x49)] (zpush r []) M' Q)) ∧ (x5 = 0 → Y G d mX12_lay 0 [(2, 234), (0, x49), (0, 1), (9, 0), (9, 0)] [] M (fun r M' => Y G (d + 1) mX12_sayWord 207 [(2, 234), (0, x1), (0, x2), (0, x3), (0, x4), (0, x5), (0, x6), (0, x49)] (zpush r []) M' Q)))))) :
    Y G (d + 1) mX12_sayWord 188 [(2, 234), (0, x1), (0, x2), (0, x3), (0, x4), (0, x5), (0, x6), (9, 0)] [(0, x49)] M Q := by
  refine y_istore (ls' := [(2, 234), (0, x1), (0, x2), (0, x3), (0, x4), (0, x5), (0, x6), (0, x49)]) dX12_sayWord_188 rfl rfl ?_
  refine z_iloadn dX12_sayWord_190 rfl ?_
  refine z_iconst dX12_sayWord_191 ki_2 ?_
  refine z_icmpne (tgt := 209) dX12_sayWord_192 rfl (fun q => ?_) (fun q => ?_)
  · replace h := h.1 q
    refine z_aloadn dX12_sayWord_209 rfl (Or.inl rfl) ?_
    refine z_iloadn dX12_sayWord_210 rfl ?_
    refine z_iload dX12_sayWord_211 rfl ?_
    refine y_cv (mt2 := mX12_put) (en := [(2, 234), (0, x2), (0, x49), (9, 0), (9, 0)]) (st := []) (as := [(0, x2), (0, x49)]) dX12_sayWord_213 lX12_429 kX12_put iX12_put eX12_put rfl sh234 (by decide +kernel) (Nat.le_of_ble_eq_true rfl) (Nat.le_of_ble_eq_true rfl) rfl ?_
    exact h
  · replace h := h.2 q
    refine z_iload dX12_sayWord_195 rfl ?_
    refine z_ifne (tgt := 209) dX12_sayWord_197 rfl (fun q => ?_) (fun q => ?_)
    · replace h := h.1 q
      refine z_aloadn dX12_sayWord_209 rfl (Or.inl rfl) ?_
      refine z_iloadn dX12_sayWord_210 rfl ?_
      refine z_iload dX12_sayWord_211 rfl ?_
      refine y_cv (mt2 := mX12_put) (en := [(2, 234), (0, x2), (0, x49), (9, 0), (9, 0)]) (st := []) (as := [(0, x2), (0, x49)]) dX12_sayWord_213 lX12_429 kX12_put iX12_put eX12_put rfl sh234 (by decide +kernel) (Nat.le_of_ble_eq_true rfl) (Nat.le_of_ble_eq_true rfl) rfl ?_
      exact h
    · replace h := h.2 q
      refine z_aloadn dX12_sayWord_200 rfl (Or.inl rfl) ?_
      refine z_iload dX12_sayWord_201 rfl ?_
      refine z_iconst dX12_sayWord_203 ki_1 ?_
      refine y_cv (mt2 := mX12_lay) (en := [(2, 234), (0, x49), (0, 1), (9, 0), (9, 0)]) (st := []) (as := [(0, x49), (0, 1)]) dX12_sayWord_204 lX12_455 kX12_lay iX12_lay eX12_lay rfl sh234 (by decide +kernel) (Nat.le_of_ble_eq_true rfl) (Nat.le_of_ble_eq_true rfl) rfl ?_
      exact h
set_option maxRecDepth 20000 in
set_option maxHeartbeats 4000000 in
theorem bX12_sayWord_157 {G : zG} {d : Nat} {M : zM} {Q : zV → zM → Prop} (hG : zP G) {x1 x2 x3 x4 x5 x6 x49 : Int}
    (h : ((x49 = 0 → ((x5 = 0 → Y G d mX12_lay 0 [(2, 234), (0, 1), (0, 0), (9, 0), (9, 0)] [] (zset M 253 0 x1) (fun r M' => Y G (d + 1) mX12_sayWord 188 [(2, 234), (0, x1), (0, x2), (0, x3), (0, x4), (0, x5), (0, x6), (9, 0)] (zpush r []) M' Q)) ∧ (¬ x5 = 0 → Y G d mX12_lay 0 [(2, 234), (0, 0), (0, 0), (9, 0), (9, 0)] [] (zset M 253 0 x1) (fun r M' => Y G (d + 1) mX12_sayWord 188 [(2, 234), (0, x1), (0, x2), (0, x3), (0, x4), (0, x5), (0, x6), (9, 0)] (zpush r []) M' Q)))) ∧ (¬ x49 = 0 → Y G d mX12_exchange 0 [(2, 234), (0, 0), (0, 1), (9, 0), (9, 0), (9, 0)] [] M (fun r M' => Y G (d + 1) mX12_sayWord 166 [(2, 234), (0, x1), (0, x2), (0, x3), (0, x4), (0, x5), (0, x6), (9, 0)] (zpush r []) M' Q)))) :
    Y G (d + 1) mX12_sayWord 157 [(2, 234), (0, x1), (0, x2), (0, x3), (0, x4), (0, x5), (0, x6), (9, 0)] [(0, x49)] M Q := by
  refine z_ifeq (tgt := 166) dX12_sayWord_157 rfl (fun q => ?_) (fun q => ?_)
  · replace h := h.1 q
    refine z_aloadn dX12_sayWord_166 rfl (Or.inl rfl) ?_
    refine y_getr (v := 253) hG dX12_sayWord_167 fX12_72 sh234 (by decide) rfl (by decide +kernel) (by decide) ?_
    refine z_iconst dX12_sayWord_170 ki_0 ?_
    refine z_iloadn dX12_sayWord_171 rfl ?_
    refine y_iast hG dX12_sayWord_172 sh253 ⟨by decide, by decide⟩ ?_
    refine z_aloadn dX12_sayWord_173 rfl (Or.inl rfl) ?_
    refine z_iload dX12_sayWord_174 rfl ?_
    refine z_ifeq (tgt := 183) dX12_sayWord_176 rfl (fun q => ?_) (fun q => ?_)
    · replace h := h.1 q
      refine z_iconst dX12_sayWord_183 ki_1 ?_
      refine z_iconst dX12_sayWord_184 ki_0 ?_
      refine y_cv (mt2 := mX12_lay) (en := [(2, 234), (0, 1), (0, 0), (9, 0), (9, 0)]) (st := []) (as := [(0, 1), (0, 0)]) dX12_sayWord_185 lX12_455 kX12_lay iX12_lay eX12_lay rfl sh234 (by decide +kernel) (Nat.le_of_ble_eq_true rfl) (Nat.le_of_ble_eq_true rfl) rfl ?_
      exact h
    · replace h := h.2 q
      refine z_iconst dX12_sayWord_179 ki_0 ?_
      refine z_goto (tgt := 184) dX12_sayWord_180 rfl ?_
      refine z_iconst dX12_sayWord_184 ki_0 ?_
      refine y_cv (mt2 := mX12_lay) (en := [(2, 234), (0, 0), (0, 0), (9, 0), (9, 0)]) (st := []) (as := [(0, 0), (0, 0)]) dX12_sayWord_185 lX12_455 kX12_lay iX12_lay eX12_lay rfl sh234 (by decide +kernel) (Nat.le_of_ble_eq_true rfl) (Nat.le_of_ble_eq_true rfl) rfl ?_
      exact h
  · replace h := h.2 q
    refine z_aloadn dX12_sayWord_160 rfl (Or.inl rfl) ?_
    refine z_iconst dX12_sayWord_161 ki_0 ?_
    refine z_iconst dX12_sayWord_162 ki_1 ?_
    refine y_cv (mt2 := mX12_exchange) (en := [(2, 234), (0, 0), (0, 1), (9, 0), (9, 0), (9, 0)]) (st := []) (as := [(0, 0), (0, 1)]) dX12_sayWord_163 lX12_426 kX12_exchange iX12_exchange eX12_exchange rfl sh234 (by decide +kernel) (Nat.le_of_ble_eq_true rfl) (Nat.le_of_ble_eq_true rfl) rfl ?_
    exact h
set_option maxRecDepth 20000 in
set_option maxHeartbeats 4000000 in
theorem bX12_sayWord_83 {G : zG} {d : Nat} {M : zM} {Q : zV → zM → Prop} (hG : zP G) {x1 x2 x3 x4 x49 x50 : Int}
    (h : Y G d mX12_putNumber 0 [(2, 234), (0, x50), (0, (zw x49))] [] M (fun r M' => Y G (d + 1) mX12_sayWord 87 [(2, 234), (0, x1), (0, x2), (0, x3), (0, x4), (9, 0), (9, 0), (9, 0)] (zpush r []) M' Q)) :
    Y G (d + 1) mX12_sayWord 83 [(2, 234), (0, x1), (0, x2), (0, x3), (0, x4), (9, 0), (9, 0), (9, 0)] [(1, x49), (0, x50), (2, 234)] M Q := by
  refine z_l2i dX12_sayWord_83 ?_
  refine y_cv (mt2 := mX12_putNumber) (en := [(2, 234), (0, x50), (0, (zw x49))]) (st := []) (as := [(0, x50), (0, (zw x49))]) dX12_sayWord_84 lX12_446 kX12_putNumber iX12_putNumber eX12_putNumber rfl sh234 (by decide +kernel) (Nat.le_of_ble_eq_true rfl) (Nat.le_of_ble_eq_true rfl) rfl ?_
  exact h
set_option maxRecDepth 20000 in
set_option maxHeartbeats 4000000 in
theorem bX12_sayWord_216 {G : zG} {d : Nat} {M : zM} {Q : zV → zM → Prop} (hG : zP G) {x1 x2 x3 x4 x5 x6 x7 : Int}
    (h : Q (9, 0) M) :
    Y G (d + 1) mX12_sayWord 216 [(2, 234), (0, x1), (0, x2), (0, x3), (0, x4), (0, x5), (0, x6), (0, x7)] [] M Q := by
  exact z_return dX12_sayWord_216 rfl rfl h
set_option maxRecDepth 20000 in
set_option maxHeartbeats 4000000 in
theorem bX12_sayWord_207 {G : zG} {d : Nat} {M : zM} {Q : zV → zM → Prop} (hG : zP G) {x1 x2 x3 x4 x5 x6 x7 x49 : Int}
    (h : Y G d mX12_put 0 [(2, 234), (0, x2), (0, x49), (9, 0), (9, 0)] [] M (fun r M' => Y G (d + 1) mX12_sayWord 216 [(2, 234), (0, x1), (0, x2), (0, x3), (0, x4), (0, x5), (0, x6), (0, x49)] (zpush r []) M' Q)) :
    Y G (d + 1) mX12_sayWord 207 [(2, 234), (0, x1), (0, x2), (0, x3), (0, x4), (0, x5), (0, x6), (0, x7)] [(0, x49)] M Q := by
  refine y_istore (ls' := [(2, 234), (0, x1), (0, x2), (0, x3), (0, x4), (0, x5), (0, x6), (0, x49)]) dX12_sayWord_207 rfl rfl ?_
  refine z_aloadn dX12_sayWord_209 rfl (Or.inl rfl) ?_
  refine z_iloadn dX12_sayWord_210 rfl ?_
  refine z_iload dX12_sayWord_211 rfl ?_
  refine y_cv (mt2 := mX12_put) (en := [(2, 234), (0, x2), (0, x49), (9, 0), (9, 0)]) (st := []) (as := [(0, x2), (0, x49)]) dX12_sayWord_213 lX12_429 kX12_put iX12_put eX12_put rfl sh234 (by decide +kernel) (Nat.le_of_ble_eq_true rfl) (Nat.le_of_ble_eq_true rfl) rfl ?_
  exact h
set_option maxRecDepth 20000 in
set_option maxHeartbeats 4000000 in
theorem bX12_sayWord_166 {G : zG} {d : Nat} {M : zM} {Q : zV → zM → Prop} (hG : zP G) {x1 x2 x3 x4 x5 x6 : Int}
    (h : ((x5 = 0 → Y G d mX12_lay 0 [(2, 234), (0, 1), (0, 0), (9, 0), (9, 0)] [] (zset M 253 0 x1) (fun r M' => Y G (d + 1) mX12_sayWord 188 [(2, 234), (0, x1), (0, x2), (0, x3), (0, x4), (0, x5), (0, x6), (9, 0)] (zpush r []) M' Q)) ∧ (¬ x5 = 0 → Y G d mX12_lay 0 [(2, 234), (0, 0), (0, 0), (9, 0), (9, 0)] [] (zset M 253 0 x1) (fun r M' => Y G (d + 1) mX12_sayWord 188 [(2, 234), (0, x1), (0, x2), (0, x3), (0, x4), (0, x5), (0, x6), (9, 0)] (zpush r []) M' Q)))) :
    Y G (d + 1) mX12_sayWord 166 [(2, 234), (0, x1), (0, x2), (0, x3), (0, x4), (0, x5), (0, x6), (9, 0)] [] M Q := by
  refine z_aloadn dX12_sayWord_166 rfl (Or.inl rfl) ?_
  refine y_getr (v := 253) hG dX12_sayWord_167 fX12_72 sh234 (by decide) rfl (by decide +kernel) (by decide) ?_
  refine z_iconst dX12_sayWord_170 ki_0 ?_
  refine z_iloadn dX12_sayWord_171 rfl ?_
  refine y_iast hG dX12_sayWord_172 sh253 ⟨by decide, by decide⟩ ?_
  refine z_aloadn dX12_sayWord_173 rfl (Or.inl rfl) ?_
  refine z_iload dX12_sayWord_174 rfl ?_
  refine z_ifeq (tgt := 183) dX12_sayWord_176 rfl (fun q => ?_) (fun q => ?_)
  · replace h := h.1 q
    refine z_iconst dX12_sayWord_183 ki_1 ?_
    refine z_iconst dX12_sayWord_184 ki_0 ?_
    refine y_cv (mt2 := mX12_lay) (en := [(2, 234), (0, 1), (0, 0), (9, 0), (9, 0)]) (st := []) (as := [(0, 1), (0, 0)]) dX12_sayWord_185 lX12_455 kX12_lay iX12_lay eX12_lay rfl sh234 (by decide +kernel) (Nat.le_of_ble_eq_true rfl) (Nat.le_of_ble_eq_true rfl) rfl ?_
    exact h
  · replace h := h.2 q
    refine z_iconst dX12_sayWord_179 ki_0 ?_
    refine z_goto (tgt := 184) dX12_sayWord_180 rfl ?_
    refine z_iconst dX12_sayWord_184 ki_0 ?_
    refine y_cv (mt2 := mX12_lay) (en := [(2, 234), (0, 0), (0, 0), (9, 0), (9, 0)]) (st := []) (as := [(0, 0), (0, 0)]) dX12_sayWord_185 lX12_455 kX12_lay iX12_lay eX12_lay rfl sh234 (by decide +kernel) (Nat.le_of_ble_eq_true rfl) (Nat.le_of_ble_eq_true rfl) rfl ?_
    exact h
set_option maxRecDepth 20000 in
set_option maxHeartbeats 4000000 in
theorem bX12_sayWord_87 {G : zG} {d : Nat} {M : zM} {Q : zV → zM → Prop} (hG : zP G) {x1 x2 x3 x4 : Int}
    (h : Q (9, 0) M) :
    Y G (d + 1) mX12_sayWord 87 [(2, 234), (0, x1), (0, x2), (0, x3), (0, x4), (9, 0), (9, 0), (9, 0)] [] M Q := by
  exact z_return dX12_sayWord_87 rfl rfl h
set_option maxRecDepth 20000 in
set_option maxHeartbeats 4000000 in
theorem bX12_sayIf_0 {G : zG} {d : Nat} {M : zM} {Q : zV → zM → Prop} (hG : zP G) {x1 x2 : Int}
    (h : Y G d mX12_findTerms 0 [(2, 234), (0, (-1)), (0, 4), (0, 0), (0, 0), (9, 0), (9, 0), (9, 0), (9, 0), (9, 0), (9, 0), (9, 0), (9, 0)] [] M (fun r M' => Y G (d + 1) mX12_sayIf 8 [(2, 234), (0, x1), (0, x2), (9, 0), (9, 0), (9, 0)] (zpush r []) M' Q)) :
    Y G (d + 1) mX12_sayIf 0 [(2, 234), (0, x1), (0, x2), (9, 0), (9, 0), (9, 0)] [] M Q := by
  refine z_aloadn dX12_sayIf_0 rfl (Or.inl rfl) ?_
  refine z_iconst dX12_sayIf_1 ki_m1 ?_
  refine z_iconst dX12_sayIf_2 ki_4 ?_
  refine z_iconst dX12_sayIf_3 ki_0 ?_
  refine z_iconst dX12_sayIf_4 ki_0 ?_
  refine y_cv (mt2 := mX12_findTerms) (en := [(2, 234), (0, (-1)), (0, 4), (0, 0), (0, 0), (9, 0), (9, 0), (9, 0), (9, 0), (9, 0), (9, 0), (9, 0), (9, 0)]) (st := []) (as := [(0, (-1)), (0, 4), (0, 0), (0, 0)]) dX12_sayIf_5 lX12_432 kX12_findTerms iX12_findTerms eX12_findTerms rfl sh234 (by decide +kernel) (Nat.le_of_ble_eq_true rfl) (Nat.le_of_ble_eq_true rfl) rfl ?_
  exact h
set_option maxRecDepth 20000 in
set_option maxHeartbeats 4000000 in
theorem bX12_sayIf_90 {G : zG} {d : Nat} {M : zM} {Q : zV → zM → Prop} (hG : zP G) {x1 x2 x3 x4 x5 : Int}
    (h : ((4 ≤ x5 → Y G d mX12_put 0 [(2, 234), (0, 4), (0, x4), (9, 0), (9, 0)] [] M (fun r M' => Y G (d + 1) mX12_sayIf 119 [(2, 234), (0, x1), (0, x2), (0, x3), (0, x4), (0, x5)] (zpush r []) M' Q)) ∧ (x5 < 4 → Y G d mX12_lay 0 [(2, 234), (0, x4), (0, x5), (9, 0), (9, 0)] [] M (fun r M' => Y G (d + 1) mX12_sayIf 104 [(2, 234), (0, x1), (0, x2), (0, x3), (0, x4), (0, x5)] (zpush r []) M' Q)))) :
    Y G (d + 1) mX12_sayIf 90 [(2, 234), (0, x1), (0, x2), (0, x3), (0, x4), (0, x5)] [] M Q := by
  refine z_iload dX12_sayIf_90 rfl ?_
  refine z_iconst dX12_sayIf_92 ki_4 ?_
  refine z_icmpge (tgt := 112) dX12_sayIf_93 rfl (fun q => ?_) (fun q => ?_)
  · replace h := h.1 q
    refine z_aloadn dX12_sayIf_112 rfl (Or.inl rfl) ?_
    refine z_iconst dX12_sayIf_113 ki_4 ?_
    refine z_iload dX12_sayIf_114 rfl ?_
    refine y_cv (mt2 := mX12_put) (en := [(2, 234), (0, 4), (0, x4), (9, 0), (9, 0)]) (st := []) (as := [(0, 4), (0, x4)]) dX12_sayIf_116 lX12_429 kX12_put iX12_put eX12_put rfl sh234 (by decide +kernel) (Nat.le_of_ble_eq_true rfl) (Nat.le_of_ble_eq_true rfl) rfl ?_
    exact h
  · replace h := h.2 q
    refine z_aloadn dX12_sayIf_96 rfl (Or.inl rfl) ?_
    refine z_iload dX12_sayIf_97 rfl ?_
    refine z_iload dX12_sayIf_99 rfl ?_
    refine y_cv (mt2 := mX12_lay) (en := [(2, 234), (0, x4), (0, x5), (9, 0), (9, 0)]) (st := []) (as := [(0, x4), (0, x5)]) dX12_sayIf_101 lX12_455 kX12_lay iX12_lay eX12_lay rfl sh234 (by decide +kernel) (Nat.le_of_ble_eq_true rfl) (Nat.le_of_ble_eq_true rfl) rfl ?_
    exact h
set_option maxRecDepth 20000 in
set_option maxHeartbeats 4000000 in
theorem bX12_sayIf_8 {G : zG} {d : Nat} {M : zM} {Q : zV → zM → Prop} (hG : zP G) {x1 x2 : Int}
    (h : ((zbit x2 6 → Y G d mX12_areAlike 0 [(2, 234), (0, 2), (0, 3)] [] M (fun r M' => Y G (d + 1) mX12_sayIf 25 [(2, 234), (0, x1), (0, x2), (0, x1), (9, 0), (9, 0)] (zpush r []) M' Q)) ∧ (¬ (zbit x2 6) → ((zbit x2 6 → ((x1 = 2 → (-2147483648 ≤ x1 - 2 ∧ x1 - 2 ≤ 2147483647) ∧ Y G d mX12_exchange 0 [(2, 234), (0, 0), (0, 1), (9, 0), (9, 0), (9, 0)] [] M (fun r M' => Y G (d + 1) mX12_sayIf 69 [(2, 234), (0, x1), (0, x2), (0, (x1 - 2)), (9, 0), (9, 0)] (zpush r []) M' Q)) ∧ (¬ x1 = 2 → ((¬ x1 = 3 → Y G (d + 1) mX12_sayIf 90 [(2, 234), (0, x1), (0, x2), (0, x1), (0, 2), (0, 0)] [] (zset (zset M 253 0 10) 253 1 x1) Q) ∧ (x1 = 3 → (-2147483648 ≤ x1 - 2 ∧ x1 - 2 ≤ 2147483647) ∧ Y G d mX12_exchange 0 [(2, 234), (0, 0), (0, 1), (9, 0), (9, 0), (9, 0)] [] M (fun r M' => Y G (d + 1) mX12_sayIf 69 [(2, 234), (0, x1), (0, x2), (0, (x1 - 2)), (9, 0), (9, 0)] (zpush r []) M' Q)))))) ∧ (¬ (zbit x2 6) → Y G (d + 1) mX12_sayIf 90 [(2, 234), (0, x1), (0, x2), (0, x1), (0, 2), (0, 0)] [] (zset (zset M 253 0 10) 253 1 x1) Q))))) :
    Y G (d + 1) mX12_sayIf 8 [(2, 234), (0, x1), (0, x2), (9, 0), (9, 0), (9, 0)] [] M Q := by
  refine z_iloadn dX12_sayIf_8 rfl ?_
  refine y_istoren (ls' := [(2, 234), (0, x1), (0, x2), (0, x1), (9, 0), (9, 0)]) dX12_sayIf_9 rfl rfl ?_
  refine z_iloadn dX12_sayIf_10 rfl ?_
  refine z_bipush dX12_sayIf_11 kb_6 ?_
  refine y_cs (mt2 := mX12_has) (en := [(0, x2), (0, 6)]) (st := []) (as := [(0, x2), (0, 6)]) dX12_sayIf_13 lX12_373 kX12_has tX12_has rfl (Nat.le_of_ble_eq_true rfl) (Nat.le_of_ble_eq_true rfl) rfl (s_has hG (fun q => ?_) (fun q => ?_))
  · replace h := h.1 q
    show Y G (d + 1) mX12_sayIf 16 [(2, 234), (0, x1), (0, x2), (0, x1), (9, 0), (9, 0)] [(0, 1)] M Q
    refine z_ifeq (tgt := 40) dX12_sayIf_16 rfl (fun q => absurd q (by decide)) (fun _ => ?_)
    refine z_aloadn dX12_sayIf_19 rfl (Or.inl rfl) ?_
    refine z_iconst dX12_sayIf_20 ki_2 ?_
    refine z_iconst dX12_sayIf_21 ki_3 ?_
    refine y_cv (mt2 := mX12_areAlike) (en := [(2, 234), (0, 2), (0, 3)]) (st := []) (as := [(0, 2), (0, 3)]) dX12_sayIf_22 lX12_452 kX12_areAlike iX12_areAlike eX12_areAlike rfl sh234 (by decide +kernel) (Nat.le_of_ble_eq_true rfl) (Nat.le_of_ble_eq_true rfl) rfl ?_
    exact h
  · replace h := h.2 q
    show Y G (d + 1) mX12_sayIf 16 [(2, 234), (0, x1), (0, x2), (0, x1), (9, 0), (9, 0)] [(0, 0)] M Q
    refine z_ifeq (tgt := 40) dX12_sayIf_16 rfl (fun _ => ?_) (fun q => absurd q (by decide))
    refine z_iloadn dX12_sayIf_40 rfl ?_
    refine z_bipush dX12_sayIf_41 kb_6 ?_
    refine y_cs (mt2 := mX12_has) (en := [(0, x2), (0, 6)]) (st := []) (as := [(0, x2), (0, 6)]) dX12_sayIf_43 lX12_373 kX12_has tX12_has rfl (Nat.le_of_ble_eq_true rfl) (Nat.le_of_ble_eq_true rfl) rfl (s_has hG (fun q => ?_) (fun q => ?_))
    · replace h := h.1 q
      show Y G (d + 1) mX12_sayIf 46 [(2, 234), (0, x1), (0, x2), (0, x1), (9, 0), (9, 0)] [(0, 1)] M Q
      refine z_ifeq (tgt := 69) dX12_sayIf_46 rfl (fun q => absurd q (by decide)) (fun _ => ?_)
      refine z_iloadn dX12_sayIf_49 rfl ?_
      refine z_iconst dX12_sayIf_50 ki_2 ?_
      refine z_icmpeq (tgt := 59) dX12_sayIf_51 rfl (fun q => ?_) (fun q => ?_)
      · replace h := h.1 q
        refine z_iloadn dX12_sayIf_59 rfl ?_
        refine z_iconst dX12_sayIf_60 ki_2 ?_
        obtain ⟨q1, h⟩ := h
        refine z_isub dX12_sayIf_61 q1 ?_
        refine y_istoren (ls' := [(2, 234), (0, x1), (0, x2), (0, (x1 - 2)), (9, 0), (9, 0)]) dX12_sayIf_62 rfl rfl ?_
        refine z_aloadn dX12_sayIf_63 rfl (Or.inl rfl) ?_
        refine z_iconst dX12_sayIf_64 ki_0 ?_
        refine z_iconst dX12_sayIf_65 ki_1 ?_
        refine y_cv (mt2 := mX12_exchange) (en := [(2, 234), (0, 0), (0, 1), (9, 0), (9, 0), (9, 0)]) (st := []) (as := [(0, 0), (0, 1)]) dX12_sayIf_66 lX12_426 kX12_exchange iX12_exchange eX12_exchange rfl sh234 (by decide +kernel) (Nat.le_of_ble_eq_true rfl) (Nat.le_of_ble_eq_true rfl) rfl ?_
        exact h
      · replace h := h.2 q
        refine z_iloadn dX12_sayIf_54 rfl ?_
        refine z_iconst dX12_sayIf_55 ki_3 ?_
        refine z_icmpne (tgt := 69) dX12_sayIf_56 rfl (fun q => ?_) (fun q => ?_)
        · replace h := h.1 q
          refine z_aloadn dX12_sayIf_69 rfl (Or.inl rfl) ?_
          refine y_getr (v := 253) hG dX12_sayIf_70 fX12_72 sh234 (by decide) rfl (by decide +kernel) (by decide) ?_
          refine z_iconst dX12_sayIf_73 ki_0 ?_
          refine z_bipush dX12_sayIf_74 kb_10 ?_
          refine y_iast hG dX12_sayIf_76 sh253 ⟨by decide, by decide⟩ ?_
          refine z_aloadn dX12_sayIf_77 rfl (Or.inl rfl) ?_
          refine y_getr (v := 253) hG dX12_sayIf_78 fX12_72 sh234 (by decide) rfl (by decide +kernel) (by decide) ?_
          refine z_iconst dX12_sayIf_81 ki_1 ?_
          refine z_iloadn dX12_sayIf_82 rfl ?_
          refine y_iast hG dX12_sayIf_83 sh253 ⟨by decide, by decide⟩ ?_
          refine z_iconst dX12_sayIf_84 ki_2 ?_
          refine y_istore (ls' := [(2, 234), (0, x1), (0, x2), (0, x1), (0, 2), (9, 0)]) dX12_sayIf_85 rfl rfl ?_
          refine z_iconst dX12_sayIf_87 ki_0 ?_
          refine y_istore (ls' := [(2, 234), (0, x1), (0, x2), (0, x1), (0, 2), (0, 0)]) dX12_sayIf_88 rfl rfl ?_
          exact h
        · replace h := h.2 q
          refine z_iloadn dX12_sayIf_59 rfl ?_
          refine z_iconst dX12_sayIf_60 ki_2 ?_
          obtain ⟨q2, h⟩ := h
          refine z_isub dX12_sayIf_61 q2 ?_
          refine y_istoren (ls' := [(2, 234), (0, x1), (0, x2), (0, (x1 - 2)), (9, 0), (9, 0)]) dX12_sayIf_62 rfl rfl ?_
          refine z_aloadn dX12_sayIf_63 rfl (Or.inl rfl) ?_
          refine z_iconst dX12_sayIf_64 ki_0 ?_
          refine z_iconst dX12_sayIf_65 ki_1 ?_
          refine y_cv (mt2 := mX12_exchange) (en := [(2, 234), (0, 0), (0, 1), (9, 0), (9, 0), (9, 0)]) (st := []) (as := [(0, 0), (0, 1)]) dX12_sayIf_66 lX12_426 kX12_exchange iX12_exchange eX12_exchange rfl sh234 (by decide +kernel) (Nat.le_of_ble_eq_true rfl) (Nat.le_of_ble_eq_true rfl) rfl ?_
          exact h
    · replace h := h.2 q
      show Y G (d + 1) mX12_sayIf 46 [(2, 234), (0, x1), (0, x2), (0, x1), (9, 0), (9, 0)] [(0, 0)] M Q
      refine z_ifeq (tgt := 69) dX12_sayIf_46 rfl (fun _ => ?_) (fun q => absurd q (by decide))
      refine z_aloadn dX12_sayIf_69 rfl (Or.inl rfl) ?_
      refine y_getr (v := 253) hG dX12_sayIf_70 fX12_72 sh234 (by decide) rfl (by decide +kernel) (by decide) ?_
      refine z_iconst dX12_sayIf_73 ki_0 ?_
      refine z_bipush dX12_sayIf_74 kb_10 ?_
      refine y_iast hG dX12_sayIf_76 sh253 ⟨by decide, by decide⟩ ?_
      refine z_aloadn dX12_sayIf_77 rfl (Or.inl rfl) ?_
      refine y_getr (v := 253) hG dX12_sayIf_78 fX12_72 sh234 (by decide) rfl (by decide +kernel) (by decide) ?_
      refine z_iconst dX12_sayIf_81 ki_1 ?_
      refine z_iloadn dX12_sayIf_82 rfl ?_
      refine y_iast hG dX12_sayIf_83 sh253 ⟨by decide, by decide⟩ ?_
      refine z_iconst dX12_sayIf_84 ki_2 ?_
      refine y_istore (ls' := [(2, 234), (0, x1), (0, x2), (0, x1), (0, 2), (9, 0)]) dX12_sayIf_85 rfl rfl ?_
      refine z_iconst dX12_sayIf_87 ki_0 ?_
      refine y_istore (ls' := [(2, 234), (0, x1), (0, x2), (0, x1), (0, 2), (0, 0)]) dX12_sayIf_88 rfl rfl ?_
      exact h
set_option maxRecDepth 20000 in
set_option maxHeartbeats 4000000 in
theorem bX12_sayIf_119 {G : zG} {d : Nat} {M : zM} {Q : zV → zM → Prop} (hG : zP G) {x1 x2 x3 x4 x5 : Int}
    (h : Q (9, 0) M) :
    Y G (d + 1) mX12_sayIf 119 [(2, 234), (0, x1), (0, x2), (0, x3), (0, x4), (0, x5)] [] M Q := by
  exact z_return dX12_sayIf_119 rfl rfl h
set_option maxRecDepth 20000 in
set_option maxHeartbeats 4000000 in
theorem bX12_sayIf_104 {G : zG} {d : Nat} {M : zM} {Q : zV → zM → Prop} (hG : zP G) {x1 x2 x3 x4 x5 x49 : Int}
    (h : (-2147483648 ≤ x5 + 1 ∧ x5 + 1 ≤ 2147483647) ∧ Y G (d + 1) mX12_sayIf 90 [(2, 234), (0, x1), (0, x2), (0, x3), (0, x49), (0, (x5 + 1))] [] M Q) :
    Y G (d + 1) mX12_sayIf 104 [(2, 234), (0, x1), (0, x2), (0, x3), (0, x4), (0, x5)] [(0, x49)] M Q := by
  refine y_istore (ls' := [(2, 234), (0, x1), (0, x2), (0, x3), (0, x49), (0, x5)]) dX12_sayIf_104 rfl rfl ?_
  obtain ⟨q1, h⟩ := h
  refine y_iinc (ls' := [(2, 234), (0, x1), (0, x2), (0, x3), (0, x49), (0, (x5 + 1))]) dX12_sayIf_106 rfl rfl q1 rfl ?_
  refine z_goto (tgt := 90) dX12_sayIf_109 rfl ?_
  exact h
set_option maxRecDepth 20000 in
set_option maxHeartbeats 4000000 in
theorem bX12_sayIf_25 {G : zG} {d : Nat} {M : zM} {Q : zV → zM → Prop} (hG : zP G) {x1 x2 x3 x49 : Int}
    (h : ((x49 = 0 → ((zbit x2 6 → ((x1 = 2 → (-2147483648 ≤ x1 - 2 ∧ x1 - 2 ≤ 2147483647) ∧ Y G d mX12_exchange 0 [(2, 234), (0, 0), (0, 1), (9, 0), (9, 0), (9, 0)] [] M (fun r M' => Y G (d + 1) mX12_sayIf 69 [(2, 234), (0, x1), (0, x2), (0, (x1 - 2)), (9, 0), (9, 0)] (zpush r []) M' Q)) ∧ (¬ x1 = 2 → ((¬ x1 = 3 → Y G (d + 1) mX12_sayIf 90 [(2, 234), (0, x1), (0, x2), (0, x3), (0, 2), (0, 0)] [] (zset (zset M 253 0 10) 253 1 x3) Q) ∧ (x1 = 3 → (-2147483648 ≤ x1 - 2 ∧ x1 - 2 ≤ 2147483647) ∧ Y G d mX12_exchange 0 [(2, 234), (0, 0), (0, 1), (9, 0), (9, 0), (9, 0)] [] M (fun r M' => Y G (d + 1) mX12_sayIf 69 [(2, 234), (0, x1), (0, x2), (0, (x1 - 2)), (9, 0), (9, 0)] (zpush r []) M' Q)))))) ∧ (¬ (zbit x2 6) → Y G (d + 1) mX12_sayIf 90 [(2, 234), (0, x1), (0, x2), (0, x3), (0, 2), (0, 0)] [] (zset (zset M 253 0 10) 253 1 x3) Q))) ∧ (¬ x49 = 0 → Y G d mX12_lay 0 [(2, 234), (0, 0), (0, 2), (9, 0), (9, 0)] [] M (fun r M' => Y G (d + 1) mX12_sayIf 36 [(2, 234), (0, x1), (0, x2), (0, x3), (9, 0), (9, 0)] (zpush r [(0, 4), (2, 234)]) M' Q)))) :
    Y G (d + 1) mX12_sayIf 25 [(2, 234), (0, x1), (0, x2), (0, x3), (9, 0), (9, 0)] [(0, x49)] M Q := by
  refine z_ifeq (tgt := 40) dX12_sayIf_25 rfl (fun q => ?_) (fun q => ?_)
  · replace h := h.1 q
    refine z_iloadn dX12_sayIf_40 rfl ?_
    refine z_bipush dX12_sayIf_41 kb_6 ?_
    refine y_cs (mt2 := mX12_has) (en := [(0, x2), (0, 6)]) (st := []) (as := [(0, x2), (0, 6)]) dX12_sayIf_43 lX12_373 kX12_has tX12_has rfl (Nat.le_of_ble_eq_true rfl) (Nat.le_of_ble_eq_true rfl) rfl (s_has hG (fun q => ?_) (fun q => ?_))
    · replace h := h.1 q
      show Y G (d + 1) mX12_sayIf 46 [(2, 234), (0, x1), (0, x2), (0, x3), (9, 0), (9, 0)] [(0, 1)] M Q
      refine z_ifeq (tgt := 69) dX12_sayIf_46 rfl (fun q => absurd q (by decide)) (fun _ => ?_)
      refine z_iloadn dX12_sayIf_49 rfl ?_
      refine z_iconst dX12_sayIf_50 ki_2 ?_
      refine z_icmpeq (tgt := 59) dX12_sayIf_51 rfl (fun q => ?_) (fun q => ?_)
      · replace h := h.1 q
        refine z_iloadn dX12_sayIf_59 rfl ?_
        refine z_iconst dX12_sayIf_60 ki_2 ?_
        obtain ⟨q1, h⟩ := h
        refine z_isub dX12_sayIf_61 q1 ?_
        refine y_istoren (ls' := [(2, 234), (0, x1), (0, x2), (0, (x1 - 2)), (9, 0), (9, 0)]) dX12_sayIf_62 rfl rfl ?_
        refine z_aloadn dX12_sayIf_63 rfl (Or.inl rfl) ?_
        refine z_iconst dX12_sayIf_64 ki_0 ?_
        refine z_iconst dX12_sayIf_65 ki_1 ?_
        refine y_cv (mt2 := mX12_exchange) (en := [(2, 234), (0, 0), (0, 1), (9, 0), (9, 0), (9, 0)]) (st := []) (as := [(0, 0), (0, 1)]) dX12_sayIf_66 lX12_426 kX12_exchange iX12_exchange eX12_exchange rfl sh234 (by decide +kernel) (Nat.le_of_ble_eq_true rfl) (Nat.le_of_ble_eq_true rfl) rfl ?_
        exact h
      · replace h := h.2 q
        refine z_iloadn dX12_sayIf_54 rfl ?_
        refine z_iconst dX12_sayIf_55 ki_3 ?_
        refine z_icmpne (tgt := 69) dX12_sayIf_56 rfl (fun q => ?_) (fun q => ?_)
        · replace h := h.1 q
          refine z_aloadn dX12_sayIf_69 rfl (Or.inl rfl) ?_
          refine y_getr (v := 253) hG dX12_sayIf_70 fX12_72 sh234 (by decide) rfl (by decide +kernel) (by decide) ?_
          refine z_iconst dX12_sayIf_73 ki_0 ?_
          refine z_bipush dX12_sayIf_74 kb_10 ?_
          refine y_iast hG dX12_sayIf_76 sh253 ⟨by decide, by decide⟩ ?_
          refine z_aloadn dX12_sayIf_77 rfl (Or.inl rfl) ?_
          refine y_getr (v := 253) hG dX12_sayIf_78 fX12_72 sh234 (by decide) rfl (by decide +kernel) (by decide) ?_
          refine z_iconst dX12_sayIf_81 ki_1 ?_
          refine z_iloadn dX12_sayIf_82 rfl ?_
          refine y_iast hG dX12_sayIf_83 sh253 ⟨by decide, by decide⟩ ?_
          refine z_iconst dX12_sayIf_84 ki_2 ?_
          refine y_istore (ls' := [(2, 234), (0, x1), (0, x2), (0, x3), (0, 2), (9, 0)]) dX12_sayIf_85 rfl rfl ?_
          refine z_iconst dX12_sayIf_87 ki_0 ?_
          refine y_istore (ls' := [(2, 234), (0, x1), (0, x2), (0, x3), (0, 2), (0, 0)]) dX12_sayIf_88 rfl rfl ?_
          exact h
        · replace h := h.2 q
          refine z_iloadn dX12_sayIf_59 rfl ?_
          refine z_iconst dX12_sayIf_60 ki_2 ?_
          obtain ⟨q2, h⟩ := h
          refine z_isub dX12_sayIf_61 q2 ?_
          refine y_istoren (ls' := [(2, 234), (0, x1), (0, x2), (0, (x1 - 2)), (9, 0), (9, 0)]) dX12_sayIf_62 rfl rfl ?_
          refine z_aloadn dX12_sayIf_63 rfl (Or.inl rfl) ?_
          refine z_iconst dX12_sayIf_64 ki_0 ?_
          refine z_iconst dX12_sayIf_65 ki_1 ?_
          refine y_cv (mt2 := mX12_exchange) (en := [(2, 234), (0, 0), (0, 1), (9, 0), (9, 0), (9, 0)]) (st := []) (as := [(0, 0), (0, 1)]) dX12_sayIf_66 lX12_426 kX12_exchange iX12_exchange eX12_exchange rfl sh234 (by decide +kernel) (Nat.le_of_ble_eq_true rfl) (Nat.le_of_ble_eq_true rfl) rfl ?_
          exact h
    · replace h := h.2 q
      show Y G (d + 1) mX12_sayIf 46 [(2, 234), (0, x1), (0, x2), (0, x3), (9, 0), (9, 0)] [(0, 0)] M Q
      refine z_ifeq (tgt := 69) dX12_sayIf_46 rfl (fun _ => ?_) (fun q => absurd q (by decide))
      refine z_aloadn dX12_sayIf_69 rfl (Or.inl rfl) ?_
      refine y_getr (v := 253) hG dX12_sayIf_70 fX12_72 sh234 (by decide) rfl (by decide +kernel) (by decide) ?_
      refine z_iconst dX12_sayIf_73 ki_0 ?_
      refine z_bipush dX12_sayIf_74 kb_10 ?_
      refine y_iast hG dX12_sayIf_76 sh253 ⟨by decide, by decide⟩ ?_
      refine z_aloadn dX12_sayIf_77 rfl (Or.inl rfl) ?_
      refine y_getr (v := 253) hG dX12_sayIf_78 fX12_72 sh234 (by decide) rfl (by decide +kernel) (by decide) ?_
      refine z_iconst dX12_sayIf_81 ki_1 ?_
      refine z_iloadn dX12_sayIf_82 rfl ?_
      refine y_iast hG dX12_sayIf_83 sh253 ⟨by decide, by decide⟩ ?_
      refine z_iconst dX12_sayIf_84 ki_2 ?_
      refine y_istore (ls' := [(2, 234), (0, x1), (0, x2), (0, x3), (0, 2), (9, 0)]) dX12_sayIf_85 rfl rfl ?_
      refine z_iconst dX12_sayIf_87 ki_0 ?_
      refine y_istore (ls' := [(2, 234), (0, x1), (0, x2), (0, x3), (0, 2), (0, 0)]) dX12_sayIf_88 rfl rfl ?_
      exact h
  · replace h := h.2 q
    refine z_aloadn dX12_sayIf_28 rfl (Or.inl rfl) ?_
    refine z_iconst dX12_sayIf_29 ki_4 ?_
    refine z_aloadn dX12_sayIf_30 rfl (Or.inl rfl) ?_
    refine z_iconst dX12_sayIf_31 ki_0 ?_
    refine z_iconst dX12_sayIf_32 ki_2 ?_
    refine y_cv (mt2 := mX12_lay) (en := [(2, 234), (0, 0), (0, 2), (9, 0), (9, 0)]) (st := [(0, 4), (2, 234)]) (as := [(0, 0), (0, 2)]) dX12_sayIf_33 lX12_455 kX12_lay iX12_lay eX12_lay rfl sh234 (by decide +kernel) (Nat.le_of_ble_eq_true rfl) (Nat.le_of_ble_eq_true rfl) rfl ?_
    exact h
set_option maxRecDepth 20000 in
set_option maxHeartbeats 4000000 in
theorem bX12_sayIf_69 {G : zG} {d : Nat} {M : zM} {Q : zV → zM → Prop} (hG : zP G) {x1 x2 x3 : Int}
    (h : Y G (d + 1) mX12_sayIf 90 [(2, 234), (0, x1), (0, x2), (0, x3), (0, 2), (0, 0)] [] (zset (zset M 253 0 10) 253 1 x3) Q) :
    Y G (d + 1) mX12_sayIf 69 [(2, 234), (0, x1), (0, x2), (0, x3), (9, 0), (9, 0)] [] M Q := by
  refine z_aloadn dX12_sayIf_69 rfl (Or.inl rfl) ?_
  refine y_getr (v := 253) hG dX12_sayIf_70 fX12_72 sh234 (by decide) rfl (by decide +kernel) (by decide) ?_
  refine z_iconst dX12_sayIf_73 ki_0 ?_
  refine z_bipush dX12_sayIf_74 kb_10 ?_
  refine y_iast hG dX12_sayIf_76 sh253 ⟨by decide, by decide⟩ ?_
  refine z_aloadn dX12_sayIf_77 rfl (Or.inl rfl) ?_
  refine y_getr (v := 253) hG dX12_sayIf_78 fX12_72 sh234 (by decide) rfl (by decide +kernel) (by decide) ?_
  refine z_iconst dX12_sayIf_81 ki_1 ?_
  refine z_iloadn dX12_sayIf_82 rfl ?_
  refine y_iast hG dX12_sayIf_83 sh253 ⟨by decide, by decide⟩ ?_
  refine z_iconst dX12_sayIf_84 ki_2 ?_
  refine y_istore (ls' := [(2, 234), (0, x1), (0, x2), (0, x3), (0, 2), (9, 0)]) dX12_sayIf_85 rfl rfl ?_
  refine z_iconst dX12_sayIf_87 ki_0 ?_
  refine y_istore (ls' := [(2, 234), (0, x1), (0, x2), (0, x3), (0, 2), (0, 0)]) dX12_sayIf_88 rfl rfl ?_
  exact h
set_option maxRecDepth 20000 in
set_option maxHeartbeats 4000000 in
theorem bX12_sayIf_36 {G : zG} {d : Nat} {M : zM} {Q : zV → zM → Prop} (hG : zP G) {x1 x2 x3 x49 : Int}
    (h : Y G d mX12_put 0 [(2, 234), (0, 4), (0, x49), (9, 0), (9, 0)] [] M (fun r M' => Y G (d + 1) mX12_sayIf 39 [(2, 234), (0, x1), (0, x2), (0, x3), (9, 0), (9, 0)] (zpush r []) M' Q)) :
    Y G (d + 1) mX12_sayIf 36 [(2, 234), (0, x1), (0, x2), (0, x3), (9, 0), (9, 0)] [(0, x49), (0, 4), (2, 234)] M Q := by
  refine y_cv (mt2 := mX12_put) (en := [(2, 234), (0, 4), (0, x49), (9, 0), (9, 0)]) (st := []) (as := [(0, 4), (0, x49)]) dX12_sayIf_36 lX12_429 kX12_put iX12_put eX12_put rfl sh234 (by decide +kernel) (Nat.le_of_ble_eq_true rfl) (Nat.le_of_ble_eq_true rfl) rfl ?_
  exact h
set_option maxRecDepth 20000 in
set_option maxHeartbeats 4000000 in
theorem bX12_sayIf_39 {G : zG} {d : Nat} {M : zM} {Q : zV → zM → Prop} (hG : zP G) {x1 x2 x3 : Int}
    (h : Q (9, 0) M) :
    Y G (d + 1) mX12_sayIf 39 [(2, 234), (0, x1), (0, x2), (0, x3), (9, 0), (9, 0)] [] M Q := by
  exact z_return dX12_sayIf_39 rfl rfl h
set_option maxRecDepth 20000 in
set_option maxHeartbeats 4000000 in
theorem bX12_say_0 {G : zG} {d : Nat} {M : zM} {Q : zV → zM → Prop} (hG : zP G) {x1 x2 : Int}
    (h : Y G (d + 1) mX12_say 14 [(2, 234), (0, x1), (0, x2), (0, 0), (9, 0), (9, 0)] [] (zset (zset M 234 36 0) 252 0 0) Q) :
    Y G (d + 1) mX12_say 0 [(2, 234), (0, x1), (0, x2), (9, 0), (9, 0), (9, 0)] [] M Q := by
  refine z_aloadn dX12_say_0 rfl (Or.inl rfl) ?_
  refine z_iconst dX12_say_1 ki_0 ?_
  refine y_putf (M' := zset M 234 36 0) hG dX12_say_2 fX12_406 sh234 (by decide) ⟨rfl, rfl⟩ p12_36 (fun q => absurd q (by decide)) (by decide) rfl ?_
  refine z_aloadn dX12_say_5 rfl (Or.inl rfl) ?_
  refine y_getr (v := 252) hG dX12_say_6 fX12_69 sh234 (by decide) rfl (by decide +kernel) (by decide) ?_
  refine z_iconst dX12_say_9 ki_0 ?_
  refine z_iconst dX12_say_10 ki_0 ?_
  refine y_iast hG dX12_say_11 sh252 ⟨by decide, by decide⟩ ?_
  refine z_iconst dX12_say_12 ki_0 ?_
  refine y_istoren (ls' := [(2, 234), (0, x1), (0, x2), (0, 0), (9, 0), (9, 0)]) dX12_say_13 rfl rfl ?_
  exact h
set_option maxRecDepth 20000 in
set_option maxHeartbeats 4000000 in
theorem bX12_say_14 {G : zG} {d : Nat} {M : zM} {Q : zV → zM → Prop} (hG : zP G) {x1 x2 x3 : Int}
    (h : (0 ≤ x1 ∧ x1 < 12) ∧ (((M 246 x1) ≤ x3 → Q (0, (M 252 1)) M) ∧ (x3 < (M 246 x1) → (-2147483648 ≤ 240 * x1 ∧ 240 * x1 ≤ 2147483647) ∧ (-2147483648 ≤ 2 * x3 ∧ 2 * x3 ≤ 2147483647) ∧ (-2147483648 ≤ (240 * x1) + (2 * x3) ∧ (240 * x1) + (2 * x3) ≤ 2147483647) ∧ (0 ≤ ((240 * x1) + (2 * x3)) ∧ ((240 * x1) + (2 * x3)) < 2880) ∧ (-2147483648 ≤ 240 * x1 ∧ 240 * x1 ≤ 2147483647) ∧ (-2147483648 ≤ 2 * x3 ∧ 2 * x3 ≤ 2147483647) ∧ (-2147483648 ≤ (240 * x1) + (2 * x3) ∧ (240 * x1) + (2 * x3) ≤ 2147483647) ∧ (-2147483648 ≤ ((240 * x1) + (2 * x3)) + 1 ∧ ((240 * x1) + (2 * x3)) + 1 ≤ 2147483647) ∧ (0 ≤ (((240 * x1) + (2 * x3)) + 1) ∧ (((240 * x1) + (2 * x3)) + 1) < 2880) ∧ ((1 < (M 247 ((240 * x1) + (2 * x3))) → ((¬ (M 247 ((240 * x1) + (2 * x3))) = 2 → ((¬ (M 247 ((240 * x1) + (2 * x3))) = 3 → ((¬ (M 247 ((240 * x1) + (2 * x3))) = 10 → ((6 ≤ (M 247 ((240 * x1) + (2 * x3))) → Y G d mX12_sayWord 0 [(2, 234), (0, (M 247 ((240 * x1) + (2 * x3)))), (0, 2), (0, x2), (9, 0), (9, 0), (9, 0), (9, 0)] [] M (fun r M' => Y G (d + 1) mX12_say 215 [(2, 234), (0, x1), (0, x2), (0, x3), (0, (M 247 ((240 * x1) + (2 * x3)))), (0, (M 247 (((240 * x1) + (2 * x3)) + 1)))] (zpush r []) M' Q)) ∧ ((M 247 ((240 * x1) + (2 * x3))) < 6 → Y G d mX12_sayWord 0 [(2, 234), (0, (M 247 ((240 * x1) + (2 * x3)))), (0, 1), (0, x2), (9, 0), (9, 0), (9, 0), (9, 0)] [] M (fun r M' => Y G (d + 1) mX12_say 215 [(2, 234), (0, x1), (0, x2), (0, x3), (0, (M 247 ((240 * x1) + (2 * x3)))), (0, (M 247 (((240 * x1) + (2 * x3)) + 1)))] (zpush r []) M' Q)))) ∧ ((M 247 ((240 * x1) + (2 * x3))) = 10 → Y G d mX12_sayIf 0 [(2, 234), (0, (M 247 (((240 * x1) + (2 * x3)) + 1))), (0, x2), (9, 0), (9, 0), (9, 0)] [] M (fun r M' => Y G (d + 1) mX12_say 193 [(2, 234), (0, x1), (0, x2), (0, x3), (0, (M 247 ((240 * x1) + (2 * x3)))), (0, (M 247 (((240 * x1) + (2 * x3)) + 1)))] (zpush r []) M' Q)))) ∧ ((M 247 ((240 * x1) + (2 * x3))) = 3 → Y G d mX12_saySum 0 [(2, 234), (0, (M 247 ((240 * x1) + (2 * x3)))), (0, (M 247 (((240 * x1) + (2 * x3)) + 1))), (0, 0), (0, x2), (9, 0), (9, 0), (9, 0), (9, 0)] [] M (fun r M' => Y G (d + 1) mX12_say 176 [(2, 234), (0, x1), (0, x2), (0, x3), (0, (M 247 ((240 * x1) + (2 * x3)))), (0, (M 247 (((240 * x1) + (2 * x3)) + 1)))] (zpush r []) M' Q)))) ∧ ((M 247 ((240 * x1) + (2 * x3))) = 2 → Y G d mX12_saySum 0 [(2, 234), (0, (M 247 ((240 * x1) + (2 * x3)))), (0, (zand (M 247 (((240 * x1) + (2 * x3)) + 1)) 255)), (0, (zshr (M 247 (((240 * x1) + (2 * x3)) + 1)) 8)), (0, x2), (9, 0), (9, 0), (9, 0), (9, 0)] [] M (fun r M' => Y G (d + 1) mX12_say 157 [(2, 234), (0, x1), (0, x2), (0, x3), (0, (M 247 ((240 * x1) + (2 * x3)))), (0, (M 247 (((240 * x1) + (2 * x3)) + 1)))] (zpush r []) M' Q)))) ∧ ((M 247 ((240 * x1) + (2 * x3))) ≤ 1 → (0 ≤ (M 234 36) ∧ (M 234 36) < 130) ∧ (0 ≤ (M 252 (M 234 36)) ∧ (M 252 (M 234 36)) < 600) ∧ (0 ≤ (M 234 36) ∧ (M 234 36) < 130) ∧ (-2147483648 ≤ (M 252 (M 234 36)) + 1 ∧ (M 252 (M 234 36)) + 1 ≤ 2147483647) ∧ (0 ≤ ((M 252 (M 234 36)) + 1) ∧ ((M 252 (M 234 36)) + 1) < 600) ∧ (-2147483648 ≤ (M 234 36) + 1 ∧ (M 234 36) + 1 ≤ 2147483647) ∧ (0 ≤ (M 234 36) ∧ (M 234 36) < 130) ∧ (-2147483648 ≤ (M 252 (M 234 36)) + 2 ∧ (M 252 (M 234 36)) + 2 ≤ 2147483647) ∧ (0 ≤ ((M 234 36) + 1) ∧ ((M 234 36) + 1) < 130) ∧ (-2147483648 ≤ (M 234 36) + 1 ∧ (M 234 36) + 1 ≤ 2147483647) ∧ (-2147483648 ≤ x3 + 1 ∧ x3 + 1 ≤ 2147483647) ∧ Y G (d + 1) mX12_say 14 [(2, 234), (0, x1), (0, x2), (0, (x3 + 1)), (9, 0), (9, 0)] [] (zset (zset (zset (zset M 251 (M 252 (M 234 36)) (M 247 ((240 * x1) + (2 * x3)))) 251 ((M 252 (M 234 36)) + 1) (M 247 (((240 * x1) + (2 * x3)) + 1))) 252 ((M 234 36) + 1) ((M 252 (M 234 36)) + 2)) 234 36 ((M 234 36) + 1)) Q))))) :
    Y G (d + 1) mX12_say 14 [(2, 234), (0, x1), (0, x2), (0, x3), (9, 0), (9, 0)] [] M Q := by
  refine z_iloadn dX12_say_14 rfl ?_
  refine z_aloadn dX12_say_15 rfl (Or.inl rfl) ?_
  refine y_getr (v := 246) hG dX12_say_16 fX12_50 sh234 (by decide) rfl (by decide +kernel) (by decide) ?_
  refine z_iloadn dX12_say_19 rfl ?_
  obtain ⟨q1, h⟩ := h
  refine y_iald (x := (M 246 x1)) dX12_say_20 sh246 q1 rfl ?_
  refine z_icmpge (tgt := 221) dX12_say_21 rfl (fun q => ?_) (fun q => ?_)
  · replace h := h.1 q
    refine z_aloadn dX12_say_221 rfl (Or.inl rfl) ?_
    refine y_getr (v := 252) hG dX12_say_222 fX12_69 sh234 (by decide) rfl (by decide +kernel) (by decide) ?_
    refine z_iconst dX12_say_225 ki_1 ?_
    refine y_iald (x := (M 252 1)) dX12_say_226 sh252 ⟨by decide, by decide⟩ rfl ?_
    exact z_ireturn dX12_say_227 (Or.inl rfl) rfl h
  · replace h := h.2 q
    refine z_aloadn dX12_say_24 rfl (Or.inl rfl) ?_
    refine y_getr (v := 247) hG dX12_say_25 fX12_53 sh234 (by decide) rfl (by decide +kernel) (by decide) ?_
    refine z_sipush dX12_say_28 ks_240 ?_
    refine z_iloadn dX12_say_31 rfl ?_
    obtain ⟨q2, h⟩ := h
    refine z_imul dX12_say_32 q2 ?_
    refine z_iconst dX12_say_33 ki_2 ?_
    refine z_iloadn dX12_say_34 rfl ?_
    obtain ⟨q3, h⟩ := h
    refine z_imul dX12_say_35 q3 ?_
    obtain ⟨q4, h⟩ := h
    refine z_iadd dX12_say_36 q4 ?_
    obtain ⟨q5, h⟩ := h
    refine y_iald (x := (M 247 ((240 * x1) + (2 * x3)))) dX12_say_37 sh247 q5 rfl ?_
    refine y_istore (ls' := [(2, 234), (0, x1), (0, x2), (0, x3), (0, (M 247 ((240 * x1) + (2 * x3)))), (9, 0)]) dX12_say_38 rfl rfl ?_
    refine z_aloadn dX12_say_40 rfl (Or.inl rfl) ?_
    refine y_getr (v := 247) hG dX12_say_41 fX12_53 sh234 (by decide) rfl (by decide +kernel) (by decide) ?_
    refine z_sipush dX12_say_44 ks_240 ?_
    refine z_iloadn dX12_say_47 rfl ?_
    obtain ⟨q6, h⟩ := h
    refine z_imul dX12_say_48 q6 ?_
    refine z_iconst dX12_say_49 ki_2 ?_
    refine z_iloadn dX12_say_50 rfl ?_
    obtain ⟨q7, h⟩ := h
    refine z_imul dX12_say_51 q7 ?_
    obtain ⟨q8, h⟩ := h
    refine z_iadd dX12_say_52 q8 ?_
    refine z_iconst dX12_say_53 ki_1 ?_
    obtain ⟨q9, h⟩ := h
    refine z_iadd dX12_say_54 q9 ?_
    obtain ⟨q10, h⟩ := h
    refine y_iald (x := (M 247 (((240 * x1) + (2 * x3)) + 1))) dX12_say_55 sh247 q10 rfl ?_
    refine y_istore (ls' := [(2, 234), (0, x1), (0, x2), (0, x3), (0, (M 247 ((240 * x1) + (2 * x3)))), (0, (M 247 (((240 * x1) + (2 * x3)) + 1)))]) dX12_say_56 rfl rfl ?_
    refine z_iload dX12_say_58 rfl ?_
    refine z_iconst dX12_say_60 ki_1 ?_
    refine z_icmpgt (tgt := 133) dX12_say_61 rfl (fun q => ?_) (fun q => ?_)
    · replace h := h.1 q
      refine z_iload dX12_say_133 rfl ?_
      refine z_iconst dX12_say_135 ki_2 ?_
      refine z_icmpne (tgt := 160) dX12_say_136 rfl (fun q => ?_) (fun q => ?_)
      · replace h := h.1 q
        refine z_iload dX12_say_160 rfl ?_
        refine z_iconst dX12_say_162 ki_3 ?_
        refine z_icmpne (tgt := 179) dX12_say_163 rfl (fun q => ?_) (fun q => ?_)
        · replace h := h.1 q
          refine z_iload dX12_say_179 rfl ?_
          refine z_bipush dX12_say_181 kb_10 ?_
          refine z_icmpne (tgt := 196) dX12_say_183 rfl (fun q => ?_) (fun q => ?_)
          · replace h := h.1 q
            refine z_aloadn dX12_say_196 rfl (Or.inl rfl) ?_
            refine z_iload dX12_say_197 rfl ?_
            refine z_iload dX12_say_199 rfl ?_
            refine z_bipush dX12_say_201 kb_6 ?_
            refine z_icmpge (tgt := 210) dX12_say_203 rfl (fun q => ?_) (fun q => ?_)
            · replace h := h.1 q
              refine z_iconst dX12_say_210 ki_2 ?_
              refine z_iloadn dX12_say_211 rfl ?_
              refine y_cv (mt2 := mX12_sayWord) (en := [(2, 234), (0, (M 247 ((240 * x1) + (2 * x3)))), (0, 2), (0, x2), (9, 0), (9, 0), (9, 0), (9, 0)]) (st := []) (as := [(0, (M 247 ((240 * x1) + (2 * x3)))), (0, 2), (0, x2)]) dX12_say_212 lX12_465 kX12_sayWord iX12_sayWord eX12_sayWord rfl sh234 (by decide +kernel) (Nat.le_of_ble_eq_true rfl) (Nat.le_of_ble_eq_true rfl) rfl ?_
              exact h
            · replace h := h.2 q
              refine z_iconst dX12_say_206 ki_1 ?_
              refine z_goto (tgt := 211) dX12_say_207 rfl ?_
              refine z_iloadn dX12_say_211 rfl ?_
              refine y_cv (mt2 := mX12_sayWord) (en := [(2, 234), (0, (M 247 ((240 * x1) + (2 * x3)))), (0, 1), (0, x2), (9, 0), (9, 0), (9, 0), (9, 0)]) (st := []) (as := [(0, (M 247 ((240 * x1) + (2 * x3)))), (0, 1), (0, x2)]) dX12_say_212 lX12_465 kX12_sayWord iX12_sayWord eX12_sayWord rfl sh234 (by decide +kernel) (Nat.le_of_ble_eq_true rfl) (Nat.le_of_ble_eq_true rfl) rfl ?_
              exact h
          · replace h := h.2 q
            refine z_aloadn dX12_say_186 rfl (Or.inl rfl) ?_
            refine z_iload dX12_say_187 rfl ?_
            refine z_iloadn dX12_say_189 rfl ?_
            refine y_cv (mt2 := mX12_sayIf) (en := [(2, 234), (0, (M 247 (((240 * x1) + (2 * x3)) + 1))), (0, x2), (9, 0), (9, 0), (9, 0)]) (st := []) (as := [(0, (M 247 (((240 * x1) + (2 * x3)) + 1))), (0, x2)]) dX12_say_190 lX12_462 kX12_sayIf iX12_sayIf eX12_sayIf rfl sh234 (by decide +kernel) (Nat.le_of_ble_eq_true rfl) (Nat.le_of_ble_eq_true rfl) rfl ?_
            exact h
        · replace h := h.2 q
          refine z_aloadn dX12_say_166 rfl (Or.inl rfl) ?_
          refine z_iload dX12_say_167 rfl ?_
          refine z_iload dX12_say_169 rfl ?_
          refine z_iconst dX12_say_171 ki_0 ?_
          refine z_iloadn dX12_say_172 rfl ?_
          refine y_cv (mt2 := mX12_saySum) (en := [(2, 234), (0, (M 247 ((240 * x1) + (2 * x3)))), (0, (M 247 (((240 * x1) + (2 * x3)) + 1))), (0, 0), (0, x2), (9, 0), (9, 0), (9, 0), (9, 0)]) (st := []) (as := [(0, (M 247 ((240 * x1) + (2 * x3)))), (0, (M 247 (((240 * x1) + (2 * x3)) + 1))), (0, 0), (0, x2)]) dX12_say_173 lX12_458 kX12_saySum iX12_saySum eX12_saySum rfl sh234 (by decide +kernel) (Nat.le_of_ble_eq_true rfl) (Nat.le_of_ble_eq_true rfl) rfl ?_
          exact h
      · replace h := h.2 q
        refine z_aloadn dX12_say_139 rfl (Or.inl rfl) ?_
        refine z_iload dX12_say_140 rfl ?_
        refine z_iload dX12_say_142 rfl ?_
        refine z_sipush dX12_say_144 ks_255 ?_
        refine z_iand dX12_say_147 ?_
        refine z_iload dX12_say_148 rfl ?_
        refine z_bipush dX12_say_150 kb_8 ?_
        refine z_ishr dX12_say_152 ?_
        refine z_iloadn dX12_say_153 rfl ?_
        refine y_cv (mt2 := mX12_saySum) (en := [(2, 234), (0, (M 247 ((240 * x1) + (2 * x3)))), (0, (zand (M 247 (((240 * x1) + (2 * x3)) + 1)) 255)), (0, (zshr (M 247 (((240 * x1) + (2 * x3)) + 1)) 8)), (0, x2), (9, 0), (9, 0), (9, 0), (9, 0)]) (st := []) (as := [(0, (M 247 ((240 * x1) + (2 * x3)))), (0, (zand (M 247 (((240 * x1) + (2 * x3)) + 1)) 255)), (0, (zshr (M 247 (((240 * x1) + (2 * x3)) + 1)) 8)), (0, x2)]) dX12_say_154 lX12_458 kX12_saySum iX12_saySum eX12_saySum rfl sh234 (by decide +kernel) (Nat.le_of_ble_eq_true rfl) (Nat.le_of_ble_eq_true rfl) rfl ?_
        exact h
    · replace h := h.2 q
      refine z_aloadn dX12_say_64 rfl (Or.inl rfl) ?_
      refine y_getr (v := 251) hG dX12_say_65 fX12_66 sh234 (by decide) rfl (by decide +kernel) (by decide) ?_
      refine z_aloadn dX12_say_68 rfl (Or.inl rfl) ?_
      refine y_getr (v := 252) hG dX12_say_69 fX12_69 sh234 (by decide) rfl (by decide +kernel) (by decide) ?_
      refine z_aloadn dX12_say_72 rfl (Or.inl rfl) ?_
      refine y_getf (x := (M 234 36)) dX12_say_73 fX12_406 sh234 (by decide) rfl rfl ?_
      obtain ⟨q11, h⟩ := h
      refine y_iald (x := (M 252 (M 234 36))) dX12_say_76 sh252 q11 rfl ?_
      refine z_iload dX12_say_77 rfl ?_
      obtain ⟨q12, h⟩ := h
      refine y_iast hG dX12_say_79 sh251 q12 ?_
      refine z_aloadn dX12_say_80 rfl (Or.inl rfl) ?_
      refine y_getr (v := 251) hG dX12_say_81 fX12_66 sh234 (by decide) rfl (by decide +kernel) (by decide) ?_
      refine z_aloadn dX12_say_84 rfl (Or.inl rfl) ?_
      refine y_getr (v := 252) hG dX12_say_85 fX12_69 sh234 (by decide) rfl (by decide +kernel) (by decide) ?_
      refine z_aloadn dX12_say_88 rfl (Or.inl rfl) ?_
      refine y_getf (x := (M 234 36)) dX12_say_89 fX12_406 sh234 (by decide) rfl (zset_ne (fun q => absurd q.1 (by decide))) ?_
      obtain ⟨q13, h⟩ := h
      refine y_iald (x := (M 252 (M 234 36))) dX12_say_92 sh252 q13 (zset_ne (fun q => absurd q.1 (by decide))) ?_
      refine z_iconst dX12_say_93 ki_1 ?_
      obtain ⟨q14, h⟩ := h
      refine z_iadd dX12_say_94 q14 ?_
      refine z_iload dX12_say_95 rfl ?_
      obtain ⟨q15, h⟩ := h
      refine y_iast hG dX12_say_97 sh251 q15 ?_
      refine z_aloadn dX12_say_98 rfl (Or.inl rfl) ?_
      refine y_getr (v := 252) hG dX12_say_99 fX12_69 sh234 (by decide) rfl (by decide +kernel) (by decide) ?_
      refine z_aloadn dX12_say_102 rfl (Or.inl rfl) ?_
      refine y_getf (x := (M 234 36)) dX12_say_103 fX12_406 sh234 (by decide) rfl (((zset_ne (fun q => absurd q.1 (by decide))).trans (zset_ne (fun q => absurd q.1 (by decide))))) ?_
      refine z_iconst dX12_say_106 ki_1 ?_
      obtain ⟨q16, h⟩ := h
      refine z_iadd dX12_say_107 q16 ?_
      refine z_aloadn dX12_say_108 rfl (Or.inl rfl) ?_
      refine y_getr (v := 252) hG dX12_say_109 fX12_69 sh234 (by decide) rfl (by decide +kernel) (by decide) ?_
      refine z_aloadn dX12_say_112 rfl (Or.inl rfl) ?_
      refine y_getf (x := (M 234 36)) dX12_say_113 fX12_406 sh234 (by decide) rfl (((zset_ne (fun q => absurd q.1 (by decide))).trans (zset_ne (fun q => absurd q.1 (by decide))))) ?_
      obtain ⟨q17, h⟩ := h
      refine y_iald (x := (M 252 (M 234 36))) dX12_say_116 sh252 q17 (((zset_ne (fun q => absurd q.1 (by decide))).trans (zset_ne (fun q => absurd q.1 (by decide))))) ?_
      refine z_iconst dX12_say_117 ki_2 ?_
      obtain ⟨q18, h⟩ := h
      refine z_iadd dX12_say_118 q18 ?_
      obtain ⟨q19, h⟩ := h
      refine y_iast hG dX12_say_119 sh252 q19 ?_
      refine z_aloadn dX12_say_120 rfl (Or.inl rfl) ?_
      refine z_dup dX12_say_121 (show (2 : Nat) ≠ 1 by decide) ?_
      refine y_getf (x := (M 234 36)) dX12_say_122 fX12_406 sh234 (by decide) rfl (((zset_ne (fun q => absurd q.1 (by decide))).trans (((zset_ne (fun q => absurd q.1 (by decide))).trans (zset_ne (fun q => absurd q.1 (by decide))))))) ?_
      refine z_iconst dX12_say_125 ki_1 ?_
      obtain ⟨q20, h⟩ := h
      refine z_iadd dX12_say_126 q20 ?_
      refine y_putf (M' := zset (zset (zset (zset M 251 (M 252 (M 234 36)) (M 247 ((240 * x1) + (2 * x3)))) 251 ((M 252 (M 234 36)) + 1) (M 247 (((240 * x1) + (2 * x3)) + 1))) 252 ((M 234 36) + 1) ((M 252 (M 234 36)) + 2)) 234 36 ((M 234 36) + 1)) hG dX12_say_127 fX12_406 sh234 (by decide) ⟨rfl, rfl⟩ p12_36 (fun q => absurd q (by decide)) (by decide) rfl ?_
      refine z_goto (tgt := 215) dX12_say_130 rfl ?_
      obtain ⟨q21, h⟩ := h
      refine y_iinc (ls' := [(2, 234), (0, x1), (0, x2), (0, (x3 + 1)), (0, (M 247 ((240 * x1) + (2 * x3)))), (0, (M 247 (((240 * x1) + (2 * x3)) + 1)))]) dX12_say_215 rfl rfl q21 rfl ?_
      refine z_goto (tgt := 14) dX12_say_218 rfl ?_
      refine z_sub (ls' := [(2, 234), (0, x1), (0, x2), (0, (x3 + 1)), (9, 0), (9, 0)]) ⟨Or.inl rfl, Or.inl rfl, Or.inl rfl, Or.inl rfl, Or.inr rfl, Or.inr rfl, trivial⟩ ?_
      exact h
set_option maxRecDepth 20000 in
set_option maxHeartbeats 4000000 in
theorem bX12_say_215 {G : zG} {d : Nat} {M : zM} {Q : zV → zM → Prop} (hG : zP G) {x1 x2 x3 x4 x5 : Int}
    (h : (-2147483648 ≤ x3 + 1 ∧ x3 + 1 ≤ 2147483647) ∧ Y G (d + 1) mX12_say 14 [(2, 234), (0, x1), (0, x2), (0, (x3 + 1)), (9, 0), (9, 0)] [] M Q) :
    Y G (d + 1) mX12_say 215 [(2, 234), (0, x1), (0, x2), (0, x3), (0, x4), (0, x5)] [] M Q := by
  obtain ⟨q1, h⟩ := h
  refine y_iinc (ls' := [(2, 234), (0, x1), (0, x2), (0, (x3 + 1)), (0, x4), (0, x5)]) dX12_say_215 rfl rfl q1 rfl ?_
  refine z_goto (tgt := 14) dX12_say_218 rfl ?_
  refine z_sub (ls' := [(2, 234), (0, x1), (0, x2), (0, (x3 + 1)), (9, 0), (9, 0)]) ⟨Or.inl rfl, Or.inl rfl, Or.inl rfl, Or.inl rfl, Or.inr rfl, Or.inr rfl, trivial⟩ ?_
  exact h
set_option maxRecDepth 20000 in
set_option maxHeartbeats 4000000 in
theorem bX12_say_193 {G : zG} {d : Nat} {M : zM} {Q : zV → zM → Prop} (hG : zP G) {x1 x2 x3 x4 x5 : Int}
    (h : (-2147483648 ≤ x3 + 1 ∧ x3 + 1 ≤ 2147483647) ∧ Y G (d + 1) mX12_say 14 [(2, 234), (0, x1), (0, x2), (0, (x3 + 1)), (9, 0), (9, 0)] [] M Q) :
    Y G (d + 1) mX12_say 193 [(2, 234), (0, x1), (0, x2), (0, x3), (0, x4), (0, x5)] [] M Q := by
  refine z_goto (tgt := 215) dX12_say_193 rfl ?_
  obtain ⟨q1, h⟩ := h
  refine y_iinc (ls' := [(2, 234), (0, x1), (0, x2), (0, (x3 + 1)), (0, x4), (0, x5)]) dX12_say_215 rfl rfl q1 rfl ?_
  refine z_goto (tgt := 14) dX12_say_218 rfl ?_
  refine z_sub (ls' := [(2, 234), (0, x1), (0, x2), (0, (x3 + 1)), (9, 0), (9, 0)]) ⟨Or.inl rfl, Or.inl rfl, Or.inl rfl, Or.inl rfl, Or.inr rfl, Or.inr rfl, trivial⟩ ?_
  exact h
set_option maxRecDepth 20000 in
set_option maxHeartbeats 4000000 in
theorem bX12_say_176 {G : zG} {d : Nat} {M : zM} {Q : zV → zM → Prop} (hG : zP G) {x1 x2 x3 x4 x5 : Int}
    (h : (-2147483648 ≤ x3 + 1 ∧ x3 + 1 ≤ 2147483647) ∧ Y G (d + 1) mX12_say 14 [(2, 234), (0, x1), (0, x2), (0, (x3 + 1)), (9, 0), (9, 0)] [] M Q) :
    Y G (d + 1) mX12_say 176 [(2, 234), (0, x1), (0, x2), (0, x3), (0, x4), (0, x5)] [] M Q := by
  refine z_goto (tgt := 215) dX12_say_176 rfl ?_
  obtain ⟨q1, h⟩ := h
  refine y_iinc (ls' := [(2, 234), (0, x1), (0, x2), (0, (x3 + 1)), (0, x4), (0, x5)]) dX12_say_215 rfl rfl q1 rfl ?_
  refine z_goto (tgt := 14) dX12_say_218 rfl ?_
  refine z_sub (ls' := [(2, 234), (0, x1), (0, x2), (0, (x3 + 1)), (9, 0), (9, 0)]) ⟨Or.inl rfl, Or.inl rfl, Or.inl rfl, Or.inl rfl, Or.inr rfl, Or.inr rfl, trivial⟩ ?_
  exact h
set_option maxRecDepth 20000 in
set_option maxHeartbeats 4000000 in
theorem bX12_say_157 {G : zG} {d : Nat} {M : zM} {Q : zV → zM → Prop} (hG : zP G) {x1 x2 x3 x4 x5 : Int}
    (h : (-2147483648 ≤ x3 + 1 ∧ x3 + 1 ≤ 2147483647) ∧ Y G (d + 1) mX12_say 14 [(2, 234), (0, x1), (0, x2), (0, (x3 + 1)), (9, 0), (9, 0)] [] M Q) :
    Y G (d + 1) mX12_say 157 [(2, 234), (0, x1), (0, x2), (0, x3), (0, x4), (0, x5)] [] M Q := by
  refine z_goto (tgt := 215) dX12_say_157 rfl ?_
  obtain ⟨q1, h⟩ := h
  refine y_iinc (ls' := [(2, 234), (0, x1), (0, x2), (0, (x3 + 1)), (0, x4), (0, x5)]) dX12_say_215 rfl rfl q1 rfl ?_
  refine z_goto (tgt := 14) dX12_say_218 rfl ?_
  refine z_sub (ls' := [(2, 234), (0, x1), (0, x2), (0, (x3 + 1)), (9, 0), (9, 0)]) ⟨Or.inl rfl, Or.inl rfl, Or.inl rfl, Or.inl rfl, Or.inr rfl, Or.inr rfl, trivial⟩ ?_
  exact h
set_option maxRecDepth 20000 in
set_option maxHeartbeats 4000000 in
theorem bX12_isAlike_0 {G : zG} {d : Nat} {M : zM} {Q : zV → zM → Prop} (hG : zP G) {x1 x2 x3 : Int}
    (h : ((¬ x1 = x2 → Y G d mX12_say 0 [(2, 234), (0, x1), (0, x3), (9, 0), (9, 0), (9, 0)] [] M (fun r M' => Y G (d + 1) mX12_isAlike 13 [(2, 234), (0, x1), (0, x2), (0, x3), (9, 0), (9, 0)] (zpush r []) M' Q)) ∧ (x1 = x2 → Q (0, 1) M))) :
    Y G (d + 1) mX12_isAlike 0 [(2, 234), (0, x1), (0, x2), (0, x3), (9, 0), (9, 0)] [] M Q := by
  refine z_iloadn dX12_isAlike_0 rfl ?_
  refine z_iloadn dX12_isAlike_1 rfl ?_
  refine z_icmpne (tgt := 7) dX12_isAlike_2 rfl (fun q => ?_) (fun q => ?_)
  · replace h := h.1 q
    refine z_aloadn dX12_isAlike_7 rfl (Or.inl rfl) ?_
    refine z_iloadn dX12_isAlike_8 rfl ?_
    refine z_iloadn dX12_isAlike_9 rfl ?_
    refine y_cv (mt2 := mX12_say) (en := [(2, 234), (0, x1), (0, x3), (9, 0), (9, 0), (9, 0)]) (st := []) (as := [(0, x1), (0, x3)]) dX12_isAlike_10 lX12_468 kX12_say iX12_say eX12_say rfl sh234 (by decide +kernel) (Nat.le_of_ble_eq_true rfl) (Nat.le_of_ble_eq_true rfl) rfl ?_
    exact h
  · replace h := h.2 q
    refine z_iconst dX12_isAlike_5 ki_1 ?_
    exact z_ireturn dX12_isAlike_6 (Or.inr ⟨rfl, ⟨by decide, by decide⟩⟩) rfl h
set_option maxRecDepth 20000 in
set_option maxHeartbeats 4000000 in
theorem bX12_isAlike_18 {G : zG} {d : Nat} {M : zM} {Q : zV → zM → Prop} (hG : zP G) {x1 x2 x3 x4 x5 : Int}
    (h : ((x4 ≤ x5 → Y G d mX12_say 0 [(2, 234), (0, x2), (0, x3), (9, 0), (9, 0), (9, 0)] [] M (fun r M' => Y G (d + 1) mX12_isAlike 51 [(2, 234), (0, x1), (0, x2), (0, x3), (0, x4), (0, x5)] (zpush r []) M' Q)) ∧ (x5 < x4 → (0 ≤ x5 ∧ x5 < 600) ∧ (0 ≤ x5 ∧ x5 < 600) ∧ (-2147483648 ≤ x5 + 1 ∧ x5 + 1 ≤ 2147483647) ∧ Y G (d + 1) mX12_isAlike 18 [(2, 234), (0, x1), (0, x2), (0, x3), (0, x4), (0, (x5 + 1))] [] (zset M 257 x5 (M 251 x5)) Q))) :
    Y G (d + 1) mX12_isAlike 18 [(2, 234), (0, x1), (0, x2), (0, x3), (0, x4), (0, x5)] [] M Q := by
  refine z_iload dX12_isAlike_18 rfl ?_
  refine z_iload dX12_isAlike_20 rfl ?_
  refine z_icmpge (tgt := 45) dX12_isAlike_22 rfl (fun q => ?_) (fun q => ?_)
  · replace h := h.1 q
    refine z_aloadn dX12_isAlike_45 rfl (Or.inl rfl) ?_
    refine z_iloadn dX12_isAlike_46 rfl ?_
    refine z_iloadn dX12_isAlike_47 rfl ?_
    refine y_cv (mt2 := mX12_say) (en := [(2, 234), (0, x2), (0, x3), (9, 0), (9, 0), (9, 0)]) (st := []) (as := [(0, x2), (0, x3)]) dX12_isAlike_48 lX12_468 kX12_say iX12_say eX12_say rfl sh234 (by decide +kernel) (Nat.le_of_ble_eq_true rfl) (Nat.le_of_ble_eq_true rfl) rfl ?_
    exact h
  · replace h := h.2 q
    refine z_aloadn dX12_isAlike_25 rfl (Or.inl rfl) ?_
    refine y_getr (v := 257) hG dX12_isAlike_26 fX12_84 sh234 (by decide) rfl (by decide +kernel) (by decide) ?_
    refine z_iload dX12_isAlike_29 rfl ?_
    refine z_aloadn dX12_isAlike_31 rfl (Or.inl rfl) ?_
    refine y_getr (v := 251) hG dX12_isAlike_32 fX12_66 sh234 (by decide) rfl (by decide +kernel) (by decide) ?_
    refine z_iload dX12_isAlike_35 rfl ?_
    obtain ⟨q1, h⟩ := h
    refine y_iald (x := (M 251 x5)) dX12_isAlike_37 sh251 q1 rfl ?_
    obtain ⟨q2, h⟩ := h
    refine y_iast hG dX12_isAlike_38 sh257 q2 ?_
    obtain ⟨q3, h⟩ := h
    refine y_iinc (ls' := [(2, 234), (0, x1), (0, x2), (0, x3), (0, x4), (0, (x5 + 1))]) dX12_isAlike_39 rfl rfl q3 rfl ?_
    refine z_goto (tgt := 18) dX12_isAlike_42 rfl ?_
    exact h
set_option maxRecDepth 20000 in
set_option maxHeartbeats 4000000 in
theorem bX12_isAlike_61 {G : zG} {d : Nat} {M : zM} {Q : zV → zM → Prop} (hG : zP G) {x1 x2 x3 x4 x5 : Int}
    (h : ((x4 ≤ x5 → Q (0, 1) M) ∧ (x5 < x4 → (0 ≤ x5 ∧ x5 < 600) ∧ (0 ≤ x5 ∧ x5 < 600) ∧ (((M 251 x5) = (M 257 x5) → (-2147483648 ≤ x5 + 1 ∧ x5 + 1 ≤ 2147483647) ∧ Y G (d + 1) mX12_isAlike 61 [(2, 234), (0, x1), (0, x2), (0, x3), (0, x4), (0, (x5 + 1))] [] M Q) ∧ (¬ (M 251 x5) = (M 257 x5) → Q (0, 0) M))))) :
    Y G (d + 1) mX12_isAlike 61 [(2, 234), (0, x1), (0, x2), (0, x3), (0, x4), (0, x5)] [] M Q := by
  refine z_iload dX12_isAlike_61 rfl ?_
  refine z_iload dX12_isAlike_63 rfl ?_
  refine z_icmpge (tgt := 93) dX12_isAlike_65 rfl (fun q => ?_) (fun q => ?_)
  · replace h := h.1 q
    refine z_iconst dX12_isAlike_93 ki_1 ?_
    exact z_ireturn dX12_isAlike_94 (Or.inr ⟨rfl, ⟨by decide, by decide⟩⟩) rfl h
  · replace h := h.2 q
    refine z_aloadn dX12_isAlike_68 rfl (Or.inl rfl) ?_
    refine y_getr (v := 251) hG dX12_isAlike_69 fX12_66 sh234 (by decide) rfl (by decide +kernel) (by decide) ?_
    refine z_iload dX12_isAlike_72 rfl ?_
    obtain ⟨q1, h⟩ := h
    refine y_iald (x := (M 251 x5)) dX12_isAlike_74 sh251 q1 rfl ?_
    refine z_aloadn dX12_isAlike_75 rfl (Or.inl rfl) ?_
    refine y_getr (v := 257) hG dX12_isAlike_76 fX12_84 sh234 (by decide) rfl (by decide +kernel) (by decide) ?_
    refine z_iload dX12_isAlike_79 rfl ?_
    obtain ⟨q2, h⟩ := h
    refine y_iald (x := (M 257 x5)) dX12_isAlike_81 sh257 q2 rfl ?_
    refine z_icmpeq (tgt := 87) dX12_isAlike_82 rfl (fun q => ?_) (fun q => ?_)
    · replace h := h.1 q
      obtain ⟨q3, h⟩ := h
      refine y_iinc (ls' := [(2, 234), (0, x1), (0, x2), (0, x3), (0, x4), (0, (x5 + 1))]) dX12_isAlike_87 rfl rfl q3 rfl ?_
      refine z_goto (tgt := 61) dX12_isAlike_90 rfl ?_
      exact h
    · replace h := h.2 q
      refine z_iconst dX12_isAlike_85 ki_0 ?_
      exact z_ireturn dX12_isAlike_86 (Or.inr ⟨rfl, ⟨by decide, by decide⟩⟩) rfl h
set_option maxRecDepth 20000 in
set_option maxHeartbeats 4000000 in
theorem bX12_isAlike_13 {G : zG} {d : Nat} {M : zM} {Q : zV → zM → Prop} (hG : zP G) {x1 x2 x3 x49 : Int}
    (h : Y G (d + 1) mX12_isAlike 18 [(2, 234), (0, x1), (0, x2), (0, x3), (0, x49), (0, 0)] [] M Q) :
    Y G (d + 1) mX12_isAlike 13 [(2, 234), (0, x1), (0, x2), (0, x3), (9, 0), (9, 0)] [(0, x49)] M Q := by
  refine y_istore (ls' := [(2, 234), (0, x1), (0, x2), (0, x3), (0, x49), (9, 0)]) dX12_isAlike_13 rfl rfl ?_
  refine z_iconst dX12_isAlike_15 ki_0 ?_
  refine y_istore (ls' := [(2, 234), (0, x1), (0, x2), (0, x3), (0, x49), (0, 0)]) dX12_isAlike_16 rfl rfl ?_
  exact h
set_option maxRecDepth 20000 in
set_option maxHeartbeats 4000000 in
theorem bX12_isAlike_51 {G : zG} {d : Nat} {M : zM} {Q : zV → zM → Prop} (hG : zP G) {x1 x2 x3 x4 x5 x49 : Int}
    (h : ((x49 = x4 → Y G (d + 1) mX12_isAlike 61 [(2, 234), (0, x1), (0, x2), (0, x3), (0, x4), (0, 0)] [] M Q) ∧ (¬ x49 = x4 → Q (0, 0) M))) :
    Y G (d + 1) mX12_isAlike 51 [(2, 234), (0, x1), (0, x2), (0, x3), (0, x4), (0, x5)] [(0, x49)] M Q := by
  refine z_iload dX12_isAlike_51 rfl ?_
  refine z_icmpeq (tgt := 58) dX12_isAlike_53 rfl (fun q => ?_) (fun q => ?_)
  · replace h := h.1 q
    refine z_iconst dX12_isAlike_58 ki_0 ?_
    refine y_istore (ls' := [(2, 234), (0, x1), (0, x2), (0, x3), (0, x4), (0, 0)]) dX12_isAlike_59 rfl rfl ?_
    exact h
  · replace h := h.2 q
    refine z_iconst dX12_isAlike_56 ki_0 ?_
    exact z_ireturn dX12_isAlike_57 (Or.inr ⟨rfl, ⟨by decide, by decide⟩⟩) rfl h
set_option maxRecDepth 20000 in
set_option maxHeartbeats 4000000 in
theorem bX12_alike_0 {G : zG} {d : Nat} {M : zM} {Q : zV → zM → Prop} (hG : zP G) {x1 x2 : Int}
    (h : (-1000 ≤ (M 235 0) ∧ (M 235 0) ≤ 1000) ∧ ((0 ≤ x1 ∧ x1 < (M 235 0) → (-1000 ≤ (M 235 0) ∧ (M 235 0) ≤ 1000) ∧ ((0 ≤ x2 ∧ x2 < (M 235 0) → Y G (d + 1) mX12_isAlike 0 [(2, 234), (0, x1), (0, x2), (0, (M 235 4)), (9, 0), (9, 0)] [] M (fun r M' => Y G (d + 2) mX12_alike 28 [(2, 234), (0, x1), (0, x2)] (zpush r []) M' Q)) ∧ (¬ (0 ≤ x2 ∧ x2 < (M 235 0)) → Q (0, (-1)) M))) ∧ (¬ (0 ≤ x1 ∧ x1 < (M 235 0)) → Q (0, (-1)) M))) :
    Y G (d + 2) mX12_alike 0 [(2, 234), (0, x1), (0, x2)] [] M Q := by
  refine z_aloadn dX12_alike_0 rfl (Or.inl rfl) ?_
  refine z_iloadn dX12_alike_1 rfl ?_
  obtain ⟨q1, h⟩ := h
  refine y_cv (mt2 := mX12_isQuestion) (en := [(2, 234), (0, x1)]) (st := []) (as := [(0, x1)]) dX12_alike_2 lX12_392 kX12_isQuestion iX12_isQuestion eX12_isQuestion rfl sh234 (by decide +kernel) (Nat.le_of_ble_eq_true rfl) (Nat.le_of_ble_eq_true rfl) rfl (s_misQuestion hG rfl q1 (fun q => ?_) (fun q => ?_))
  · replace h := h.1 q
    show Y G (d + 2) mX12_alike 5 [(2, 234), (0, x1), (0, x2)] [(0, 1)] M Q
    refine z_ifeq (tgt := 39) dX12_alike_5 rfl (fun q => absurd q (by decide)) (fun _ => ?_)
    refine z_aloadn dX12_alike_8 rfl (Or.inl rfl) ?_
    refine z_iloadn dX12_alike_9 rfl ?_
    obtain ⟨q2, h⟩ := h
    refine y_cv (mt2 := mX12_isQuestion) (en := [(2, 234), (0, x2)]) (st := []) (as := [(0, x2)]) dX12_alike_10 lX12_392 kX12_isQuestion iX12_isQuestion eX12_isQuestion rfl sh234 (by decide +kernel) (Nat.le_of_ble_eq_true rfl) (Nat.le_of_ble_eq_true rfl) rfl (s_misQuestion hG rfl q2 (fun q => ?_) (fun q => ?_))
    · replace h := h.1 q
      show Y G (d + 2) mX12_alike 13 [(2, 234), (0, x1), (0, x2)] [(0, 1)] M Q
      refine z_ifeq (tgt := 39) dX12_alike_13 rfl (fun q => absurd q (by decide)) (fun _ => ?_)
      refine z_aloadn dX12_alike_16 rfl (Or.inl rfl) ?_
      refine z_iloadn dX12_alike_17 rfl ?_
      refine z_iloadn dX12_alike_18 rfl ?_
      refine z_aloadn dX12_alike_19 rfl (Or.inl rfl) ?_
      refine y_getr (v := 235) hG dX12_alike_20 fX12_7 sh234 (by decide) rfl (by decide +kernel) (by decide) ?_
      refine z_iconst dX12_alike_23 ki_4 ?_
      refine y_iald (x := (M 235 4)) dX12_alike_24 sh235 ⟨by decide, by decide⟩ rfl ?_
      refine y_cv (mt2 := mX12_isAlike) (en := [(2, 234), (0, x1), (0, x2), (0, (M 235 4)), (9, 0), (9, 0)]) (st := []) (as := [(0, x1), (0, x2), (0, (M 235 4))]) dX12_alike_25 lX12_471 kX12_isAlike iX12_isAlike eX12_isAlike rfl sh234 (by decide +kernel) (Nat.le_of_ble_eq_true rfl) (Nat.le_of_ble_eq_true rfl) rfl ?_
      exact h
    · replace h := h.2 q
      show Y G (d + 2) mX12_alike 13 [(2, 234), (0, x1), (0, x2)] [(0, 0)] M Q
      refine z_ifeq (tgt := 39) dX12_alike_13 rfl (fun _ => ?_) (fun q => absurd q (by decide))
      refine z_iconst dX12_alike_39 ki_m1 ?_
      exact z_ireturn dX12_alike_40 (Or.inl rfl) rfl h
  · replace h := h.2 q
    show Y G (d + 2) mX12_alike 5 [(2, 234), (0, x1), (0, x2)] [(0, 0)] M Q
    refine z_ifeq (tgt := 39) dX12_alike_5 rfl (fun _ => ?_) (fun q => absurd q (by decide))
    refine z_iconst dX12_alike_39 ki_m1 ?_
    exact z_ireturn dX12_alike_40 (Or.inl rfl) rfl h
set_option maxRecDepth 20000 in
set_option maxHeartbeats 4000000 in
theorem bX12_alike_28 {G : zG} {d : Nat} {M : zM} {Q : zV → zM → Prop} (hG : zP G) {x1 x2 x49 : Int}
    (h : ((x49 = 0 → Q (0, 0) M) ∧ (¬ x49 = 0 → Q (0, 1) M))) :
    Y G (d + 2) mX12_alike 28 [(2, 234), (0, x1), (0, x2)] [(0, x49)] M Q := by
  refine z_ifeq (tgt := 35) dX12_alike_28 rfl (fun q => ?_) (fun q => ?_)
  · replace h := h.1 q
    refine z_iconst dX12_alike_35 ki_0 ?_
    refine z_goto (tgt := 40) dX12_alike_36 rfl ?_
    exact z_ireturn dX12_alike_40 (Or.inl rfl) rfl h
  · replace h := h.2 q
    refine z_iconst dX12_alike_31 ki_1 ?_
    refine z_goto (tgt := 40) dX12_alike_32 rfl ?_
    exact z_ireturn dX12_alike_40 (Or.inl rfl) rfl h
set_option maxRecDepth 20000 in
set_option maxHeartbeats 4000000 in
theorem bX12_nearly_0 {G : zG} {d : Nat} {M : zM} {Q : zV → zM → Prop} (hG : zP G) {x1 x2 : Int}
    (h : (-1000 ≤ (M 235 0) ∧ (M 235 0) ≤ 1000) ∧ ((0 ≤ x1 ∧ x1 < (M 235 0) → (-1000 ≤ (M 235 0) ∧ (M 235 0) ≤ 1000) ∧ ((0 ≤ x2 ∧ x2 < (M 235 0) → Y G (d + 1) mX12_isAlike 0 [(2, 234), (0, x1), (0, x2), (0, 255), (9, 0), (9, 0)] [] M (fun r M' => Y G (d + 2) mX12_nearly 27 [(2, 234), (0, x1), (0, x2)] (zpush r []) M' Q)) ∧ (¬ (0 ≤ x2 ∧ x2 < (M 235 0)) → Q (0, (-1)) M))) ∧ (¬ (0 ≤ x1 ∧ x1 < (M 235 0)) → Q (0, (-1)) M))) :
    Y G (d + 2) mX12_nearly 0 [(2, 234), (0, x1), (0, x2)] [] M Q := by
  refine z_aloadn dX12_nearly_0 rfl (Or.inl rfl) ?_
  refine z_iloadn dX12_nearly_1 rfl ?_
  obtain ⟨q1, h⟩ := h
  refine y_cv (mt2 := mX12_isQuestion) (en := [(2, 234), (0, x1)]) (st := []) (as := [(0, x1)]) dX12_nearly_2 lX12_392 kX12_isQuestion iX12_isQuestion eX12_isQuestion rfl sh234 (by decide +kernel) (Nat.le_of_ble_eq_true rfl) (Nat.le_of_ble_eq_true rfl) rfl (s_misQuestion hG rfl q1 (fun q => ?_) (fun q => ?_))
  · replace h := h.1 q
    show Y G (d + 2) mX12_nearly 5 [(2, 234), (0, x1), (0, x2)] [(0, 1)] M Q
    refine z_ifeq (tgt := 16) dX12_nearly_5 rfl (fun q => absurd q (by decide)) (fun _ => ?_)
    refine z_aloadn dX12_nearly_8 rfl (Or.inl rfl) ?_
    refine z_iloadn dX12_nearly_9 rfl ?_
    obtain ⟨q2, h⟩ := h
    refine y_cv (mt2 := mX12_isQuestion) (en := [(2, 234), (0, x2)]) (st := []) (as := [(0, x2)]) dX12_nearly_10 lX12_392 kX12_isQuestion iX12_isQuestion eX12_isQuestion rfl sh234 (by decide +kernel) (Nat.le_of_ble_eq_true rfl) (Nat.le_of_ble_eq_true rfl) rfl (s_misQuestion hG rfl q2 (fun q => ?_) (fun q => ?_))
    · replace h := h.1 q
      show Y G (d + 2) mX12_nearly 13 [(2, 234), (0, x1), (0, x2)] [(0, 1)] M Q
      refine z_ifne (tgt := 18) dX12_nearly_13 rfl (fun _ => ?_) (fun q => absurd q (by decide))
      refine z_aloadn dX12_nearly_18 rfl (Or.inl rfl) ?_
      refine z_iloadn dX12_nearly_19 rfl ?_
      refine z_iloadn dX12_nearly_20 rfl ?_
      refine z_sipush dX12_nearly_21 ks_255 ?_
      refine y_cv (mt2 := mX12_isAlike) (en := [(2, 234), (0, x1), (0, x2), (0, 255), (9, 0), (9, 0)]) (st := []) (as := [(0, x1), (0, x2), (0, 255)]) dX12_nearly_24 lX12_471 kX12_isAlike iX12_isAlike eX12_isAlike rfl sh234 (by decide +kernel) (Nat.le_of_ble_eq_true rfl) (Nat.le_of_ble_eq_true rfl) rfl ?_
      exact h
    · replace h := h.2 q
      show Y G (d + 2) mX12_nearly 13 [(2, 234), (0, x1), (0, x2)] [(0, 0)] M Q
      refine z_ifne (tgt := 18) dX12_nearly_13 rfl (fun q => absurd q (by decide)) (fun _ => ?_)
      refine z_iconst dX12_nearly_16 ki_m1 ?_
      exact z_ireturn dX12_nearly_17 (Or.inl rfl) rfl h
  · replace h := h.2 q
    show Y G (d + 2) mX12_nearly 5 [(2, 234), (0, x1), (0, x2)] [(0, 0)] M Q
    refine z_ifeq (tgt := 16) dX12_nearly_5 rfl (fun _ => ?_) (fun q => absurd q (by decide))
    refine z_iconst dX12_nearly_16 ki_m1 ?_
    exact z_ireturn dX12_nearly_17 (Or.inl rfl) rfl h
set_option maxRecDepth 20000 in
set_option maxHeartbeats 4000000 in
theorem bX12_nearly_27 {G : zG} {d : Nat} {M : zM} {Q : zV → zM → Prop} (hG : zP G) {x1 x2 x49 : Int}
    (h : ((x49 = 0 → Q (0, 0) M) ∧ (¬ x49 = 0 → Y G (d + 1) mX12_isAlike 0 [(2, 234), (0, x1), (0, x2), (0, (M 235 4)), (9, 0), (9, 0)] [] M (fun r M' => Y G (d + 2) mX12_nearly 42 [(2, 234), (0, x1), (0, x2)] (zpush r []) M' Q)))) :
    Y G (d + 2) mX12_nearly 27 [(2, 234), (0, x1), (0, x2)] [(0, x49)] M Q := by
  refine z_ifeq (tgt := 49) dX12_nearly_27 rfl (fun q => ?_) (fun q => ?_)
  · replace h := h.1 q
    refine z_iconst dX12_nearly_49 ki_0 ?_
    exact z_ireturn dX12_nearly_50 (Or.inl rfl) rfl h
  · replace h := h.2 q
    refine z_aloadn dX12_nearly_30 rfl (Or.inl rfl) ?_
    refine z_iloadn dX12_nearly_31 rfl ?_
    refine z_iloadn dX12_nearly_32 rfl ?_
    refine z_aloadn dX12_nearly_33 rfl (Or.inl rfl) ?_
    refine y_getr (v := 235) hG dX12_nearly_34 fX12_7 sh234 (by decide) rfl (by decide +kernel) (by decide) ?_
    refine z_iconst dX12_nearly_37 ki_4 ?_
    refine y_iald (x := (M 235 4)) dX12_nearly_38 sh235 ⟨by decide, by decide⟩ rfl ?_
    refine y_cv (mt2 := mX12_isAlike) (en := [(2, 234), (0, x1), (0, x2), (0, (M 235 4)), (9, 0), (9, 0)]) (st := []) (as := [(0, x1), (0, x2), (0, (M 235 4))]) dX12_nearly_39 lX12_471 kX12_isAlike iX12_isAlike eX12_isAlike rfl sh234 (by decide +kernel) (Nat.le_of_ble_eq_true rfl) (Nat.le_of_ble_eq_true rfl) rfl ?_
    exact h
set_option maxRecDepth 20000 in
set_option maxHeartbeats 4000000 in
theorem bX12_nearly_42 {G : zG} {d : Nat} {M : zM} {Q : zV → zM → Prop} (hG : zP G) {x1 x2 x49 : Int}
    (h : ((¬ x49 = 0 → Q (0, 0) M) ∧ (x49 = 0 → Q (0, 1) M))) :
    Y G (d + 2) mX12_nearly 42 [(2, 234), (0, x1), (0, x2)] [(0, x49)] M Q := by
  refine z_ifne (tgt := 49) dX12_nearly_42 rfl (fun q => ?_) (fun q => ?_)
  · replace h := h.1 q
    refine z_iconst dX12_nearly_49 ki_0 ?_
    exact z_ireturn dX12_nearly_50 (Or.inl rfl) rfl h
  · replace h := h.2 q
    refine z_iconst dX12_nearly_45 ki_1 ?_
    refine z_goto (tgt := 50) dX12_nearly_46 rfl ?_
    exact z_ireturn dX12_nearly_50 (Or.inl rfl) rfl h
set_option maxRecDepth 20000 in
set_option maxHeartbeats 4000000 in
theorem bX12_nextWorld_0 {G : zG} {d : Nat} {M : zM} {Q : zV → zM → Prop} (hG : zP G) {x1 : Int}
    (h : Y G (d + 1) mX12_nextWorld 2 [(2, 234), (0, x1), (0, 3)] [] M Q) :
    Y G (d + 1) mX12_nextWorld 0 [(2, 234), (0, x1), (9, 0)] [] M Q := by
  refine z_iconst dX12_nextWorld_0 ki_3 ?_
  refine y_istoren (ls' := [(2, 234), (0, x1), (0, 3)]) dX12_nextWorld_1 rfl rfl ?_
  exact h
set_option maxRecDepth 20000 in
set_option maxHeartbeats 4000000 in
theorem bX12_nextWorld_2 {G : zG} {d : Nat} {M : zM} {Q : zV → zM → Prop} (hG : zP G) {x1 x2 : Int}
    (h : ((x2 < 0 → Q (0, 0) M) ∧ (0 ≤ x2 → ((zbit x1 x2 → (0 ≤ x2 ∧ x2 < 4) ∧ ((9 ≤ (M 249 x2) → (0 ≤ x2 ∧ x2 < 4) ∧ (-2147483648 ≤ x2 + (-1) ∧ x2 + (-1) ≤ 2147483647) ∧ Y G (d + 1) mX12_nextWorld 2 [(2, 234), (0, x1), (0, (x2 + (-1)))] [] (zset M 249 x2 0) Q) ∧ ((M 249 x2) < 9 → (0 ≤ x2 ∧ x2 < 4) ∧ (-2147483648 ≤ (M 249 x2) + 1 ∧ (M 249 x2) + 1 ≤ 2147483647) ∧ (0 ≤ x2 ∧ x2 < 4) ∧ Q (0, 1) (zset M 249 x2 ((M 249 x2) + 1))))) ∧ (¬ (zbit x1 x2) → (-2147483648 ≤ x2 + (-1) ∧ x2 + (-1) ≤ 2147483647) ∧ Y G (d + 1) mX12_nextWorld 2 [(2, 234), (0, x1), (0, (x2 + (-1)))] [] M Q))))) :
    Y G (d + 1) mX12_nextWorld 2 [(2, 234), (0, x1), (0, x2)] [] M Q := by
  refine z_iloadn dX12_nextWorld_2 rfl ?_
  refine z_iflt (tgt := 53) dX12_nextWorld_3 rfl (fun q => ?_) (fun q => ?_)
  · replace h := h.1 q
    refine z_iconst dX12_nextWorld_53 ki_0 ?_
    exact z_ireturn dX12_nextWorld_54 (Or.inr ⟨rfl, ⟨by decide, by decide⟩⟩) rfl h
  · replace h := h.2 q
    refine z_iloadn dX12_nextWorld_6 rfl ?_
    refine z_iloadn dX12_nextWorld_7 rfl ?_
    refine y_cs (mt2 := mX12_has) (en := [(0, x1), (0, x2)]) (st := []) (as := [(0, x1), (0, x2)]) dX12_nextWorld_8 lX12_373 kX12_has tX12_has rfl (Nat.le_of_ble_eq_true rfl) (Nat.le_of_ble_eq_true rfl) rfl (s_has hG (fun q => ?_) (fun q => ?_))
    · replace h := h.1 q
      show Y G (d + 1) mX12_nextWorld 11 [(2, 234), (0, x1), (0, x2)] [(0, 1)] M Q
      refine z_ifne (tgt := 17) dX12_nextWorld_11 rfl (fun _ => ?_) (fun q => absurd q (by decide))
      refine z_aloadn dX12_nextWorld_17 rfl (Or.inl rfl) ?_
      refine y_getr (v := 249) hG dX12_nextWorld_18 fX12_59 sh234 (by decide) rfl (by decide +kernel) (by decide) ?_
      refine z_iloadn dX12_nextWorld_21 rfl ?_
      obtain ⟨q1, h⟩ := h
      refine y_iald (x := (M 249 x2)) dX12_nextWorld_22 sh249 q1 rfl ?_
      refine z_bipush dX12_nextWorld_23 kb_9 ?_
      refine z_icmpge (tgt := 40) dX12_nextWorld_25 rfl (fun q => ?_) (fun q => ?_)
      · replace h := h.1 q
        refine z_aloadn dX12_nextWorld_40 rfl (Or.inl rfl) ?_
        refine y_getr (v := 249) hG dX12_nextWorld_41 fX12_59 sh234 (by decide) rfl (by decide +kernel) (by decide) ?_
        refine z_iloadn dX12_nextWorld_44 rfl ?_
        refine z_iconst dX12_nextWorld_45 ki_0 ?_
        obtain ⟨q2, h⟩ := h
        refine y_iast hG dX12_nextWorld_46 sh249 q2 ?_
        obtain ⟨q3, h⟩ := h
        refine y_iinc (ls' := [(2, 234), (0, x1), (0, (x2 + (-1)))]) dX12_nextWorld_47 rfl rfl q3 rfl ?_
        refine z_goto (tgt := 2) dX12_nextWorld_50 rfl ?_
        exact h
      · replace h := h.2 q
        refine z_aloadn dX12_nextWorld_28 rfl (Or.inl rfl) ?_
        refine y_getr (v := 249) hG dX12_nextWorld_29 fX12_59 sh234 (by decide) rfl (by decide +kernel) (by decide) ?_
        refine z_iloadn dX12_nextWorld_32 rfl ?_
        refine z_dup2 dX12_nextWorld_33 (show (0 : Nat) ≠ 1 by decide) (show (2 : Nat) ≠ 1 by decide) ?_
        obtain ⟨q4, h⟩ := h
        refine y_iald (x := (M 249 x2)) dX12_nextWorld_34 sh249 q4 rfl ?_
        refine z_iconst dX12_nextWorld_35 ki_1 ?_
        obtain ⟨q5, h⟩ := h
        refine z_iadd dX12_nextWorld_36 q5 ?_
        obtain ⟨q6, h⟩ := h
        refine y_iast hG dX12_nextWorld_37 sh249 q6 ?_
        refine z_iconst dX12_nextWorld_38 ki_1 ?_
        exact z_ireturn dX12_nextWorld_39 (Or.inr ⟨rfl, ⟨by decide, by decide⟩⟩) rfl h
    · replace h := h.2 q
      show Y G (d + 1) mX12_nextWorld 11 [(2, 234), (0, x1), (0, x2)] [(0, 0)] M Q
      refine z_ifne (tgt := 17) dX12_nextWorld_11 rfl (fun q => absurd q (by decide)) (fun _ => ?_)
      refine z_goto (tgt := 47) dX12_nextWorld_14 rfl ?_
      obtain ⟨q7, h⟩ := h
      refine y_iinc (ls' := [(2, 234), (0, x1), (0, (x2 + (-1)))]) dX12_nextWorld_47 rfl rfl q7 rfl ?_
      refine z_goto (tgt := 2) dX12_nextWorld_50 rfl ?_
      exact h
set_option maxRecDepth 20000 in
set_option maxHeartbeats 4000000 in
theorem bX12_firstWorld_0 {G : zG} {d : Nat} {M : zM} {Q : zV → zM → Prop} (hG : zP G)
    (h : Y G d mX12_findKin 0 [(2, 234), (9, 0), (9, 0), (9, 0)] [] M (fun r M' => Y G (d + 1) mX12_firstWorld 4 [(2, 234), (9, 0)] (zpush r []) M' Q)) :
    Y G (d + 1) mX12_firstWorld 0 [(2, 234), (9, 0)] [] M Q := by
  refine z_aloadn dX12_firstWorld_0 rfl (Or.inl rfl) ?_
  refine y_cv (mt2 := mX12_findKin) (en := [(2, 234), (9, 0), (9, 0), (9, 0)]) (st := []) (as := []) dX12_firstWorld_1 lX12_146 kX12_findKin iX12_findKin eX12_findKin rfl sh234 (by decide +kernel) (Nat.le_of_ble_eq_true rfl) (Nat.le_of_ble_eq_true rfl) rfl ?_
  exact h
set_option maxRecDepth 20000 in
set_option maxHeartbeats 4000000 in
theorem bX12_firstWorld_6 {G : zG} {d : Nat} {M : zM} {Q : zV → zM → Prop} (hG : zP G) {x1 : Int}
    (h : ((4 ≤ x1 → Q (9, 0) M) ∧ (x1 < 4 → (0 ≤ x1 ∧ x1 < 4) ∧ (-2147483648 ≤ x1 + 1 ∧ x1 + 1 ≤ 2147483647) ∧ Y G (d + 1) mX12_firstWorld 6 [(2, 234), (0, (x1 + 1))] [] (zset M 249 x1 0) Q))) :
    Y G (d + 1) mX12_firstWorld 6 [(2, 234), (0, x1)] [] M Q := by
  refine z_iloadn dX12_firstWorld_6 rfl ?_
  refine z_iconst dX12_firstWorld_7 ki_4 ?_
  refine z_icmpge (tgt := 24) dX12_firstWorld_8 rfl (fun q => ?_) (fun q => ?_)
  · replace h := h.1 q
    exact z_return dX12_firstWorld_24 rfl rfl h
  · replace h := h.2 q
    refine z_aloadn dX12_firstWorld_11 rfl (Or.inl rfl) ?_
    refine y_getr (v := 249) hG dX12_firstWorld_12 fX12_59 sh234 (by decide) rfl (by decide +kernel) (by decide) ?_
    refine z_iloadn dX12_firstWorld_15 rfl ?_
    refine z_iconst dX12_firstWorld_16 ki_0 ?_
    obtain ⟨q1, h⟩ := h
    refine y_iast hG dX12_firstWorld_17 sh249 q1 ?_
    obtain ⟨q2, h⟩ := h
    refine y_iinc (ls' := [(2, 234), (0, (x1 + 1))]) dX12_firstWorld_18 rfl rfl q2 rfl ?_
    refine z_goto (tgt := 6) dX12_firstWorld_21 rfl ?_
    exact h
set_option maxRecDepth 20000 in
set_option maxHeartbeats 4000000 in
theorem bX12_firstWorld_4 {G : zG} {d : Nat} {M : zM} {Q : zV → zM → Prop} (hG : zP G)
    (h : Y G (d + 1) mX12_firstWorld 6 [(2, 234), (0, 0)] [] M Q) :
    Y G (d + 1) mX12_firstWorld 4 [(2, 234), (9, 0)] [] M Q := by
  refine z_iconst dX12_firstWorld_4 ki_0 ?_
  refine y_istoren (ls' := [(2, 234), (0, 0)]) dX12_firstWorld_5 rfl rfl ?_
  exact h
set_option maxRecDepth 20000 in
set_option maxHeartbeats 4000000 in
theorem bX12_parted_0 {G : zG} {d : Nat} {M : zM} {Q : zV → zM → Prop} (hG : zP G) {x1 x2 x3 : Int}
    (h : (-1000 ≤ (M 235 0) ∧ (M 235 0) ≤ 1000) ∧ ((0 ≤ x1 ∧ x1 < (M 235 0) → (-1000 ≤ (M 235 0) ∧ (M 235 0) ≤ 1000) ∧ ((0 ≤ x2 ∧ x2 < (M 235 0) → ((0 ≤ x3 ∧ x3 ≤ 3 → (-2147483648 ≤ 4 * x1 ∧ 4 * x1 ≤ 2147483647) ∧ (0 ≤ (4 * x1) ∧ (4 * x1) < 48) ∧ (-2147483648 ≤ 4 * x2 ∧ 4 * x2 ≤ 2147483647) ∧ (0 ≤ (4 * x2) ∧ (4 * x2) < 48) ∧ Y G (d + 1) mX12_firstWorld 0 [(2, 234), (9, 0)] [] M (fun r M' => Y G (d + 2) mX12_parted 53 [(2, 234), (0, x1), (0, x2), (0, x3), (0, (zand (zor (M 248 (4 * x1)) (M 248 (4 * x2))) 15)), (9, 0), (9, 0), (9, 0)] (zpush r []) M' Q)) ∧ (¬ (0 ≤ x3 ∧ x3 ≤ 3) → Q (0, (-1)) M))) ∧ (¬ (0 ≤ x2 ∧ x2 < (M 235 0)) → Q (0, (-1)) M))) ∧ (¬ (0 ≤ x1 ∧ x1 < (M 235 0)) → Q (0, (-1)) M))) :
    Y G (d + 2) mX12_parted 0 [(2, 234), (0, x1), (0, x2), (0, x3), (9, 0), (9, 0), (9, 0), (9, 0)] [] M Q := by
  refine z_aloadn dX12_parted_0 rfl (Or.inl rfl) ?_
  refine z_iloadn dX12_parted_1 rfl ?_
  obtain ⟨q1, h⟩ := h
  refine y_cv (mt2 := mX12_isQuestion) (en := [(2, 234), (0, x1)]) (st := []) (as := [(0, x1)]) dX12_parted_2 lX12_392 kX12_isQuestion iX12_isQuestion eX12_isQuestion rfl sh234 (by decide +kernel) (Nat.le_of_ble_eq_true rfl) (Nat.le_of_ble_eq_true rfl) rfl (s_misQuestion hG rfl q1 (fun q => ?_) (fun q => ?_))
  · replace h := h.1 q
    show Y G (d + 2) mX12_parted 5 [(2, 234), (0, x1), (0, x2), (0, x3), (9, 0), (9, 0), (9, 0), (9, 0)] [(0, 1)] M Q
    refine z_ifeq (tgt := 25) dX12_parted_5 rfl (fun q => absurd q (by decide)) (fun _ => ?_)
    refine z_aloadn dX12_parted_8 rfl (Or.inl rfl) ?_
    refine z_iloadn dX12_parted_9 rfl ?_
    obtain ⟨q2, h⟩ := h
    refine y_cv (mt2 := mX12_isQuestion) (en := [(2, 234), (0, x2)]) (st := []) (as := [(0, x2)]) dX12_parted_10 lX12_392 kX12_isQuestion iX12_isQuestion eX12_isQuestion rfl sh234 (by decide +kernel) (Nat.le_of_ble_eq_true rfl) (Nat.le_of_ble_eq_true rfl) rfl (s_misQuestion hG rfl q2 (fun q => ?_) (fun q => ?_))
    · replace h := h.1 q
      show Y G (d + 2) mX12_parted 13 [(2, 234), (0, x1), (0, x2), (0, x3), (9, 0), (9, 0), (9, 0), (9, 0)] [(0, 1)] M Q
      refine z_ifeq (tgt := 25) dX12_parted_13 rfl (fun q => absurd q (by decide)) (fun _ => ?_)
      refine z_iloadn dX12_parted_16 rfl ?_
      refine z_iconst dX12_parted_17 ki_0 ?_
      refine z_iconst dX12_parted_18 ki_3 ?_
      refine y_cs (mt2 := mX12_isIn) (en := [(0, x3), (0, 0), (0, 3)]) (st := []) (as := [(0, x3), (0, 0), (0, 3)]) dX12_parted_19 lX12_126 kX12_isIn tX12_isIn rfl (Nat.le_of_ble_eq_true rfl) (Nat.le_of_ble_eq_true rfl) rfl (s_isIn hG (fun q => ?_) (fun q => ?_))
      · replace h := h.1 q
        show Y G (d + 2) mX12_parted 22 [(2, 234), (0, x1), (0, x2), (0, x3), (9, 0), (9, 0), (9, 0), (9, 0)] [(0, 1)] M Q
        refine z_ifne (tgt := 27) dX12_parted_22 rfl (fun _ => ?_) (fun q => absurd q (by decide))
        refine z_aloadn dX12_parted_27 rfl (Or.inl rfl) ?_
        refine y_getr (v := 248) hG dX12_parted_28 fX12_56 sh234 (by decide) rfl (by decide +kernel) (by decide) ?_
        refine z_iconst dX12_parted_31 ki_4 ?_
        refine z_iloadn dX12_parted_32 rfl ?_
        obtain ⟨q3, h⟩ := h
        refine z_imul dX12_parted_33 q3 ?_
        obtain ⟨q4, h⟩ := h
        refine y_iald (x := (M 248 (4 * x1))) dX12_parted_34 sh248 q4 rfl ?_
        refine z_aloadn dX12_parted_35 rfl (Or.inl rfl) ?_
        refine y_getr (v := 248) hG dX12_parted_36 fX12_56 sh234 (by decide) rfl (by decide +kernel) (by decide) ?_
        refine z_iconst dX12_parted_39 ki_4 ?_
        refine z_iloadn dX12_parted_40 rfl ?_
        obtain ⟨q5, h⟩ := h
        refine z_imul dX12_parted_41 q5 ?_
        obtain ⟨q6, h⟩ := h
        refine y_iald (x := (M 248 (4 * x2))) dX12_parted_42 sh248 q6 rfl ?_
        refine z_ior dX12_parted_43 ?_
        refine z_bipush dX12_parted_44 kb_15 ?_
        refine z_iand dX12_parted_46 ?_
        refine y_istore (ls' := [(2, 234), (0, x1), (0, x2), (0, x3), (0, (zand (zor (M 248 (4 * x1)) (M 248 (4 * x2))) 15)), (9, 0), (9, 0), (9, 0)]) dX12_parted_47 rfl rfl ?_
        refine z_aloadn dX12_parted_49 rfl (Or.inl rfl) ?_
        refine y_cv (mt2 := mX12_firstWorld) (en := [(2, 234), (9, 0)]) (st := []) (as := []) dX12_parted_50 lX12_474 kX12_firstWorld iX12_firstWorld eX12_firstWorld rfl sh234 (by decide +kernel) (Nat.le_of_ble_eq_true rfl) (Nat.le_of_ble_eq_true rfl) rfl ?_
        exact h
      · replace h := h.2 q
        show Y G (d + 2) mX12_parted 22 [(2, 234), (0, x1), (0, x2), (0, x3), (9, 0), (9, 0), (9, 0), (9, 0)] [(0, 0)] M Q
        refine z_ifne (tgt := 27) dX12_parted_22 rfl (fun q => absurd q (by decide)) (fun _ => ?_)
        refine z_iconst dX12_parted_25 ki_m1 ?_
        exact z_ireturn dX12_parted_26 (Or.inl rfl) rfl h
    · replace h := h.2 q
      show Y G (d + 2) mX12_parted 13 [(2, 234), (0, x1), (0, x2), (0, x3), (9, 0), (9, 0), (9, 0), (9, 0)] [(0, 0)] M Q
      refine z_ifeq (tgt := 25) dX12_parted_13 rfl (fun _ => ?_) (fun q => absurd q (by decide))
      refine z_iconst dX12_parted_25 ki_m1 ?_
      exact z_ireturn dX12_parted_26 (Or.inl rfl) rfl h
  · replace h := h.2 q
    show Y G (d + 2) mX12_parted 5 [(2, 234), (0, x1), (0, x2), (0, x3), (9, 0), (9, 0), (9, 0), (9, 0)] [(0, 0)] M Q
    refine z_ifeq (tgt := 25) dX12_parted_5 rfl (fun _ => ?_) (fun q => absurd q (by decide))
    refine z_iconst dX12_parted_25 ki_m1 ?_
    exact z_ireturn dX12_parted_26 (Or.inl rfl) rfl h
set_option maxRecDepth 20000 in
set_option maxHeartbeats 4000000 in
theorem bX12_parted_56 {G : zG} {d : Nat} {M : zM} {Q : zV → zM → Prop} (hG : zP G) {x1 x2 x3 x4 x5 : Int}
    (h : ((x5 = 0 → Q (0, (-1)) M) ∧ (¬ x5 = 0 → Y G (d + 1) mX12_answerOf 0 [(2, 234), (0, x1), (9, 0), (9, 0), (9, 0), (9, 0), (9, 0), (9, 0), (9, 0), (9, 0)] [] M (fun r M' => Y G (d + 2) mX12_parted 66 [(2, 234), (0, x1), (0, x2), (0, x3), (0, x4), (0, x5), (9, 0), (9, 0)] (zpush r []) M' Q)))) :
    Y G (d + 2) mX12_parted 56 [(2, 234), (0, x1), (0, x2), (0, x3), (0, x4), (0, x5), (9, 0), (9, 0)] [] M Q := by
  refine z_iload dX12_parted_56 rfl ?_
  refine z_ifeq (tgt := 97) dX12_parted_58 rfl (fun q => ?_) (fun q => ?_)
  · replace h := h.1 q
    refine z_iconst dX12_parted_97 ki_m1 ?_
    exact z_ireturn dX12_parted_98 (Or.inl rfl) rfl h
  · replace h := h.2 q
    refine z_aloadn dX12_parted_61 rfl (Or.inl rfl) ?_
    refine z_iloadn dX12_parted_62 rfl ?_
    refine y_cv (mt2 := mX12_answerOf) (en := [(2, 234), (0, x1), (9, 0), (9, 0), (9, 0), (9, 0), (9, 0), (9, 0), (9, 0), (9, 0)]) (st := []) (as := [(0, x1)]) dX12_parted_63 lX12_399 kX12_answerOf iX12_answerOf eX12_answerOf rfl sh234 (by decide +kernel) (Nat.le_of_ble_eq_true rfl) (Nat.le_of_ble_eq_true rfl) rfl ?_
    exact h
set_option maxRecDepth 20000 in
set_option maxHeartbeats 4000000 in
theorem bX12_parted_53 {G : zG} {d : Nat} {M : zM} {Q : zV → zM → Prop} (hG : zP G) {x1 x2 x3 x4 : Int}
    (h : Y G (d + 2) mX12_parted 56 [(2, 234), (0, x1), (0, x2), (0, x3), (0, x4), (0, 1), (9, 0), (9, 0)] [] M Q) :
    Y G (d + 2) mX12_parted 53 [(2, 234), (0, x1), (0, x2), (0, x3), (0, x4), (9, 0), (9, 0), (9, 0)] [] M Q := by
  refine z_iconst dX12_parted_53 ki_1 ?_
  refine y_istore (ls' := [(2, 234), (0, x1), (0, x2), (0, x3), (0, x4), (0, 1), (9, 0), (9, 0)]) dX12_parted_54 rfl rfl ?_
  exact h
set_option maxRecDepth 20000 in
set_option maxHeartbeats 4000000 in
theorem bX12_parted_66 {G : zG} {d : Nat} {M : zM} {Q : zV → zM → Prop} (hG : zP G) {x1 x2 x3 x4 x5 x49 : Int}
    (h : Y G (d + 1) mX12_answerOf 0 [(2, 234), (0, x2), (9, 0), (9, 0), (9, 0), (9, 0), (9, 0), (9, 0), (9, 0), (9, 0)] [] M (fun r M' => Y G (d + 2) mX12_parted 73 [(2, 234), (0, x1), (0, x2), (0, x3), (0, x4), (0, x5), (1, x49), (9, 0)] (zpush r []) M' Q)) :
    Y G (d + 2) mX12_parted 66 [(2, 234), (0, x1), (0, x2), (0, x3), (0, x4), (0, x5), (9, 0), (9, 0)] [(1, x49)] M Q := by
  refine y_lstore (ls' := [(2, 234), (0, x1), (0, x2), (0, x3), (0, x4), (0, x5), (1, x49), (9, 0)]) dX12_parted_66 rfl (Nat.le_of_ble_eq_true rfl) rfl ?_
  refine z_aloadn dX12_parted_68 rfl (Or.inl rfl) ?_
  refine z_iloadn dX12_parted_69 rfl ?_
  refine y_cv (mt2 := mX12_answerOf) (en := [(2, 234), (0, x2), (9, 0), (9, 0), (9, 0), (9, 0), (9, 0), (9, 0), (9, 0), (9, 0)]) (st := []) (as := [(0, x2)]) dX12_parted_70 lX12_399 kX12_answerOf iX12_answerOf eX12_answerOf rfl sh234 (by decide +kernel) (Nat.le_of_ble_eq_true rfl) (Nat.le_of_ble_eq_true rfl) rfl ?_
  exact h
set_option maxRecDepth 20000 in
set_option maxHeartbeats 4000000 in
theorem bX12_parted_73 {G : zG} {d : Nat} {M : zM} {Q : zV → zM → Prop} (hG : zP G) {x1 x2 x3 x4 x5 x6 x49 : Int}
    (h : (((zlcmp x49 x6) = 0 → Y G (d + 1) mX12_nextWorld 0 [(2, 234), (0, x4), (9, 0)] [] M (fun r M' => Y G (d + 2) mX12_parted 92 [(2, 234), (0, x1), (0, x2), (0, x3), (0, x4), (0, x5), (1, x6), (9, 0)] (zpush r []) M' Q)) ∧ (¬ (zlcmp x49 x6) = 0 → (0 ≤ x3 ∧ x3 < 4) ∧ Q (0, (M 249 x3)) M))) :
    Y G (d + 2) mX12_parted 73 [(2, 234), (0, x1), (0, x2), (0, x3), (0, x4), (0, x5), (1, x6), (9, 0)] [(1, x49)] M Q := by
  refine z_lload dX12_parted_73 rfl ?_
  refine z_lcmp dX12_parted_75 ?_
  refine z_ifeq (tgt := 86) dX12_parted_76 rfl (fun q => ?_) (fun q => ?_)
  · replace h := h.1 q
    refine z_aloadn dX12_parted_86 rfl (Or.inl rfl) ?_
    refine z_iload dX12_parted_87 rfl ?_
    refine y_cv (mt2 := mX12_nextWorld) (en := [(2, 234), (0, x4), (9, 0)]) (st := []) (as := [(0, x4)]) dX12_parted_89 lX12_477 kX12_nextWorld iX12_nextWorld eX12_nextWorld rfl sh234 (by decide +kernel) (Nat.le_of_ble_eq_true rfl) (Nat.le_of_ble_eq_true rfl) rfl ?_
    exact h
  · replace h := h.2 q
    refine z_aloadn dX12_parted_79 rfl (Or.inl rfl) ?_
    refine y_getr (v := 249) hG dX12_parted_80 fX12_59 sh234 (by decide) rfl (by decide +kernel) (by decide) ?_
    refine z_iloadn dX12_parted_83 rfl ?_
    obtain ⟨q1, h⟩ := h
    refine y_iald (x := (M 249 x3)) dX12_parted_84 sh249 q1 rfl ?_
    exact z_ireturn dX12_parted_85 (Or.inl rfl) rfl h
set_option maxRecDepth 20000 in
set_option maxHeartbeats 4000000 in
theorem bX12_parted_92 {G : zG} {d : Nat} {M : zM} {Q : zV → zM → Prop} (hG : zP G) {x1 x2 x3 x4 x5 x6 x49 : Int}
    (h : Y G (d + 2) mX12_parted 56 [(2, 234), (0, x1), (0, x2), (0, x3), (0, x4), (0, x49), (9, 0), (9, 0)] [] M Q) :
    Y G (d + 2) mX12_parted 92 [(2, 234), (0, x1), (0, x2), (0, x3), (0, x4), (0, x5), (1, x6), (9, 0)] [(0, x49)] M Q := by
  refine y_istore (ls' := [(2, 234), (0, x1), (0, x2), (0, x3), (0, x4), (0, x49), (1, x6), (9, 0)]) dX12_parted_92 rfl rfl ?_
  refine z_goto (tgt := 56) dX12_parted_94 rfl ?_
  refine z_sub (ls' := [(2, 234), (0, x1), (0, x2), (0, x3), (0, x4), (0, x49), (9, 0), (9, 0)]) ⟨Or.inl rfl, Or.inl rfl, Or.inl rfl, Or.inl rfl, Or.inl rfl, Or.inl rfl, Or.inr rfl, Or.inl rfl, trivial⟩ ?_
  exact h
set_option maxRecDepth 20000 in
set_option maxHeartbeats 4000000 in
theorem bX12_lacks_0 {G : zG} {d : Nat} {M : zM} {Q : zV → zM → Prop} (hG : zP G) {x1 x2 : Int}
    (h : (-1000 ≤ (M 235 2) ∧ (M 235 2) ≤ 1000) ∧ ((0 ≤ x1 ∧ x1 < (M 235 2) → (-1000 ≤ (M 235 0) ∧ (M 235 0) ≤ 1000) ∧ ((0 ≤ x2 ∧ x2 < (M 235 0) → (-2147483648 ≤ 4 * x2 ∧ 4 * x2 ≤ 2147483647) ∧ (0 ≤ (4 * x2) ∧ (4 * x2) < 48) ∧ ((0 ≤ x1 ∧ x1 < 6) ∧ (0 : Int) ≤ 1 ∧ 1 < (5 : Int)) ∧ (-2147483648 ≤ 4 * x2 ∧ 4 * x2 ≤ 2147483647) ∧ (-2147483648 ≤ (4 * x2) + 3 ∧ (4 * x2) + 3 ≤ 2147483647) ∧ (0 ≤ ((4 * x2) + 3) ∧ ((4 * x2) + 3) < 48) ∧ ((0 ≤ x1 ∧ x1 < 6) ∧ (0 : Int) ≤ 2 ∧ 2 < (5 : Int)) ∧ (((M 248 ((4 * x2) + 3)) ≤ (M 235 (74 + 5 * x1 + 2)) → (-2147483648 ≤ 4 * x2 ∧ 4 * x2 ≤ 2147483647) ∧ (-2147483648 ≤ (4 * x2) + 1 ∧ (4 * x2) + 1 ≤ 2147483647) ∧ (0 ≤ ((4 * x2) + 1) ∧ ((4 * x2) + 1) < 48) ∧ ((0 ≤ x1 ∧ x1 < 6) ∧ (0 : Int) ≤ 3 ∧ 3 < (5 : Int)) ∧ (((M 248 ((4 * x2) + 1)) ≤ (M 235 (74 + 5 * x1 + 3)) → (-2147483648 ≤ 4 * x2 ∧ 4 * x2 ≤ 2147483647) ∧ (-2147483648 ≤ (4 * x2) + 2 ∧ (4 * x2) + 2 ≤ 2147483647) ∧ (0 ≤ ((4 * x2) + 2) ∧ ((4 * x2) + 2) < 48) ∧ ((0 ≤ x1 ∧ x1 < 6) ∧ (0 : Int) ≤ 4 ∧ 4 < (5 : Int)) ∧ (((M 248 ((4 * x2) + 2)) ≤ (M 235 (74 + 5 * x1 + 4)) → Q (0, (zand (M 248 (4 * x2)) (zxor (M 235 (74 + 5 * x1 + 1)) (-1)))) M) ∧ ((M 235 (74 + 5 * x1 + 4)) < (M 248 ((4 * x2) + 2)) → Q (0, (zor (zand (M 248 (4 * x2)) (zxor (M 235 (74 + 5 * x1 + 1)) (-1))) 131072)) M))) ∧ ((M 235 (74 + 5 * x1 + 3)) < (M 248 ((4 * x2) + 1)) → (-2147483648 ≤ 4 * x2 ∧ 4 * x2 ≤ 2147483647) ∧ (-2147483648 ≤ (4 * x2) + 2 ∧ (4 * x2) + 2 ≤ 2147483647) ∧ (0 ≤ ((4 * x2) + 2) ∧ ((4 * x2) + 2) < 48) ∧ ((0 ≤ x1 ∧ x1 < 6) ∧ (0 : Int) ≤ 4 ∧ 4 < (5 : Int)) ∧ (((M 248 ((4 * x2) + 2)) ≤ (M 235 (74 + 5 * x1 + 4)) → Q (0, (zor (zand (M 248 (4 * x2)) (zxor (M 235 (74 + 5 * x1 + 1)) (-1))) 65536)) M) ∧ ((M 235 (74 + 5 * x1 + 4)) < (M 248 ((4 * x2) + 2)) → Q (0, (zor (zor (zand (M 248 (4 * x2)) (zxor (M 235 (74 + 5 * x1 + 1)) (-1))) 65536) 131072)) M))))) ∧ ((M 235 (74 + 5 * x1 + 2)) < (M 248 ((4 * x2) + 3)) → (-2147483648 ≤ 4 * x2 ∧ 4 * x2 ≤ 2147483647) ∧ (-2147483648 ≤ (4 * x2) + 1 ∧ (4 * x2) + 1 ≤ 2147483647) ∧ (0 ≤ ((4 * x2) + 1) ∧ ((4 * x2) + 1) < 48) ∧ ((0 ≤ x1 ∧ x1 < 6) ∧ (0 : Int) ≤ 3 ∧ 3 < (5 : Int)) ∧ (((M 248 ((4 * x2) + 1)) ≤ (M 235 (74 + 5 * x1 + 3)) → (-2147483648 ≤ 4 * x2 ∧ 4 * x2 ≤ 2147483647) ∧ (-2147483648 ≤ (4 * x2) + 2 ∧ (4 * x2) + 2 ≤ 2147483647) ∧ (0 ≤ ((4 * x2) + 2) ∧ ((4 * x2) + 2) < 48) ∧ ((0 ≤ x1 ∧ x1 < 6) ∧ (0 : Int) ≤ 4 ∧ 4 < (5 : Int)) ∧ (((M 248 ((4 * x2) + 2)) ≤ (M 235 (74 + 5 * x1 + 4)) → Q (0, (zor (zand (M 248 (4 * x2)) (zxor (M 235 (74 + 5 * x1 + 1)) (-1))) 32768)) M) ∧ ((M 235 (74 + 5 * x1 + 4)) < (M 248 ((4 * x2) + 2)) → Q (0, (zor (zor (zand (M 248 (4 * x2)) (zxor (M 235 (74 + 5 * x1 + 1)) (-1))) 32768) 131072)) M))) ∧ ((M 235 (74 + 5 * x1 + 3)) < (M 248 ((4 * x2) + 1)) → (-2147483648 ≤ 4 * x2 ∧ 4 * x2 ≤ 2147483647) ∧ (-2147483648 ≤ (4 * x2) + 2 ∧ (4 * x2) + 2 ≤ 2147483647) ∧ (0 ≤ ((4 * x2) + 2) ∧ ((4 * x2) + 2) < 48) ∧ ((0 ≤ x1 ∧ x1 < 6) ∧ (0 : Int) ≤ 4 ∧ 4 < (5 : Int)) ∧ (((M 248 ((4 * x2) + 2)) ≤ (M 235 (74 + 5 * x1 + 4)) → Q (0, (zor (zor (zand (M 248 (4 * x2)) (zxor (M 235 (74 + 5 * x1 + 1)) (-1))) 32768) 65536)) M) ∧ ((M 235 (74 + 5 * x1 + 4)) < (M 248 ((4 * x2) + 2)) → Q (0, (zor (zor (zor (zand (M 248 (4 * x2)) (zxor (M 235 (74 + 5 * x1 + 1)) (-1))) 32768) 65536) 131072)) M))))))) ∧ (¬ (0 ≤ x2 ∧ x2 < (M 235 0)) → Q (0, (-1)) M))) ∧ (¬ (0 ≤ x1 ∧ x1 < (M 235 2)) → Q (0, (-1)) M))) :
    Y G (d + 2) mX12_lacks 0 [(2, 234), (0, x1), (0, x2), (9, 0)] [] M Q := by
  refine z_aloadn dX12_lacks_0 rfl (Or.inl rfl) ?_
  refine z_iloadn dX12_lacks_1 rfl ?_
  obtain ⟨q1, h⟩ := h
  refine y_cv (mt2 := mX12_isPupil) (en := [(2, 234), (0, x1)]) (st := []) (as := [(0, x1)]) dX12_lacks_2 lX12_480 kX12_isPupil iX12_isPupil eX12_isPupil rfl sh234 (by decide +kernel) (Nat.le_of_ble_eq_true rfl) (Nat.le_of_ble_eq_true rfl) rfl (s_misPupil hG rfl q1 (fun q => ?_) (fun q => ?_))
  · replace h := h.1 q
    show Y G (d + 2) mX12_lacks 5 [(2, 234), (0, x1), (0, x2), (9, 0)] [(0, 1)] M Q
    refine z_ifeq (tgt := 16) dX12_lacks_5 rfl (fun q => absurd q (by decide)) (fun _ => ?_)
    refine z_aloadn dX12_lacks_8 rfl (Or.inl rfl) ?_
    refine z_iloadn dX12_lacks_9 rfl ?_
    obtain ⟨q2, h⟩ := h
    refine y_cv (mt2 := mX12_isQuestion) (en := [(2, 234), (0, x2)]) (st := []) (as := [(0, x2)]) dX12_lacks_10 lX12_392 kX12_isQuestion iX12_isQuestion eX12_isQuestion rfl sh234 (by decide +kernel) (Nat.le_of_ble_eq_true rfl) (Nat.le_of_ble_eq_true rfl) rfl (s_misQuestion hG rfl q2 (fun q => ?_) (fun q => ?_))
    · replace h := h.1 q
      show Y G (d + 2) mX12_lacks 13 [(2, 234), (0, x1), (0, x2), (9, 0)] [(0, 1)] M Q
      refine z_ifne (tgt := 18) dX12_lacks_13 rfl (fun _ => ?_) (fun q => absurd q (by decide))
      refine z_aloadn dX12_lacks_18 rfl (Or.inl rfl) ?_
      refine y_getr (v := 248) hG dX12_lacks_19 fX12_56 sh234 (by decide) rfl (by decide +kernel) (by decide) ?_
      refine z_iconst dX12_lacks_22 ki_4 ?_
      refine z_iloadn dX12_lacks_23 rfl ?_
      obtain ⟨q3, h⟩ := h
      refine z_imul dX12_lacks_24 q3 ?_
      obtain ⟨q4, h⟩ := h
      refine y_iald (x := (M 248 (4 * x2))) dX12_lacks_25 sh248 q4 rfl ?_
      refine z_aloadn dX12_lacks_26 rfl (Or.inl rfl) ?_
      refine z_iloadn dX12_lacks_27 rfl ?_
      refine z_iconst dX12_lacks_28 ki_1 ?_
      obtain ⟨q5, h⟩ := h
      refine y_cv (mt2 := mX12_pupilOf) (en := [(2, 234), (0, x1), (0, 1)]) (st := [(0, (M 248 (4 * x2)))]) (as := [(0, x1), (0, 1)]) dX12_lacks_29 lX12_483 kX12_pupilOf iX12_pupilOf eX12_pupilOf rfl sh234 (by decide +kernel) (Nat.le_of_ble_eq_true rfl) (Nat.le_of_ble_eq_true rfl) rfl (s_pupilOf hG rfl q5 ?_)
      show Y G (d + 2) mX12_lacks 32 [(2, 234), (0, x1), (0, x2), (9, 0)] [(0, (M 235 (74 + 5 * x1 + 1))), (0, (M 248 (4 * x2)))] M Q
      refine z_iconst dX12_lacks_32 ki_m1 ?_
      refine z_ixor dX12_lacks_33 ?_
      refine z_iand dX12_lacks_34 ?_
      refine y_istoren (ls' := [(2, 234), (0, x1), (0, x2), (0, (zand (M 248 (4 * x2)) (zxor (M 235 (74 + 5 * x1 + 1)) (-1))))]) dX12_lacks_35 rfl rfl ?_
      refine z_aloadn dX12_lacks_36 rfl (Or.inl rfl) ?_
      refine y_getr (v := 248) hG dX12_lacks_37 fX12_56 sh234 (by decide) rfl (by decide +kernel) (by decide) ?_
      refine z_iconst dX12_lacks_40 ki_4 ?_
      refine z_iloadn dX12_lacks_41 rfl ?_
      obtain ⟨q6, h⟩ := h
      refine z_imul dX12_lacks_42 q6 ?_
      refine z_iconst dX12_lacks_43 ki_3 ?_
      obtain ⟨q7, h⟩ := h
      refine z_iadd dX12_lacks_44 q7 ?_
      obtain ⟨q8, h⟩ := h
      refine y_iald (x := (M 248 ((4 * x2) + 3))) dX12_lacks_45 sh248 q8 rfl ?_
      refine z_aloadn dX12_lacks_46 rfl (Or.inl rfl) ?_
      refine z_iloadn dX12_lacks_47 rfl ?_
      refine z_iconst dX12_lacks_48 ki_2 ?_
      obtain ⟨q9, h⟩ := h
      refine y_cv (mt2 := mX12_pupilOf) (en := [(2, 234), (0, x1), (0, 2)]) (st := [(0, (M 248 ((4 * x2) + 3)))]) (as := [(0, x1), (0, 2)]) dX12_lacks_49 lX12_483 kX12_pupilOf iX12_pupilOf eX12_pupilOf rfl sh234 (by decide +kernel) (Nat.le_of_ble_eq_true rfl) (Nat.le_of_ble_eq_true rfl) rfl (s_pupilOf hG rfl q9 ?_)
      show Y G (d + 2) mX12_lacks 52 [(2, 234), (0, x1), (0, x2), (0, (zand (M 248 (4 * x2)) (zxor (M 235 (74 + 5 * x1 + 1)) (-1))))] [(0, (M 235 (74 + 5 * x1 + 2))), (0, (M 248 ((4 * x2) + 3)))] M Q
      refine z_icmple (tgt := 61) dX12_lacks_52 rfl (fun q => ?_) (fun q => ?_)
      · replace h := h.1 q
        refine z_aloadn dX12_lacks_61 rfl (Or.inl rfl) ?_
        refine y_getr (v := 248) hG dX12_lacks_62 fX12_56 sh234 (by decide) rfl (by decide +kernel) (by decide) ?_
        refine z_iconst dX12_lacks_65 ki_4 ?_
        refine z_iloadn dX12_lacks_66 rfl ?_
        obtain ⟨q10, h⟩ := h
        refine z_imul dX12_lacks_67 q10 ?_
        refine z_iconst dX12_lacks_68 ki_1 ?_
        obtain ⟨q11, h⟩ := h
        refine z_iadd dX12_lacks_69 q11 ?_
        obtain ⟨q12, h⟩ := h
        refine y_iald (x := (M 248 ((4 * x2) + 1))) dX12_lacks_70 sh248 q12 rfl ?_
        refine z_aloadn dX12_lacks_71 rfl (Or.inl rfl) ?_
        refine z_iloadn dX12_lacks_72 rfl ?_
        refine z_iconst dX12_lacks_73 ki_3 ?_
        obtain ⟨q13, h⟩ := h
        refine y_cv (mt2 := mX12_pupilOf) (en := [(2, 234), (0, x1), (0, 3)]) (st := [(0, (M 248 ((4 * x2) + 1)))]) (as := [(0, x1), (0, 3)]) dX12_lacks_74 lX12_483 kX12_pupilOf iX12_pupilOf eX12_pupilOf rfl sh234 (by decide +kernel) (Nat.le_of_ble_eq_true rfl) (Nat.le_of_ble_eq_true rfl) rfl (s_pupilOf hG rfl q13 ?_)
        show Y G (d + 2) mX12_lacks 77 [(2, 234), (0, x1), (0, x2), (0, (zand (M 248 (4 * x2)) (zxor (M 235 (74 + 5 * x1 + 1)) (-1))))] [(0, (M 235 (74 + 5 * x1 + 3))), (0, (M 248 ((4 * x2) + 1)))] M Q
        refine z_icmple (tgt := 86) dX12_lacks_77 rfl (fun q => ?_) (fun q => ?_)
        · replace h := h.1 q
          refine z_aloadn dX12_lacks_86 rfl (Or.inl rfl) ?_
          refine y_getr (v := 248) hG dX12_lacks_87 fX12_56 sh234 (by decide) rfl (by decide +kernel) (by decide) ?_
          refine z_iconst dX12_lacks_90 ki_4 ?_
          refine z_iloadn dX12_lacks_91 rfl ?_
          obtain ⟨q14, h⟩ := h
          refine z_imul dX12_lacks_92 q14 ?_
          refine z_iconst dX12_lacks_93 ki_2 ?_
          obtain ⟨q15, h⟩ := h
          refine z_iadd dX12_lacks_94 q15 ?_
          obtain ⟨q16, h⟩ := h
          refine y_iald (x := (M 248 ((4 * x2) + 2))) dX12_lacks_95 sh248 q16 rfl ?_
          refine z_aloadn dX12_lacks_96 rfl (Or.inl rfl) ?_
          refine z_iloadn dX12_lacks_97 rfl ?_
          refine z_iconst dX12_lacks_98 ki_4 ?_
          obtain ⟨q17, h⟩ := h
          refine y_cv (mt2 := mX12_pupilOf) (en := [(2, 234), (0, x1), (0, 4)]) (st := [(0, (M 248 ((4 * x2) + 2)))]) (as := [(0, x1), (0, 4)]) dX12_lacks_99 lX12_483 kX12_pupilOf iX12_pupilOf eX12_pupilOf rfl sh234 (by decide +kernel) (Nat.le_of_ble_eq_true rfl) (Nat.le_of_ble_eq_true rfl) rfl (s_pupilOf hG rfl q17 ?_)
          show Y G (d + 2) mX12_lacks 102 [(2, 234), (0, x1), (0, x2), (0, (zand (M 248 (4 * x2)) (zxor (M 235 (74 + 5 * x1 + 1)) (-1))))] [(0, (M 235 (74 + 5 * x1 + 4))), (0, (M 248 ((4 * x2) + 2)))] M Q
          refine z_icmple (tgt := 111) dX12_lacks_102 rfl (fun q => ?_) (fun q => ?_)
          · replace h := h.1 q
            refine z_iloadn dX12_lacks_111 rfl ?_
            exact z_ireturn dX12_lacks_112 (Or.inl rfl) rfl h
          · replace h := h.2 q
            refine z_iloadn dX12_lacks_105 rfl ?_
            refine z_ldcw (k := 131072) (v := 131072) dX12_lacks_106 ⟨by decide, ⟨by decide, by decide⟩⟩ qX12_488 ?_
            refine z_ior dX12_lacks_109 ?_
            refine y_istoren (ls' := [(2, 234), (0, x1), (0, x2), (0, (zor (zand (M 248 (4 * x2)) (zxor (M 235 (74 + 5 * x1 + 1)) (-1))) 131072))]) dX12_lacks_110 rfl rfl ?_
            refine z_iloadn dX12_lacks_111 rfl ?_
            exact z_ireturn dX12_lacks_112 (Or.inl rfl) rfl h
        · replace h := h.2 q
          refine z_iloadn dX12_lacks_80 rfl ?_
          refine z_ldcw (k := 65536) (v := 65536) dX12_lacks_81 ⟨by decide, ⟨by decide, by decide⟩⟩ qX12_487 ?_
          refine z_ior dX12_lacks_84 ?_
          refine y_istoren (ls' := [(2, 234), (0, x1), (0, x2), (0, (zor (zand (M 248 (4 * x2)) (zxor (M 235 (74 + 5 * x1 + 1)) (-1))) 65536))]) dX12_lacks_85 rfl rfl ?_
          refine z_aloadn dX12_lacks_86 rfl (Or.inl rfl) ?_
          refine y_getr (v := 248) hG dX12_lacks_87 fX12_56 sh234 (by decide) rfl (by decide +kernel) (by decide) ?_
          refine z_iconst dX12_lacks_90 ki_4 ?_
          refine z_iloadn dX12_lacks_91 rfl ?_
          obtain ⟨q18, h⟩ := h
          refine z_imul dX12_lacks_92 q18 ?_
          refine z_iconst dX12_lacks_93 ki_2 ?_
          obtain ⟨q19, h⟩ := h
          refine z_iadd dX12_lacks_94 q19 ?_
          obtain ⟨q20, h⟩ := h
          refine y_iald (x := (M 248 ((4 * x2) + 2))) dX12_lacks_95 sh248 q20 rfl ?_
          refine z_aloadn dX12_lacks_96 rfl (Or.inl rfl) ?_
          refine z_iloadn dX12_lacks_97 rfl ?_
          refine z_iconst dX12_lacks_98 ki_4 ?_
          obtain ⟨q21, h⟩ := h
          refine y_cv (mt2 := mX12_pupilOf) (en := [(2, 234), (0, x1), (0, 4)]) (st := [(0, (M 248 ((4 * x2) + 2)))]) (as := [(0, x1), (0, 4)]) dX12_lacks_99 lX12_483 kX12_pupilOf iX12_pupilOf eX12_pupilOf rfl sh234 (by decide +kernel) (Nat.le_of_ble_eq_true rfl) (Nat.le_of_ble_eq_true rfl) rfl (s_pupilOf hG rfl q21 ?_)
          show Y G (d + 2) mX12_lacks 102 [(2, 234), (0, x1), (0, x2), (0, (zor (zand (M 248 (4 * x2)) (zxor (M 235 (74 + 5 * x1 + 1)) (-1))) 65536))] [(0, (M 235 (74 + 5 * x1 + 4))), (0, (M 248 ((4 * x2) + 2)))] M Q
          refine z_icmple (tgt := 111) dX12_lacks_102 rfl (fun q => ?_) (fun q => ?_)
          · replace h := h.1 q
            refine z_iloadn dX12_lacks_111 rfl ?_
            exact z_ireturn dX12_lacks_112 (Or.inl rfl) rfl h
          · replace h := h.2 q
            refine z_iloadn dX12_lacks_105 rfl ?_
            refine z_ldcw (k := 131072) (v := 131072) dX12_lacks_106 ⟨by decide, ⟨by decide, by decide⟩⟩ qX12_488 ?_
            refine z_ior dX12_lacks_109 ?_
            refine y_istoren (ls' := [(2, 234), (0, x1), (0, x2), (0, (zor (zor (zand (M 248 (4 * x2)) (zxor (M 235 (74 + 5 * x1 + 1)) (-1))) 65536) 131072))]) dX12_lacks_110 rfl rfl ?_
            refine z_iloadn dX12_lacks_111 rfl ?_
            exact z_ireturn dX12_lacks_112 (Or.inl rfl) rfl h
      · replace h := h.2 q
        refine z_iloadn dX12_lacks_55 rfl ?_
        refine z_ldcw (k := 32768) (v := 32768) dX12_lacks_56 ⟨by decide, ⟨by decide, by decide⟩⟩ qX12_486 ?_
        refine z_ior dX12_lacks_59 ?_
        refine y_istoren (ls' := [(2, 234), (0, x1), (0, x2), (0, (zor (zand (M 248 (4 * x2)) (zxor (M 235 (74 + 5 * x1 + 1)) (-1))) 32768))]) dX12_lacks_60 rfl rfl ?_
        refine z_aloadn dX12_lacks_61 rfl (Or.inl rfl) ?_
        refine y_getr (v := 248) hG dX12_lacks_62 fX12_56 sh234 (by decide) rfl (by decide +kernel) (by decide) ?_
        refine z_iconst dX12_lacks_65 ki_4 ?_
        refine z_iloadn dX12_lacks_66 rfl ?_
        obtain ⟨q22, h⟩ := h
        refine z_imul dX12_lacks_67 q22 ?_
        refine z_iconst dX12_lacks_68 ki_1 ?_
        obtain ⟨q23, h⟩ := h
        refine z_iadd dX12_lacks_69 q23 ?_
        obtain ⟨q24, h⟩ := h
        refine y_iald (x := (M 248 ((4 * x2) + 1))) dX12_lacks_70 sh248 q24 rfl ?_
        refine z_aloadn dX12_lacks_71 rfl (Or.inl rfl) ?_
        refine z_iloadn dX12_lacks_72 rfl ?_
        refine z_iconst dX12_lacks_73 ki_3 ?_
        obtain ⟨q25, h⟩ := h
        refine y_cv (mt2 := mX12_pupilOf) (en := [(2, 234), (0, x1), (0, 3)]) (st := [(0, (M 248 ((4 * x2) + 1)))]) (as := [(0, x1), (0, 3)]) dX12_lacks_74 lX12_483 kX12_pupilOf iX12_pupilOf eX12_pupilOf rfl sh234 (by decide +kernel) (Nat.le_of_ble_eq_true rfl) (Nat.le_of_ble_eq_true rfl) rfl (s_pupilOf hG rfl q25 ?_)
        show Y G (d + 2) mX12_lacks 77 [(2, 234), (0, x1), (0, x2), (0, (zor (zand (M 248 (4 * x2)) (zxor (M 235 (74 + 5 * x1 + 1)) (-1))) 32768))] [(0, (M 235 (74 + 5 * x1 + 3))), (0, (M 248 ((4 * x2) + 1)))] M Q
        refine z_icmple (tgt := 86) dX12_lacks_77 rfl (fun q => ?_) (fun q => ?_)
        · replace h := h.1 q
          refine z_aloadn dX12_lacks_86 rfl (Or.inl rfl) ?_
          refine y_getr (v := 248) hG dX12_lacks_87 fX12_56 sh234 (by decide) rfl (by decide +kernel) (by decide) ?_
          refine z_iconst dX12_lacks_90 ki_4 ?_
          refine z_iloadn dX12_lacks_91 rfl ?_
          obtain ⟨q26, h⟩ := h
          refine z_imul dX12_lacks_92 q26 ?_
          refine z_iconst dX12_lacks_93 ki_2 ?_
          obtain ⟨q27, h⟩ := h
          refine z_iadd dX12_lacks_94 q27 ?_
          obtain ⟨q28, h⟩ := h
          refine y_iald (x := (M 248 ((4 * x2) + 2))) dX12_lacks_95 sh248 q28 rfl ?_
          refine z_aloadn dX12_lacks_96 rfl (Or.inl rfl) ?_
          refine z_iloadn dX12_lacks_97 rfl ?_
          refine z_iconst dX12_lacks_98 ki_4 ?_
          obtain ⟨q29, h⟩ := h
          refine y_cv (mt2 := mX12_pupilOf) (en := [(2, 234), (0, x1), (0, 4)]) (st := [(0, (M 248 ((4 * x2) + 2)))]) (as := [(0, x1), (0, 4)]) dX12_lacks_99 lX12_483 kX12_pupilOf iX12_pupilOf eX12_pupilOf rfl sh234 (by decide +kernel) (Nat.le_of_ble_eq_true rfl) (Nat.le_of_ble_eq_true rfl) rfl (s_pupilOf hG rfl q29 ?_)
          show Y G (d + 2) mX12_lacks 102 [(2, 234), (0, x1), (0, x2), (0, (zor (zand (M 248 (4 * x2)) (zxor (M 235 (74 + 5 * x1 + 1)) (-1))) 32768))] [(0, (M 235 (74 + 5 * x1 + 4))), (0, (M 248 ((4 * x2) + 2)))] M Q
          refine z_icmple (tgt := 111) dX12_lacks_102 rfl (fun q => ?_) (fun q => ?_)
          · replace h := h.1 q
            refine z_iloadn dX12_lacks_111 rfl ?_
            exact z_ireturn dX12_lacks_112 (Or.inl rfl) rfl h
          · replace h := h.2 q
            refine z_iloadn dX12_lacks_105 rfl ?_
            refine z_ldcw (k := 131072) (v := 131072) dX12_lacks_106 ⟨by decide, ⟨by decide, by decide⟩⟩ qX12_488 ?_
            refine z_ior dX12_lacks_109 ?_
            refine y_istoren (ls' := [(2, 234), (0, x1), (0, x2), (0, (zor (zor (zand (M 248 (4 * x2)) (zxor (M 235 (74 + 5 * x1 + 1)) (-1))) 32768) 131072))]) dX12_lacks_110 rfl rfl ?_
            refine z_iloadn dX12_lacks_111 rfl ?_
            exact z_ireturn dX12_lacks_112 (Or.inl rfl) rfl h
        · replace h := h.2 q
          refine z_iloadn dX12_lacks_80 rfl ?_
          refine z_ldcw (k := 65536) (v := 65536) dX12_lacks_81 ⟨by decide, ⟨by decide, by decide⟩⟩ qX12_487 ?_
          refine z_ior dX12_lacks_84 ?_
          refine y_istoren (ls' := [(2, 234), (0, x1), (0, x2), (0, (zor (zor (zand (M 248 (4 * x2)) (zxor (M 235 (74 + 5 * x1 + 1)) (-1))) 32768) 65536))]) dX12_lacks_85 rfl rfl ?_
          refine z_aloadn dX12_lacks_86 rfl (Or.inl rfl) ?_
          refine y_getr (v := 248) hG dX12_lacks_87 fX12_56 sh234 (by decide) rfl (by decide +kernel) (by decide) ?_
          refine z_iconst dX12_lacks_90 ki_4 ?_
          refine z_iloadn dX12_lacks_91 rfl ?_
          obtain ⟨q30, h⟩ := h
          refine z_imul dX12_lacks_92 q30 ?_
          refine z_iconst dX12_lacks_93 ki_2 ?_
          obtain ⟨q31, h⟩ := h
          refine z_iadd dX12_lacks_94 q31 ?_
          obtain ⟨q32, h⟩ := h
          refine y_iald (x := (M 248 ((4 * x2) + 2))) dX12_lacks_95 sh248 q32 rfl ?_
          refine z_aloadn dX12_lacks_96 rfl (Or.inl rfl) ?_
          refine z_iloadn dX12_lacks_97 rfl ?_
          refine z_iconst dX12_lacks_98 ki_4 ?_
          obtain ⟨q33, h⟩ := h
          refine y_cv (mt2 := mX12_pupilOf) (en := [(2, 234), (0, x1), (0, 4)]) (st := [(0, (M 248 ((4 * x2) + 2)))]) (as := [(0, x1), (0, 4)]) dX12_lacks_99 lX12_483 kX12_pupilOf iX12_pupilOf eX12_pupilOf rfl sh234 (by decide +kernel) (Nat.le_of_ble_eq_true rfl) (Nat.le_of_ble_eq_true rfl) rfl (s_pupilOf hG rfl q33 ?_)
          show Y G (d + 2) mX12_lacks 102 [(2, 234), (0, x1), (0, x2), (0, (zor (zor (zand (M 248 (4 * x2)) (zxor (M 235 (74 + 5 * x1 + 1)) (-1))) 32768) 65536))] [(0, (M 235 (74 + 5 * x1 + 4))), (0, (M 248 ((4 * x2) + 2)))] M Q
          refine z_icmple (tgt := 111) dX12_lacks_102 rfl (fun q => ?_) (fun q => ?_)
          · replace h := h.1 q
            refine z_iloadn dX12_lacks_111 rfl ?_
            exact z_ireturn dX12_lacks_112 (Or.inl rfl) rfl h
          · replace h := h.2 q
            refine z_iloadn dX12_lacks_105 rfl ?_
            refine z_ldcw (k := 131072) (v := 131072) dX12_lacks_106 ⟨by decide, ⟨by decide, by decide⟩⟩ qX12_488 ?_
            refine z_ior dX12_lacks_109 ?_
            refine y_istoren (ls' := [(2, 234), (0, x1), (0, x2), (0, (zor (zor (zor (zand (M 248 (4 * x2)) (zxor (M 235 (74 + 5 * x1 + 1)) (-1))) 32768) 65536) 131072))]) dX12_lacks_110 rfl rfl ?_
            refine z_iloadn dX12_lacks_111 rfl ?_
            exact z_ireturn dX12_lacks_112 (Or.inl rfl) rfl h
    · replace h := h.2 q
      show Y G (d + 2) mX12_lacks 13 [(2, 234), (0, x1), (0, x2), (9, 0)] [(0, 0)] M Q
      refine z_ifne (tgt := 18) dX12_lacks_13 rfl (fun q => absurd q (by decide)) (fun _ => ?_)
      refine z_iconst dX12_lacks_16 ki_m1 ?_
      exact z_ireturn dX12_lacks_17 (Or.inl rfl) rfl h
  · replace h := h.2 q
    show Y G (d + 2) mX12_lacks 5 [(2, 234), (0, x1), (0, x2), (9, 0)] [(0, 0)] M Q
    refine z_ifeq (tgt := 16) dX12_lacks_5 rfl (fun _ => ?_) (fun q => absurd q (by decide))
    refine z_iconst dX12_lacks_16 ki_m1 ?_
    exact z_ireturn dX12_lacks_17 (Or.inl rfl) rfl h
set_option maxRecDepth 20000 in
set_option maxHeartbeats 4000000 in
theorem bX12_can_0 {G : zG} {d : Nat} {M : zM} {Q : zV → zM → Prop} (hG : zP G) {x1 x2 : Int}
    (h : Y G d mX12_lacks 0 [(2, 234), (0, x1), (0, x2), (9, 0)] [] M (fun r M' => Y G (d + 1) mX12_can 6 [(2, 234), (0, x1), (0, x2)] (zpush r []) M' Q)) :
    Y G (d + 1) mX12_can 0 [(2, 234), (0, x1), (0, x2)] [] M Q := by
  refine z_aloadn dX12_can_0 rfl (Or.inl rfl) ?_
  refine z_iloadn dX12_can_1 rfl ?_
  refine z_iloadn dX12_can_2 rfl ?_
  refine y_cv (mt2 := mX12_lacks) (en := [(2, 234), (0, x1), (0, x2), (9, 0)]) (st := []) (as := [(0, x1), (0, x2)]) dX12_can_3 lX12_489 kX12_lacks iX12_lacks eX12_lacks rfl sh234 (by decide +kernel) (Nat.le_of_ble_eq_true rfl) (Nat.le_of_ble_eq_true rfl) rfl ?_
  exact h
set_option maxRecDepth 20000 in
set_option maxHeartbeats 4000000 in
theorem bX12_can_6 {G : zG} {d : Nat} {M : zM} {Q : zV → zM → Prop} (hG : zP G) {x1 x2 x49 : Int}
    (h : ((¬ x49 = 0 → Q (0, 0) M) ∧ (x49 = 0 → Q (0, 1) M))) :
    Y G (d + 1) mX12_can 6 [(2, 234), (0, x1), (0, x2)] [(0, x49)] M Q := by
  refine z_ifne (tgt := 13) dX12_can_6 rfl (fun q => ?_) (fun q => ?_)
  · replace h := h.1 q
    refine z_iconst dX12_can_13 ki_0 ?_
    exact z_ireturn dX12_can_14 (Or.inr ⟨rfl, ⟨by decide, by decide⟩⟩) rfl h
  · replace h := h.2 q
    refine z_iconst dX12_can_9 ki_1 ?_
    refine z_goto (tgt := 14) dX12_can_10 rfl ?_
    exact z_ireturn dX12_can_14 (Or.inr ⟨rfl, ⟨by decide, by decide⟩⟩) rfl h
