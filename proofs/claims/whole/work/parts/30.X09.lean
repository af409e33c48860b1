set_option maxRecDepth 20000 in
set_option maxHeartbeats 4000000 in
theorem bX9_rarestOf_0 {G : zG} {d : Nat} {M : zM} {Q : zV → zM → Prop} (hG : zP G) {x1 x2 x3 x4 : Int}
    (h : Y G (d + 1) mX9_rarestOf 11 [(2, 170), (0, x1), (0, x2), (0, x3), (0, x4), (0, (-1000)), (0, 0), (0, x3), (9, 0)] [] M Q) :
    Y G (d + 1) mX9_rarestOf 0 [(2, 170), (0, x1), (0, x2), (0, x3), (0, x4), (9, 0), (9, 0), (9, 0), (9, 0)] [] M Q := by
  refine z_sipush dX9_rarestOf_0 ks_m1000 ?_
  refine y_istore (ls' := [(2, 170), (0, x1), (0, x2), (0, x3), (0, x4), (0, (-1000)), (9, 0), (9, 0), (9, 0)]) dX9_rarestOf_3 rfl rfl ?_
  refine z_iconst dX9_rarestOf_5 ki_0 ?_
  refine y_istore (ls' := [(2, 170), (0, x1), (0, x2), (0, x3), (0, x4), (0, (-1000)), (0, 0), (9, 0), (9, 0)]) dX9_rarestOf_6 rfl rfl ?_
  refine z_iloadn dX9_rarestOf_8 rfl ?_
  refine y_istore (ls' := [(2, 170), (0, x1), (0, x2), (0, x3), (0, x4), (0, (-1000)), (0, 0), (0, x3), (9, 0)]) dX9_rarestOf_9 rfl rfl ?_
  exact h
set_option maxRecDepth 20000 in
set_option maxHeartbeats 4000000 in
theorem bX9_rarestOf_11 {G : zG} {d : Nat} {M : zM} {Q : zV → zM → Prop} (hG : zP G) {x1 x2 x3 x4 x5 x6 x7 : Int}
    (h : ((x4 < x7 → Q (0, x5) M) ∧ (x7 ≤ x4 → Y G d mX9_countOf 0 [(2, 170), (0, x1), (0, x2), (0, x7)] [] M (fun r M' => Y G (d + 1) mX9_rarestOf 26 [(2, 170), (0, x1), (0, x2), (0, x3), (0, x4), (0, x5), (0, x6), (0, x7), (9, 0)] (zpush r []) M' Q)))) :
    Y G (d + 1) mX9_rarestOf 11 [(2, 170), (0, x1), (0, x2), (0, x3), (0, x4), (0, x5), (0, x6), (0, x7), (9, 0)] [] M Q := by
  refine z_iload dX9_rarestOf_11 rfl ?_
  refine z_iload dX9_rarestOf_13 rfl ?_
  refine z_icmpgt (tgt := 62) dX9_rarestOf_15 rfl (fun q => ?_) (fun q => ?_)
  · replace h := h.1 q
    refine z_iload dX9_rarestOf_62 rfl ?_
    exact z_ireturn dX9_rarestOf_64 (Or.inl rfl) rfl h
  · replace h := h.2 q
    refine z_aloadn dX9_rarestOf_18 rfl (Or.inl rfl) ?_
    refine z_iloadn dX9_rarestOf_19 rfl ?_
    refine z_iloadn dX9_rarestOf_20 rfl ?_
    refine z_iload dX9_rarestOf_21 rfl ?_
    refine y_cv (mt2 := mX9_countOf) (en := [(2, 170), (0, x1), (0, x2), (0, x7)]) (st := []) (as := [(0, x1), (0, x2), (0, x7)]) dX9_rarestOf_23 lX9_58 kX9_countOf iX9_countOf eX9_countOf rfl sh170 (by decide +kernel) (Nat.le_of_ble_eq_true rfl) (Nat.le_of_ble_eq_true rfl) rfl ?_
    exact h
set_option maxRecDepth 20000 in
set_option maxHeartbeats 4000000 in
theorem bX9_rarestOf_26 {G : zG} {d : Nat} {M : zM} {Q : zV → zM → Prop} (hG : zP G) {x1 x2 x3 x4 x5 x6 x7 x49 : Int}
    (h : ((x49 = 0 → (-2147483648 ≤ x7 + 1 ∧ x7 + 1 ≤ 2147483647) ∧ Y G (d + 1) mX9_rarestOf 11 [(2, 170), (0, x1), (0, x2), (0, x3), (0, x4), (0, x5), (0, x6), (0, (x7 + 1)), (9, 0)] [] M Q) ∧ (¬ x49 = 0 → ((x5 = (-1000) → (-2147483648 ≤ x7 + 1 ∧ x7 + 1 ≤ 2147483647) ∧ Y G (d + 1) mX9_rarestOf 11 [(2, 170), (0, x1), (0, x2), (0, x3), (0, x4), (0, x7), (0, x49), (0, (x7 + 1)), (9, 0)] [] M Q) ∧ (¬ x5 = (-1000) → ((x6 ≤ x49 → (-2147483648 ≤ x7 + 1 ∧ x7 + 1 ≤ 2147483647) ∧ Y G (d + 1) mX9_rarestOf 11 [(2, 170), (0, x1), (0, x2), (0, x3), (0, x4), (0, x5), (0, x6), (0, (x7 + 1)), (9, 0)] [] M Q) ∧ (x49 < x6 → (-2147483648 ≤ x7 + 1 ∧ x7 + 1 ≤ 2147483647) ∧ Y G (d + 1) mX9_rarestOf 11 [(2, 170), (0, x1), (0, x2), (0, x3), (0, x4), (0, x7), (0, x49), (0, (x7 + 1)), (9, 0)] [] M Q))))))) :
    Y G (d + 1) mX9_rarestOf 26 [(2, 170), (0, x1), (0, x2), (0, x3), (0, x4), (0, x5), (0, x6), (0, x7), (9, 0)] [(0, x49)] M Q := by
  refine y_istore (ls' := [(2, 170), (0, x1), (0, x2), (0, x3), (0, x4), (0, x5), (0, x6), (0, x7), (0, x49)]) dX9_rarestOf_26 rfl rfl ?_
  refine z_iload dX9_rarestOf_28 rfl ?_
  refine z_ifeq (tgt := 56) dX9_rarestOf_30 rfl (fun q => ?_) (fun q => ?_)
  · replace h := h.1 q
    obtain ⟨q1, h⟩ := h
    refine y_iinc (ls' := [(2, 170), (0, x1), (0, x2), (0, x3), (0, x4), (0, x5), (0, x6), (0, (x7 + 1)), (0, x49)]) dX9_rarestOf_56 rfl rfl q1 rfl ?_
    refine z_goto (tgt := 11) dX9_rarestOf_59 rfl ?_
    refine z_sub (ls' := [(2, 170), (0, x1), (0, x2), (0, x3), (0, x4), (0, x5), (0, x6), (0, (x7 + 1)), (9, 0)]) ⟨Or.inl rfl, Or.inl rfl, Or.inl rfl, Or.inl rfl, Or.inl rfl, Or.inl rfl, Or.inl rfl, Or.inl rfl, Or.inr rfl, trivial⟩ ?_
    exact h
  · replace h := h.2 q
    refine z_iload dX9_rarestOf_33 rfl ?_
    refine z_sipush dX9_rarestOf_35 ks_m1000 ?_
    refine z_icmpeq (tgt := 48) dX9_rarestOf_38 rfl (fun q => ?_) (fun q => ?_)
    · replace h := h.1 q
      refine z_iload dX9_rarestOf_48 rfl ?_
      refine y_istore (ls' := [(2, 170), (0, x1), (0, x2), (0, x3), (0, x4), (0, x7), (0, x6), (0, x7), (0, x49)]) dX9_rarestOf_50 rfl rfl ?_
      refine z_iload dX9_rarestOf_52 rfl ?_
      refine y_istore (ls' := [(2, 170), (0, x1), (0, x2), (0, x3), (0, x4), (0, x7), (0, x49), (0, x7), (0, x49)]) dX9_rarestOf_54 rfl rfl ?_
      obtain ⟨q2, h⟩ := h
      refine y_iinc (ls' := [(2, 170), (0, x1), (0, x2), (0, x3), (0, x4), (0, x7), (0, x49), (0, (x7 + 1)), (0, x49)]) dX9_rarestOf_56 rfl rfl q2 rfl ?_
      refine z_goto (tgt := 11) dX9_rarestOf_59 rfl ?_
      refine z_sub (ls' := [(2, 170), (0, x1), (0, x2), (0, x3), (0, x4), (0, x7), (0, x49), (0, (x7 + 1)), (9, 0)]) ⟨Or.inl rfl, Or.inl rfl, Or.inl rfl, Or.inl rfl, Or.inl rfl, Or.inl rfl, Or.inl rfl, Or.inl rfl, Or.inr rfl, trivial⟩ ?_
      exact h
    · replace h := h.2 q
      refine z_iload dX9_rarestOf_41 rfl ?_
      refine z_iload dX9_rarestOf_43 rfl ?_
      refine z_icmpge (tgt := 56) dX9_rarestOf_45 rfl (fun q => ?_) (fun q => ?_)
      · replace h := h.1 q
        obtain ⟨q3, h⟩ := h
        refine y_iinc (ls' := [(2, 170), (0, x1), (0, x2), (0, x3), (0, x4), (0, x5), (0, x6), (0, (x7 + 1)), (0, x49)]) dX9_rarestOf_56 rfl rfl q3 rfl ?_
        refine z_goto (tgt := 11) dX9_rarestOf_59 rfl ?_
        refine z_sub (ls' := [(2, 170), (0, x1), (0, x2), (0, x3), (0, x4), (0, x5), (0, x6), (0, (x7 + 1)), (9, 0)]) ⟨Or.inl rfl, Or.inl rfl, Or.inl rfl, Or.inl rfl, Or.inl rfl, Or.inl rfl, Or.inl rfl, Or.inl rfl, Or.inr rfl, trivial⟩ ?_
        exact h
      · replace h := h.2 q
        refine z_iload dX9_rarestOf_48 rfl ?_
        refine y_istore (ls' := [(2, 170), (0, x1), (0, x2), (0, x3), (0, x4), (0, x7), (0, x6), (0, x7), (0, x49)]) dX9_rarestOf_50 rfl rfl ?_
        refine z_iload dX9_rarestOf_52 rfl ?_
        refine y_istore (ls' := [(2, 170), (0, x1), (0, x2), (0, x3), (0, x4), (0, x7), (0, x49), (0, x7), (0, x49)]) dX9_rarestOf_54 rfl rfl ?_
        obtain ⟨q4, h⟩ := h
        refine y_iinc (ls' := [(2, 170), (0, x1), (0, x2), (0, x3), (0, x4), (0, x7), (0, x49), (0, (x7 + 1)), (0, x49)]) dX9_rarestOf_56 rfl rfl q4 rfl ?_
        refine z_goto (tgt := 11) dX9_rarestOf_59 rfl ?_
        refine z_sub (ls' := [(2, 170), (0, x1), (0, x2), (0, x3), (0, x4), (0, x7), (0, x49), (0, (x7 + 1)), (9, 0)]) ⟨Or.inl rfl, Or.inl rfl, Or.inl rfl, Or.inl rfl, Or.inl rfl, Or.inl rfl, Or.inl rfl, Or.inl rfl, Or.inr rfl, trivial⟩ ?_
        exact h
set_option maxRecDepth 20000 in
set_option maxHeartbeats 4000000 in
theorem bX9_longestOf_0 {G : zG} {d : Nat} {M : zM} {Q : zV → zM → Prop} (hG : zP G) {x1 x2 x3 x4 r5 : Int} {nr5 : Nat} (hr5 : zsh r5.toNat = (100, nr5))
    (h : Y G (d + 1) mX9_longestOf 11 [(2, 170), (0, x1), (0, x2), (0, x3), (0, x4), (2, r5), (0, (-1000)), (0, 0), (0, x3), (9, 0)] [] M Q) :
    Y G (d + 1) mX9_longestOf 0 [(2, 170), (0, x1), (0, x2), (0, x3), (0, x4), (2, r5), (9, 0), (9, 0), (9, 0), (9, 0)] [] M Q := by
  refine z_sipush dX9_longestOf_0 ks_m1000 ?_
  refine y_istore (ls' := [(2, 170), (0, x1), (0, x2), (0, x3), (0, x4), (2, r5), (0, (-1000)), (9, 0), (9, 0), (9, 0)]) dX9_longestOf_3 rfl rfl ?_
  refine z_iconst dX9_longestOf_5 ki_0 ?_
  refine y_istore (ls' := [(2, 170), (0, x1), (0, x2), (0, x3), (0, x4), (2, r5), (0, (-1000)), (0, 0), (9, 0), (9, 0)]) dX9_longestOf_6 rfl rfl ?_
  refine z_iloadn dX9_longestOf_8 rfl ?_
  refine y_istore (ls' := [(2, 170), (0, x1), (0, x2), (0, x3), (0, x4), (2, r5), (0, (-1000)), (0, 0), (0, x3), (9, 0)]) dX9_longestOf_9 rfl rfl ?_
  exact h
set_option maxRecDepth 20000 in
set_option maxHeartbeats 4000000 in
theorem bX9_longestOf_11 {G : zG} {d : Nat} {M : zM} {Q : zV → zM → Prop} (hG : zP G) {x1 x2 x3 x4 r5 x6 x7 x8 : Int} {nr5 : Nat} (hr5 : zsh r5.toNat = (100, nr5))
    (h : ((x4 < x8 → Q (0, x6) M) ∧ (x8 ≤ x4 → Y G d mX9_fewestLeaves 0 [(2, 170), (0, x1), (0, x8), (0, x2), (2, r5), (9, 0)] [] M (fun r M' => Y G (d + 1) mX9_longestOf 28 [(2, 170), (0, x1), (0, x2), (0, x3), (0, x4), (2, r5), (0, x6), (0, x7), (0, x8), (9, 0)] (zpush r []) M' Q)))) :
    Y G (d + 1) mX9_longestOf 11 [(2, 170), (0, x1), (0, x2), (0, x3), (0, x4), (2, r5), (0, x6), (0, x7), (0, x8), (9, 0)] [] M Q := by
  refine z_iload dX9_longestOf_11 rfl ?_
  refine z_iload dX9_longestOf_13 rfl ?_
  refine z_icmpgt (tgt := 51) dX9_longestOf_15 rfl (fun q => ?_) (fun q => ?_)
  · replace h := h.1 q
    refine z_iload dX9_longestOf_51 rfl ?_
    exact z_ireturn dX9_longestOf_53 (Or.inl rfl) rfl h
  · replace h := h.2 q
    refine z_aloadn dX9_longestOf_18 rfl (Or.inl rfl) ?_
    refine z_iloadn dX9_longestOf_19 rfl ?_
    refine z_iload dX9_longestOf_20 rfl ?_
    refine z_iloadn dX9_longestOf_22 rfl ?_
    refine z_aload dX9_longestOf_23 rfl (Or.inl rfl) ?_
    refine y_cv (mt2 := mX9_fewestLeaves) (en := [(2, 170), (0, x1), (0, x8), (0, x2), (2, r5), (9, 0)]) (st := []) (as := [(0, x1), (0, x8), (0, x2), (2, r5)]) dX9_longestOf_25 lX9_61 kX9_fewestLeaves iX9_fewestLeaves eX9_fewestLeaves rfl sh170 (by decide +kernel) (Nat.le_of_ble_eq_true rfl) (Nat.le_of_ble_eq_true rfl) rfl ?_
    exact h
set_option maxRecDepth 20000 in
set_option maxHeartbeats 4000000 in
theorem bX9_longestOf_28 {G : zG} {d : Nat} {M : zM} {Q : zV → zM → Prop} (hG : zP G) {x1 x2 x3 x4 r5 x6 x7 x8 x49 : Int} {nr5 : Nat} (hr5 : zsh r5.toNat = (100, nr5))
    (h : ((x49 ≤ x7 → (-2147483648 ≤ x8 + 1 ∧ x8 + 1 ≤ 2147483647) ∧ Y G (d + 1) mX9_longestOf 11 [(2, 170), (0, x1), (0, x2), (0, x3), (0, x4), (2, r5), (0, x6), (0, x7), (0, (x8 + 1)), (9, 0)] [] M Q) ∧ (x7 < x49 → (-2147483648 ≤ x8 + 1 ∧ x8 + 1 ≤ 2147483647) ∧ Y G (d + 1) mX9_longestOf 11 [(2, 170), (0, x1), (0, x2), (0, x3), (0, x4), (2, r5), (0, x8), (0, x49), (0, (x8 + 1)), (9, 0)] [] M Q))) :
    Y G (d + 1) mX9_longestOf 28 [(2, 170), (0, x1), (0, x2), (0, x3), (0, x4), (2, r5), (0, x6), (0, x7), (0, x8), (9, 0)] [(0, x49)] M Q := by
  refine y_istore (ls' := [(2, 170), (0, x1), (0, x2), (0, x3), (0, x4), (2, r5), (0, x6), (0, x7), (0, x8), (0, x49)]) dX9_longestOf_28 rfl rfl ?_
  refine z_iload dX9_longestOf_30 rfl ?_
  refine z_iload dX9_longestOf_32 rfl ?_
  refine z_icmple (tgt := 45) dX9_longestOf_34 rfl (fun q => ?_) (fun q => ?_)
  · replace h := h.1 q
    obtain ⟨q1, h⟩ := h
    refine y_iinc (ls' := [(2, 170), (0, x1), (0, x2), (0, x3), (0, x4), (2, r5), (0, x6), (0, x7), (0, (x8 + 1)), (0, x49)]) dX9_longestOf_45 rfl rfl q1 rfl ?_
    refine z_goto (tgt := 11) dX9_longestOf_48 rfl ?_
    refine z_sub (ls' := [(2, 170), (0, x1), (0, x2), (0, x3), (0, x4), (2, r5), (0, x6), (0, x7), (0, (x8 + 1)), (9, 0)]) ⟨Or.inl rfl, Or.inl rfl, Or.inl rfl, Or.inl rfl, Or.inl rfl, Or.inl rfl, Or.inl rfl, Or.inl rfl, Or.inl rfl, Or.inr rfl, trivial⟩ ?_
    exact h
  · replace h := h.2 q
    refine z_iload dX9_longestOf_37 rfl ?_
    refine y_istore (ls' := [(2, 170), (0, x1), (0, x2), (0, x3), (0, x4), (2, r5), (0, x8), (0, x7), (0, x8), (0, x49)]) dX9_longestOf_39 rfl rfl ?_
    refine z_iload dX9_longestOf_41 rfl ?_
    refine y_istore (ls' := [(2, 170), (0, x1), (0, x2), (0, x3), (0, x4), (2, r5), (0, x8), (0, x49), (0, x8), (0, x49)]) dX9_longestOf_43 rfl rfl ?_
    obtain ⟨q2, h⟩ := h
    refine y_iinc (ls' := [(2, 170), (0, x1), (0, x2), (0, x3), (0, x4), (2, r5), (0, x8), (0, x49), (0, (x8 + 1)), (0, x49)]) dX9_longestOf_45 rfl rfl q2 rfl ?_
    refine z_goto (tgt := 11) dX9_longestOf_48 rfl ?_
    refine z_sub (ls' := [(2, 170), (0, x1), (0, x2), (0, x3), (0, x4), (2, r5), (0, x8), (0, x49), (0, (x8 + 1)), (9, 0)]) ⟨Or.inl rfl, Or.inl rfl, Or.inl rfl, Or.inl rfl, Or.inl rfl, Or.inl rfl, Or.inl rfl, Or.inl rfl, Or.inl rfl, Or.inr rfl, trivial⟩ ?_
    exact h
set_option maxRecDepth 20000 in
set_option maxHeartbeats 4000000 in
theorem bX9_signAt_0 {G : zG} {d : Nat} {M : zM} {Q : zV → zM → Prop} (hG : zP G) {x1 x2 x3 x4 : Int}
    (h : Y G d mX9_write 0 [(2, 170), (0, x1), (0, x2), (0, x3), (0, 0), (9, 0), (9, 0), (9, 0), (9, 0)] [] M (fun r M' => Y G (d + 1) mX9_signAt 8 [(2, 170), (0, x1), (0, x2), (0, x3), (0, x4)] (zpush r []) M' Q)) :
    Y G (d + 1) mX9_signAt 0 [(2, 170), (0, x1), (0, x2), (0, x3), (0, x4)] [] M Q := by
  refine z_aloadn dX9_signAt_0 rfl (Or.inl rfl) ?_
  refine z_iloadn dX9_signAt_1 rfl ?_
  refine z_iloadn dX9_signAt_2 rfl ?_
  refine z_iloadn dX9_signAt_3 rfl ?_
  refine z_iconst dX9_signAt_4 ki_0 ?_
  refine y_cv (mt2 := mX9_write) (en := [(2, 170), (0, x1), (0, x2), (0, x3), (0, 0), (9, 0), (9, 0), (9, 0), (9, 0)]) (st := []) (as := [(0, x1), (0, x2), (0, x3), (0, 0)]) dX9_signAt_5 lX9_65 kX9_write iX9_write eX9_write rfl sh170 (by decide +kernel) (Nat.le_of_ble_eq_true rfl) (Nat.le_of_ble_eq_true rfl) rfl ?_
  exact h
set_option maxRecDepth 20000 in
set_option maxHeartbeats 4000000 in
theorem bX9_signAt_8 {G : zG} {d : Nat} {M : zM} {Q : zV → zM → Prop} (hG : zP G) {x1 x2 x3 x4 x49 : Int}
    (h : ((x4 < 0 → Q (0, (-1)) M) ∧ (0 ≤ x4 → ((9 ≤ x4 → Q (0, (-1)) M) ∧ (x4 < 9 → (0 ≤ x4 ∧ x4 < 9) ∧ Q (0, (M 175 x4)) M))))) :
    Y G (d + 1) mX9_signAt 8 [(2, 170), (0, x1), (0, x2), (0, x3), (0, x4)] [(0, x49)] M Q := by
  refine z_pop dX9_signAt_8 (show (0 : Nat) ≠ 1 by decide) ?_
  refine z_iload dX9_signAt_9 rfl ?_
  refine z_iflt (tgt := 34) dX9_signAt_11 rfl (fun q => ?_) (fun q => ?_)
  · replace h := h.1 q
    refine z_iconst dX9_signAt_34 ki_m1 ?_
    exact z_ireturn dX9_signAt_35 (Or.inl rfl) rfl h
  · replace h := h.2 q
    refine z_iload dX9_signAt_14 rfl ?_
    refine z_aloadn dX9_signAt_16 rfl (Or.inl rfl) ?_
    refine y_getr (v := 175) hG dX9_signAt_17 fX9_25 sh170 (by decide) rfl (by decide +kernel) (by decide) ?_
    refine y_alen (x := 9) dX9_signAt_20 sh175 (by decide) (by decide) rfl ?_
    refine z_icmpge (tgt := 34) dX9_signAt_21 rfl (fun q => ?_) (fun q => ?_)
    · replace h := h.1 q
      refine z_iconst dX9_signAt_34 ki_m1 ?_
      exact z_ireturn dX9_signAt_35 (Or.inl rfl) rfl h
    · replace h := h.2 q
      refine z_aloadn dX9_signAt_24 rfl (Or.inl rfl) ?_
      refine y_getr (v := 175) hG dX9_signAt_25 fX9_25 sh170 (by decide) rfl (by decide +kernel) (by decide) ?_
      refine z_iload dX9_signAt_28 rfl ?_
      obtain ⟨q1, h⟩ := h
      refine y_iald (x := (M 175 x4)) dX9_signAt_30 sh175 q1 rfl ?_
      refine z_goto (tgt := 35) dX9_signAt_31 rfl ?_
      exact z_ireturn dX9_signAt_35 (Or.inl rfl) rfl h
set_option maxRecDepth 20000 in
set_option maxHeartbeats 4000000 in
theorem bX9_put_0 {G : zG} {d : Nat} {M : zM} {Q : zV → zM → Prop} (hG : zP G) {x1 x2 : Int}
    (h : ((x1 < 0 → Q (9, 0) M) ∧ (0 ≤ x1 → ((9 ≤ x1 → Q (9, 0) M) ∧ (x1 < 9 → (0 ≤ x1 ∧ x1 < 9) ∧ Q (9, 0) (zset M 175 x1 x2)))))) :
    Y G d mX9_put 0 [(2, 170), (0, x1), (0, x2)] [] M Q := by
  refine z_iloadn dX9_put_0 rfl ?_
  refine z_iflt (tgt := 20) dX9_put_1 rfl (fun q => ?_) (fun q => ?_)
  · replace h := h.1 q
    exact z_return dX9_put_20 rfl rfl h
  · replace h := h.2 q
    refine z_iloadn dX9_put_4 rfl ?_
    refine z_aloadn dX9_put_5 rfl (Or.inl rfl) ?_
    refine y_getr (v := 175) hG dX9_put_6 fX9_25 sh170 (by decide) rfl (by decide +kernel) (by decide) ?_
    refine y_alen (x := 9) dX9_put_9 sh175 (by decide) (by decide) rfl ?_
    refine z_icmpge (tgt := 20) dX9_put_10 rfl (fun q => ?_) (fun q => ?_)
    · replace h := h.1 q
      exact z_return dX9_put_20 rfl rfl h
    · replace h := h.2 q
      refine z_aloadn dX9_put_13 rfl (Or.inl rfl) ?_
      refine y_getr (v := 175) hG dX9_put_14 fX9_25 sh170 (by decide) rfl (by decide +kernel) (by decide) ?_
      refine z_iloadn dX9_put_17 rfl ?_
      refine z_iloadn dX9_put_18 rfl ?_
      obtain ⟨q1, h⟩ := h
      refine y_iast hG dX9_put_19 sh175 q1 ?_
      exact z_return dX9_put_20 rfl rfl h
set_option maxRecDepth 20000 in
set_option maxHeartbeats 4000000 in
theorem bX9_write_0 {G : zG} {d : Nat} {M : zM} {Q : zV → zM → Prop} (hG : zP G) {x1 x2 x3 x4 : Int}
    (h : ((1 < x2 → Y G (d + 1) mX9_write 25 [(2, 170), (0, x1), (0, x2), (0, x3), (0, x4), (0, 1), (9, 0), (9, 0), (9, 0)] [] M Q) ∧ (x2 ≤ 1 → Y G d mX9_leafOf 0 [(2, 170), (0, x1), (0, x3), (9, 0)] [] M (fun r M' => Y G (d + 1) mX9_write 14 [(2, 170), (0, x1), (0, x2), (0, x3), (0, x4), (9, 0), (9, 0), (9, 0), (9, 0)] (zpush r [(0, x4), (2, 170)]) M' Q)))) :
    Y G (d + 1) mX9_write 0 [(2, 170), (0, x1), (0, x2), (0, x3), (0, x4), (9, 0), (9, 0), (9, 0), (9, 0)] [] M Q := by
  refine z_iloadn dX9_write_0 rfl ?_
  refine z_iconst dX9_write_1 ki_1 ?_
  refine z_icmpgt (tgt := 22) dX9_write_2 rfl (fun q => ?_) (fun q => ?_)
  · replace h := h.1 q
    refine z_iconst dX9_write_22 ki_1 ?_
    refine y_istore (ls' := [(2, 170), (0, x1), (0, x2), (0, x3), (0, x4), (0, 1), (9, 0), (9, 0), (9, 0)]) dX9_write_23 rfl rfl ?_
    exact h
  · replace h := h.2 q
    refine z_aloadn dX9_write_5 rfl (Or.inl rfl) ?_
    refine z_iload dX9_write_6 rfl ?_
    refine z_aloadn dX9_write_8 rfl (Or.inl rfl) ?_
    refine z_iloadn dX9_write_9 rfl ?_
    refine z_iloadn dX9_write_10 rfl ?_
    refine y_cv (mt2 := mX9_leafOf) (en := [(2, 170), (0, x1), (0, x3), (9, 0)]) (st := [(0, x4), (2, 170)]) (as := [(0, x1), (0, x3)]) dX9_write_11 lX9_69 kX9_leafOf iX9_leafOf eX9_leafOf rfl sh170 (by decide +kernel) (Nat.le_of_ble_eq_true rfl) (Nat.le_of_ble_eq_true rfl) rfl ?_
    exact h
set_option maxRecDepth 20000 in
set_option maxHeartbeats 4000000 in
theorem bX9_write_25 {G : zG} {d : Nat} {M : zM} {Q : zV → zM → Prop} (hG : zP G) {x1 x2 x3 x4 x5 : Int}
    (h : ((x2 ≤ x5 → Q (0, x4) M) ∧ (x5 < x2 → Y G (d + 1) mX9_write 34 [(2, 170), (0, x1), (0, x2), (0, x3), (0, x4), (0, x5), (0, 0), (9, 0), (9, 0)] [] M Q))) :
    Y G (d + 1) mX9_write 25 [(2, 170), (0, x1), (0, x2), (0, x3), (0, x4), (0, x5), (9, 0), (9, 0), (9, 0)] [] M Q := by
  refine z_iload dX9_write_25 rfl ?_
  refine z_iloadn dX9_write_27 rfl ?_
  refine z_icmpge (tgt := 150) dX9_write_28 rfl (fun q => ?_) (fun q => ?_)
  · replace h := h.1 q
    refine z_iload dX9_write_150 rfl ?_
    exact z_ireturn dX9_write_152 (Or.inl rfl) rfl h
  · replace h := h.2 q
    refine z_iconst dX9_write_31 ki_0 ?_
    refine y_istore (ls' := [(2, 170), (0, x1), (0, x2), (0, x3), (0, x4), (0, x5), (0, 0), (9, 0), (9, 0)]) dX9_write_32 rfl rfl ?_
    exact h
set_option maxRecDepth 20000 in
set_option maxHeartbeats 4000000 in
theorem bX9_write_34 {G : zG} {d : Nat} {M : zM} {Q : zV → zM → Prop} (hG : zP G) {x1 x2 x3 x4 x5 x6 : Int}
    (h : ((3 ≤ x6 → (-2147483648 ≤ x5 + 1 ∧ x5 + 1 ≤ 2147483647) ∧ Y G (d + 1) mX9_write 25 [(2, 170), (0, x1), (0, x2), (0, x3), (0, x4), (0, (x5 + 1)), (9, 0), (9, 0), (9, 0)] [] M Q) ∧ (x6 < 3 → Y G (d + 1) mX9_write 45 [(2, 170), (0, x1), (0, x2), (0, x3), (0, x4), (0, x5), (0, x6), (0, (-500)), (9, 0)] [] M Q))) :
    Y G (d + 1) mX9_write 34 [(2, 170), (0, x1), (0, x2), (0, x3), (0, x4), (0, x5), (0, x6), (9, 0), (9, 0)] [] M Q := by
  refine z_iload dX9_write_34 rfl ?_
  refine z_iconst dX9_write_36 ki_3 ?_
  refine z_icmpge (tgt := 144) dX9_write_37 rfl (fun q => ?_) (fun q => ?_)
  · replace h := h.1 q
    obtain ⟨q1, h⟩ := h
    refine y_iinc (ls' := [(2, 170), (0, x1), (0, x2), (0, x3), (0, x4), (0, (x5 + 1)), (0, x6), (9, 0), (9, 0)]) dX9_write_144 rfl rfl q1 rfl ?_
    refine z_goto (tgt := 25) dX9_write_147 rfl ?_
    refine z_sub (ls' := [(2, 170), (0, x1), (0, x2), (0, x3), (0, x4), (0, (x5 + 1)), (9, 0), (9, 0), (9, 0)]) ⟨Or.inl rfl, Or.inl rfl, Or.inl rfl, Or.inl rfl, Or.inl rfl, Or.inl rfl, Or.inr rfl, Or.inl rfl, Or.inl rfl, trivial⟩ ?_
    exact h
  · replace h := h.2 q
    refine z_sipush dX9_write_40 ks_m500 ?_
    refine y_istore (ls' := [(2, 170), (0, x1), (0, x2), (0, x3), (0, x4), (0, x5), (0, x6), (0, (-500)), (9, 0)]) dX9_write_43 rfl rfl ?_
    exact h
set_option maxRecDepth 20000 in
set_option maxHeartbeats 4000000 in
theorem bX9_write_45 {G : zG} {d : Nat} {M : zM} {Q : zV → zM → Prop} (hG : zP G) {x1 x2 x3 x4 x5 x6 x7 : Int}
    (h : ((500 < x7 → (-2147483648 ≤ x6 + 1 ∧ x6 + 1 ≤ 2147483647) ∧ Y G (d + 1) mX9_write 34 [(2, 170), (0, x1), (0, x2), (0, x3), (0, x4), (0, x5), (0, (x6 + 1)), (9, 0), (9, 0)] [] M Q) ∧ (x7 ≤ 500 → Y G d mX9_countOf 0 [(2, 170), (0, x1), (0, x5), (0, x7)] [] M (fun r M' => Y G (d + 1) mX9_write 62 [(2, 170), (0, x1), (0, x2), (0, x3), (0, x4), (0, x5), (0, x6), (0, x7), (9, 0)] (zpush r []) M' Q)))) :
    Y G (d + 1) mX9_write 45 [(2, 170), (0, x1), (0, x2), (0, x3), (0, x4), (0, x5), (0, x6), (0, x7), (9, 0)] [] M Q := by
  refine z_iload dX9_write_45 rfl ?_
  refine z_sipush dX9_write_47 ks_500 ?_
  refine z_icmpgt (tgt := 138) dX9_write_50 rfl (fun q => ?_) (fun q => ?_)
  · replace h := h.1 q
    obtain ⟨q1, h⟩ := h
    refine y_iinc (ls' := [(2, 170), (0, x1), (0, x2), (0, x3), (0, x4), (0, x5), (0, (x6 + 1)), (0, x7), (9, 0)]) dX9_write_138 rfl rfl q1 rfl ?_
    refine z_goto (tgt := 34) dX9_write_141 rfl ?_
    refine z_sub (ls' := [(2, 170), (0, x1), (0, x2), (0, x3), (0, x4), (0, x5), (0, (x6 + 1)), (9, 0), (9, 0)]) ⟨Or.inl rfl, Or.inl rfl, Or.inl rfl, Or.inl rfl, Or.inl rfl, Or.inl rfl, Or.inl rfl, Or.inr rfl, Or.inl rfl, trivial⟩ ?_
    exact h
  · replace h := h.2 q
    refine z_aloadn dX9_write_53 rfl (Or.inl rfl) ?_
    refine z_iloadn dX9_write_54 rfl ?_
    refine z_iload dX9_write_55 rfl ?_
    refine z_iload dX9_write_57 rfl ?_
    refine y_cv (mt2 := mX9_countOf) (en := [(2, 170), (0, x1), (0, x5), (0, x7)]) (st := []) (as := [(0, x1), (0, x5), (0, x7)]) dX9_write_59 lX9_58 kX9_countOf iX9_countOf eX9_countOf rfl sh170 (by decide +kernel) (Nat.le_of_ble_eq_true rfl) (Nat.le_of_ble_eq_true rfl) rfl ?_
    exact h
set_option maxRecDepth 20000 in
set_option maxHeartbeats 4000000 in
theorem bX9_write_14 {G : zG} {d : Nat} {M : zM} {Q : zV → zM → Prop} (hG : zP G) {x1 x2 x3 x4 x49 x50 : Int}
    (h : Y G d mX9_put 0 [(2, 170), (0, x50), (0, x49)] [] M (fun r M' => Y G (d + 1) mX9_write 17 [(2, 170), (0, x1), (0, x2), (0, x3), (0, x4), (9, 0), (9, 0), (9, 0), (9, 0)] (zpush r []) M' Q)) :
    Y G (d + 1) mX9_write 14 [(2, 170), (0, x1), (0, x2), (0, x3), (0, x4), (9, 0), (9, 0), (9, 0), (9, 0)] [(0, x49), (0, x50), (2, 170)] M Q := by
  refine y_cv (mt2 := mX9_put) (en := [(2, 170), (0, x50), (0, x49)]) (st := []) (as := [(0, x50), (0, x49)]) dX9_write_14 lX9_73 kX9_put iX9_put eX9_put rfl sh170 (by decide +kernel) (Nat.le_of_ble_eq_true rfl) (Nat.le_of_ble_eq_true rfl) rfl ?_
  exact h
set_option maxRecDepth 20000 in
set_option maxHeartbeats 4000000 in
theorem bX9_write_62 {G : zG} {d : Nat} {M : zM} {Q : zV → zM → Prop} (hG : zP G) {x1 x2 x3 x4 x5 x6 x7 x49 : Int}
    (h : ((¬ x49 = 0 → (-2147483648 ≤ x2 - x5 ∧ x2 - x5 ≤ 2147483647) ∧ Y G d mX9_partnerOf 0 [(2, 170), (0, x7), (0, x6), (0, x3), (0, x1), (0, (x2 - x5)), (9, 0)] [] M (fun r M' => Y G (d + 1) mX9_write 85 [(2, 170), (0, x1), (0, x2), (0, x3), (0, x4), (0, x5), (0, x6), (0, x7), (9, 0)] (zpush r []) M' Q)) ∧ (x49 = 0 → (-2147483648 ≤ x7 + 1 ∧ x7 + 1 ≤ 2147483647) ∧ Y G (d + 1) mX9_write 45 [(2, 170), (0, x1), (0, x2), (0, x3), (0, x4), (0, x5), (0, x6), (0, (x7 + 1)), (9, 0)] [] M Q))) :
    Y G (d + 1) mX9_write 62 [(2, 170), (0, x1), (0, x2), (0, x3), (0, x4), (0, x5), (0, x6), (0, x7), (9, 0)] [(0, x49)] M Q := by
  refine z_ifne (tgt := 71) dX9_write_62 rfl (fun q => ?_) (fun q => ?_)
  · replace h := h.1 q
    refine z_aloadn dX9_write_71 rfl (Or.inl rfl) ?_
    refine z_iload dX9_write_72 rfl ?_
    refine z_iload dX9_write_74 rfl ?_
    refine z_iloadn dX9_write_76 rfl ?_
    refine z_iloadn dX9_write_77 rfl ?_
    refine z_iloadn dX9_write_78 rfl ?_
    refine z_iload dX9_write_79 rfl ?_
    obtain ⟨q1, h⟩ := h
    refine z_isub dX9_write_81 q1 ?_
    refine y_cv (mt2 := mX9_partnerOf) (en := [(2, 170), (0, x7), (0, x6), (0, x3), (0, x1), (0, (x2 - x5)), (9, 0)]) (st := []) (as := [(0, x7), (0, x6), (0, x3), (0, x1), (0, (x2 - x5))]) dX9_write_82 lX9_76 kX9_partnerOf iX9_partnerOf eX9_partnerOf rfl sh170 (by decide +kernel) (Nat.le_of_ble_eq_true rfl) (Nat.le_of_ble_eq_true rfl) rfl ?_
    exact h
  · replace h := h.2 q
    refine z_sipush dX9_write_65 ks_m1000 ?_
    refine z_goto (tgt := 85) dX9_write_68 rfl ?_
    refine y_istore (ls' := [(2, 170), (0, x1), (0, x2), (0, x3), (0, x4), (0, x5), (0, x6), (0, x7), (0, (-1000))]) dX9_write_85 rfl rfl ?_
    refine z_iload dX9_write_87 rfl ?_
    refine z_sipush dX9_write_89 ks_m1000 ?_
    refine z_icmpeq (tgt := 132) dX9_write_92 rfl (fun _ => ?_) (fun q => absurd q (by decide))
    obtain ⟨q2, h⟩ := h
    refine y_iinc (ls' := [(2, 170), (0, x1), (0, x2), (0, x3), (0, x4), (0, x5), (0, x6), (0, (x7 + 1)), (0, (-1000))]) dX9_write_132 rfl rfl q2 rfl ?_
    refine z_goto (tgt := 45) dX9_write_135 rfl ?_
    refine z_sub (ls' := [(2, 170), (0, x1), (0, x2), (0, x3), (0, x4), (0, x5), (0, x6), (0, (x7 + 1)), (9, 0)]) ⟨Or.inl rfl, Or.inl rfl, Or.inl rfl, Or.inl rfl, Or.inl rfl, Or.inl rfl, Or.inl rfl, Or.inl rfl, Or.inr rfl, trivial⟩ ?_
    exact h
set_option maxRecDepth 20000 in
set_option maxHeartbeats 4000000 in
theorem bX9_write_17 {G : zG} {d : Nat} {M : zM} {Q : zV → zM → Prop} (hG : zP G) {x1 x2 x3 x4 : Int}
    (h : (-2147483648 ≤ x4 + 1 ∧ x4 + 1 ≤ 2147483647) ∧ Q (0, (x4 + 1)) M) :
    Y G (d + 1) mX9_write 17 [(2, 170), (0, x1), (0, x2), (0, x3), (0, x4), (9, 0), (9, 0), (9, 0), (9, 0)] [] M Q := by
  refine z_iload dX9_write_17 rfl ?_
  refine z_iconst dX9_write_19 ki_1 ?_
  obtain ⟨q1, h⟩ := h
  refine z_iadd dX9_write_20 q1 ?_
  exact z_ireturn dX9_write_21 (Or.inl rfl) rfl h
set_option maxRecDepth 20000 in
set_option maxHeartbeats 4000000 in
theorem bX9_write_85 {G : zG} {d : Nat} {M : zM} {Q : zV → zM → Prop} (hG : zP G) {x1 x2 x3 x4 x5 x6 x7 x49 : Int}
    (h : ((x49 = (-1000) → (-2147483648 ≤ x7 + 1 ∧ x7 + 1 ≤ 2147483647) ∧ Y G (d + 1) mX9_write 45 [(2, 170), (0, x1), (0, x2), (0, x3), (0, x4), (0, x5), (0, x6), (0, (x7 + 1)), (9, 0)] [] M Q) ∧ (¬ x49 = (-1000) → (-2147483648 ≤ 1000 + x6 ∧ 1000 + x6 ≤ 2147483647) ∧ Y G d mX9_put 0 [(2, 170), (0, x4), (0, (1000 + x6))] [] M (fun r M' => Y G (d + 1) mX9_write 107 [(2, 170), (0, x1), (0, x2), (0, x3), (0, x4), (0, x5), (0, x6), (0, x7), (0, x49)] (zpush r []) M' Q)))) :
    Y G (d + 1) mX9_write 85 [(2, 170), (0, x1), (0, x2), (0, x3), (0, x4), (0, x5), (0, x6), (0, x7), (9, 0)] [(0, x49)] M Q := by
  refine y_istore (ls' := [(2, 170), (0, x1), (0, x2), (0, x3), (0, x4), (0, x5), (0, x6), (0, x7), (0, x49)]) dX9_write_85 rfl rfl ?_
  refine z_iload dX9_write_87 rfl ?_
  refine z_sipush dX9_write_89 ks_m1000 ?_
  refine z_icmpeq (tgt := 132) dX9_write_92 rfl (fun q => ?_) (fun q => ?_)
  · replace h := h.1 q
    obtain ⟨q1, h⟩ := h
    refine y_iinc (ls' := [(2, 170), (0, x1), (0, x2), (0, x3), (0, x4), (0, x5), (0, x6), (0, (x7 + 1)), (0, x49)]) dX9_write_132 rfl rfl q1 rfl ?_
    refine z_goto (tgt := 45) dX9_write_135 rfl ?_
    refine z_sub (ls' := [(2, 170), (0, x1), (0, x2), (0, x3), (0, x4), (0, x5), (0, x6), (0, (x7 + 1)), (9, 0)]) ⟨Or.inl rfl, Or.inl rfl, Or.inl rfl, Or.inl rfl, Or.inl rfl, Or.inl rfl, Or.inl rfl, Or.inl rfl, Or.inr rfl, trivial⟩ ?_
    exact h
  · replace h := h.2 q
    refine z_aloadn dX9_write_95 rfl (Or.inl rfl) ?_
    refine z_iload dX9_write_96 rfl ?_
    refine z_sipush dX9_write_98 ks_1000 ?_
    refine z_iload dX9_write_101 rfl ?_
    obtain ⟨q2, h⟩ := h
    refine z_iadd dX9_write_103 q2 ?_
    refine y_cv (mt2 := mX9_put) (en := [(2, 170), (0, x4), (0, (1000 + x6))]) (st := []) (as := [(0, x4), (0, (1000 + x6))]) dX9_write_104 lX9_73 kX9_put iX9_put eX9_put rfl sh170 (by decide +kernel) (Nat.le_of_ble_eq_true rfl) (Nat.le_of_ble_eq_true rfl) rfl ?_
    exact h
set_option maxRecDepth 20000 in
set_option maxHeartbeats 4000000 in
theorem bX9_write_107 {G : zG} {d : Nat} {M : zM} {Q : zV → zM → Prop} (hG : zP G) {x1 x2 x3 x4 x5 x6 x7 x8 : Int}
    (h : (-2147483648 ≤ x2 - x5 ∧ x2 - x5 ≤ 2147483647) ∧ (-2147483648 ≤ x4 + 1 ∧ x4 + 1 ≤ 2147483647) ∧ Y G d mX9_write 0 [(2, 170), (0, x1), (0, x5), (0, x7), (0, (x4 + 1)), (9, 0), (9, 0), (9, 0), (9, 0)] [] M (fun r M' => Y G (d + 1) mX9_write 128 [(2, 170), (0, x1), (0, x2), (0, x3), (0, x4), (0, x5), (0, x6), (0, x7), (0, x8)] (zpush r [(0, x8), (0, (x2 - x5)), (0, x1), (2, 170)]) M' Q)) :
    Y G (d + 1) mX9_write 107 [(2, 170), (0, x1), (0, x2), (0, x3), (0, x4), (0, x5), (0, x6), (0, x7), (0, x8)] [] M Q := by
  refine z_aloadn dX9_write_107 rfl (Or.inl rfl) ?_
  refine z_iloadn dX9_write_108 rfl ?_
  refine z_iloadn dX9_write_109 rfl ?_
  refine z_iload dX9_write_110 rfl ?_
  obtain ⟨q1, h⟩ := h
  refine z_isub dX9_write_112 q1 ?_
  refine z_iload dX9_write_113 rfl ?_
  refine z_aloadn dX9_write_115 rfl (Or.inl rfl) ?_
  refine z_iloadn dX9_write_116 rfl ?_
  refine z_iload dX9_write_117 rfl ?_
  refine z_iload dX9_write_119 rfl ?_
  refine z_iload dX9_write_121 rfl ?_
  refine z_iconst dX9_write_123 ki_1 ?_
  obtain ⟨q2, h⟩ := h
  refine z_iadd dX9_write_124 q2 ?_
  refine y_cv (mt2 := mX9_write) (en := [(2, 170), (0, x1), (0, x5), (0, x7), (0, (x4 + 1)), (9, 0), (9, 0), (9, 0), (9, 0)]) (st := [(0, x8), (0, (x2 - x5)), (0, x1), (2, 170)]) (as := [(0, x1), (0, x5), (0, x7), (0, (x4 + 1))]) dX9_write_125 lX9_65 kX9_write iX9_write eX9_write rfl sh170 (by decide +kernel) (Nat.le_of_ble_eq_true rfl) (Nat.le_of_ble_eq_true rfl) rfl ?_
  exact h
set_option maxRecDepth 20000 in
set_option maxHeartbeats 4000000 in
theorem bX9_write_128 {G : zG} {d : Nat} {M : zM} {Q : zV → zM → Prop} (hG : zP G) {x1 x2 x3 x4 x5 x6 x7 x8 x49 x50 x51 x52 : Int}
    (h : Y G d mX9_write 0 [(2, 170), (0, x52), (0, x51), (0, x50), (0, x49), (9, 0), (9, 0), (9, 0), (9, 0)] [] M (fun r M' => Y G (d + 1) mX9_write 131 [(2, 170), (0, x1), (0, x2), (0, x3), (0, x4), (0, x5), (0, x6), (0, x7), (0, x8)] (zpush r []) M' Q)) :
    Y G (d + 1) mX9_write 128 [(2, 170), (0, x1), (0, x2), (0, x3), (0, x4), (0, x5), (0, x6), (0, x7), (0, x8)] [(0, x49), (0, x50), (0, x51), (0, x52), (2, 170)] M Q := by
  refine y_cv (mt2 := mX9_write) (en := [(2, 170), (0, x52), (0, x51), (0, x50), (0, x49), (9, 0), (9, 0), (9, 0), (9, 0)]) (st := []) (as := [(0, x52), (0, x51), (0, x50), (0, x49)]) dX9_write_128 lX9_65 kX9_write iX9_write eX9_write rfl sh170 (by decide +kernel) (Nat.le_of_ble_eq_true rfl) (Nat.le_of_ble_eq_true rfl) rfl ?_
  exact h
set_option maxRecDepth 20000 in
set_option maxHeartbeats 4000000 in
theorem bX9_write_131 {G : zG} {d : Nat} {M : zM} {Q : zV → zM → Prop} (hG : zP G) {x1 x2 x3 x4 x5 x6 x7 x8 x49 : Int}
    (h : Q (0, x49) M) :
    Y G (d + 1) mX9_write 131 [(2, 170), (0, x1), (0, x2), (0, x3), (0, x4), (0, x5), (0, x6), (0, x7), (0, x8)] [(0, x49)] M Q := by
  exact z_ireturn dX9_write_131 (Or.inl rfl) rfl h
set_option maxRecDepth 20000 in
set_option maxHeartbeats 4000000 in
theorem bX9_leafOf_0 {G : zG} {d : Nat} {M : zM} {Q : zV → zM → Prop} (hG : zP G) {x1 x2 : Int}
    (h : ((x2 < 1 → Y G d mX9_leafOf 14 [(2, 170), (0, x1), (0, x2), (0, 0)] [] M Q) ∧ (1 ≤ x2 → ((x1 < x2 → Y G d mX9_leafOf 14 [(2, 170), (0, x1), (0, x2), (0, 0)] [] M Q) ∧ (x2 ≤ x1 → Q (0, x2) M))))) :
    Y G d mX9_leafOf 0 [(2, 170), (0, x1), (0, x2), (9, 0)] [] M Q := by
  refine z_iloadn dX9_leafOf_0 rfl ?_
  refine z_iconst dX9_leafOf_1 ki_1 ?_
  refine z_icmplt (tgt := 12) dX9_leafOf_2 rfl (fun q => ?_) (fun q => ?_)
  · replace h := h.1 q
    refine z_iconst dX9_leafOf_12 ki_0 ?_
    refine y_istoren (ls' := [(2, 170), (0, x1), (0, x2), (0, 0)]) dX9_leafOf_13 rfl rfl ?_
    exact h
  · replace h := h.2 q
    refine z_iloadn dX9_leafOf_5 rfl ?_
    refine z_iloadn dX9_leafOf_6 rfl ?_
    refine z_icmpgt (tgt := 12) dX9_leafOf_7 rfl (fun q => ?_) (fun q => ?_)
    · replace h := h.1 q
      refine z_iconst dX9_leafOf_12 ki_0 ?_
      refine y_istoren (ls' := [(2, 170), (0, x1), (0, x2), (0, 0)]) dX9_leafOf_13 rfl rfl ?_
      exact h
    · replace h := h.2 q
      refine z_iloadn dX9_leafOf_10 rfl ?_
      exact z_ireturn dX9_leafOf_11 (Or.inl rfl) rfl h
set_option maxRecDepth 20000 in
set_option maxHeartbeats 4000000 in
theorem bX9_leafOf_14 {G : zG} {d : Nat} {M : zM} {Q : zV → zM → Prop} (hG : zP G) {x1 x2 x3 : Int}
    (h : ((4 ≤ x3 → Q (0, (-1)) M) ∧ (x3 < 4 → (0 ≤ x3 ∧ x3 < 4) ∧ ((¬ (M 173 x3) = x2 → (-2147483648 ≤ x3 + 1 ∧ x3 + 1 ≤ 2147483647) ∧ Y G d mX9_leafOf 14 [(2, 170), (0, x1), (0, x2), (0, (x3 + 1))] [] M Q) ∧ ((M 173 x3) = x2 → (-2147483648 ≤ 2000 + x3 ∧ 2000 + x3 ≤ 2147483647) ∧ Q (0, (2000 + x3)) M))))) :
    Y G d mX9_leafOf 14 [(2, 170), (0, x1), (0, x2), (0, x3)] [] M Q := by
  refine z_iloadn dX9_leafOf_14 rfl ?_
  refine z_iconst dX9_leafOf_15 ki_4 ?_
  refine z_icmpge (tgt := 41) dX9_leafOf_16 rfl (fun q => ?_) (fun q => ?_)
  · replace h := h.1 q
    refine z_iconst dX9_leafOf_41 ki_m1 ?_
    exact z_ireturn dX9_leafOf_42 (Or.inl rfl) rfl h
  · replace h := h.2 q
    refine z_aloadn dX9_leafOf_19 rfl (Or.inl rfl) ?_
    refine y_getr (v := 173) hG dX9_leafOf_20 fX9_19 sh170 (by decide) rfl (by decide +kernel) (by decide) ?_
    refine z_iloadn dX9_leafOf_23 rfl ?_
    obtain ⟨q1, h⟩ := h
    refine y_iald (x := (M 173 x3)) dX9_leafOf_24 sh173 q1 rfl ?_
    refine z_iloadn dX9_leafOf_25 rfl ?_
    refine z_icmpne (tgt := 35) dX9_leafOf_26 rfl (fun q => ?_) (fun q => ?_)
    · replace h := h.1 q
      obtain ⟨q2, h⟩ := h
      refine y_iinc (ls' := [(2, 170), (0, x1), (0, x2), (0, (x3 + 1))]) dX9_leafOf_35 rfl rfl q2 rfl ?_
      refine z_goto (tgt := 14) dX9_leafOf_38 rfl ?_
      exact h
    · replace h := h.2 q
      refine z_sipush dX9_leafOf_29 ks_2000 ?_
      refine z_iloadn dX9_leafOf_32 rfl ?_
      obtain ⟨q3, h⟩ := h
      refine z_iadd dX9_leafOf_33 q3 ?_
      exact z_ireturn dX9_leafOf_34 (Or.inl rfl) rfl h
set_option maxRecDepth 20000 in
set_option maxHeartbeats 4000000 in
theorem bX9_partnerOf_0 {G : zG} {d : Nat} {M : zM} {Q : zV → zM → Prop} (hG : zP G) {x1 x2 x3 x4 x5 : Int}
    (h : ((¬ x2 = 0 → ((¬ x2 = 1 → ((¬ x1 = 0 → (¬ x1 = 0) ∧ ((¬ (zrem x3 x1) = 0 → Y G d mX9_countOf 0 [(2, 170), (0, x4), (0, x5), (0, (-1000))] [] M (fun r M' => Y G (d + 1) mX9_partnerOf 74 [(2, 170), (0, x1), (0, x2), (0, x3), (0, x4), (0, x5), (0, (-1000))] (zpush r []) M' Q)) ∧ ((zrem x3 x1) = 0 → (¬ x1 = 0) ∧ Y G d mX9_countOf 0 [(2, 170), (0, x4), (0, x5), (0, (zdiv x3 x1))] [] M (fun r M' => Y G (d + 1) mX9_partnerOf 74 [(2, 170), (0, x1), (0, x2), (0, x3), (0, x4), (0, x5), (0, (zdiv x3 x1))] (zpush r []) M' Q)))) ∧ (x1 = 0 → ((¬ x3 = 0 → Q (0, (-1000)) M) ∧ (x3 = 0 → Y G d mX9_leastOf 0 [(2, 170), (0, x4), (0, x5), (9, 0)] [] M (fun r M' => Y G (d + 1) mX9_partnerOf 46 [(2, 170), (0, x1), (0, x2), (0, x3), (0, x4), (0, x5), (0, (-1000))] (zpush r []) M' Q)))))) ∧ (x2 = 1 → (-2147483648 ≤ x1 - x3 ∧ x1 - x3 ≤ 2147483647) ∧ Y G d mX9_countOf 0 [(2, 170), (0, x4), (0, x5), (0, (x1 - x3))] [] M (fun r M' => Y G (d + 1) mX9_partnerOf 74 [(2, 170), (0, x1), (0, x2), (0, x3), (0, x4), (0, x5), (0, (x1 - x3))] (zpush r []) M' Q)))) ∧ (x2 = 0 → (-2147483648 ≤ x3 - x1 ∧ x3 - x1 ≤ 2147483647) ∧ Y G d mX9_countOf 0 [(2, 170), (0, x4), (0, x5), (0, (x3 - x1))] [] M (fun r M' => Y G (d + 1) mX9_partnerOf 74 [(2, 170), (0, x1), (0, x2), (0, x3), (0, x4), (0, x5), (0, (x3 - x1))] (zpush r []) M' Q)))) :
    Y G (d + 1) mX9_partnerOf 0 [(2, 170), (0, x1), (0, x2), (0, x3), (0, x4), (0, x5), (9, 0)] [] M Q := by
  refine z_sipush dX9_partnerOf_0 ks_m1000 ?_
  refine y_istore (ls' := [(2, 170), (0, x1), (0, x2), (0, x3), (0, x4), (0, x5), (0, (-1000))]) dX9_partnerOf_3 rfl rfl ?_
  refine z_iloadn dX9_partnerOf_5 rfl ?_
  refine z_ifne (tgt := 17) dX9_partnerOf_6 rfl (fun q => ?_) (fun q => ?_)
  · replace h := h.1 q
    refine z_iloadn dX9_partnerOf_17 rfl ?_
    refine z_iconst dX9_partnerOf_18 ki_1 ?_
    refine z_icmpne (tgt := 30) dX9_partnerOf_19 rfl (fun q => ?_) (fun q => ?_)
    · replace h := h.1 q
      refine z_iloadn dX9_partnerOf_30 rfl ?_
      refine z_ifne (tgt := 53) dX9_partnerOf_31 rfl (fun q => ?_) (fun q => ?_)
      · replace h := h.1 q
        refine z_iloadn dX9_partnerOf_53 rfl ?_
        refine z_iloadn dX9_partnerOf_54 rfl ?_
        obtain ⟨q1, h⟩ := h
        refine z_irem dX9_partnerOf_55 q1 ?_
        refine z_ifne (tgt := 64) dX9_partnerOf_56 rfl (fun q => ?_) (fun q => ?_)
        · replace h := h.1 q
          refine z_aloadn dX9_partnerOf_64 rfl (Or.inl rfl) ?_
          refine z_iload dX9_partnerOf_65 rfl ?_
          refine z_iload dX9_partnerOf_67 rfl ?_
          refine z_iload dX9_partnerOf_69 rfl ?_
          refine y_cv (mt2 := mX9_countOf) (en := [(2, 170), (0, x4), (0, x5), (0, (-1000))]) (st := []) (as := [(0, x4), (0, x5), (0, (-1000))]) dX9_partnerOf_71 lX9_58 kX9_countOf iX9_countOf eX9_countOf rfl sh170 (by decide +kernel) (Nat.le_of_ble_eq_true rfl) (Nat.le_of_ble_eq_true rfl) rfl ?_
          exact h
        · replace h := h.2 q
          refine z_iloadn dX9_partnerOf_59 rfl ?_
          refine z_iloadn dX9_partnerOf_60 rfl ?_
          obtain ⟨q2, h⟩ := h
          refine z_idiv dX9_partnerOf_61 q2 ?_
          refine y_istore (ls' := [(2, 170), (0, x1), (0, x2), (0, x3), (0, x4), (0, x5), (0, (zdiv x3 x1))]) dX9_partnerOf_62 rfl rfl ?_
          refine z_aloadn dX9_partnerOf_64 rfl (Or.inl rfl) ?_
          refine z_iload dX9_partnerOf_65 rfl ?_
          refine z_iload dX9_partnerOf_67 rfl ?_
          refine z_iload dX9_partnerOf_69 rfl ?_
          refine y_cv (mt2 := mX9_countOf) (en := [(2, 170), (0, x4), (0, x5), (0, (zdiv x3 x1))]) (st := []) (as := [(0, x4), (0, x5), (0, (zdiv x3 x1))]) dX9_partnerOf_71 lX9_58 kX9_countOf iX9_countOf eX9_countOf rfl sh170 (by decide +kernel) (Nat.le_of_ble_eq_true rfl) (Nat.le_of_ble_eq_true rfl) rfl ?_
          exact h
      · replace h := h.2 q
        refine z_iloadn dX9_partnerOf_34 rfl ?_
        refine z_ifne (tgt := 49) dX9_partnerOf_35 rfl (fun q => ?_) (fun q => ?_)
        · replace h := h.1 q
          refine z_sipush dX9_partnerOf_49 ks_m1000 ?_
          exact z_ireturn dX9_partnerOf_52 (Or.inl rfl) rfl h
        · replace h := h.2 q
          refine z_aloadn dX9_partnerOf_38 rfl (Or.inl rfl) ?_
          refine z_iload dX9_partnerOf_39 rfl ?_
          refine z_iload dX9_partnerOf_41 rfl ?_
          refine y_cv (mt2 := mX9_leastOf) (en := [(2, 170), (0, x4), (0, x5), (9, 0)]) (st := []) (as := [(0, x4), (0, x5)]) dX9_partnerOf_43 lX9_80 kX9_leastOf iX9_leastOf eX9_leastOf rfl sh170 (by decide +kernel) (Nat.le_of_ble_eq_true rfl) (Nat.le_of_ble_eq_true rfl) rfl ?_
          exact h
    · replace h := h.2 q
      refine z_iloadn dX9_partnerOf_22 rfl ?_
      refine z_iloadn dX9_partnerOf_23 rfl ?_
      obtain ⟨q3, h⟩ := h
      refine z_isub dX9_partnerOf_24 q3 ?_
      refine y_istore (ls' := [(2, 170), (0, x1), (0, x2), (0, x3), (0, x4), (0, x5), (0, (x1 - x3))]) dX9_partnerOf_25 rfl rfl ?_
      refine z_goto (tgt := 64) dX9_partnerOf_27 rfl ?_
      refine z_aloadn dX9_partnerOf_64 rfl (Or.inl rfl) ?_
      refine z_iload dX9_partnerOf_65 rfl ?_
      refine z_iload dX9_partnerOf_67 rfl ?_
      refine z_iload dX9_partnerOf_69 rfl ?_
      refine y_cv (mt2 := mX9_countOf) (en := [(2, 170), (0, x4), (0, x5), (0, (x1 - x3))]) (st := []) (as := [(0, x4), (0, x5), (0, (x1 - x3))]) dX9_partnerOf_71 lX9_58 kX9_countOf iX9_countOf eX9_countOf rfl sh170 (by decide +kernel) (Nat.le_of_ble_eq_true rfl) (Nat.le_of_ble_eq_true rfl) rfl ?_
      exact h
  · replace h := h.2 q
    refine z_iloadn dX9_partnerOf_9 rfl ?_
    refine z_iloadn dX9_partnerOf_10 rfl ?_
    obtain ⟨q4, h⟩ := h
    refine z_isub dX9_partnerOf_11 q4 ?_
    refine y_istore (ls' := [(2, 170), (0, x1), (0, x2), (0, x3), (0, x4), (0, x5), (0, (x3 - x1))]) dX9_partnerOf_12 rfl rfl ?_
    refine z_goto (tgt := 64) dX9_partnerOf_14 rfl ?_
    refine z_aloadn dX9_partnerOf_64 rfl (Or.inl rfl) ?_
    refine z_iload dX9_partnerOf_65 rfl ?_
    refine z_iload dX9_partnerOf_67 rfl ?_
    refine z_iload dX9_partnerOf_69 rfl ?_
    refine y_cv (mt2 := mX9_countOf) (en := [(2, 170), (0, x4), (0, x5), (0, (x3 - x1))]) (st := []) (as := [(0, x4), (0, x5), (0, (x3 - x1))]) dX9_partnerOf_71 lX9_58 kX9_countOf iX9_countOf eX9_countOf rfl sh170 (by decide +kernel) (Nat.le_of_ble_eq_true rfl) (Nat.le_of_ble_eq_true rfl) rfl ?_
    exact h
set_option maxRecDepth 20000 in
set_option maxHeartbeats 4000000 in
theorem bX9_partnerOf_74 {G : zG} {d : Nat} {M : zM} {Q : zV → zM → Prop} (hG : zP G) {x1 x2 x3 x4 x5 x6 x49 : Int}
    (h : ((x49 = 0 → Q (0, (-1000)) M) ∧ (¬ x49 = 0 → Q (0, x6) M))) :
    Y G (d + 1) mX9_partnerOf 74 [(2, 170), (0, x1), (0, x2), (0, x3), (0, x4), (0, x5), (0, x6)] [(0, x49)] M Q := by
  refine z_ifeq (tgt := 82) dX9_partnerOf_74 rfl (fun q => ?_) (fun q => ?_)
  · replace h := h.1 q
    refine z_sipush dX9_partnerOf_82 ks_m1000 ?_
    exact z_ireturn dX9_partnerOf_85 (Or.inl rfl) rfl h
  · replace h := h.2 q
    refine z_iload dX9_partnerOf_77 rfl ?_
    refine z_goto (tgt := 85) dX9_partnerOf_79 rfl ?_
    exact z_ireturn dX9_partnerOf_85 (Or.inl rfl) rfl h
set_option maxRecDepth 20000 in
set_option maxHeartbeats 4000000 in
theorem bX9_partnerOf_46 {G : zG} {d : Nat} {M : zM} {Q : zV → zM → Prop} (hG : zP G) {x1 x2 x3 x4 x5 x6 x49 : Int}
    (h : Q (0, x49) M) :
    Y G (d + 1) mX9_partnerOf 46 [(2, 170), (0, x1), (0, x2), (0, x3), (0, x4), (0, x5), (0, x6)] [(0, x49)] M Q := by
  refine z_goto (tgt := 52) dX9_partnerOf_46 rfl ?_
  exact z_ireturn dX9_partnerOf_52 (Or.inl rfl) rfl h
set_option maxRecDepth 20000 in
set_option maxHeartbeats 4000000 in
theorem bX9_leastOf_0 {G : zG} {d : Nat} {M : zM} {Q : zV → zM → Prop} (hG : zP G) {x1 x2 : Int}
    (h : Y G (d + 1) mX9_leastOf 4 [(2, 170), (0, x1), (0, x2), (0, (-500))] [] M Q) :
    Y G (d + 1) mX9_leastOf 0 [(2, 170), (0, x1), (0, x2), (9, 0)] [] M Q := by
  refine z_sipush dX9_leastOf_0 ks_m500 ?_
  refine y_istoren (ls' := [(2, 170), (0, x1), (0, x2), (0, (-500))]) dX9_leastOf_3 rfl rfl ?_
  exact h
set_option maxRecDepth 20000 in
set_option maxHeartbeats 4000000 in
theorem bX9_leastOf_4 {G : zG} {d : Nat} {M : zM} {Q : zV → zM → Prop} (hG : zP G) {x1 x2 x3 : Int}
    (h : ((500 < x3 → Q (0, (-1000)) M) ∧ (x3 ≤ 500 → Y G d mX9_countOf 0 [(2, 170), (0, x1), (0, x2), (0, x3)] [] M (fun r M' => Y G (d + 1) mX9_leastOf 18 [(2, 170), (0, x1), (0, x2), (0, x3)] (zpush r []) M' Q)))) :
    Y G (d + 1) mX9_leastOf 4 [(2, 170), (0, x1), (0, x2), (0, x3)] [] M Q := by
  refine z_iloadn dX9_leastOf_4 rfl ?_
  refine z_sipush dX9_leastOf_5 ks_500 ?_
  refine z_icmpgt (tgt := 29) dX9_leastOf_8 rfl (fun q => ?_) (fun q => ?_)
  · replace h := h.1 q
    refine z_sipush dX9_leastOf_29 ks_m1000 ?_
    exact z_ireturn dX9_leastOf_32 (Or.inl rfl) rfl h
  · replace h := h.2 q
    refine z_aloadn dX9_leastOf_11 rfl (Or.inl rfl) ?_
    refine z_iloadn dX9_leastOf_12 rfl ?_
    refine z_iloadn dX9_leastOf_13 rfl ?_
    refine z_iloadn dX9_leastOf_14 rfl ?_
    refine y_cv (mt2 := mX9_countOf) (en := [(2, 170), (0, x1), (0, x2), (0, x3)]) (st := []) (as := [(0, x1), (0, x2), (0, x3)]) dX9_leastOf_15 lX9_58 kX9_countOf iX9_countOf eX9_countOf rfl sh170 (by decide +kernel) (Nat.le_of_ble_eq_true rfl) (Nat.le_of_ble_eq_true rfl) rfl ?_
    exact h
set_option maxRecDepth 20000 in
set_option maxHeartbeats 4000000 in
theorem bX9_leastOf_18 {G : zG} {d : Nat} {M : zM} {Q : zV → zM → Prop} (hG : zP G) {x1 x2 x3 x49 : Int}
    (h : ((x49 = 0 → (-2147483648 ≤ x3 + 1 ∧ x3 + 1 ≤ 2147483647) ∧ Y G (d + 1) mX9_leastOf 4 [(2, 170), (0, x1), (0, x2), (0, (x3 + 1))] [] M Q) ∧ (¬ x49 = 0 → Q (0, x3) M))) :
    Y G (d + 1) mX9_leastOf 18 [(2, 170), (0, x1), (0, x2), (0, x3)] [(0, x49)] M Q := by
  refine z_ifeq (tgt := 23) dX9_leastOf_18 rfl (fun q => ?_) (fun q => ?_)
  · replace h := h.1 q
    obtain ⟨q1, h⟩ := h
    refine y_iinc (ls' := [(2, 170), (0, x1), (0, x2), (0, (x3 + 1))]) dX9_leastOf_23 rfl rfl q1 rfl ?_
    refine z_goto (tgt := 4) dX9_leastOf_26 rfl ?_
    exact h
  · replace h := h.2 q
    refine z_iloadn dX9_leastOf_21 rfl ?_
    exact z_ireturn dX9_leastOf_22 (Or.inl rfl) rfl h
set_option maxRecDepth 20000 in
set_option maxHeartbeats 4000000 in
theorem bX9_prepare_0 {G : zG} {d : Nat} {M : zM} {Q : zV → zM → Prop} (hG : zP G) {x1 x2 r3 : Int} {nr3 : Nat} (hr3 : zsh r3.toNat = (100, nr3))
    (h : Y G (d + 1) mX9_prepare 3 [(2, 170), (0, x1), (0, x2), (2, r3), (0, 0), (9, 0)] [] M Q) :
    Y G (d + 1) mX9_prepare 0 [(2, 170), (0, x1), (0, x2), (2, r3), (9, 0), (9, 0)] [] M Q := by
  refine z_iconst dX9_prepare_0 ki_0 ?_
  refine y_istore (ls' := [(2, 170), (0, x1), (0, x2), (2, r3), (0, 0), (9, 0)]) dX9_prepare_1 rfl rfl ?_
  exact h
set_option maxRecDepth 20000 in
set_option maxHeartbeats 4000000 in
theorem bX9_prepare_3 {G : zG} {d : Nat} {M : zM} {Q : zV → zM → Prop} (hG : zP G) {x1 x2 r3 x4 : Int} {nr3 : Nat} (hr3 : zsh r3.toNat = (100, nr3))
    (h : ((4 ≤ x4 → (0 ≤ x1 ∧ x1 < 10) ∧ (-2147483648 ≤ (M 172 x1) + 1 ∧ (M 172 x1) + 1 ≤ 2147483647) ∧ Y G (d + 1) mX9_prepare 58 [(2, 170), (0, x1), (0, x2), (2, r3), (0, ((M 172 x1) + 1)), (9, 0)] [] M Q) ∧ (x4 < 4 → (0 ≤ x4 ∧ x4 < 4) ∧ (0 ≤ x4 ∧ x4 < (nr3 : Int)) ∧ (((M 173 x4) = (M r3 x4) → (-2147483648 ≤ x4 + 1 ∧ x4 + 1 ≤ 2147483647) ∧ Y G (d + 1) mX9_prepare 3 [(2, 170), (0, x1), (0, x2), (2, r3), (0, (x4 + 1)), (9, 0)] [] M Q) ∧ (¬ (M 173 x4) = (M r3 x4) → (0 ≤ x4 ∧ x4 < (nr3 : Int)) ∧ (0 ≤ x4 ∧ x4 < 4) ∧ Y G d mJ7_fill_53178 0 [(2, 172), (0, 0), (9, 0), (9, 0)] [] (zset M 173 x4 (M r3 x4)) (fun r M' => Y G (d + 1) mX9_prepare 42 [(2, 170), (0, x1), (0, x2), (2, r3), (0, x4), (9, 0)] (zpush r []) M' Q)))))) :
    Y G (d + 1) mX9_prepare 3 [(2, 170), (0, x1), (0, x2), (2, r3), (0, x4), (9, 0)] [] M Q := by
  refine z_iload dX9_prepare_3 rfl ?_
  refine z_iconst dX9_prepare_5 ki_4 ?_
  refine z_icmpge (tgt := 48) dX9_prepare_6 rfl (fun q => ?_) (fun q => ?_)
  · replace h := h.1 q
    refine z_aloadn dX9_prepare_48 rfl (Or.inl rfl) ?_
    refine y_getr (v := 172) hG dX9_prepare_49 fX9_16 sh170 (by decide) rfl (by decide +kernel) (by decide) ?_
    refine z_iloadn dX9_prepare_52 rfl ?_
    obtain ⟨q1, h⟩ := h
    refine y_iald (x := (M 172 x1)) dX9_prepare_53 sh172 q1 rfl ?_
    refine z_iconst dX9_prepare_54 ki_1 ?_
    obtain ⟨q2, h⟩ := h
    refine z_iadd dX9_prepare_55 q2 ?_
    refine y_istore (ls' := [(2, 170), (0, x1), (0, x2), (2, r3), (0, ((M 172 x1) + 1)), (9, 0)]) dX9_prepare_56 rfl rfl ?_
    exact h
  · replace h := h.2 q
    refine z_aloadn dX9_prepare_9 rfl (Or.inl rfl) ?_
    refine y_getr (v := 173) hG dX9_prepare_10 fX9_19 sh170 (by decide) rfl (by decide +kernel) (by decide) ?_
    refine z_iload dX9_prepare_13 rfl ?_
    obtain ⟨q3, h⟩ := h
    refine y_iald (x := (M 173 x4)) dX9_prepare_15 sh173 q3 rfl ?_
    refine z_aloadn dX9_prepare_16 rfl (Or.inl rfl) ?_
    refine z_iload dX9_prepare_17 rfl ?_
    obtain ⟨q4, h⟩ := h
    refine y_iald (x := (M r3 x4)) dX9_prepare_19 hr3 q4 rfl ?_
    refine z_icmpeq (tgt := 42) dX9_prepare_20 rfl (fun q => ?_) (fun q => ?_)
    · replace h := h.1 q
      obtain ⟨q5, h⟩ := h
      refine y_iinc (ls' := [(2, 170), (0, x1), (0, x2), (2, r3), (0, (x4 + 1)), (9, 0)]) dX9_prepare_42 rfl rfl q5 rfl ?_
      refine z_goto (tgt := 3) dX9_prepare_45 rfl ?_
      exact h
    · replace h := h.2 q
      refine z_aloadn dX9_prepare_23 rfl (Or.inl rfl) ?_
      refine y_getr (v := 173) hG dX9_prepare_24 fX9_19 sh170 (by decide) rfl (by decide +kernel) (by decide) ?_
      refine z_iload dX9_prepare_27 rfl ?_
      refine z_aloadn dX9_prepare_29 rfl (Or.inl rfl) ?_
      refine z_iload dX9_prepare_30 rfl ?_
      obtain ⟨q6, h⟩ := h
      refine y_iald (x := (M r3 x4)) dX9_prepare_32 hr3 q6 rfl ?_
      obtain ⟨q7, h⟩ := h
      refine y_iast hG dX9_prepare_33 sh173 q7 ?_
      refine z_aloadn dX9_prepare_34 rfl (Or.inl rfl) ?_
      refine y_getr (v := 172) hG dX9_prepare_35 fX9_16 sh170 (by decide) rfl (by decide +kernel) (by decide) ?_
      refine z_iconst dX9_prepare_38 ki_0 ?_
      refine y_cs (mt2 := mJ7_fill_53178) (en := [(2, 172), (0, 0), (9, 0), (9, 0)]) (st := []) (as := [(2, 172), (0, 0)]) dX9_prepare_39 lX9_28 kJ7_fill_53178 tJ7_fill_53178 rfl (Nat.le_of_ble_eq_true rfl) (Nat.le_of_ble_eq_true rfl) rfl ?_
      exact h
set_option maxRecDepth 20000 in
set_option maxHeartbeats 4000000 in
theorem bX9_prepare_58 {G : zG} {d : Nat} {M : zM} {Q : zV → zM → Prop} (hG : zP G) {x1 x2 r3 x4 : Int} {nr3 : Nat} (hr3 : zsh r3.toNat = (100, nr3))
    (h : ((x2 < x4 → Q (9, 0) M) ∧ (x4 ≤ x2 → Y G d mX9_clear 0 [(2, 170), (0, x1), (0, x4), (9, 0), (9, 0)] [] M (fun r M' => Y G (d + 1) mX9_prepare 71 [(2, 170), (0, x1), (0, x2), (2, r3), (0, x4), (9, 0)] (zpush r []) M' Q)))) :
    Y G (d + 1) mX9_prepare 58 [(2, 170), (0, x1), (0, x2), (2, r3), (0, x4), (9, 0)] [] M Q := by
  refine z_iload dX9_prepare_58 rfl ?_
  refine z_iloadn dX9_prepare_60 rfl ?_
  refine z_icmpgt (tgt := 127) dX9_prepare_61 rfl (fun q => ?_) (fun q => ?_)
  · replace h := h.1 q
    exact z_return dX9_prepare_127 rfl rfl h
  · replace h := h.2 q
    refine z_aloadn dX9_prepare_64 rfl (Or.inl rfl) ?_
    refine z_iloadn dX9_prepare_65 rfl ?_
    refine z_iload dX9_prepare_66 rfl ?_
    refine y_cv (mt2 := mX9_clear) (en := [(2, 170), (0, x1), (0, x4), (9, 0), (9, 0)]) (st := []) (as := [(0, x1), (0, x4)]) dX9_prepare_68 lX9_34 kX9_clear iX9_clear eX9_clear rfl sh170 (by decide +kernel) (Nat.le_of_ble_eq_true rfl) (Nat.le_of_ble_eq_true rfl) rfl ?_
    exact h
set_option maxRecDepth 20000 in
set_option maxHeartbeats 4000000 in
theorem bX9_prepare_85 {G : zG} {d : Nat} {M : zM} {Q : zV → zM → Prop} (hG : zP G) {x1 x2 r3 x4 x5 : Int} {nr3 : Nat} (hr3 : zsh r3.toNat = (100, nr3))
    (h : (-2147483648 ≤ x4 - x5 ∧ x4 - x5 ≤ 2147483647) ∧ (((x4 - x5) < x5 → (0 ≤ x1 ∧ x1 < 10) ∧ (-2147483648 ≤ x4 + 1 ∧ x4 + 1 ≤ 2147483647) ∧ Y G (d + 1) mX9_prepare 58 [(2, 170), (0, x1), (0, x2), (2, r3), (0, (x4 + 1)), (9, 0)] [] (zset M 172 x1 x4) Q) ∧ (x5 ≤ (x4 - x5) → (-2147483648 ≤ x4 - x5 ∧ x4 - x5 ≤ 2147483647) ∧ Y G d mX9_join 0 [(2, 170), (0, x1), (0, x5), (0, (x4 - x5)), (9, 0), (9, 0), (9, 0), (9, 0)] [] M (fun r M' => Y G (d + 1) mX9_prepare 107 [(2, 170), (0, x1), (0, x2), (2, r3), (0, x4), (0, x5)] (zpush r []) M' Q)))) :
    Y G (d + 1) mX9_prepare 85 [(2, 170), (0, x1), (0, x2), (2, r3), (0, x4), (0, x5)] [] M Q := by
  refine z_iload dX9_prepare_85 rfl ?_
  refine z_iload dX9_prepare_87 rfl ?_
  refine z_iload dX9_prepare_89 rfl ?_
  obtain ⟨q1, h⟩ := h
  refine z_isub dX9_prepare_91 q1 ?_
  refine z_icmpgt (tgt := 113) dX9_prepare_92 rfl (fun q => ?_) (fun q => ?_)
  · replace h := h.1 q
    refine z_aloadn dX9_prepare_113 rfl (Or.inl rfl) ?_
    refine y_getr (v := 172) hG dX9_prepare_114 fX9_16 sh170 (by decide) rfl (by decide +kernel) (by decide) ?_
    refine z_iloadn dX9_prepare_117 rfl ?_
    refine z_iload dX9_prepare_118 rfl ?_
    obtain ⟨q2, h⟩ := h
    refine y_iast hG dX9_prepare_120 sh172 q2 ?_
    obtain ⟨q3, h⟩ := h
    refine y_iinc (ls' := [(2, 170), (0, x1), (0, x2), (2, r3), (0, (x4 + 1)), (0, x5)]) dX9_prepare_121 rfl rfl q3 rfl ?_
    refine z_goto (tgt := 58) dX9_prepare_124 rfl ?_
    refine z_sub (ls' := [(2, 170), (0, x1), (0, x2), (2, r3), (0, (x4 + 1)), (9, 0)]) ⟨Or.inl rfl, Or.inl rfl, Or.inl rfl, Or.inl rfl, Or.inl rfl, Or.inr rfl, trivial⟩ ?_
    exact h
  · replace h := h.2 q
    refine z_aloadn dX9_prepare_95 rfl (Or.inl rfl) ?_
    refine z_iloadn dX9_prepare_96 rfl ?_
    refine z_iload dX9_prepare_97 rfl ?_
    refine z_iload dX9_prepare_99 rfl ?_
    refine z_iload dX9_prepare_101 rfl ?_
    obtain ⟨q4, h⟩ := h
    refine z_isub dX9_prepare_103 q4 ?_
    refine y_cv (mt2 := mX9_join) (en := [(2, 170), (0, x1), (0, x5), (0, (x4 - x5)), (9, 0), (9, 0), (9, 0), (9, 0)]) (st := []) (as := [(0, x1), (0, x5), (0, (x4 - x5))]) dX9_prepare_104 lX9_42 kX9_join iX9_join eX9_join rfl sh170 (by decide +kernel) (Nat.le_of_ble_eq_true rfl) (Nat.le_of_ble_eq_true rfl) rfl ?_
    exact h
set_option maxRecDepth 20000 in
set_option maxHeartbeats 4000000 in
theorem bX9_prepare_42 {G : zG} {d : Nat} {M : zM} {Q : zV → zM → Prop} (hG : zP G) {x1 x2 r3 x4 : Int} {nr3 : Nat} (hr3 : zsh r3.toNat = (100, nr3))
    (h : (-2147483648 ≤ x4 + 1 ∧ x4 + 1 ≤ 2147483647) ∧ Y G (d + 1) mX9_prepare 3 [(2, 170), (0, x1), (0, x2), (2, r3), (0, (x4 + 1)), (9, 0)] [] M Q) :
    Y G (d + 1) mX9_prepare 42 [(2, 170), (0, x1), (0, x2), (2, r3), (0, x4), (9, 0)] [] M Q := by
  obtain ⟨q1, h⟩ := h
  refine y_iinc (ls' := [(2, 170), (0, x1), (0, x2), (2, r3), (0, (x4 + 1)), (9, 0)]) dX9_prepare_42 rfl rfl q1 rfl ?_
  refine z_goto (tgt := 3) dX9_prepare_45 rfl ?_
  exact h
set_option maxRecDepth 20000 in
set_option maxHeartbeats 4000000 in
theorem bX9_prepare_71 {G : zG} {d : Nat} {M : zM} {Q : zV → zM → Prop} (hG : zP G) {x1 x2 r3 x4 : Int} {nr3 : Nat} (hr3 : zsh r3.toNat = (100, nr3))
    (h : ((¬ x4 = 1 → Y G (d + 1) mX9_prepare 85 [(2, 170), (0, x1), (0, x2), (2, r3), (0, x4), (0, 1)] [] M Q) ∧ (x4 = 1 → Y G d mX9_countLeaves 0 [(2, 170), (0, x1), (9, 0)] [] M (fun r M' => Y G (d + 1) mX9_prepare 82 [(2, 170), (0, x1), (0, x2), (2, r3), (0, x4), (9, 0)] (zpush r []) M' Q)))) :
    Y G (d + 1) mX9_prepare 71 [(2, 170), (0, x1), (0, x2), (2, r3), (0, x4), (9, 0)] [] M Q := by
  refine z_iload dX9_prepare_71 rfl ?_
  refine z_iconst dX9_prepare_73 ki_1 ?_
  refine z_icmpne (tgt := 82) dX9_prepare_74 rfl (fun q => ?_) (fun q => ?_)
  · replace h := h.1 q
    refine z_iconst dX9_prepare_82 ki_1 ?_
    refine y_istore (ls' := [(2, 170), (0, x1), (0, x2), (2, r3), (0, x4), (0, 1)]) dX9_prepare_83 rfl rfl ?_
    exact h
  · replace h := h.2 q
    refine z_aloadn dX9_prepare_77 rfl (Or.inl rfl) ?_
    refine z_iloadn dX9_prepare_78 rfl ?_
    refine y_cv (mt2 := mX9_countLeaves) (en := [(2, 170), (0, x1), (9, 0)]) (st := []) (as := [(0, x1)]) dX9_prepare_79 lX9_38 kX9_countLeaves iX9_countLeaves eX9_countLeaves rfl sh170 (by decide +kernel) (Nat.le_of_ble_eq_true rfl) (Nat.le_of_ble_eq_true rfl) rfl ?_
    exact h
set_option maxRecDepth 20000 in
set_option maxHeartbeats 4000000 in
theorem bX9_prepare_107 {G : zG} {d : Nat} {M : zM} {Q : zV → zM → Prop} (hG : zP G) {x1 x2 r3 x4 x5 : Int} {nr3 : Nat} (hr3 : zsh r3.toNat = (100, nr3))
    (h : (-2147483648 ≤ x5 + 1 ∧ x5 + 1 ≤ 2147483647) ∧ Y G (d + 1) mX9_prepare 85 [(2, 170), (0, x1), (0, x2), (2, r3), (0, x4), (0, (x5 + 1))] [] M Q) :
    Y G (d + 1) mX9_prepare 107 [(2, 170), (0, x1), (0, x2), (2, r3), (0, x4), (0, x5)] [] M Q := by
  obtain ⟨q1, h⟩ := h
  refine y_iinc (ls' := [(2, 170), (0, x1), (0, x2), (2, r3), (0, x4), (0, (x5 + 1))]) dX9_prepare_107 rfl rfl q1 rfl ?_
  refine z_goto (tgt := 85) dX9_prepare_110 rfl ?_
  exact h
set_option maxRecDepth 20000 in
set_option maxHeartbeats 4000000 in
theorem bX9_prepare_82 {G : zG} {d : Nat} {M : zM} {Q : zV → zM → Prop} (hG : zP G) {x1 x2 r3 x4 : Int} {nr3 : Nat} (hr3 : zsh r3.toNat = (100, nr3))
    (h : Y G (d + 1) mX9_prepare 85 [(2, 170), (0, x1), (0, x2), (2, r3), (0, x4), (0, 1)] [] M Q) :
    Y G (d + 1) mX9_prepare 82 [(2, 170), (0, x1), (0, x2), (2, r3), (0, x4), (9, 0)] [] M Q := by
  refine z_iconst dX9_prepare_82 ki_1 ?_
  refine y_istore (ls' := [(2, 170), (0, x1), (0, x2), (2, r3), (0, x4), (0, 1)]) dX9_prepare_83 rfl rfl ?_
  exact h
set_option maxRecDepth 20000 in
set_option maxHeartbeats 4000000 in
theorem bX9_clear_0 {G : zG} {d : Nat} {M : zM} {Q : zV → zM → Prop} (hG : zP G) {x1 x2 : Int}
    (h : (zplr x1 x2 0) ∧ Y G (d + 1) mX9_clear 12 [(2, 170), (0, x1), (0, x2), (0, (zpl x1 x2 0)), (0, (-500))] [] M Q) :
    Y G (d + 1) mX9_clear 0 [(2, 170), (0, x1), (0, x2), (9, 0), (9, 0)] [] M Q := by
  refine z_iloadn dX9_clear_0 rfl ?_
  refine z_iloadn dX9_clear_1 rfl ?_
  refine z_iconst dX9_clear_2 ki_0 ?_
  obtain ⟨q1, h⟩ := h
  refine y_cs (mt2 := mX9_placeOf) (en := [(0, x1), (0, x2), (0, 0)]) (st := []) (as := [(0, x1), (0, x2), (0, 0)]) dX9_clear_3 lX9_46 kX9_placeOf tX9_placeOf rfl (Nat.le_of_ble_eq_true rfl) (Nat.le_of_ble_eq_true rfl) rfl (s_placeOf hG  q1 ?_)
  show Y G (d + 1) mX9_clear 6 [(2, 170), (0, x1), (0, x2), (9, 0), (9, 0)] [(0, (zpl x1 x2 0))] M Q
  refine y_istoren (ls' := [(2, 170), (0, x1), (0, x2), (0, (zpl x1 x2 0)), (9, 0)]) dX9_clear_6 rfl rfl ?_
  refine z_sipush dX9_clear_7 ks_m500 ?_
  refine y_istore (ls' := [(2, 170), (0, x1), (0, x2), (0, (zpl x1 x2 0)), (0, (-500))]) dX9_clear_10 rfl rfl ?_
  exact h
set_option maxRecDepth 20000 in
set_option maxHeartbeats 4000000 in
theorem bX9_clear_12 {G : zG} {d : Nat} {M : zM} {Q : zV → zM → Prop} (hG : zP G) {x1 x2 x3 x4 : Int}
    (h : ((500 < x4 → Q (9, 0) M) ∧ (x4 ≤ 500 → (-2147483648 ≤ x3 + x4 ∧ x3 + x4 ≤ 2147483647) ∧ (0 ≤ (x3 + x4) ∧ (x3 + x4) < 50050) ∧ (-2147483648 ≤ x4 + 1 ∧ x4 + 1 ≤ 2147483647) ∧ Y G (d + 1) mX9_clear 12 [(2, 170), (0, x1), (0, x2), (0, x3), (0, (x4 + 1))] [] (zset M 171 (x3 + x4) 0) Q))) :
    Y G (d + 1) mX9_clear 12 [(2, 170), (0, x1), (0, x2), (0, x3), (0, x4)] [] M Q := by
  refine z_iload dX9_clear_12 rfl ?_
  refine z_sipush dX9_clear_14 ks_500 ?_
  refine z_icmpgt (tgt := 36) dX9_clear_17 rfl (fun q => ?_) (fun q => ?_)
  · replace h := h.1 q
    exact z_return dX9_clear_36 rfl rfl h
  · replace h := h.2 q
    refine z_aloadn dX9_clear_20 rfl (Or.inl rfl) ?_
    refine y_getr (v := 171) hG dX9_clear_21 fX9_10 sh170 (by decide) rfl (by decide +kernel) (by decide) ?_
    refine z_iloadn dX9_clear_24 rfl ?_
    refine z_iload dX9_clear_25 rfl ?_
    obtain ⟨q1, h⟩ := h
    refine z_iadd dX9_clear_27 q1 ?_
    refine z_iconst dX9_clear_28 ki_0 ?_
    obtain ⟨q2, h⟩ := h
    refine y_iast hG dX9_clear_29 sh171 q2 ?_
    obtain ⟨q3, h⟩ := h
    refine y_iinc (ls' := [(2, 170), (0, x1), (0, x2), (0, x3), (0, (x4 + 1))]) dX9_clear_30 rfl rfl q3 rfl ?_
    refine z_goto (tgt := 12) dX9_clear_33 rfl ?_
    exact h
set_option maxRecDepth 20000 in
set_option maxHeartbeats 4000000 in
theorem bX9_countLeaves_0 {G : zG} {d : Nat} {M : zM} {Q : zV → zM → Prop} (hG : zP G) {x1 : Int}
    (h : Y G (d + 1) mX9_countLeaves 2 [(2, 170), (0, x1), (0, 1)] [] M Q) :
    Y G (d + 1) mX9_countLeaves 0 [(2, 170), (0, x1), (9, 0)] [] M Q := by
  refine z_iconst dX9_countLeaves_0 ki_1 ?_
  refine y_istoren (ls' := [(2, 170), (0, x1), (0, 1)]) dX9_countLeaves_1 rfl rfl ?_
  exact h
set_option maxRecDepth 20000 in
set_option maxHeartbeats 4000000 in
theorem bX9_countLeaves_2 {G : zG} {d : Nat} {M : zM} {Q : zV → zM → Prop} (hG : zP G) {x1 x2 : Int}
    (h : ((x1 < x2 → Y G (d + 1) mX9_countLeaves 30 [(2, 170), (0, x1), (0, 0)] [] M Q) ∧ (x2 ≤ x1 → (zplr x1 1 x2) ∧ (0 ≤ (zpl x1 1 x2) ∧ (zpl x1 1 x2) < 50050) ∧ (-2147483648 ≤ (M 171 (zpl x1 1 x2)) + 1 ∧ (M 171 (zpl x1 1 x2)) + 1 ≤ 2147483647) ∧ (0 ≤ (zpl x1 1 x2) ∧ (zpl x1 1 x2) < 50050) ∧ (-2147483648 ≤ x2 + 1 ∧ x2 + 1 ≤ 2147483647) ∧ Y G (d + 1) mX9_countLeaves 2 [(2, 170), (0, x1), (0, (x2 + 1))] [] (zset M 171 (zpl x1 1 x2) ((M 171 (zpl x1 1 x2)) + 1)) Q))) :
    Y G (d + 1) mX9_countLeaves 2 [(2, 170), (0, x1), (0, x2)] [] M Q := by
  refine z_iloadn dX9_countLeaves_2 rfl ?_
  refine z_iloadn dX9_countLeaves_3 rfl ?_
  refine z_icmpgt (tgt := 28) dX9_countLeaves_4 rfl (fun q => ?_) (fun q => ?_)
  · replace h := h.1 q
    refine z_iconst dX9_countLeaves_28 ki_0 ?_
    refine y_istoren (ls' := [(2, 170), (0, x1), (0, 0)]) dX9_countLeaves_29 rfl rfl ?_
    exact h
  · replace h := h.2 q
    refine z_aloadn dX9_countLeaves_7 rfl (Or.inl rfl) ?_
    refine y_getr (v := 171) hG dX9_countLeaves_8 fX9_10 sh170 (by decide) rfl (by decide +kernel) (by decide) ?_
    refine z_iloadn dX9_countLeaves_11 rfl ?_
    refine z_iconst dX9_countLeaves_12 ki_1 ?_
    refine z_iloadn dX9_countLeaves_13 rfl ?_
    obtain ⟨q1, h⟩ := h
    refine y_cs (mt2 := mX9_placeOf) (en := [(0, x1), (0, 1), (0, x2)]) (st := [(2, 171)]) (as := [(0, x1), (0, 1), (0, x2)]) dX9_countLeaves_14 lX9_46 kX9_placeOf tX9_placeOf rfl (Nat.le_of_ble_eq_true rfl) (Nat.le_of_ble_eq_true rfl) rfl (s_placeOf hG  q1 ?_)
    show Y G (d + 1) mX9_countLeaves 17 [(2, 170), (0, x1), (0, x2)] [(0, (zpl x1 1 x2)), (2, 171)] M Q
    refine z_dup2 dX9_countLeaves_17 (show (0 : Nat) ≠ 1 by decide) (show (2 : Nat) ≠ 1 by decide) ?_
    obtain ⟨q2, h⟩ := h
    refine y_iald (x := (M 171 (zpl x1 1 x2))) dX9_countLeaves_18 sh171 q2 rfl ?_
    refine z_iconst dX9_countLeaves_19 ki_1 ?_
    obtain ⟨q3, h⟩ := h
    refine z_iadd dX9_countLeaves_20 q3 ?_
    obtain ⟨q4, h⟩ := h
    refine y_iast hG dX9_countLeaves_21 sh171 q4 ?_
    obtain ⟨q5, h⟩ := h
    refine y_iinc (ls' := [(2, 170), (0, x1), (0, (x2 + 1))]) dX9_countLeaves_22 rfl rfl q5 rfl ?_
    refine z_goto (tgt := 2) dX9_countLeaves_25 rfl ?_
    exact h
set_option maxRecDepth 20000 in
set_option maxHeartbeats 4000000 in
theorem bX9_countLeaves_30 {G : zG} {d : Nat} {M : zM} {Q : zV → zM → Prop} (hG : zP G) {x1 x2 : Int}
    (h : ((4 ≤ x2 → Q (9, 0) M) ∧ (x2 < 4 → (0 ≤ x2 ∧ x2 < 4) ∧ (zplr x1 1 (M 173 x2)) ∧ (0 ≤ (zpl x1 1 (M 173 x2)) ∧ (zpl x1 1 (M 173 x2)) < 50050) ∧ (-2147483648 ≤ (M 171 (zpl x1 1 (M 173 x2))) + 1 ∧ (M 171 (zpl x1 1 (M 173 x2))) + 1 ≤ 2147483647) ∧ (0 ≤ (zpl x1 1 (M 173 x2)) ∧ (zpl x1 1 (M 173 x2)) < 50050) ∧ (-2147483648 ≤ x2 + 1 ∧ x2 + 1 ≤ 2147483647) ∧ Y G (d + 1) mX9_countLeaves 30 [(2, 170), (0, x1), (0, (x2 + 1))] [] (zset M 171 (zpl x1 1 (M 173 x2)) ((M 171 (zpl x1 1 (M 173 x2))) + 1)) Q))) :
    Y G (d + 1) mX9_countLeaves 30 [(2, 170), (0, x1), (0, x2)] [] M Q := by
  refine z_iloadn dX9_countLeaves_30 rfl ?_
  refine z_iconst dX9_countLeaves_31 ki_4 ?_
  refine z_icmpge (tgt := 61) dX9_countLeaves_32 rfl (fun q => ?_) (fun q => ?_)
  · replace h := h.1 q
    exact z_return dX9_countLeaves_61 rfl rfl h
  · replace h := h.2 q
    refine z_aloadn dX9_countLeaves_35 rfl (Or.inl rfl) ?_
    refine y_getr (v := 171) hG dX9_countLeaves_36 fX9_10 sh170 (by decide) rfl (by decide +kernel) (by decide) ?_
    refine z_iloadn dX9_countLeaves_39 rfl ?_
    refine z_iconst dX9_countLeaves_40 ki_1 ?_
    refine z_aloadn dX9_countLeaves_41 rfl (Or.inl rfl) ?_
    refine y_getr (v := 173) hG dX9_countLeaves_42 fX9_19 sh170 (by decide) rfl (by decide +kernel) (by decide) ?_
    refine z_iloadn dX9_countLeaves_45 rfl ?_
    obtain ⟨q1, h⟩ := h
    refine y_iald (x := (M 173 x2)) dX9_countLeaves_46 sh173 q1 rfl ?_
    obtain ⟨q2, h⟩ := h
    refine y_cs (mt2 := mX9_placeOf) (en := [(0, x1), (0, 1), (0, (M 173 x2))]) (st := [(2, 171)]) (as := [(0, x1), (0, 1), (0, (M 173 x2))]) dX9_countLeaves_47 lX9_46 kX9_placeOf tX9_placeOf rfl (Nat.le_of_ble_eq_true rfl) (Nat.le_of_ble_eq_true rfl) rfl (s_placeOf hG  q2 ?_)
    show Y G (d + 1) mX9_countLeaves 50 [(2, 170), (0, x1), (0, x2)] [(0, (zpl x1 1 (M 173 x2))), (2, 171)] M Q
    refine z_dup2 dX9_countLeaves_50 (show (0 : Nat) ≠ 1 by decide) (show (2 : Nat) ≠ 1 by decide) ?_
    obtain ⟨q3, h⟩ := h
    refine y_iald (x := (M 171 (zpl x1 1 (M 173 x2)))) dX9_countLeaves_51 sh171 q3 rfl ?_
    refine z_iconst dX9_countLeaves_52 ki_1 ?_
    obtain ⟨q4, h⟩ := h
    refine z_iadd dX9_countLeaves_53 q4 ?_
    obtain ⟨q5, h⟩ := h
    refine y_iast hG dX9_countLeaves_54 sh171 q5 ?_
    obtain ⟨q6, h⟩ := h
    refine y_iinc (ls' := [(2, 170), (0, x1), (0, (x2 + 1))]) dX9_countLeaves_55 rfl rfl q6 rfl ?_
    refine z_goto (tgt := 30) dX9_countLeaves_58 rfl ?_
    exact h
set_option maxRecDepth 20000 in
set_option maxHeartbeats 4000000 in
theorem bX9_join_0 {G : zG} {d : Nat} {M : zM} {Q : zV → zM → Prop} (hG : zP G) {x1 x2 x3 : Int}
    (h : (zplr x1 x3 0) ∧ Y G (d + 1) mX9_join 16 [(2, 170), (0, x1), (0, x2), (0, x3), (0, (zpl x1 x3 0)), (0, 0), (0, (-500)), (9, 0)] [] M Q) :
    Y G (d + 1) mX9_join 0 [(2, 170), (0, x1), (0, x2), (0, x3), (9, 0), (9, 0), (9, 0), (9, 0)] [] M Q := by
  refine z_iloadn dX9_join_0 rfl ?_
  refine z_iloadn dX9_join_1 rfl ?_
  refine z_iconst dX9_join_2 ki_0 ?_
  obtain ⟨q1, h⟩ := h
  refine y_cs (mt2 := mX9_placeOf) (en := [(0, x1), (0, x3), (0, 0)]) (st := []) (as := [(0, x1), (0, x3), (0, 0)]) dX9_join_3 lX9_46 kX9_placeOf tX9_placeOf rfl (Nat.le_of_ble_eq_true rfl) (Nat.le_of_ble_eq_true rfl) rfl (s_placeOf hG  q1 ?_)
  show Y G (d + 1) mX9_join 6 [(2, 170), (0, x1), (0, x2), (0, x3), (9, 0), (9, 0), (9, 0), (9, 0)] [(0, (zpl x1 x3 0))] M Q
  refine y_istore (ls' := [(2, 170), (0, x1), (0, x2), (0, x3), (0, (zpl x1 x3 0)), (9, 0), (9, 0), (9, 0)]) dX9_join_6 rfl rfl ?_
  refine z_iconst dX9_join_8 ki_0 ?_
  refine y_istore (ls' := [(2, 170), (0, x1), (0, x2), (0, x3), (0, (zpl x1 x3 0)), (0, 0), (9, 0), (9, 0)]) dX9_join_9 rfl rfl ?_
  refine z_sipush dX9_join_11 ks_m500 ?_
  refine y_istore (ls' := [(2, 170), (0, x1), (0, x2), (0, x3), (0, (zpl x1 x3 0)), (0, 0), (0, (-500)), (9, 0)]) dX9_join_14 rfl rfl ?_
  exact h
set_option maxRecDepth 20000 in
set_option maxHeartbeats 4000000 in
theorem bX9_join_16 {G : zG} {d : Nat} {M : zM} {Q : zV → zM → Prop} (hG : zP G) {x1 x2 x3 x4 x5 x6 : Int}
    (h : ((500 < x6 → Y G (d + 1) mX9_join 60 [(2, 170), (0, x1), (0, x2), (0, x3), (0, x4), (0, x5), (0, (-500)), (9, 0)] [] M Q) ∧ (x6 ≤ 500 → (-2147483648 ≤ x4 + x6 ∧ x4 + x6 ≤ 2147483647) ∧ (0 ≤ (x4 + x6) ∧ (x4 + x6) < 50050) ∧ (((M 171 (x4 + x6)) = 0 → (-2147483648 ≤ x6 + 1 ∧ x6 + 1 ≤ 2147483647) ∧ Y G (d + 1) mX9_join 16 [(2, 170), (0, x1), (0, x2), (0, x3), (0, x4), (0, x5), (0, (x6 + 1)), (9, 0)] [] M Q) ∧ (¬ (M 171 (x4 + x6)) = 0 → (0 ≤ x5 ∧ x5 < 1001) ∧ (-2147483648 ≤ x5 + 1 ∧ x5 + 1 ≤ 2147483647) ∧ (-2147483648 ≤ x6 + 1 ∧ x6 + 1 ≤ 2147483647) ∧ Y G (d + 1) mX9_join 16 [(2, 170), (0, x1), (0, x2), (0, x3), (0, x4), (0, (x5 + 1)), (0, (x6 + 1)), (9, 0)] [] (zset M 174 x5 x6) Q))))) :
    Y G (d + 1) mX9_join 16 [(2, 170), (0, x1), (0, x2), (0, x3), (0, x4), (0, x5), (0, x6), (9, 0)] [] M Q := by
  refine z_iload dX9_join_16 rfl ?_
  refine z_sipush dX9_join_18 ks_500 ?_
  refine z_icmpgt (tgt := 55) dX9_join_21 rfl (fun q => ?_) (fun q => ?_)
  · replace h := h.1 q
    refine z_sipush dX9_join_55 ks_m500 ?_
    refine y_istore (ls' := [(2, 170), (0, x1), (0, x2), (0, x3), (0, x4), (0, x5), (0, (-500)), (9, 0)]) dX9_join_58 rfl rfl ?_
    exact h
  · replace h := h.2 q
    refine z_aloadn dX9_join_24 rfl (Or.inl rfl) ?_
    refine y_getr (v := 171) hG dX9_join_25 fX9_10 sh170 (by decide) rfl (by decide +kernel) (by decide) ?_
    refine z_iload dX9_join_28 rfl ?_
    refine z_iload dX9_join_30 rfl ?_
    obtain ⟨q1, h⟩ := h
    refine z_iadd dX9_join_32 q1 ?_
    obtain ⟨q2, h⟩ := h
    refine y_iald (x := (M 171 (x4 + x6))) dX9_join_33 sh171 q2 rfl ?_
    refine z_ifeq (tgt := 49) dX9_join_34 rfl (fun q => ?_) (fun q => ?_)
    · replace h := h.1 q
      obtain ⟨q3, h⟩ := h
      refine y_iinc (ls' := [(2, 170), (0, x1), (0, x2), (0, x3), (0, x4), (0, x5), (0, (x6 + 1)), (9, 0)]) dX9_join_49 rfl rfl q3 rfl ?_
      refine z_goto (tgt := 16) dX9_join_52 rfl ?_
      exact h
    · replace h := h.2 q
      refine z_aloadn dX9_join_37 rfl (Or.inl rfl) ?_
      refine y_getr (v := 174) hG dX9_join_38 fX9_22 sh170 (by decide) rfl (by decide +kernel) (by decide) ?_
      refine z_iload dX9_join_41 rfl ?_
      refine z_iload dX9_join_43 rfl ?_
      obtain ⟨q4, h⟩ := h
      refine y_iast hG dX9_join_45 sh174 q4 ?_
      obtain ⟨q5, h⟩ := h
      refine y_iinc (ls' := [(2, 170), (0, x1), (0, x2), (0, x3), (0, x4), (0, (x5 + 1)), (0, x6), (9, 0)]) dX9_join_46 rfl rfl q5 rfl ?_
      obtain ⟨q6, h⟩ := h
      refine y_iinc (ls' := [(2, 170), (0, x1), (0, x2), (0, x3), (0, x4), (0, (x5 + 1)), (0, (x6 + 1)), (9, 0)]) dX9_join_49 rfl rfl q6 rfl ?_
      refine z_goto (tgt := 16) dX9_join_52 rfl ?_
      exact h
set_option maxRecDepth 20000 in
set_option maxHeartbeats 4000000 in
theorem bX9_join_60 {G : zG} {d : Nat} {M : zM} {Q : zV → zM → Prop} (hG : zP G) {x1 x2 x3 x4 x5 x6 : Int}
    (h : ((500 < x6 → Q (9, 0) M) ∧ (x6 ≤ 500 → (zplr x1 x2 x6) ∧ (0 ≤ (zpl x1 x2 x6) ∧ (zpl x1 x2 x6) < 50050) ∧ (((M 171 (zpl x1 x2 x6)) = 0 → (-2147483648 ≤ x6 + 1 ∧ x6 + 1 ≤ 2147483647) ∧ Y G (d + 1) mX9_join 60 [(2, 170), (0, x1), (0, x2), (0, x3), (0, x4), (0, x5), (0, (x6 + 1)), (9, 0)] [] M Q) ∧ (¬ (M 171 (zpl x1 x2 x6)) = 0 → (-2147483648 ≤ x2 + x3 ∧ x2 + x3 ≤ 2147483647) ∧ (zplr x1 (x2 + x3) 0) ∧ ((x2 = x3 → Y G d mX9_joinValue 0 [(2, 170), (0, x6), (0, (M 171 (zpl x1 x2 x6))), (0, x4), (0, x5), (0, (zpl x1 (x2 + x3) 0)), (0, 0), (9, 0), (9, 0), (9, 0), (9, 0)] [] M (fun r M' => Y G (d + 1) mX9_join 117 [(2, 170), (0, x1), (0, x2), (0, x3), (0, x4), (0, x5), (0, x6), (0, (M 171 (zpl x1 x2 x6)))] (zpush r []) M' Q)) ∧ (¬ x2 = x3 → Y G d mX9_joinValue 0 [(2, 170), (0, x6), (0, (M 171 (zpl x1 x2 x6))), (0, x4), (0, x5), (0, (zpl x1 (x2 + x3) 0)), (0, 1), (9, 0), (9, 0), (9, 0), (9, 0)] [] M (fun r M' => Y G (d + 1) mX9_join 117 [(2, 170), (0, x1), (0, x2), (0, x3), (0, x4), (0, x5), (0, x6), (0, (M 171 (zpl x1 x2 x6)))] (zpush r []) M' Q)))))))) :
    Y G (d + 1) mX9_join 60 [(2, 170), (0, x1), (0, x2), (0, x3), (0, x4), (0, x5), (0, x6), (9, 0)] [] M Q := by
  refine z_iload dX9_join_60 rfl ?_
  refine z_sipush dX9_join_62 ks_500 ?_
  refine z_icmpgt (tgt := 123) dX9_join_65 rfl (fun q => ?_) (fun q => ?_)
  · replace h := h.1 q
    exact z_return dX9_join_123 rfl rfl h
  · replace h := h.2 q
    refine z_aloadn dX9_join_68 rfl (Or.inl rfl) ?_
    refine y_getr (v := 171) hG dX9_join_69 fX9_10 sh170 (by decide) rfl (by decide +kernel) (by decide) ?_
    refine z_iloadn dX9_join_72 rfl ?_
    refine z_iloadn dX9_join_73 rfl ?_
    refine z_iload dX9_join_74 rfl ?_
    obtain ⟨q1, h⟩ := h
    refine y_cs (mt2 := mX9_placeOf) (en := [(0, x1), (0, x2), (0, x6)]) (st := [(2, 171)]) (as := [(0, x1), (0, x2), (0, x6)]) dX9_join_76 lX9_46 kX9_placeOf tX9_placeOf rfl (Nat.le_of_ble_eq_true rfl) (Nat.le_of_ble_eq_true rfl) rfl (s_placeOf hG  q1 ?_)
    show Y G (d + 1) mX9_join 79 [(2, 170), (0, x1), (0, x2), (0, x3), (0, x4), (0, x5), (0, x6), (9, 0)] [(0, (zpl x1 x2 x6)), (2, 171)] M Q
    obtain ⟨q2, h⟩ := h
    refine y_iald (x := (M 171 (zpl x1 x2 x6))) dX9_join_79 sh171 q2 rfl ?_
    refine y_istore (ls' := [(2, 170), (0, x1), (0, x2), (0, x3), (0, x4), (0, x5), (0, x6), (0, (M 171 (zpl x1 x2 x6)))]) dX9_join_80 rfl rfl ?_
    refine z_iload dX9_join_82 rfl ?_
    refine z_ifeq (tgt := 117) dX9_join_84 rfl (fun q => ?_) (fun q => ?_)
    · replace h := h.1 q
      obtain ⟨q3, h⟩ := h
      refine y_iinc (ls' := [(2, 170), (0, x1), (0, x2), (0, x3), (0, x4), (0, x5), (0, (x6 + 1)), (0, (M 171 (zpl x1 x2 x6)))]) dX9_join_117 rfl rfl q3 rfl ?_
      refine z_goto (tgt := 60) dX9_join_120 rfl ?_
      refine z_sub (ls' := [(2, 170), (0, x1), (0, x2), (0, x3), (0, x4), (0, x5), (0, (x6 + 1)), (9, 0)]) ⟨Or.inl rfl, Or.inl rfl, Or.inl rfl, Or.inl rfl, Or.inl rfl, Or.inl rfl, Or.inl rfl, Or.inr rfl, trivial⟩ ?_
      exact h
    · replace h := h.2 q
      refine z_aloadn dX9_join_87 rfl (Or.inl rfl) ?_
      refine z_iload dX9_join_88 rfl ?_
      refine z_iload dX9_join_90 rfl ?_
      refine z_iload dX9_join_92 rfl ?_
      refine z_iload dX9_join_94 rfl ?_
      refine z_iloadn dX9_join_96 rfl ?_
      refine z_iloadn dX9_join_97 rfl ?_
      refine z_iloadn dX9_join_98 rfl ?_
      obtain ⟨q4, h⟩ := h
      refine z_iadd dX9_join_99 q4 ?_
      refine z_iconst dX9_join_100 ki_0 ?_
      obtain ⟨q5, h⟩ := h
      refine y_cs (mt2 := mX9_placeOf) (en := [(0, x1), (0, (x2 + x3)), (0, 0)]) (st := [(0, x5), (0, x4), (0, (M 171 (zpl x1 x2 x6))), (0, x6), (2, 170)]) (as := [(0, x1), (0, (x2 + x3)), (0, 0)]) dX9_join_101 lX9_46 kX9_placeOf tX9_placeOf rfl (Nat.le_of_ble_eq_true rfl) (Nat.le_of_ble_eq_true rfl) rfl (s_placeOf hG  q5 ?_)
      show Y G (d + 1) mX9_join 104 [(2, 170), (0, x1), (0, x2), (0, x3), (0, x4), (0, x5), (0, x6), (0, (M 171 (zpl x1 x2 x6)))] [(0, (zpl x1 (x2 + x3) 0)), (0, x5), (0, x4), (0, (M 171 (zpl x1 x2 x6))), (0, x6), (2, 170)] M Q
      refine z_iloadn dX9_join_104 rfl ?_
      refine z_iloadn dX9_join_105 rfl ?_
      refine z_icmpeq (tgt := 113) dX9_join_106 rfl (fun q => ?_) (fun q => ?_)
      · replace h := h.1 q
        refine z_iconst dX9_join_113 ki_0 ?_
        refine y_cv (mt2 := mX9_joinValue) (en := [(2, 170), (0, x6), (0, (M 171 (zpl x1 x2 x6))), (0, x4), (0, x5), (0, (zpl x1 (x2 + x3) 0)), (0, 0), (9, 0), (9, 0), (9, 0), (9, 0)]) (st := []) (as := [(0, x6), (0, (M 171 (zpl x1 x2 x6))), (0, x4), (0, x5), (0, (zpl x1 (x2 + x3) 0)), (0, 0)]) dX9_join_114 lX9_50 kX9_joinValue iX9_joinValue eX9_joinValue rfl sh170 (by decide +kernel) (Nat.le_of_ble_eq_true rfl) (Nat.le_of_ble_eq_true rfl) rfl ?_
        exact h
      · replace h := h.2 q
        refine z_iconst dX9_join_109 ki_1 ?_
        refine z_goto (tgt := 114) dX9_join_110 rfl ?_
        refine y_cv (mt2 := mX9_joinValue) (en := [(2, 170), (0, x6), (0, (M 171 (zpl x1 x2 x6))), (0, x4), (0, x5), (0, (zpl x1 (x2 + x3) 0)), (0, 1), (9, 0), (9, 0), (9, 0), (9, 0)]) (st := []) (as := [(0, x6), (0, (M 171 (zpl x1 x2 x6))), (0, x4), (0, x5), (0, (zpl x1 (x2 + x3) 0)), (0, 1)]) dX9_join_114 lX9_50 kX9_joinValue iX9_joinValue eX9_joinValue rfl sh170 (by decide +kernel) (Nat.le_of_ble_eq_true rfl) (Nat.le_of_ble_eq_true rfl) rfl ?_
        exact h
set_option maxRecDepth 20000 in
set_option maxHeartbeats 4000000 in
theorem bX9_join_117 {G : zG} {d : Nat} {M : zM} {Q : zV → zM → Prop} (hG : zP G) {x1 x2 x3 x4 x5 x6 x7 : Int}
    (h : (-2147483648 ≤ x6 + 1 ∧ x6 + 1 ≤ 2147483647) ∧ Y G (d + 1) mX9_join 60 [(2, 170), (0, x1), (0, x2), (0, x3), (0, x4), (0, x5), (0, (x6 + 1)), (9, 0)] [] M Q) :
    Y G (d + 1) mX9_join 117 [(2, 170), (0, x1), (0, x2), (0, x3), (0, x4), (0, x5), (0, x6), (0, x7)] [] M Q := by
  obtain ⟨q1, h⟩ := h
  refine y_iinc (ls' := [(2, 170), (0, x1), (0, x2), (0, x3), (0, x4), (0, x5), (0, (x6 + 1)), (0, x7)]) dX9_join_117 rfl rfl q1 rfl ?_
  refine z_goto (tgt := 60) dX9_join_120 rfl ?_
  refine z_sub (ls' := [(2, 170), (0, x1), (0, x2), (0, x3), (0, x4), (0, x5), (0, (x6 + 1)), (9, 0)]) ⟨Or.inl rfl, Or.inl rfl, Or.inl rfl, Or.inl rfl, Or.inl rfl, Or.inl rfl, Or.inl rfl, Or.inr rfl, trivial⟩ ?_
  exact h
set_option maxRecDepth 20000 in
set_option maxHeartbeats 4000000 in
theorem bX9_joinValue_0 {G : zG} {d : Nat} {M : zM} {Q : zV → zM → Prop} (hG : zP G) {x1 x2 x3 x4 x5 x6 : Int}
    (h : Y G d mX9_joinValue 3 [(2, 170), (0, x1), (0, x2), (0, x3), (0, x4), (0, x5), (0, x6), (0, 0), (9, 0), (9, 0), (9, 0)] [] M Q) :
    Y G d mX9_joinValue 0 [(2, 170), (0, x1), (0, x2), (0, x3), (0, x4), (0, x5), (0, x6), (9, 0), (9, 0), (9, 0), (9, 0)] [] M Q := by
  refine z_iconst dX9_joinValue_0 ki_0 ?_
  refine y_istore (ls' := [(2, 170), (0, x1), (0, x2), (0, x3), (0, x4), (0, x5), (0, x6), (0, 0), (9, 0), (9, 0), (9, 0)]) dX9_joinValue_1 rfl rfl ?_
  exact h
set_option maxRecDepth 20000 in
set_option maxHeartbeats 4000000 in
theorem bX9_joinValue_3 {G : zG} {d : Nat} {M : zM} {Q : zV → zM → Prop} (hG : zP G) {x1 x2 x3 x4 x5 x6 x7 : Int}
    (h : ((x4 ≤ x7 → Q (9, 0) M) ∧ (x7 < x4 → (0 ≤ x7 ∧ x7 < 1001) ∧ (-2147483648 ≤ x3 + (M 174 x7) ∧ x3 + (M 174 x7) ≤ 2147483647) ∧ (0 ≤ (x3 + (M 174 x7)) ∧ (x3 + (M 174 x7)) < 50050) ∧ (-2147483648 ≤ x2 * (M 171 (x3 + (M 174 x7))) ∧ x2 * (M 171 (x3 + (M 174 x7))) ≤ 2147483647) ∧ ((x6 = 0 → (-2147483648 ≤ x1 + (M 174 x7) ∧ x1 + (M 174 x7) ≤ 2147483647) ∧ (((x1 + (M 174 x7)) < (-500) → (-2147483648 ≤ x1 * (M 174 x7) ∧ x1 * (M 174 x7) ≤ 2147483647) ∧ (((x1 * (M 174 x7)) < (-500) → (-2147483648 ≤ x1 - (M 174 x7) ∧ x1 - (M 174 x7) ≤ 2147483647) ∧ (((x1 - (M 174 x7)) < (-500) → (-2147483648 ≤ x7 + 1 ∧ x7 + 1 ≤ 2147483647) ∧ Y G d mX9_joinValue 3 [(2, 170), (0, x1), (0, x2), (0, x3), (0, x4), (0, x5), (0, x6), (0, (x7 + 1)), (9, 0), (9, 0), (9, 0)] [] M Q) ∧ ((-500) ≤ (x1 - (M 174 x7)) → (-2147483648 ≤ x1 - (M 174 x7) ∧ x1 - (M 174 x7) ≤ 2147483647) ∧ ((500 < (x1 - (M 174 x7)) → (-2147483648 ≤ x7 + 1 ∧ x7 + 1 ≤ 2147483647) ∧ Y G d mX9_joinValue 3 [(2, 170), (0, x1), (0, x2), (0, x3), (0, x4), (0, x5), (0, x6), (0, (x7 + 1)), (9, 0), (9, 0), (9, 0)] [] M Q) ∧ ((x1 - (M 174 x7)) ≤ 500 → (-2147483648 ≤ x5 + x1 ∧ x5 + x1 ≤ 2147483647) ∧ (-2147483648 ≤ (x5 + x1) - (M 174 x7) ∧ (x5 + x1) - (M 174 x7) ≤ 2147483647) ∧ (0 ≤ ((x5 + x1) - (M 174 x7)) ∧ ((x5 + x1) - (M 174 x7)) < 50050) ∧ (-2147483648 ≤ (M 171 ((x5 + x1) - (M 174 x7))) + (x2 * (M 171 (x3 + (M 174 x7)))) ∧ (M 171 ((x5 + x1) - (M 174 x7))) + (x2 * (M 171 (x3 + (M 174 x7)))) ≤ 2147483647) ∧ (0 ≤ ((x5 + x1) - (M 174 x7)) ∧ ((x5 + x1) - (M 174 x7)) < 50050) ∧ ((x6 = 0 → (-2147483648 ≤ x7 + 1 ∧ x7 + 1 ≤ 2147483647) ∧ Y G d mX9_joinValue 3 [(2, 170), (0, x1), (0, x2), (0, x3), (0, x4), (0, x5), (0, x6), (0, (x7 + 1)), (9, 0), (9, 0), (9, 0)] [] (zset M 171 ((x5 + x1) - (M 174 x7)) ((M 171 ((x5 + x1) - (M 174 x7))) + (x2 * (M 171 (x3 + (M 174 x7)))))) Q) ∧ (¬ x6 = 0 → (-2147483648 ≤ x5 + (M 174 x7) ∧ x5 + (M 174 x7) ≤ 2147483647) ∧ (-2147483648 ≤ (x5 + (M 174 x7)) - x1 ∧ (x5 + (M 174 x7)) - x1 ≤ 2147483647) ∧ (0 ≤ ((x5 + (M 174 x7)) - x1) ∧ ((x5 + (M 174 x7)) - x1) < 50050) ∧ (-2147483648 ≤ ((zset M 171 ((x5 + x1) - (M 174 x7)) ((M 171 ((x5 + x1) - (M 174 x7))) + (x2 * (M 171 (x3 + (M 174 x7)))))) 171 ((x5 + (M 174 x7)) - x1)) + (x2 * (M 171 (x3 + (M 174 x7)))) ∧ ((zset M 171 ((x5 + x1) - (M 174 x7)) ((M 171 ((x5 + x1) - (M 174 x7))) + (x2 * (M 171 (x3 + (M 174 x7)))))) 171 ((x5 + (M 174 x7)) - x1)) + (x2 * (M 171 (x3 + (M 174 x7)))) ≤ 2147483647) ∧ (0 ≤ ((x5 + (M 174 x7)) - x1) ∧ ((x5 + (M 174 x7)) - x1) < 50050) ∧ (-2147483648 ≤ x7 + 1 ∧ x7 + 1 ≤ 2147483647) ∧ Y G d mX9_joinValue 3 [(2, 170), (0, x1), (0, x2), (0, x3), (0, x4), (0, x5), (0, x6), (0, (x7 + 1)), (9, 0), (9, 0), (9, 0)] [] (zset (zset M 171 ((x5 + x1) - (M 174 x7)) ((M 171 ((x5 + x1) - (M 174 x7))) + (x2 * (M 171 (x3 + (M 174 x7)))))) 171 ((x5 + (M 174 x7)) - x1) (((zset M 171 ((x5 + x1) - (M 174 x7)) ((M 171 ((x5 + x1) - (M 174 x7))) + (x2 * (M 171 (x3 + (M 174 x7)))))) 171 ((x5 + (M 174 x7)) - x1)) + (x2 * (M 171 (x3 + (M 174 x7)))))) Q))))))) ∧ ((-500) ≤ (x1 * (M 174 x7)) → (-2147483648 ≤ x1 * (M 174 x7) ∧ x1 * (M 174 x7) ≤ 2147483647) ∧ ((500 < (x1 * (M 174 x7)) → (-2147483648 ≤ x1 - (M 174 x7) ∧ x1 - (M 174 x7) ≤ 2147483647) ∧ (((x1 - (M 174 x7)) < (-500) → (-2147483648 ≤ x7 + 1 ∧ x7 + 1 ≤ 2147483647) ∧ Y G d mX9_joinValue 3 [(2, 170), (0, x1), (0, x2), (0, x3), (0, x4), (0, x5), (0, x6), (0, (x7 + 1)), (9, 0), (9, 0), (9, 0)] [] M Q) ∧ ((-500) ≤ (x1 - (M 174 x7)) → (-2147483648 ≤ x1 - (M 174 x7) ∧ x1 - (M 174 x7) ≤ 2147483647) ∧ ((500 < (x1 - (M 174 x7)) → (-2147483648 ≤ x7 + 1 ∧ x7 + 1 ≤ 2147483647) ∧ Y G d mX9_joinValue 3 [(2, 170), (0, x1), (0, x2), (0, x3), (0, x4), (0, x5), (0, x6), (0, (x7 + 1)), (9, 0), (9, 0), (9, 0)] [] M Q) ∧ ((x1 - (M 174 x7)) ≤ 500 → (-2147483648 ≤ x5 + x1 ∧ x5 + x1 ≤ 2147483647) ∧ (-2147483648 ≤ (x5 + x1) - (M 174 x7) ∧ (x5 + x1) - (M 174 x7) ≤ 2147483647) ∧ (0 ≤ ((x5 + x1) - (M 174 x7)) ∧ ((x5 + x1) - (M 174 x7)) < 50050) ∧ (-2147483648 ≤ (M 171 ((x5 + x1) - (M 174 x7))) + (x2 * (M 171 (x3 + (M 174 x7)))) ∧ (M 171 ((x5 + x1) - (M 174 x7))) + (x2 * (M 171 (x3 + (M 174 x7)))) ≤ 2147483647) ∧ (0 ≤ ((x5 + x1) - (M 174 x7)) ∧ ((x5 + x1) - (M 174 x7)) < 50050) ∧ ((x6 = 0 → (-2147483648 ≤ x7 + 1 ∧ x7 + 1 ≤ 2147483647) ∧ Y G d mX9_joinValue 3 [(2, 170), (0, x1), (0, x2), (0, x3), (0, x4), (0, x5), (0, x6), (0, (x7 + 1)), (9, 0), (9, 0), (9, 0)] [] (zset M 171 ((x5 + x1) - (M 174 x7)) ((M 171 ((x5 + x1) - (M 174 x7))) + (x2 * (M 171 (x3 + (M 174 x7)))))) Q) ∧ (¬ x6 = 0 → (-2147483648 ≤ x5 + (M 174 x7) ∧ x5 + (M 174 x7) ≤ 2147483647) ∧ (-2147483648 ≤ (x5 + (M 174 x7)) - x1 ∧ (x5 + (M 174 x7)) - x1 ≤ 2147483647) ∧ (0 ≤ ((x5 + (M 174 x7)) - x1) ∧ ((x5 + (M 174 x7)) - x1) < 50050) ∧ (-2147483648 ≤ ((zset M 171 ((x5 + x1) - (M 174 x7)) ((M 171 ((x5 + x1) - (M 174 x7))) + (x2 * (M 171 (x3 + (M 174 x7)))))) 171 ((x5 + (M 174 x7)) - x1)) + (x2 * (M 171 (x3 + (M 174 x7)))) ∧ ((zset M 171 ((x5 + x1) - (M 174 x7)) ((M 171 ((x5 + x1) - (M 174 x7))) + (x2 * (M 171 (x3 + (M 174 x7)))))) 171 ((x5 + (M 174 x7)) - x1)) + (x2 * (M 171 (x3 + (M 174 x7)))) ≤ 2147483647) ∧ (0 ≤ ((x5 + (M 174 x7)) - x1) ∧ ((x5 + (M 174 x7)) - x1) < 50050) ∧ (-2147483648 ≤ x7 + 1 ∧ x7 + 1 ≤ 2147483647) ∧ Y G d mX9_joinValue 3 [(2, 170), (0, x1), (0, x2), (0, x3), (0, x4), (0, x5), (0, x6), (0, (x7 + 1)), (9, 0), (9, 0), (9, 0)] [] (zset (zset M 171 ((x5 + x1) - (M 174 x7)) ((M 171 ((x5 + x1) - (M 174 x7))) + (x2 * (M 171 (x3 + (M 174 x7)))))) 171 ((x5 + (M 174 x7)) - x1) (((zset M 171 ((x5 + x1) - (M 174 x7)) ((M 171 ((x5 + x1) - (M 174 x7))) + (x2 * (M 171 (x3 + (M 174 x7)))))) 171 ((x5 + (M 174 x7)) - x1)) + (x2 * (M 171 (x3 + (M 174 x7)))))) Q))))))) ∧ ((x1 * (M 174 x7)) ≤ 500 → (-2147483648 ≤ x1 * (M 174 x7) ∧ x1 * (M 174 x7) ≤ 2147483647) ∧ (-2147483648 ≤ x5 + (x1 * (M 174 x7)) ∧ x5 + (x1 * (M 174 x7)) ≤ 2147483647) ∧ (0 ≤ (x5 + (x1 * (M 174 x7))) ∧ (x5 + (x1 * (M 174 x7))) < 50050) ∧ (-2147483648 ≤ (M 171 (x5 + (x1 * (M 174 x7)))) + (x2 * (M 171 (x3 + (M 174 x7)))) ∧ (M 171 (x5 + (x1 * (M 174 x7)))) + (x2 * (M 171 (x3 + (M 174 x7)))) ≤ 2147483647) ∧ (0 ≤ (x5 + (x1 * (M 174 x7))) ∧ (x5 + (x1 * (M 174 x7))) < 50050) ∧ (-2147483648 ≤ x1 - (M 174 x7) ∧ x1 - (M 174 x7) ≤ 2147483647) ∧ (((x1 - (M 174 x7)) < (-500) → (-2147483648 ≤ x7 + 1 ∧ x7 + 1 ≤ 2147483647) ∧ Y G d mX9_joinValue 3 [(2, 170), (0, x1), (0, x2), (0, x3), (0, x4), (0, x5), (0, x6), (0, (x7 + 1)), (9, 0), (9, 0), (9, 0)] [] (zset M 171 (x5 + (x1 * (M 174 x7))) ((M 171 (x5 + (x1 * (M 174 x7)))) + (x2 * (M 171 (x3 + (M 174 x7)))))) Q) ∧ ((-500) ≤ (x1 - (M 174 x7)) → (-2147483648 ≤ x1 - (M 174 x7) ∧ x1 - (M 174 x7) ≤ 2147483647) ∧ ((500 < (x1 - (M 174 x7)) → (-2147483648 ≤ x7 + 1 ∧ x7 + 1 ≤ 2147483647) ∧ Y G d mX9_joinValue 3 [(2, 170), (0, x1), (0, x2), (0, x3), (0, x4), (0, x5), (0, x6), (0, (x7 + 1)), (9, 0), (9, 0), (9, 0)] [] (zset M 171 (x5 + (x1 * (M 174 x7))) ((M 171 (x5 + (x1 * (M 174 x7)))) + (x2 * (M 171 (x3 + (M 174 x7)))))) Q) ∧ ((x1 - (M 174 x7)) ≤ 500 → (-2147483648 ≤ x5 + x1 ∧ x5 + x1 ≤ 2147483647) ∧ (-2147483648 ≤ (x5 + x1) - (M 174 x7) ∧ (x5 + x1) - (M 174 x7) ≤ 2147483647) ∧ (0 ≤ ((x5 + x1) - (M 174 x7)) ∧ ((x5 + x1) - (M 174 x7)) < 50050) ∧ (-2147483648 ≤ ((zset M 171 (x5 + (x1 * (M 174 x7))) ((M 171 (x5 + (x1 * (M 174 x7)))) + (x2 * (M 171 (x3 + (M 174 x7)))))) 171 ((x5 + x1) - (M 174 x7))) + (x2 * (M 171 (x3 + (M 174 x7)))) ∧ ((zset M 171 (x5 + (x1 * (M 174 x7))) ((M 171 (x5 + (x1 * (M 174 x7)))) + (x2 * (M 171 (x3 + (M 174 x7)))))) 171 ((x5 + x1) - (M 174 x7))) + (x2 * (M 171 (x3 + (M 174 x7)))) ≤ 2147483647) ∧ (0 ≤ ((x5 + x1) - (M 174 x7)) ∧ ((x5 + x1) - (M 174 x7)) < 50050) ∧ ((x6 = 0 → (-2147483648 ≤ x7 + 1 ∧ x7 + 1 ≤ 2147483647) ∧ Y G d mX9_joinValue 3 [(2, 170), (0, x1), (0, x2), (0, x3), (0, x4), (0, x5), (0, x6), (0, (x7 + 1)), (9, 0), (9, 0), (9, 0)] [] (zset (zset M 171 (x5 + (x1 * (M 174 x7))) ((M 171 (x5 + (x1 * (M 174 x7)))) + (x2 * (M 171 (x3 + (M 174 x7)))))) 171 ((x5 + x1) - (M 174 x7)) (((zset M 171 (x5 + (x1 * (M 174 x7))) ((M 171 (x5 + (x1 * (M 174 x7)))) + (x2 * (M 171 (x3 + (M 174 x7)))))) 171 ((x5 + x1) - (M 174 x7))) + (x2 * (M 171 (x3 + (M 174 x7)))))) Q) ∧ (¬ x6 = 0 → (-2147483648 ≤ x5 + (M 174 x7) ∧ x5 + (M 174 x7) ≤ 2147483647) ∧ (-2147483648 ≤ (x5 + (M 174 x7)) - x1 ∧ (x5 + (M 174 x7)) - x1 ≤ 2147483647) ∧ (0 ≤ ((x5 + (M 174 x7)) - x1) ∧ ((x5 + (M 174 x7)) - x1) < 50050) ∧ (-2147483648 ≤ ((zset (zset M 171 (x5 + (x1 * (M 174 x7))) ((M 171 (x5 + (x1 * (M 174 x7)))) + (x2 * (M 171 (x3 + (M 174 x7)))))) 171 ((x5 + x1) - (M 174 x7)) (((zset M 171 (x5 + (x1 * (M 174 x7))) ((M 171 (x5 + (x1 * (M 174 x7)))) + (x2 * (M 171 (x3 + (M 174 x7)))))) 171 ((x5 + x1) - (M 174 x7))) + (x2 * (M 171 (x3 + (M 174 x7)))))) 171 ((x5 + (M 174 x7)) - x1)) + (x2 * (M 171 (x3 + (M 174 x7)))) ∧ ((zset (zset M 171 (x5 + (x1 * (M 174 x7))) ((M 171 (x5 + (x1 * (M 174 x7)))) + (x2 * (M 171 (x3 + (M 174 x7)))))) 171 ((x5 + x1) - (M 174 x7)) (((zset M 171 (x5 + (x1 * (M 174 x7))) ((M 171 (x5 + (x1 * (M 174 x7)))) + (x2 * (M 171 (x3 + (M 174 x7)))))) 171 ((x5 + x1) - (M 174 x7))) + (x2 * (M 171 (x3 + (M 174 x7)))))) 171 ((x5 + (M 174 x7)) - x1)) + (x2 * (M 171 (x3 + (M 174 x7)))) ≤ 2147483647) ∧ (0 ≤ ((x5 + (M 174 x7)) - x1) ∧ ((x5 + (M 174 x7)) - x1) < 50050) ∧ (-2147483648 ≤ x7 + 1 ∧ x7 + 1 ≤ 2147483647) ∧ Y G d mX9_joinValue 3 [(2, 170), (0, x1), (0, x2), (0, x3), (0, x4), (0, x5), (0, x6), (0, (x7 + 1)), (9, 0), (9, 0), (9, 0)] [] (zset (zset (zset M 171 (x5 + (x1 * (M 174 x7))) ((M 171 (x5 + (x1 * (M 174 x7)))) + (x2 * (M 171 (x3 + (M 174 x7)))))) 171 ((x5 + x1) - (M 174 x7)) (((zset M 171 (x5 + (x1 * (M 174 x7))) ((M 171 (x5 + (x1 * (M 174 x7)))) + (x2 * (M 171 (x3 + (M 174 x7)))))) 171 ((x5 + x1) - (M 174 x7))) + (x2 * (M 171 (x3 + (M 174 x7)))))) 171 ((x5 + (M 174 x7)) - x1) (((zset (zset M 171 (x5 + (x1 * (M 174 x7))) ((M 171 (x5 + (x1 * (M 174 x7)))) + (x2 * (M 171 (x3 + (M 174 x7)))))) 171 ((x5 + x1) - (M 174 x7)) (((zset M 171 (x5 + (x1 * (M 174 x7))) ((M 171 (x5 + (x1 * (M 174 x7)))) + (x2 * (M 171 (x3 + (M 174 x7)))))) 171 ((x5 + x1) - (M 174 x7))) + (x2 * (M 171 (x3 + (M 174 x7)))))) 171 ((x5 + (M 174 x7)) - x1)) + (x2 * (M 171 (x3 + (M 174 x7)))))) Q))))))))))) ∧ ((-500) ≤ (x1 + (M 174 x7)) → (-2147483648 ≤ x1 + (M 174 x7) ∧ x1 + (M 174 x7) ≤ 2147483647) ∧ ((500 < (x1 + (M 174 x7)) → (-2147483648 ≤ x1 * (M 174 x7) ∧ x1 * (M 174 x7) ≤ 2147483647) ∧ (((x1 * (M 174 x7)) < (-500) → (-2147483648 ≤ x1 - (M 174 x7) ∧ x1 - (M 174 x7) ≤ 2147483647) ∧ (((x1 - (M 174 x7)) < (-500) → (-2147483648 ≤ x7 + 1 ∧ x7 + 1 ≤ 2147483647) ∧ Y G d mX9_joinValue 3 [(2, 170), (0, x1), (0, x2), (0, x3), (0, x4), (0, x5), (0, x6), (0, (x7 + 1)), (9, 0), (9, 0), (9, 0)] [] M Q) ∧ ((-500) ≤ (x1 - (M 174 x7)) → (-2147483648 ≤ x1 - (M 174 x7) ∧ x1 - (M 174 x7) ≤ 2147483647) ∧ ((500 < (x1 - (M 174 x7)) → (-2147483648 ≤ x7 + 1 ∧ x7 + 1 ≤ 2147483647) ∧ Y G d mX9_joinValue 3 [(2, 170), (0, x1), (0, x2), (0, x3), (0, x4), (0, x5), (0, x6), (0, (x7 + 1)), (9, 0), (9, 0), (9, 0)] [] M Q) ∧ ((x1 - (M 174 x7)) ≤ 500 → (-2147483648 ≤ x5 + x1 ∧ x5 + x1 ≤ 2147483647) ∧ (-2147483648 ≤ (x5 + x1) - (M 174 x7) ∧ (x5 + x1) - (M 174 x7) ≤ 2147483647) ∧ (0 ≤ ((x5 + x1) - (M 174 x7)) ∧ ((x5 + x1) - (M 174 x7)) < 50050) ∧ (-2147483648 ≤ (M 171 ((x5 + x1) - (M 174 x7))) + (x2 * (M 171 (x3 + (M 174 x7)))) ∧ (M 171 ((x5 + x1) - (M 174 x7))) + (x2 * (M 171 (x3 + (M 174 x7)))) ≤ 2147483647) ∧ (0 ≤ ((x5 + x1) - (M 174 x7)) ∧ ((x5 + x1) - (M 174 x7)) < 50050) ∧ ((x6 = 0 → (-2147483648 ≤ x7 + 1 ∧ x7 + 1 ≤ 2147483647) ∧ Y G d mX9_joinValue 3 [(2, 170), (0, x1), (0, x2), (0, x3), (0, x4), (0, x5), (0, x6), (0, (x7 + 1)), (9, 0), (9, 0), (9, 0)] [] (zset M 171 ((x5 + x1) - (M 174 x7)) ((M 171 ((x5 + x1) - (M 174 x7))) + (x2 * (M 171 (x3 + (M 174 x7)))))) Q) ∧ (¬ x6 = 0 → (-2147483648 ≤ x5 + (M 174 x7) ∧ x5 + (M 174 x7) ≤ 2147483647) ∧ (-2147483648 ≤ (x5 + (M 174 x7)) - x1 ∧ (x5 + (M 174 x7)) - x1 ≤ 2147483647) ∧ (0 ≤ ((x5 + (M 174 x7)) - x1) ∧ ((x5 + (M 174 x7)) - x1) < 50050) ∧ (-2147483648 ≤ ((zset M 171 ((x5 + x1) - (M 174 x7)) ((M 171 ((x5 + x1) - (M 174 x7))) + (x2 * (M 171 (x3 + (M 174 x7)))))) 171 ((x5 + (M 174 x7)) - x1)) + (x2 * (M 171 (x3 + (M 174 x7)))) ∧ ((zset M 171 ((x5 + x1) - (M 174 x7)) ((M 171 ((x5 + x1) - (M 174 x7))) + (x2 * (M 171 (x3 + (M 174 x7)))))) 171 ((x5 + (M 174 x7)) - x1)) + (x2 * (M 171 (x3 + (M 174 x7)))) ≤ 2147483647) ∧ (0 ≤ ((x5 + (M 174 x7)) - x1) ∧ ((x5 + (M 174 x7)) - x1) < 50050) ∧ (-2147483648 ≤ x7 + 1 ∧ x7 + 1 ≤ 2147483647) ∧ Y G d mX9_joinValue 3 [(2, 170), (0, x1), (0, x2), (0, x3), (0, x4), (0, x5), (0, x6), (0, (x7 + 1)), (9, 0), (9, 0), (9, 0)] [] (zset (zset M 171 ((x5 + x1) - (M 174 x7)) ((M 171 ((x5 + x1) - (M 174 x7))) + (x2 * (M 171 (x3 + (M 174 x7)))))) 171 ((x5 + (M 174 x7)) - x1) (((zset M 171 ((x5 + x1) - (M 174 x7)) ((M 171 ((x5 + x1) - (M 174 x7))) + (x2 * (M 171 (x3 + (M 174 x7)))))) 171 ((x5 + (M 174 x7)) - x1)) + (x2 * (M 171 (x3 + (M 174 x7)))))) Q))))))) ∧ ((-500) ≤ (x1 * (M 174 x7)) → (-2147483648 ≤ x1 * (M 174 x7) ∧ x1 * (M 174 x7) ≤ 2147483647) ∧ ((500 < (x1 * (M 174 x7)) → (-2147483648 ≤ x1 - (M 174 x7) ∧ x1 - (M 174 x7) ≤ 2147483647) ∧ (((x1 - (M 174 x7)) < (-500) → (-2147483648 ≤ x7 + 1 ∧ x7 + 1 ≤ 2147483647) ∧ Y G d mX9_joinValue 3 [(2, 170), (0, x1), (0, x2), (0, x3), (0, x4), (0, x5), (0, x6), (0, (x7 + 1)), (9, 0), (9, 0), (9, 0)] [] M Q) ∧ ((-500) ≤ (x1 - (M 174 x7)) → (-2147483648 ≤ x1 - (M 174 x7) ∧ x1 - (M 174 x7) ≤ 2147483647) ∧ ((500 < (x1 - (M 174 x7)) → (-2147483648 ≤ x7 + 1 ∧ x7 + 1 ≤ 2147483647) ∧ Y G d mX9_joinValue 3 [(2, 170), (0, x1), (0, x2), (0, x3), (0, x4), (0, x5), (0, x6), (0, (x7 + 1)), (9, 0), (9, 0), (9, 0)] [] M Q) ∧ ((x1 - (M 174 x7)) ≤ 500 → (-2147483648 ≤ x5 + x1 ∧ x5 + x1 ≤ 2147483647) ∧ (-2147483648 ≤ (x5 + x1) - (M 174 x7) ∧ (x5 + x1) - (M 174 x7) ≤ 2147483647) ∧ (0 ≤ ((x5 + x1) - (M 174 x7)) ∧ ((x5 + x1) - (M 174 x7)) < 50050) ∧ (-2147483648 ≤ (M 171 ((x5 + x1) - (M 174 x7))) + (x2 * (M 171 (x3 + (M 174 x7)))) ∧ (M 171 ((x5 + x1) - (M 174 x7))) + (x2 * (M 171 (x3 + (M 174 x7)))) ≤ 2147483647) ∧ (0 ≤ ((x5 + x1) - (M 174 x7)) ∧ ((x5 + x1) - (M 174 x7)) < 50050) ∧ ((x6 = 0 → (-2147483648 ≤ x7 + 1 ∧ x7 + 1 ≤ 2147483647) ∧ Y G d mX9_joinValue 3 [(2, 170), (0, x1), (0, x2), (0, x3), (0, x4), (0, x5), (0, x6), (0, (x7 + 1)), (9, 0), (9, 0), (9, 0)] [] (zset M 171 ((x5 + x1) - (M 174 x7)) ((M 171 ((x5 + x1) - (M 174 x7))) + (x2 * (M 171 (x3 + (M 174 x7)))))) Q) ∧ (¬ x6 = 0 → (-2147483648 ≤ x5 + (M 174 x7) ∧ x5 + (M 174 x7) ≤ 2147483647) ∧ (-2147483648 ≤ (x5 + (M 174 x7)) - x1 ∧ (x5 + (M 174 x7)) - x1 ≤ 2147483647) ∧ (0 ≤ ((x5 + (M 174 x7)) - x1) ∧ ((x5 + (M 174 x7)) - x1) < 50050) ∧ (-2147483648 ≤ ((zset M 171 ((x5 + x1) - (M 174 x7)) ((M 171 ((x5 + x1) - (M 174 x7))) + (x2 * (M 171 (x3 + (M 174 x7)))))) 171 ((x5 + (M 174 x7)) - x1)) + (x2 * (M 171 (x3 + (M 174 x7)))) ∧ ((zset M 171 ((x5 + x1) - (M 174 x7)) ((M 171 ((x5 + x1) - (M 174 x7))) + (x2 * (M 171 (x3 + (M 174 x7)))))) 171 ((x5 + (M 174 x7)) - x1)) + (x2 * (M 171 (x3 + (M 174 x7)))) ≤ 2147483647) ∧ (0 ≤ ((x5 + (M 174 x7)) - x1) ∧ ((x5 + (M 174 x7)) - x1) < 50050) ∧ (-2147483648 ≤ x7 + 1 ∧ x7 + 1 ≤ 2147483647) ∧ Y G d mX9_joinValue 3 [(2, 170), (0, x1), (0, x2), (0, x3), (0, x4), (0, x5), (0, x6), (0, (x7 + 1)), (9, 0), (9, 0), (9, 0)] [] (zset (zset M 171 ((x5 + x1) - (M 174 x7)) ((M 171 ((x5 + x1) - (M 174 x7))) + (x2 * (M 171 (x3 + (M 174 x7)))))) 171 ((x5 + (M 174 x7)) - x1) (((zset M 171 ((x5 + x1) - (M 174 x7)) ((M 171 ((x5 + x1) - (M 174 x7))) + (x2 * (M 171 (x3 + (M 174 x7)))))) 171 ((x5 + (M 174 x7)) - x1)) + (x2 * (M 171 (x3 + (M 174 x7)))))) Q))))))) ∧ ((x1 * (M 174 x7)) ≤ 500 → (-2147483648 ≤ x1 * (M 174 x7) ∧ x1 * (M 174 x7) ≤ 2147483647) ∧ (-2147483648 ≤ x5 + (x1 * (M 174 x7)) ∧ x5 + (x1 * (M 174 x7)) ≤ 2147483647) ∧ (0 ≤ (x5 + (x1 * (M 174 x7))) ∧ (x5 + (x1 * (M 174 x7))) < 50050) ∧ (-2147483648 ≤ (M 171 (x5 + (x1 * (M 174 x7)))) + (x2 * (M 171 (x3 + (M 174 x7)))) ∧ (M 171 (x5 + (x1 * (M 174 x7)))) + (x2 * (M 171 (x3 + (M 174 x7)))) ≤ 2147483647) ∧ (0 ≤ (x5 + (x1 * (M 174 x7))) ∧ (x5 + (x1 * (M 174 x7))) < 50050) ∧ (-2147483648 ≤ x1 - (M 174 x7) ∧ x1 - (M 174 x7) ≤ 2147483647) ∧ (((x1 - (M 174 x7)) < (-500) → (-2147483648 ≤ x7 + 1 ∧ x7 + 1 ≤ 2147483647) ∧ Y G d mX9_joinValue 3 [(2, 170), (0, x1), (0, x2), (0, x3), (0, x4), (0, x5), (0, x6), (0, (x7 + 1)), (9, 0), (9, 0), (9, 0)] [] (zset M 171 (x5 + (x1 * (M 174 x7))) ((M 171 (x5 + (x1 * (M 174 x7)))) + (x2 * (M 171 (x3 + (M 174 x7)))))) Q) ∧ ((-500) ≤ (x1 - (M 174 x7)) → (-2147483648 ≤ x1 - (M 174 x7) ∧ x1 - (M 174 x7) ≤ 2147483647) ∧ ((500 < (x1 - (M 174 x7)) → (-2147483648 ≤ x7 + 1 ∧ x7 + 1 ≤ 2147483647) ∧ Y G d mX9_joinValue 3 [(2, 170), (0, x1), (0, x2), (0, x3), (0, x4), (0, x5), (0, x6), (0, (x7 + 1)), (9, 0), (9, 0), (9, 0)] [] (zset M 171 (x5 + (x1 * (M 174 x7))) ((M 171 (x5 + (x1 * (M 174 x7)))) + (x2 * (M 171 (x3 + (M 174 x7)))))) Q) ∧ ((x1 - (M 174 x7)) ≤ 500 → (-2147483648 ≤ x5 + x1 ∧ x5 + x1 ≤ 2147483647) ∧ (-2147483648 ≤ (x5 + x1) - (M 174 x7) ∧ (x5 + x1) - (M 174 x7) ≤ 2147483647) ∧ (0 ≤ ((x5 + x1) - (M 174 x7)) ∧ ((x5 + x1) - (M 174 x7)) < 50050) ∧ (-2147483648 ≤ ((zset M 171 (x5 + (x1 * (M 174 x7))) ((M 171 (x5 + (x1 * (M 174 x7)))) + (x2 * (M 171 (x3 + (M 174 x7)))))) 171 ((x5 + x1) - (M 174 x7))) + (x2 * (M 171 (x3 + (M 174 x7)))) ∧ ((zset M 171 (x5 + (x1 * (M 174 x7))) ((M 171 (x5 + (x1 * (M 174 x7)))) + (x2 * (M 171 (x3 + (M 174 x7)))))) 171 ((x5 + x1) - (M 174 x7))) + (x2 * (M 171 (x3 + (M 174 x7)))) ≤ 2147483647) ∧ (0 ≤ ((x5 + x1) - (M 174 x7)) ∧ ((x5 + x1) - (M 174 x7)) < 50050) ∧ ((x6 = 0 → (-2147483648 ≤ x7 + 1 ∧ x7 + 1 ≤ 2147483647) ∧ Y G d mX9_joinValue 3 [(2, 170), (0, x1), (0, x2), (0, x3), (0, x4), (0, x5), (0, x6), (0, (x7 + 1)), (9, 0), (9, 0), (9, 0)] [] (zset (zset M 171 (x5 + (x1 * (M 174 x7))) ((M 171 (x5 + (x1 * (M 174 x7)))) + (x2 * (M 171 (x3 + (M 174 x7)))))) 171 ((x5 + x1) - (M 174 x7)) (((zset M 171 (x5 + (x1 * (M 174 x7))) ((M 171 (x5 + (x1 * (M 174 x7)))) + (x2 * (M 171 (x3 + (M 174 x7)))))) 171 ((x5 + x1) - (M 174 x7))) + (x2 * (M 171 (x3 + (M 174 x7)))))) Q) ∧ (¬ x6 = 0 → (-2147483648 ≤ x5 + (M 174 x7) ∧ x5 + (M 174 x7) ≤ 2147483647) ∧ (-2147483648 ≤ (x5 + (M 174 x7)) - x1 ∧ (x5 + (M 174 x7)) - x1 ≤ 2147483647) ∧ (0 ≤ ((x5 + (M 174 x7)) - x1) ∧ ((x5 + (M 174 x7)) - x1) < 50050) ∧ (-2147483648 ≤ ((zset (zset M 171 (x5 + (x1 * (M 174 x7))) ((M 171 (x5 + (x1 * (M 174 x7)))) + (x2 * (M 171 (x3 + (M 174 x7)))))) 171 ((x5 + x1) - (M 174 x7)) (((zset M 171 (x5 + (x1 * (M 174 x7))) ((M 171 (x5 + (x1 * (M 174 x7)))) + (x2 * (M 171 (x3 + (M 174 x7)))))) 171 ((x5 + x1) - (M 174 x7))) + (x2 * (M 171 (x3 + (M 174 x7)))))) 171 ((x5 + (M 174 x7)) - x1)) + (x2 * (M 171 (x3 + (M 174 x7)))) ∧ ((zset (zset M 171 (x5 + (x1 * (M 174 x7))) ((M 171 (x5 + (x1 * (M 174 x7)))) + (x2 * (M 171 (x3 + (M 174 x7)))))) 171 ((x5 + x1) - (M 174 x7)) (((zset M 171 (x5 + (x1 * (M 174 x7))) ((M 171 (x5 + (x1 * (M 174 x7)))) + (x2 * (M 171 (x3 + (M 174 x7)))))) 171 ((x5 + x1) - (M 174 x7))) + (x2 * (M 171 (x3 + (M 174 x7)))))) 171 ((x5 + (M 174 x7)) - x1)) + (x2 * (M 171 (x3 + (M 174 x7)))) ≤ 2147483647) ∧ (0 ≤ ((x5 + (M 174 x7)) - x1) ∧ ((x5 + (M 174 x7)) - x1) < 50050) ∧ (-2147483648 ≤ x7 + 1 ∧ x7 + 1 ≤ 2147483647) ∧ Y G d mX9_joinValue 3 [(2, 170), (0, x1), (0, x2), (0, x3), (0, x4), (0, x5), (0, x6), (0, (x7 + 1)), (9, 0), (9, 0), (9, 0)] [] (zset (zset (zset M 171 (x5 + (x1 * (M 174 x7))) ((M 171 (x5 + (x1 * (M 174 x7)))) + (x2 * (M 171 (x3 + (M 174 x7)))))) 171 ((x5 + x1) - (M 174 x7)) (((zset M 171 (x5 + (x1 * (M 174 x7))) ((M 171 (x5 + (x1 * (M 174 x7)))) + (x2 * (M 171 (x3 + (M 174 x7)))))) 171 ((x5 + x1) - (M 174 x7))) + (x2 * (M 171 (x3 + (M 174 x7)))))) 171 ((x5 + (M 174 x7)) - x1) (((zset (zset M 171 (x5 + (x1 * (M 174 x7))) ((M 171 (x5 + (x1 * (M 174 x7)))) + (x2 * (M 171 (x3 + (M 174 x7)))))) 171 ((x5 + x1) - (M 174 x7)) (((zset M 171 (x5 + (x1 * (M 174 x7))) ((M 171 (x5 + (x1 * (M 174 x7)))) + (x2 * (M 171 (x3 + (M 174 x7)))))) 171 ((x5 + x1) - (M 174 x7))) + (x2 * (M 171 (x3 + (M 174 x7)))))) 171 ((x5 + (M 174 x7)) - x1)) + (x2 * (M 171 (x3 + (M 174 x7)))))) Q))))))))))) ∧ ((x1 + (M 174 x7)) ≤ 500 → (-2147483648 ≤ x5 + x1 ∧ x5 + x1 ≤ 2147483647) ∧ (-2147483648 ≤ (x5 + x1) + (M 174 x7) ∧ (x5 + x1) + (M 174 x7) ≤ 2147483647) ∧ (0 ≤ ((x5 + x1) + (M 174 x7)) ∧ ((x5 + x1) + (M 174 x7)) < 50050) ∧ (-2147483648 ≤ (M 171 ((x5 + x1) + (M 174 x7))) + (x2 * (M 171 (x3 + (M 174 x7)))) ∧ (M 171 ((x5 + x1) + (M 174 x7))) + (x2 * (M 171 (x3 + (M 174 x7)))) ≤ 2147483647) ∧ (0 ≤ ((x5 + x1) + (M 174 x7)) ∧ ((x5 + x1) + (M 174 x7)) < 50050) ∧ (-2147483648 ≤ x1 * (M 174 x7) ∧ x1 * (M 174 x7) ≤ 2147483647) ∧ (((x1 * (M 174 x7)) < (-500) → (-2147483648 ≤ x1 - (M 174 x7) ∧ x1 - (M 174 x7) ≤ 2147483647) ∧ (((x1 - (M 174 x7)) < (-500) → (-2147483648 ≤ x7 + 1 ∧ x7 + 1 ≤ 2147483647) ∧ Y G d mX9_joinValue 3 [(2, 170), (0, x1), (0, x2), (0, x3), (0, x4), (0, x5), (0, x6), (0, (x7 + 1)), (9, 0), (9, 0), (9, 0)] [] (zset M 171 ((x5 + x1) + (M 174 x7)) ((M 171 ((x5 + x1) + (M 174 x7))) + (x2 * (M 171 (x3 + (M 174 x7)))))) Q) ∧ ((-500) ≤ (x1 - (M 174 x7)) → (-2147483648 ≤ x1 - (M 174 x7) ∧ x1 - (M 174 x7) ≤ 2147483647) ∧ ((500 < (x1 - (M 174 x7)) → (-2147483648 ≤ x7 + 1 ∧ x7 + 1 ≤ 2147483647) ∧ Y G d mX9_joinValue 3 [(2, 170), (0, x1), (0, x2), (0, x3), (0, x4), (0, x5), (0, x6), (0, (x7 + 1)), (9, 0), (9, 0), (9, 0)] [] (zset M 171 ((x5 + x1) + (M 174 x7)) ((M 171 ((x5 + x1) + (M 174 x7))) + (x2 * (M 171 (x3 + (M 174 x7)))))) Q) ∧ ((x1 - (M 174 x7)) ≤ 500 → (-2147483648 ≤ x5 + x1 ∧ x5 + x1 ≤ 2147483647) ∧ (-2147483648 ≤ (x5 + x1) - (M 174 x7) ∧ (x5 + x1) - (M 174 x7) ≤ 2147483647) ∧ (0 ≤ ((x5 + x1) - (M 174 x7)) ∧ ((x5 + x1) - (M 174 x7)) < 50050) ∧ (-2147483648 ≤ ((zset M 171 ((x5 + x1) + (M 174 x7)) ((M 171 ((x5 + x1) + (M 174 x7))) + (x2 * (M 171 (x3 + (M 174 x7)))))) 171 ((x5 + x1) - (M 174 x7))) + (x2 * (M 171 (x3 + (M 174 x7)))) ∧ ((zset M 171 ((x5 + x1) + (M 174 x7)) ((M 171 ((x5 + x1) + (M 174 x7))) + (x2 * (M 171 (x3 + (M 174 x7)))))) 171 ((x5 + x1) - (M 174 x7))) + (x2 * (M 171 (x3 + (M 174 x7)))) ≤ 2147483647) ∧ (0 ≤ ((x5 + x1) - (M 174 x7)) ∧ ((x5 + x1) - (M 174 x7)) < 50050) ∧ ((x6 = 0 → (-2147483648 ≤ x7 + 1 ∧ x7 + 1 ≤ 2147483647) ∧ Y G d mX9_joinValue 3 [(2, 170), (0, x1), (0, x2), (0, x3), (0, x4), (0, x5), (0, x6), (0, (x7 + 1)), (9, 0), (9, 0), (9, 0)] [] (zset (zset M 171 ((x5 + x1) + (M 174 x7)) ((M 171 ((x5 + x1) + (M 174 x7))) + (x2 * (M 171 (x3 + (M 174 x7)))))) 171 ((x5 + x1) - (M 174 x7)) (((zset M 171 ((x5 + x1) + (M 174 x7)) ((M 171 ((x5 + x1) + (M 174 x7))) + (x2 * (M 171 (x3 + (M 174 x7)))))) 171 ((x5 + x1) - (M 174 x7))) + (x2 * (M 171 (x3 + (M 174 x7)))))) Q) ∧ (¬ x6 = 0 → (-2147483648 ≤ x5 + (M 174 x7) ∧ x5 + (M 174 x7) ≤ 2147483647) ∧ (-2147483648 ≤ (x5 + (M 174 x7)) - x1 ∧ (x5 + (M 174 x7)) - x1 ≤ 2147483647) ∧ (0 ≤ ((x5 + (M 174 x7)) - x1) ∧ ((x5 + (M 174 x7)) - x1) < 50050) ∧ (-2147483648 ≤ ((zset (zset M 171 ((x5 + x1) + (M 174 x7)) ((M 171 ((x5 + x1) + (M 174 x7))) + (x2 * (M 171 (x3 + (M 174 x7)))))) 171 ((x5 + x1) - (M 174 x7)) (((zset M 171 ((x5 + x1) + (M 174 x7)) ((M 171 ((x5 + x1) + (M 174 x7))) + (x2 * (M 171 (x3 + (M 174 x7)))))) 171 ((x5 + x1) - (M 174 x7))) + (x2 * (M 171 (x3 + (M 174 x7)))))) 171 ((x5 + (M 174 x7)) - x1)) + (x2 * (M 171 (x3 + (M 174 x7)))) ∧ ((zset (zset M 171 ((x5 + x1) + (M 174 x7)) ((M 171 ((x5 + x1) + (M 174 x7))) + (x2 * (M 171 (x3 + (M 174 x7)))))) 171 ((x5 + x1) - (M 174 x7)) (((zset M 171 ((x5 + x1) + (M 174 x7)) ((M 171 ((x5 + x1) + (M 174 x7))) + (x2 * (M 171 (x3 + (M 174 x7)))))) 171 ((x5 + x1) - (M 174 x7))) + (x2 * (M 171 (x3 + (M 174 x7)))))) 171 ((x5 + (M 174 x7)) - x1)) + (x2 * (M 171 (x3 + (M 174 x7)))) ≤ 2147483647) ∧ (0 ≤ ((x5 + (M 174 x7)) - x1) ∧ ((x5 + (M 174 x7)) - x1) < 50050) ∧ (-2147483648 ≤ x7 + 1 ∧ x7 + 1 ≤ 2147483647) ∧ Y G d mX9_joinValue 3 [(2, 170), (0, x1), (0, x2), (0, x3), (0, x4), (0, x5), (0, x6), (0, (x7 + 1)), (9, 0), (9, 0), (9, 0)] [] (zset (zset (zset M 171 ((x5 + x1) + (M 174 x7)) ((M 171 ((x5 + x1) + (M 174 x7))) + (x2 * (M 171 (x3 + (M 174 x7)))))) 171 ((x5 + x1) - (M 174 x7)) (((zset M 171 ((x5 + x1) + (M 174 x7)) ((M 171 ((x5 + x1) + (M 174 x7))) + (x2 * (M 171 (x3 + (M 174 x7)))))) 171 ((x5 + x1) - (M 174 x7))) + (x2 * (M 171 (x3 + (M 174 x7)))))) 171 ((x5 + (M 174 x7)) - x1) (((zset (zset M 171 ((x5 + x1) + (M 174 x7)) ((M 171 ((x5 + x1) + (M 174 x7))) + (x2 * (M 171 (x3 + (M 174 x7)))))) 171 ((x5 + x1) - (M 174 x7)) (((zset M 171 ((x5 + x1) + (M 174 x7)) ((M 171 ((x5 + x1) + (M 174 x7))) + (x2 * (M 171 (x3 + (M 174 x7)))))) 171 ((x5 + x1) - (M 174 x7))) + (x2 * (M 171 (x3 + (M 174 x7)))))) 171 ((x5 + (M 174 x7)) - x1)) + (x2 * (M 171 (x3 + (M 174 x7)))))) Q))))))) ∧ ((-500) ≤ (x1 * (M 174 x7)) → (-2147483648 ≤ x1 * (M 174 x7) ∧ x1 * (M 174 x7) ≤ 2147483647) ∧ ((500 < (x1 * (M 174 x7)) → (-2147483648 ≤ x1 - (M 174 x7) ∧ x1 - (M 174 x7) ≤ 2147483647) ∧ (((x1 - (M 174 x7)) < (-500) → (-2147483648 ≤ x7 + 1 ∧ x7 + 1 ≤ 2147483647) ∧ Y G d mX9_joinValue 3 [(2, 170), (0, x1), (0, x2), (0, x3), (0, x4), (0, x5), (0, x6), (0, (x7 + 1)), (9, 0), (9, 0), (9, 0)] [] (zset M 171 ((x5 + x1) + (M 174 x7)) ((M 171 ((x5 + x1) + (M 174 x7))) + (x2 * (M 171 (x3 + (M 174 x7)))))) Q) ∧ ((-500) ≤ (x1 - (M 174 x7)) → (-2147483648 ≤ x1 - (M 174 x7) ∧ x1 - (M 174 x7) ≤ 2147483647) ∧ ((500 < (x1 - (M 174 x7)) → (-2147483648 ≤ x7 + 1 ∧ x7 + 1 ≤ 2147483647) ∧ Y G d mX9_joinValue 3 [(2, 170), (0, x1), (0, x2), (0, x3), (0, x4), (0, x5), (0, x6), (0, (x7 + 1)), (9, 0), (9, 0), (9, 0)] [] (zset M 171 ((x5 + x1) + (M 174 x7)) ((M 171 ((x5 + x1) + (M 174 x7))) + (x2 * (M 171 (x3 + (M 174 x7)))))) Q) ∧ ((x1 - (M 174 x7)) ≤ 500 → (-2147483648 ≤ x5 + x1 ∧ x5 + x1 ≤ 2147483647) ∧ (-2147483648 ≤ (x5 + x1) - (M 174 x7) ∧ (x5 + x1) - (M 174 x7) ≤ 2147483647) ∧ (0 ≤ ((x5 + x1) - (M 174 x7)) ∧ ((x5 + x1) - (M 174 x7)) < 50050) ∧ (-2147483648 ≤ ((zset M 171 ((x5 + x1) + (M 174 x7)) ((M 171 ((x5 + x1) + (M 174 x7))) + (x2 * (M 171 (x3 + (M 174 x7)))))) 171 ((x5 + x1) - (M 174 x7))) + (x2 * (M 171 (x3 + (M 174 x7)))) ∧ ((zset M 171 ((x5 + x1) + (M 174 x7)) ((M 171 ((x5 + x1) + (M 174 x7))) + (x2 * (M 171 (x3 + (M 174 x7)))))) 171 ((x5 + x1) - (M 174 x7))) + (x2 * (M 171 (x3 + (M 174 x7)))) ≤ 2147483647) ∧ (0 ≤ ((x5 + x1) - (M 174 x7)) ∧ ((x5 + x1) - (M 174 x7)) < 50050) ∧ ((x6 = 0 → (-2147483648 ≤ x7 + 1 ∧ x7 + 1 ≤ 2147483647) ∧ Y G d mX9_joinValue 3 [(2, 170), (0, x1), (0, x2), (0, x3), (0, x4), (0, x5), (0, x6), (0, (x7 + 1)), (9, 0), (9, 0), (9, 0)] [] (zset (zset M 171 ((x5 + x1) + (M 174 x7)) ((M 171 ((x5 + x1) + (M 174 x7))) + (x2 * (M 171 (x3 + (M 174 x7)))))) 171 ((x5 + x1) - (M 174 x7)) (((zset M 171 ((x5 + x1) + (M 174 x7)) ((M 171 ((x5 + x1) + (M 174 x7))) + (x2 * (M 171 (x3 + (M 174 x7)))))) 171 ((x5 + x1) - (M 174 x7))) + (x2 * (M 171 (x3 + (M 174 x7)))))) Q) ∧ (¬ x6 = 0 → (-2147483648 ≤ x5 + (M 174 x7) ∧ x5 + (M 174 x7) ≤ 2147483647) ∧ (-2147483648 ≤ (x5 + (M 174 x7)) - x1 ∧ (x5 + (M 174 x7)) - x1 ≤ 2147483647) ∧ (0 ≤ ((x5 + (M 174 x7)) - x1) ∧ ((x5 + (M 174 x7)) - x1) < 50050) ∧ (-2147483648 ≤ ((zset (zset M 171 ((x5 + x1) + (M 174 x7)) ((M 171 ((x5 + x1) + (M 174 x7))) + (x2 * (M 171 (x3 + (M 174 x7)))))) 171 ((x5 + x1) - (M 174 x7)) (((zset M 171 ((x5 + x1) + (M 174 x7)) ((M 171 ((x5 + x1) + (M 174 x7))) + (x2 * (M 171 (x3 + (M 174 x7)))))) 171 ((x5 + x1) - (M 174 x7))) + (x2 * (M 171 (x3 + (M 174 x7)))))) 171 ((x5 + (M 174 x7)) - x1)) + (x2 * (M 171 (x3 + (M 174 x7)))) ∧ ((zset (zset M 171 ((x5 + x1) + (M 174 x7)) ((M 171 ((x5 + x1) + (M 174 x7))) + (x2 * (M 171 (x3 + (M 174 x7)))))) 171 ((x5 + x1) - (M 174 x7)) (((zset M 171 ((x5 + x1) + (M 174 x7)) ((M 171 ((x5 + x1) + (M 174 x7))) + (x2 * (M 171 (x3 + (M 174 x7)))))) 171 ((x5 + x1) - (M 174 x7))) + (x2 * (M 171 (x3 + (M 174 x7)))))) 171 ((x5 + (M 174 x7)) - x1)) + (x2 * (M 171 (x3 + (M 174 x7)))) ≤ 2147483647) ∧ (0 ≤ ((x5 + (M 174 x7)) - x1) ∧ ((x5 + (M 174 x7)) - x1) < 50050) ∧ (-2147483648 ≤ x7 + 1 ∧ x7 + 1 ≤ 2147483647) ∧ Y G d mX9_joinValue 3 [(2, 170), (0, x1), (0, x2), (0, x3), (0, x4), (0, x5), (0, x6), (0, (x7 + 1)), (9, 0), (9, 0), (9, 0)] [] (zset (zset (zset M 171 ((x5 + x1) + (M 174 x7)) ((M 171 ((x5 + x1) + (M 174 x7))) + (x2 * (M 171 (x3 + (M 174 x7)))))) 171 ((x5 + x1) - (M 174 x7)) (((zset M 171 ((x5 + x1) + (M 174 x7)) ((M 171 ((x5 + x1) + (M 174 x7))) + (x2 * (M 171 (x3 + (M 174 x7)))))) 171 ((x5 + x1) - (M 174 x7))) + (x2 * (M 171 (x3 + (M 174 x7)))))) 171 ((x5 + (M 174 x7)) - x1) (((zset (zset M 171 ((x5 + x1) + (M 174 x7)) ((M 171 ((x5 + x1) + (M 174 x7))) + (x2 * (M 171 (x3 + (M 174 x7)))))) 171 ((x5 + x1) - (M 174 x7)) (((zset M 171 ((x5 + x1) + (M 174 x7)) ((M 171 ((x5 + x1) + (M 174 x7))) + (x2 * (M 171 (x3 + (M 174 x7)))))) 171 ((x5 + x1) - (M 174 x7))) + (x2 * (M 171 (x3 + (M 174 x7)))))) 171 ((x5 + (M 174 x7)) - x1)) + (x2 * (M 171 (x3 + (M 174 x7)))))) Q))))))) ∧ ((x1 * (M 174 x7)) ≤ 500 → (-2147483648 ≤ x1 * (M 174 x7) ∧ x1 * (M 174 x7) ≤ 2147483647) ∧ (-2147483648 ≤ x5 + (x1 * (M 174 x7)) ∧ x5 + (x1 * (M 174 x7)) ≤ 2147483647) ∧ (0 ≤ (x5 + (x1 * (M 174 x7))) ∧ (x5 + (x1 * (M 174 x7))) < 50050) ∧ (-2147483648 ≤ ((zset M 171 ((x5 + x1) + (M 174 x7)) ((M 171 ((x5 + x1) + (M 174 x7))) + (x2 * (M 171 (x3 + (M 174 x7)))))) 171 (x5 + (x1 * (M 174 x7)))) + (x2 * (M 171 (x3 + (M 174 x7)))) ∧ ((zset M 171 ((x5 + x1) + (M 174 x7)) ((M 171 ((x5 + x1) + (M 174 x7))) + (x2 * (M 171 (x3 + (M 174 x7)))))) 171 (x5 + (x1 * (M 174 x7)))) + (x2 * (M 171 (x3 + (M 174 x7)))) ≤ 2147483647) ∧ (0 ≤ (x5 + (x1 * (M 174 x7))) ∧ (x5 + (x1 * (M 174 x7))) < 50050) ∧ (-2147483648 ≤ x1 - (M 174 x7) ∧ x1 - (M 174 x7) ≤ 2147483647) ∧ (((x1 - (M 174 x7)) < (-500) → (-2147483648 ≤ x7 + 1 ∧ x7 + 1 ≤ 2147483647) ∧ Y G d mX9_joinValue 3 [(2, 170), (0, x1), (0, x2), (0, x3), (0, x4), (0, x5), (0, x6), (0, (x7 + 1)), (9, 0), (9, 0), (9, 0)] [] (zset (zset M 171 ((x5 + x1) + (M 174 x7)) ((M 171 ((x5 + x1) + (M 174 x7))) + (x2 * (M 171 (x3 + (M 174 x7)))))) 171 (x5 + (x1 * (M 174 x7))) (((zset M 171 ((x5 + x1) + (M 174 x7)) ((M 171 ((x5 + x1) + (M 174 x7))) + (x2 * (M 171 (x3 + (M 174 x7)))))) 171 (x5 + (x1 * (M 174 x7)))) + (x2 * (M 171 (x3 + (M 174 x7)))))) Q) ∧ ((-500) ≤ (x1 - (M 174 x7)) → (-2147483648 ≤ x1 - (M 174 x7) ∧ x1 - (M 174 x7) ≤ 2147483647) ∧ ((500 < (x1 - (M 174 x7)) → (-2147483648 ≤ x7 + 1 ∧ x7 + 1 ≤ 2147483647) ∧ Y G d mX9_joinValue 3 [(2, 170), (0, x1), (0, x2), (0, x3), (0, x4), (0, x5), (0, x6), (0, (x7 + 1)), (9, 0), (9, 0), (9, 0)] [] (zset (zset M 171 ((x5 + x1) + (M 174 x7)) ((M 171 ((x5 + x1) + (M 174 x7))) + (x2 * (M 171 (x3 + (M 174 x7)))))) 171 (x5 + (x1 * (M 174 x7))) (((zset M 171 ((x5 + x1) + (M 174 x7)) ((M 171 ((x5 + x1) + (M 174 x7))) + (x2 * (M 171 (x3 + (M 174 x7)))))) 171 (x5 + (x1 * (M 174 x7)))) + (x2 * (M 171 (x3 + (M 174 x7)))))) Q) ∧ ((x1 - (M 174 x7)) ≤ 500 → (-2147483648 ≤ x5 + x1 ∧ x5 + x1 ≤ 2147483647) ∧ (-2147483648 ≤ (x5 + x1) - (M 174 x7) ∧ (x5 + x1) - (M 174 x7) ≤ 2147483647) ∧ (0 ≤ ((x5 + x1) - (M 174 x7)) ∧ ((x5 + x1) - (M 174 x7)) < 50050) ∧ (-2147483648 ≤ ((zset (zset M 171 ((x5 + x1) + (M 174 x7)) ((M 171 ((x5 + x1) + (M 174 x7))) + (x2 * (M 171 (x3 + (M 174 x7)))))) 171 (x5 + (x1 * (M 174 x7))) (((zset M 171 ((x5 + x1) + (M 174 x7)) ((M 171 ((x5 + x1) + (M 174 x7))) + (x2 * (M 171 (x3 + (M 174 x7)))))) 171 (x5 + (x1 * (M 174 x7)))) + (x2 * (M 171 (x3 + (M 174 x7)))))) 171 ((x5 + x1) - (M 174 x7))) + (x2 * (M 171 (x3 + (M 174 x7)))) ∧ ((zset (zset M 171 ((x5 + x1) + (M 174 x7)) ((M 171 ((x5 + x1) + (M 174 x7))) + (x2 * (M 171 (x3 + (M 174 x7)))))) 171 (x5 + (x1 * (M 174 x7))) (((zset M 171 ((x5 + x1) + (M 174 x7)) ((M 171 ((x5 + x1) + (M 174 x7))) + (x2 * (M 171 (x3 + (M 174 x7)))))) 171 (x5 + (x1 * (M 174 x7)))) + (x2 * (M 171 (x3 + (M 174 x7)))))) 171 ((x5 + x1) - (M 174 x7))) + (x2 * (M 171 (x3 + (M 174 x7)))) ≤ 2147483647) ∧ (0 ≤ ((x5 + x1) - (M 174 x7)) ∧ ((x5 + x1) - (M 174 x7)) < 50050) ∧ ((x6 = 0 → (-2147483648 ≤ x7 + 1 ∧ x7 + 1 ≤ 2147483647) ∧ Y G d mX9_joinValue 3 [(2, 170), (0, x1), (0, x2), (0, x3), (0, x4), (0, x5), (0, x6), (0, (x7 + 1)), (9, 0), (9, 0), (9, 0)] [] (zset (zset (zset M 171 ((x5 + x1) + (M 174 x7)) ((M 171 ((x5 + x1) + (M 174 x7))) + (x2 * (M 171 (x3 + (M 174 x7)))))) 171 (x5 + (x1 * (M 174 x7))) (((zset M 171 ((x5 + x1) + (M 174 x7)) ((M 171 ((x5 + x1) + (M 174 x7))) + (x2 * (M 171 (x3 + (M 174 x7)))))) 171 (x5 + (x1 * (M 174 x7)))) + (x2 * (M 171 (x3 + (M 174 x7)))))) 171 ((x5 + x1) - (M 174 x7)) (((zset (zset M 171 ((x5 + x1) + (M 174 x7)) ((M 171 ((x5 + x1) + (M 174 x7))) + (x2 * (M 171 (x3 + (M 174 x7)))))) 171 (x5 + (x1 * (M 174 x7))) (((zset M 171 ((x5 + x1) + (M 174 x7)) ((M 171 ((x5 + x1) + (M 174 x7))) + (x2 * (M 171 (x3 + (M 174 x7)))))) 171 (x5 + (x1 * (M 174 x7)))) + (x2 * (M 171 (x3 + (M 174 x7)))))) 171 ((x5 + x1) - (M 174 x7))) + (x2 * (M 171 (x3 + (M 174 x7)))))) Q) ∧ (¬ x6 = 0 → (-2147483648 ≤ x5 + (M 174 x7) ∧ x5 + (M 174 x7) ≤ 2147483647) ∧ (-2147483648 ≤ (x5 + (M 174 x7)) - x1 ∧ (x5 + (M 174 x7)) - x1 ≤ 2147483647) ∧ (0 ≤ ((x5 + (M 174 x7)) - x1) ∧ ((x5 + (M 174 x7)) - x1) < 50050) ∧ (-2147483648 ≤ ((zset (zset (zset M 171 ((x5 + x1) + (M 174 x7)) ((M 171 ((x5 + x1) + (M 174 x7))) + (x2 * (M 171 (x3 + (M 174 x7)))))) 171 (x5 + (x1 * (M 174 x7))) (((zset M 171 ((x5 + x1) + (M 174 x7)) ((M 171 ((x5 + x1) + (M 174 x7))) + (x2 * (M 171 (x3 + (M 174 x7)))))) 171 (x5 + (x1 * (M 174 x7)))) + (x2 * (M 171 (x3 + (M 174 x7)))))) 171 ((x5 + x1) - (M 174 x7)) (((zset (zset M 171 ((x5 + x1) + (M 174 x7)) ((M 171 ((x5 + x1) + (M 174 x7))) + (x2 * (M 171 (x3 + (M 174 x7)))))) 171 (x5 + (x1 * (M 174 x7))) (((zset M 171 ((x5 + x1) + (M 174 x7)) ((M 171 ((x5 + x1) + (M 174 x7))) + (x2 * (M 171 (x3 + (M 174 x7)))))) 171 (x5 + (x1 * (M 174 x7)))) + (x2 * (M 171 (x3 + (M 174 x7)))))) 171 ((x5 + x1) - (M 174 x7))) + (x2 * (M 171 (x3 + (M 174 x7)))))) 171 ((x5 + (M 174 x7)) - x1)) + (x2 * (M 171 (x3 + (M 174 x7)))) ∧ ((zset (zset (zset M 171 ((x5 + x1) + (M 174 x7)) ((M 171 ((x5 + x1) + (M 174 x7))) + (x2 * (M 171 (x3 + (M 174 x7)))))) 171 (x5 + (x1 * (M 174 x7))) (((zset M 171 ((x5 + x1) + (M 174 x7)) ((M 171 ((x5 + x1) + (M 174 x7))) + (x2 * (M 171 (x3 + (M 174 x7)))))) 171 (x5 + (x1 * (M 174 x7)))) + (x2 * (M 171 (x3 + (M 174 x7)))))) 171 ((x5 + x1) - (M 174 x7)) (((zset (zset M 171 ((x5 + x1) + (M 174 x7)) ((M 171 ((x5 + x1) + (M 174 x7))) + (x2 * (M 171 (x3 + (M 174 x7)))))) 171 (x5 + (x1 * (M 174 x7))) (((zset M 171 ((x5 + x1) + (M 174 x7)) ((M 171 ((x5 + x1) + (M 174 x7))) + (x2 * (M 171 (x3 + (M 174 x7)))))) 171 (x5 + (x1 * (M 174 x7)))) + (x2 * (M 171 (x3 + (M 174 x7)))))) 171 ((x5 + x1) - (M 174 x7))) + (x2 * (M 171 (x3 + (M 174 x7)))))) 171 ((x5 + (M 174 x7)) - x1)) + (x2 * (M 171 (x3 + (M 174 x7)))) ≤ 2147483647) ∧ (0 ≤ ((x5 + (M 174 x7)) - x1) ∧ ((x5 + (M 174 x7)) - x1) < 50050) ∧ (-2147483648 ≤ x7 + 1 ∧ x7 + 1 ≤ 2147483647) ∧ Y G d mX9_joinValue 3 [(2, 170), (0, x1), (0, x2), (0, x3), (0, x4), (0, x5), (0, x6), (0, (x7 + 1)), (9, 0), (9, 0), (9, 0)] [] (zset (zset (zset (zset M 171 ((x5 + x1) + (M 174 x7)) ((M 171 ((x5 + x1) + (M 174 x7))) + (x2 * (M 171 (x3 + (M 174 x7)))))) 171 (x5 + (x1 * (M 174 x7))) (((zset M 171 ((x5 + x1) + (M 174 x7)) ((M 171 ((x5 + x1) + (M 174 x7))) + (x2 * (M 171 (x3 + (M 174 x7)))))) 171 (x5 + (x1 * (M 174 x7)))) + (x2 * (M 171 (x3 + (M 174 x7)))))) 171 ((x5 + x1) - (M 174 x7)) (((zset (zset M 171 ((x5 + x1) + (M 174 x7)) ((M 171 ((x5 + x1) + (M 174 x7))) + (x2 * (M 171 (x3 + (M 174 x7)))))) 171 (x5 + (x1 * (M 174 x7))) (((zset M 171 ((x5 + x1) + (M 174 x7)) ((M 171 ((x5 + x1) + (M 174 x7))) + (x2 * (M 171 (x3 + (M 174 x7)))))) 171 (x5 + (x1 * (M 174 x7)))) + (x2 * (M 171 (x3 + (M 174 x7)))))) 171 ((x5 + x1) - (M 174 x7))) + (x2 * (M 171 (x3 + (M 174 x7)))))) 171 ((x5 + (M 174 x7)) - x1) (((zset (zset (zset M 171 ((x5 + x1) + (M 174 x7)) ((M 171 ((x5 + x1) + (M 174 x7))) + (x2 * (M 171 (x3 + (M 174 x7)))))) 171 (x5 + (x1 * (M 174 x7))) (((zset M 171 ((x5 + x1) + (M 174 x7)) ((M 171 ((x5 + x1) + (M 174 x7))) + (x2 * (M 171 (x3 + (M 174 x7)))))) 171 (x5 + (x1 * (M 174 x7)))) + (x2 * (M 171 (x3 + (M 174 x7)))))) 171 ((x5 + x1) - (M 174 x7)) (((zset (zset M 171 ((x5 + x1) + (M 174 x7)) ((M 171 ((x5 + x1) + (M 174 x7))) + (x2 * (M 171 (x3 + (M 174 x7)))))) 171 (x5 + (x1 * (M 174 x7))) (((zset M 171 ((x5 + x1) + (M 174 x7)) ((M 171 ((x5 + x1) + (M 174 x7))) + (x2 * (M 171 (x3 + (M 174 x7)))))) 171 (x5 + (x1 * (M 174 x7)))) + (x2 * (M 171 (x3 + (M 174 x7)))))) 171 ((x5 + x1) - (M 174 x7))) + (x2 * (M 171 (x3 + (M 174 x7)))))) 171 ((x5 + (M 174 x7)) - x1)) + (x2 * (M 171 (x3 + (M 174 x7)))))) Q))))))))))))))) ∧ (¬ x6 = 0 → (-2147483648 ≤ 2 * (x2 * (M 171 (x3 + (M 174 x7)))) ∧ 2 * (x2 * (M 171 (x3 + (M 174 x7)))) ≤ 2147483647) ∧ (-2147483648 ≤ x1 + (M 174 x7) ∧ x1 + (M 174 x7) ≤ 2147483647) ∧ (((x1 + (M 174 x7)) < (-500) → (-2147483648 ≤ x1 * (M 174 x7) ∧ x1 * (M 174 x7) ≤ 2147483647) ∧ (((x1 * (M 174 x7)) < (-500) → (-2147483648 ≤ x1 - (M 174 x7) ∧ x1 - (M 174 x7) ≤ 2147483647) ∧ (((x1 - (M 174 x7)) < (-500) → (-2147483648 ≤ x7 + 1 ∧ x7 + 1 ≤ 2147483647) ∧ Y G d mX9_joinValue 3 [(2, 170), (0, x1), (0, x2), (0, x3), (0, x4), (0, x5), (0, x6), (0, (x7 + 1)), (9, 0), (9, 0), (9, 0)] [] M Q) ∧ ((-500) ≤ (x1 - (M 174 x7)) → (-2147483648 ≤ x1 - (M 174 x7) ∧ x1 - (M 174 x7) ≤ 2147483647) ∧ ((500 < (x1 - (M 174 x7)) → (-2147483648 ≤ x7 + 1 ∧ x7 + 1 ≤ 2147483647) ∧ Y G d mX9_joinValue 3 [(2, 170), (0, x1), (0, x2), (0, x3), (0, x4), (0, x5), (0, x6), (0, (x7 + 1)), (9, 0), (9, 0), (9, 0)] [] M Q) ∧ ((x1 - (M 174 x7)) ≤ 500 → (-2147483648 ≤ x5 + x1 ∧ x5 + x1 ≤ 2147483647) ∧ (-2147483648 ≤ (x5 + x1) - (M 174 x7) ∧ (x5 + x1) - (M 174 x7) ≤ 2147483647) ∧ (0 ≤ ((x5 + x1) - (M 174 x7)) ∧ ((x5 + x1) - (M 174 x7)) < 50050) ∧ (-2147483648 ≤ (M 171 ((x5 + x1) - (M 174 x7))) + (x2 * (M 171 (x3 + (M 174 x7)))) ∧ (M 171 ((x5 + x1) - (M 174 x7))) + (x2 * (M 171 (x3 + (M 174 x7)))) ≤ 2147483647) ∧ (0 ≤ ((x5 + x1) - (M 174 x7)) ∧ ((x5 + x1) - (M 174 x7)) < 50050) ∧ ((x6 = 0 → (-2147483648 ≤ x7 + 1 ∧ x7 + 1 ≤ 2147483647) ∧ Y G d mX9_joinValue 3 [(2, 170), (0, x1), (0, x2), (0, x3), (0, x4), (0, x5), (0, x6), (0, (x7 + 1)), (9, 0), (9, 0), (9, 0)] [] (zset M 171 ((x5 + x1) - (M 174 x7)) ((M 171 ((x5 + x1) - (M 174 x7))) + (x2 * (M 171 (x3 + (M 174 x7)))))) Q) ∧ (¬ x6 = 0 → (-2147483648 ≤ x5 + (M 174 x7) ∧ x5 + (M 174 x7) ≤ 2147483647) ∧ (-2147483648 ≤ (x5 + (M 174 x7)) - x1 ∧ (x5 + (M 174 x7)) - x1 ≤ 2147483647) ∧ (0 ≤ ((x5 + (M 174 x7)) - x1) ∧ ((x5 + (M 174 x7)) - x1) < 50050) ∧ (-2147483648 ≤ ((zset M 171 ((x5 + x1) - (M 174 x7)) ((M 171 ((x5 + x1) - (M 174 x7))) + (x2 * (M 171 (x3 + (M 174 x7)))))) 171 ((x5 + (M 174 x7)) - x1)) + (x2 * (M 171 (x3 + (M 174 x7)))) ∧ ((zset M 171 ((x5 + x1) - (M 174 x7)) ((M 171 ((x5 + x1) - (M 174 x7))) + (x2 * (M 171 (x3 + (M 174 x7)))))) 171 ((x5 + (M 174 x7)) - x1)) + (x2 * (M 171 (x3 + (M 174 x7)))) ≤ 2147483647) ∧ (0 ≤ ((x5 + (M 174 x7)) - x1) ∧ ((x5 + (M 174 x7)) - x1) < 50050) ∧ (-2147483648 ≤ x7 + 1 ∧ x7 + 1 ≤ 2147483647) ∧ Y G d mX9_joinValue 3 [(2, 170), (0, x1), (0, x2), (0, x3), (0, x4), (0, x5), (0, x6), (0, (x7 + 1)), (9, 0), (9, 0), (9, 0)] [] (zset (zset M 171 ((x5 + x1) - (M 174 x7)) ((M 171 ((x5 + x1) - (M 174 x7))) + (x2 * (M 171 (x3 + (M 174 x7)))))) 171 ((x5 + (M 174 x7)) - x1) (((zset M 171 ((x5 + x1) - (M 174 x7)) ((M 171 ((x5 + x1) - (M 174 x7))) + (x2 * (M 171 (x3 + (M 174 x7)))))) 171 ((x5 + (M 174 x7)) - x1)) + (x2 * (M 171 (x3 + (M 174 x7)))))) Q))))))) ∧ ((-500) ≤ (x1 * (M 174 x7)) → (-2147483648 ≤ x1 * (M 174 x7) ∧ x1 * (M 174 x7) ≤ 2147483647) ∧ ((500 < (x1 * (M 174 x7)) → (-2147483648 ≤ x1 - (M 174 x7) ∧ x1 - (M 174 x7) ≤ 2147483647) ∧ (((x1 - (M 174 x7)) < (-500) → (-2147483648 ≤ x7 + 1 ∧ x7 + 1 ≤ 2147483647) ∧ Y G d mX9_joinValue 3 [(2, 170), (0, x1), (0, x2), (0, x3), (0, x4), (0, x5), (0, x6), (0, (x7 + 1)), (9, 0), (9, 0), (9, 0)] [] M Q) ∧ ((-500) ≤ (x1 - (M 174 x7)) → (-2147483648 ≤ x1 - (M 174 x7) ∧ x1 - (M 174 x7) ≤ 2147483647) ∧ ((500 < (x1 - (M 174 x7)) → (-2147483648 ≤ x7 + 1 ∧ x7 + 1 ≤ 2147483647) ∧ Y G d mX9_joinValue 3 [(2, 170), (0, x1), (0, x2), (0, x3), (0, x4), (0, x5), (0, x6), (0, (x7 + 1)), (9, 0), (9, 0), (9, 0)] [] M Q) ∧ ((x1 - (M 174 x7)) ≤ 500 → (-2147483648 ≤ x5 + x1 ∧ x5 + x1 ≤ 2147483647) ∧ (-2147483648 ≤ (x5 + x1) - (M 174 x7) ∧ (x5 + x1) - (M 174 x7) ≤ 2147483647) ∧ (0 ≤ ((x5 + x1) - (M 174 x7)) ∧ ((x5 + x1) - (M 174 x7)) < 50050) ∧ (-2147483648 ≤ (M 171 ((x5 + x1) - (M 174 x7))) + (x2 * (M 171 (x3 + (M 174 x7)))) ∧ (M 171 ((x5 + x1) - (M 174 x7))) + (x2 * (M 171 (x3 + (M 174 x7)))) ≤ 2147483647) ∧ (0 ≤ ((x5 + x1) - (M 174 x7)) ∧ ((x5 + x1) - (M 174 x7)) < 50050) ∧ ((x6 = 0 → (-2147483648 ≤ x7 + 1 ∧ x7 + 1 ≤ 2147483647) ∧ Y G d mX9_joinValue 3 [(2, 170), (0, x1), (0, x2), (0, x3), (0, x4), (0, x5), (0, x6), (0, (x7 + 1)), (9, 0), (9, 0), (9, 0)] [] (zset M 171 ((x5 + x1) - (M 174 x7)) ((M 171 ((x5 + x1) - (M 174 x7))) + (x2 * (M 171 (x3 + (M 174 x7)))))) Q) ∧ (¬ x6 = 0 → (-2147483648 ≤ x5 + (M 174 x7) ∧ x5 + (M 174 x7) ≤ 2147483647) ∧ (-2147483648 ≤ (x5 + (M 174 x7)) - x1 ∧ (x5 + (M 174 x7)) - x1 ≤ 2147483647) ∧ (0 ≤ ((x5 + (M 174 x7)) - x1) ∧ ((x5 + (M 174 x7)) - x1) < 50050) ∧ (-2147483648 ≤ ((zset M 171 ((x5 + x1) - (M 174 x7)) ((M 171 ((x5 + x1) - (M 174 x7))) + (x2 * (M 171 (x3 + (M 174 x7)))))) 171 ((x5 + (M 174 x7)) - x1)) + (x2 * (M 171 (x3 + (M 174 x7)))) ∧ ((zset M 171 ((x5 + x1) - (M 174 x7)) ((M 171 ((x5 + x1) - (M 174 x7))) + (x2 * (M 171 (x3 + (M 174 x7)))))) 171 ((x5 + (M 174 x7)) - x1)) + (x2 * (M 171 (x3 + (M 174 x7)))) ≤ 2147483647) ∧ (0 ≤ ((x5 + (M 174 x7)) - x1) ∧ ((x5 + (M 174 x7)) - x1) < 50050) ∧ (-2147483648 ≤ x7 + 1 ∧ x7 + 1 ≤ 2147483647) ∧ Y G d mX9_joinValue 3 [(2, 170), (0, x1), (0, x2), (0, x3), (0, x4), (0, x5), (0, x6), (0, (x7 + 1)), (9, 0), (9, 0), (9, 0)] [] (zset (zset M 171 ((x5 + x1) - (M 174 x7)) ((M 171 ((x5 + x1) - (M 174 x7))) + (x2 * (M 171 (x3 + (M 174 x7)))))) 171 ((x5 + (M 174 x7)) - x1) (((zset M 171 ((x5 + x1) - (M 174 x7)) ((M 171 ((x5 + x1) - (M 174 x7))) + (x2 * (M 171 (x3 + (M 174 x7)))))) 171 ((x5 + (M 174 x7)) - x1)) + (x2 * (M 171 (x3 + (M 174 x7)))))) Q))))))) ∧ ((x1 * (M 174 x7)) ≤ 500 → (-2147483648 ≤ x1 * (M 174 x7) ∧ x1 * (M 174 x7) ≤ 2147483647) ∧ (-2147483648 ≤ x5 + (x1 * (M 174 x7)) ∧ x5 + (x1 * (M 174 x7)) ≤ 2147483647) ∧ (0 ≤ (x5 + (x1 * (M 174 x7))) ∧ (x5 + (x1 * (M 174 x7))) < 50050) ∧ (-2147483648 ≤ (M 171 (x5 + (x1 * (M 174 x7)))) + (2 * (x2 * (M 171 (x3 + (M 174 x7))))) ∧ (M 171 (x5 + (x1 * (M 174 x7)))) + (2 * (x2 * (M 171 (x3 + (M 174 x7))))) ≤ 2147483647) ∧ (0 ≤ (x5 + (x1 * (M 174 x7))) ∧ (x5 + (x1 * (M 174 x7))) < 50050) ∧ (-2147483648 ≤ x1 - (M 174 x7) ∧ x1 - (M 174 x7) ≤ 2147483647) ∧ (((x1 - (M 174 x7)) < (-500) → (-2147483648 ≤ x7 + 1 ∧ x7 + 1 ≤ 2147483647) ∧ Y G d mX9_joinValue 3 [(2, 170), (0, x1), (0, x2), (0, x3), (0, x4), (0, x5), (0, x6), (0, (x7 + 1)), (9, 0), (9, 0), (9, 0)] [] (zset M 171 (x5 + (x1 * (M 174 x7))) ((M 171 (x5 + (x1 * (M 174 x7)))) + (2 * (x2 * (M 171 (x3 + (M 174 x7))))))) Q) ∧ ((-500) ≤ (x1 - (M 174 x7)) → (-2147483648 ≤ x1 - (M 174 x7) ∧ x1 - (M 174 x7) ≤ 2147483647) ∧ ((500 < (x1 - (M 174 x7)) → (-2147483648 ≤ x7 + 1 ∧ x7 + 1 ≤ 2147483647) ∧ Y G d mX9_joinValue 3 [(2, 170), (0, x1), (0, x2), (0, x3), (0, x4), (0, x5), (0, x6), (0, (x7 + 1)), (9, 0), (9, 0), (9, 0)] [] (zset M 171 (x5 + (x1 * (M 174 x7))) ((M 171 (x5 + (x1 * (M 174 x7)))) + (2 * (x2 * (M 171 (x3 + (M 174 x7))))))) Q) ∧ ((x1 - (M 174 x7)) ≤ 500 → (-2147483648 ≤ x5 + x1 ∧ x5 + x1 ≤ 2147483647) ∧ (-2147483648 ≤ (x5 + x1) - (M 174 x7) ∧ (x5 + x1) - (M 174 x7) ≤ 2147483647) ∧ (0 ≤ ((x5 + x1) - (M 174 x7)) ∧ ((x5 + x1) - (M 174 x7)) < 50050) ∧ (-2147483648 ≤ ((zset M 171 (x5 + (x1 * (M 174 x7))) ((M 171 (x5 + (x1 * (M 174 x7)))) + (2 * (x2 * (M 171 (x3 + (M 174 x7))))))) 171 ((x5 + x1) - (M 174 x7))) + (x2 * (M 171 (x3 + (M 174 x7)))) ∧ ((zset M 171 (x5 + (x1 * (M 174 x7))) ((M 171 (x5 + (x1 * (M 174 x7)))) + (2 * (x2 * (M 171 (x3 + (M 174 x7))))))) 171 ((x5 + x1) - (M 174 x7))) + (x2 * (M 171 (x3 + (M 174 x7)))) ≤ 2147483647) ∧ (0 ≤ ((x5 + x1) - (M 174 x7)) ∧ ((x5 + x1) - (M 174 x7)) < 50050) ∧ ((x6 = 0 → (-2147483648 ≤ x7 + 1 ∧ x7 + 1 ≤ 2147483647) ∧ Y G d mX9_joinValue 3 [(2, 170), (0, x1), (0, x2), (0, x3), (0, x4), (0, x5), (0, x6), (0, (x7 + 1)), (9, 0), (9, 0), (9, 0)] [] (zset (zset M 171 (x5 + (x1 * (M 174 x7))) ((M 171 (x5 + (x1 * (M 174 x7)))) + (2 * (x2 * (M 171 (x3 + (M 174 x7))))))) 171 ((x5 + x1) - (M 174 x7)) (((zset M 171 (x5 + (x1 * (M 174 x7))) ((M 171 (x5 + (x1 * (M 174 x7)))) + (2 * (x2 * (M 171 (x3 + (M 174 x7))))))) 171 ((x5 + x1) - (M 174 x7))) + (x2 * (M 171 (x3 + (M 174 x7)))))) Q) ∧ (¬ x6 = 0 → (-2147483648 ≤ x5 + (M 174 x7) ∧ x5 + (M 174 x7) ≤ 2147483647) ∧ (-2147483648 ≤ (x5 + (M 174 x7)) - x1 ∧ (x5 + (M 174 x7)) - x1 ≤ 2147483647) ∧ (0 ≤ ((x5 + (M 174 x7)) - x1) ∧ ((x5 + (M 174 x7)) - x1) < 50050) ∧ (-2147483648 ≤ ((zset (zset M 171 (x5 + (x1 * (M 174 x7))) ((M 171 (x5 + (x1 * (M 174 x7)))) + (2 * (x2 * (M 171 (x3 + (M 174 x7))))))) 171 ((x5 + x1) - (M 174 x7)) (((zset M 171 (x5 + (x1 * (M 174 x7))) ((M 171 (x5 + (x1 * (M 174 x7)))) + (2 * (x2 * (M 171 (x3 + (M 174 x7))))))) 171 ((x5 + x1) - (M 174 x7))) + (x2 * (M 171 (x3 + (M 174 x7)))))) 171 ((x5 + (M 174 x7)) - x1)) + (x2 * (M 171 (x3 + (M 174 x7)))) ∧ ((zset (zset M 171 (x5 + (x1 * (M 174 x7))) ((M 171 (x5 + (x1 * (M 174 x7)))) + (2 * (x2 * (M 171 (x3 + (M 174 x7))))))) 171 ((x5 + x1) - (M 174 x7)) (((zset M 171 (x5 + (x1 * (M 174 x7))) ((M 171 (x5 + (x1 * (M 174 x7)))) + (2 * (x2 * (M 171 (x3 + (M 174 x7))))))) 171 ((x5 + x1) - (M 174 x7))) + (x2 * (M 171 (x3 + (M 174 x7)))))) 171 ((x5 + (M 174 x7)) - x1)) + (x2 * (M 171 (x3 + (M 174 x7)))) ≤ 2147483647) ∧ (0 ≤ ((x5 + (M 174 x7)) - x1) ∧ ((x5 + (M 174 x7)) - x1) < 50050) ∧ (-2147483648 ≤ x7 + 1 ∧ x7 + 1 ≤ 2147483647) ∧ Y G d mX9_joinValue 3 [(2, 170), (0, x1), (0, x2), (0, x3), (0, x4), (0, x5), (0, x6), (0, (x7 + 1)), (9, 0), (9, 0), (9, 0)] [] (zset (zset (zset M 171 (x5 + (x1 * (M 174 x7))) ((M 171 (x5 + (x1 * (M 174 x7)))) + (2 * (x2 * (M 171 (x3 + (M 174 x7))))))) 171 ((x5 + x1) - (M 174 x7)) (((zset M 171 (x5 + (x1 * (M 174 x7))) ((M 171 (x5 + (x1 * (M 174 x7)))) + (2 * (x2 * (M 171 (x3 + (M 174 x7))))))) 171 ((x5 + x1) - (M 174 x7))) + (x2 * (M 171 (x3 + (M 174 x7)))))) 171 ((x5 + (M 174 x7)) - x1) (((zset (zset M 171 (x5 + (x1 * (M 174 x7))) ((M 171 (x5 + (x1 * (M 174 x7)))) + (2 * (x2 * (M 171 (x3 + (M 174 x7))))))) 171 ((x5 + x1) - (M 174 x7)) (((zset M 171 (x5 + (x1 * (M 174 x7))) ((M 171 (x5 + (x1 * (M 174 x7)))) + (2 * (x2 * (M 171 (x3 + (M 174 x7))))))) 171 ((x5 + x1) - (M 174 x7))) + (x2 * (M 171 (x3 + (M 174 x7)))))) 171 ((x5 + (M 174 x7)) - x1)) + (x2 * (M 171 (x3 + (M 174 x7)))))) Q))))))))))) ∧ ((-500) ≤ (x1 + (M 174 x7)) → (-2147483648 ≤ x1 + (M 174 x7) ∧ x1 + (M 174 x7) ≤ 2147483647) ∧ ((500 < (x1 + (M 174 x7)) → (-2147483648 ≤ x1 * (M 174 x7) ∧ x1 * (M 174 x7) ≤ 2147483647) ∧ (((x1 * (M 174 x7)) < (-500) → (-2147483648 ≤ x1 - (M 174 x7) ∧ x1 - (M 174 x7) ≤ 2147483647) ∧ (((x1 - (M 174 x7)) < (-500) → (-2147483648 ≤ x7 + 1 ∧ x7 + 1 ≤ 2147483647) ∧ Y G d mX9_joinValue 3 [(2, 170), (0, x1), (0, x2), (0, x3), (0, x4), (0, x5), (0, x6), (0, (x7 + 1)), (9, 0), (9, 0), (9, 0)] [] M Q) ∧ ((-500) ≤ (x1 - (M 174 x7)) → (-2147483648 ≤ x1 - (M 174 x7) ∧ x1 - (M 174 x7) ≤ 2147483647) ∧ ((500 < (x1 - (M 174 x7)) → (-2147483648 ≤ x7 + 1 ∧ x7 + 1 ≤ 2147483647) ∧ Y G d mX9_joinValue 3 [(2, 170), (0, x1), (0, x2), (0, x3), (0, x4), (0, x5), (0, x6), (0, (x7 + 1)), (9, 0), (9, 0), (9, 0)] [] M Q) ∧ ((x1 - (M 174 x7)) ≤ 500 → (-2147483648 ≤ x5 + x1 ∧ x5 + x1 ≤ 2147483647) ∧ (-2147483648 ≤ (x5 + x1) - (M 174 x7) ∧ (x5 + x1) - (M 174 x7) ≤ 2147483647) ∧ (0 ≤ ((x5 + x1) - (M 174 x7)) ∧ ((x5 + x1) - (M 174 x7)) < 50050) ∧ (-2147483648 ≤ (M 171 ((x5 + x1) - (M 174 x7))) + (x2 * (M 171 (x3 + (M 174 x7)))) ∧ (M 171 ((x5 + x1) - (M 174 x7))) + (x2 * (M 171 (x3 + (M 174 x7)))) ≤ 2147483647) ∧ (0 ≤ ((x5 + x1) - (M 174 x7)) ∧ ((x5 + x1) - (M 174 x7)) < 50050) ∧ ((x6 = 0 → (-2147483648 ≤ x7 + 1 ∧ x7 + 1 ≤ 2147483647) ∧ Y G d mX9_joinValue 3 [(2, 170), (0, x1), (0, x2), (0, x3), (0, x4), (0, x5), (0, x6), (0, (x7 + 1)), (9, 0), (9, 0), (9, 0)] [] (zset M 171 ((x5 + x1) - (M 174 x7)) ((M 171 ((x5 + x1) - (M 174 x7))) + (x2 * (M 171 (x3 + (M 174 x7)))))) Q) ∧ (¬ x6 = 0 → (-2147483648 ≤ x5 + (M 174 x7) ∧ x5 + (M 174 x7) ≤ 2147483647) ∧ (-2147483648 ≤ (x5 + (M 174 x7)) - x1 ∧ (x5 + (M 174 x7)) - x1 ≤ 2147483647) ∧ (0 ≤ ((x5 + (M 174 x7)) - x1) ∧ ((x5 + (M 174 x7)) - x1) < 50050) ∧ (-2147483648 ≤ ((zset M 171 ((x5 + x1) - (M 174 x7)) ((M 171 ((x5 + x1) - (M 174 x7))) + (x2 * (M 171 (x3 + (M 174 x7)))))) 171 ((x5 + (M 174 x7)) - x1)) + (x2 * (M 171 (x3 + (M 174 x7)))) ∧ ((zset M 171 ((x5 + x1) - (M 174 x7)) ((M 171 ((x5 + x1) - (M 174 x7))) + (x2 * (M 171 (x3 + (M 174 x7)))))) 171 ((x5 + (M 174 x7)) - x1)) + (x2 * (M 171 (x3 + (M 174 x7)))) ≤ 2147483647) ∧ (0 ≤ ((x5 + (M 174 x7)) - x1) ∧ ((x5 + (M 174 x7)) - x1) < 50050) ∧ (-2147483648 ≤ x7 + 1 ∧ x7 + 1 ≤ 2147483647) ∧ Y G d mX9_joinValue 3 [(2, 170), (0, x1), (0, x2), (0, x3), (0, x4), (0, x5), (0, x6), (0, (x7 + 1)), (9, 0), (9, 0), (9, 0)] [] (zset (zset M 171 ((x5 + x1) - (M 174 x7)) ((M 171 ((x5 + x1) - (M 174 x7))) + (x2 * (M 171 (x3 + (M 174 x7)))))) 171 ((x5 + (M 174 x7)) - x1) (((zset M 171 ((x5 + x1) - (M 174 x7)) ((M 171 ((x5 + x1) - (M 174 x7))) + (x2 * (M 171 (x3 + (M 174 x7)))))) 171 ((x5 + (M 174 x7)) - x1)) + (x2 * (M 171 (x3 + (M 174 x7)))))) Q))))))) ∧ ((-500) ≤ (x1 * (M 174 x7)) → (-2147483648 ≤ x1 * (M 174 x7) ∧ x1 * (M 174 x7) ≤ 2147483647) ∧ ((500 < (x1 * (M 174 x7)) → (-2147483648 ≤ x1 - (M 174 x7) ∧ x1 - (M 174 x7) ≤ 2147483647) ∧ (((x1 - (M 174 x7)) < (-500) → (-2147483648 ≤ x7 + 1 ∧ x7 + 1 ≤ 2147483647) ∧ Y G d mX9_joinValue 3 [(2, 170), (0, x1), (0, x2), (0, x3), (0, x4), (0, x5), (0, x6), (0, (x7 + 1)), (9, 0), (9, 0), (9, 0)] [] M Q) ∧ ((-500) ≤ (x1 - (M 174 x7)) → (-2147483648 ≤ x1 - (M 174 x7) ∧ x1 - (M 174 x7) ≤ 2147483647) ∧ ((500 < (x1 - (M 174 x7)) → (-2147483648 ≤ x7 + 1 ∧ x7 + 1 ≤ 2147483647) ∧ Y G d mX9_joinValue 3 [(2, 170), (0, x1), (0, x2), (0, x3), (0, x4), (0, x5), (0, x6), (0, (x7 + 1)), (9, 0), (9, 0), (9, 0)] [] M Q) ∧ ((x1 - (M 174 x7)) ≤ 500 → (-2147483648 ≤ x5 + x1 ∧ x5 + x1 ≤ 2147483647) ∧ (-2147483648 ≤ (x5 + x1) - (M 174 x7) ∧ (x5 + x1) - (M 174 x7) ≤ 2147483647) ∧ (0 ≤ ((x5 + x1) - (M 174 x7)) ∧ ((x5 + x1) - (M 174 x7)) < 50050) ∧ (-2147483648 ≤ (M 171 ((x5 + x1) - (M 174 x7))) + (x2 * (M 171 (x3 + (M 174 x7)))) ∧ (M 171 ((x5 + x1) - (M 174 x7))) + (x2 * (M 171 (x3 + (M 174 x7)))) ≤ 2147483647) ∧ (0 ≤ ((x5 + x1) - (M 174 x7)) ∧ ((x5 + x1) - (M 174 x7)) < 50050) ∧ ((x6 = 0 → (-2147483648 ≤ x7 + 1 ∧ x7 + 1 ≤ 2147483647) ∧ Y G d mX9_joinValue 3 [(2, 170), (0, x1), (0, x2), (0, x3), (0, x4), (0, x5), (0, x6), (0, (x7 + 1)), (9, 0), (9, 0), (9, 0)] [] (zset M 171 ((x5 + x1) - (M 174 x7)) ((M 171 ((x5 + x1) - (M 174 x7))) + (x2 * (M 171 (x3 + (M 174 x7)))))) Q) ∧ (¬ x6 = 0 → (-2147483648 ≤ x5 + (M 174 x7) ∧ x5 + (M 174 x7) ≤ 2147483647) ∧ (-2147483648 ≤ (x5 + (M 174 x7)) - x1 ∧ (x5 + (M 174 x7)) - x1 ≤ 2147483647) ∧ (0 ≤ ((x5 + (M 174 x7)) - x1) ∧ ((x5 + (M 174 x7)) - x1) < 50050) ∧ (-2147483648 ≤ ((zset M 171 ((x5 + x1) - (M 174 x7)) ((M 171 ((x5 + x1) - (M 174 x7))) + (x2 * (M 171 (x3 + (M 174 x7)))))) 171 ((x5 + (M 174 x7)) - x1)) + (x2 * (M 171 (x3 + (M 174 x7)))) ∧ ((zset M 171 ((x5 + x1) - (M 174 x7)) ((M 171 ((x5 + x1) - (M 174 x7))) + (x2 * (M 171 (x3 + (M 174 x7)))))) 171 ((x5 + (M 174 x7)) - x1)) + (x2 * (M 171 (x3 + (M 174 x7)))) ≤ 2147483647) ∧ (0 ≤ ((x5 + (M 174 x7)) - x1) ∧ ((x5 + (M 174 x7)) - x1) < 50050) ∧ (-2147483648 ≤ x7 + 1 ∧ x7 + 1 ≤ 2147483647) ∧ Y G d mX9_joinValue 3 [(2, 170), (0, x1), (0, x2), (0, x3), (0, x4), (0, x5), (0, x6), (0, (x7 + 1)), (9, 0), (9, 0), (9, 0)] [] (zset (zset M 171 ((x5 + x1) - (M 174 x7)) ((M 171 ((x5 + x1) - (M 174 x7))) + (x2 * (M 171 (x3 + (M 174 x7)))))) 171 ((x5 + (M 174 x7)) - x1) (((zset M 171 ((x5 + x1) - (M 174 x7)) ((M 171 ((x5 + x1) - (M 174 x7))) + (x2 * (M 171 (x3 + (M 174 x7)))))) 171 ((x5 + (M 174 x7)) - x1)) + (x2 * (M 171 (x3 + (M 174 x7)))))) Q))))))) ∧ ((x1 * (M 174 x7)) ≤ 500 → (-2147483648 ≤ x1 * (M 174 x7) ∧ x1 * (M 174 x7) ≤ 2147483647) ∧ (-2147483648 ≤ x5 + (x1 * (M 174 x7)) ∧ x5 + (x1 * (M 174 x7)) ≤ 2147483647) ∧ (0 ≤ (x5 + (x1 * (M 174 x7))) ∧ (x5 + (x1 * (M 174 x7))) < 50050) ∧ (-2147483648 ≤ (M 171 (x5 + (x1 * (M 174 x7)))) + (2 * (x2 * (M 171 (x3 + (M 174 x7))))) ∧ (M 171 (x5 + (x1 * (M 174 x7)))) + (2 * (x2 * (M 171 (x3 + (M 174 x7))))) ≤ 2147483647) ∧ (0 ≤ (x5 + (x1 * (M 174 x7))) ∧ (x5 + (x1 * (M 174 x7))) < 50050) ∧ (-2147483648 ≤ x1 - (M 174 x7) ∧ x1 - (M 174 x7) ≤ 2147483647) ∧ (((x1 - (M 174 x7)) < (-500) → (-2147483648 ≤ x7 + 1 ∧ x7 + 1 ≤ 2147483647) ∧ Y G d mX9_joinValue 3 [(2, 170), (0, x1), (0, x2), (0, x3), (0, x4), (0, x5), (0, x6), (0, (x7 + 1)), (9, 0), (9, 0), (9, 0)] [] (zset M 171 (x5 + (x1 * (M 174 x7))) ((M 171 (x5 + (x1 * (M 174 x7)))) + (2 * (x2 * (M 171 (x3 + (M 174 x7))))))) Q) ∧ ((-500) ≤ (x1 - (M 174 x7)) → (-2147483648 ≤ x1 - (M 174 x7) ∧ x1 - (M 174 x7) ≤ 2147483647) ∧ ((500 < (x1 - (M 174 x7)) → (-2147483648 ≤ x7 + 1 ∧ x7 + 1 ≤ 2147483647) ∧ Y G d mX9_joinValue 3 [(2, 170), (0, x1), (0, x2), (0, x3), (0, x4), (0, x5), (0, x6), (0, (x7 + 1)), (9, 0), (9, 0), (9, 0)] [] (zset M 171 (x5 + (x1 * (M 174 x7))) ((M 171 (x5 + (x1 * (M 174 x7)))) + (2 * (x2 * (M 171 (x3 + (M 174 x7))))))) Q) ∧ ((x1 - (M 174 x7)) ≤ 500 → (-2147483648 ≤ x5 + x1 ∧ x5 + x1 ≤ 2147483647) ∧ (-2147483648 ≤ (x5 + x1) - (M 174 x7) ∧ (x5 + x1) - (M 174 x7) ≤ 2147483647) ∧ (0 ≤ ((x5 + x1) - (M 174 x7)) ∧ ((x5 + x1) - (M 174 x7)) < 50050) ∧ (-2147483648 ≤ ((zset M 171 (x5 + (x1 * (M 174 x7))) ((M 171 (x5 + (x1 * (M 174 x7)))) + (2 * (x2 * (M 171 (x3 + (M 174 x7))))))) 171 ((x5 + x1) - (M 174 x7))) + (x2 * (M 171 (x3 + (M 174 x7)))) ∧ ((zset M 171 (x5 + (x1 * (M 174 x7))) ((M 171 (x5 + (x1 * (M 174 x7)))) + (2 * (x2 * (M 171 (x3 + (M 174 x7))))))) 171 ((x5 + x1) - (M 174 x7))) + (x2 * (M 171 (x3 + (M 174 x7)))) ≤ 2147483647) ∧ (0 ≤ ((x5 + x1) - (M 174 x7)) ∧ ((x5 + x1) - (M 174 x7)) < 50050) ∧ ((x6 = 0 → (-2147483648 ≤ x7 + 1 ∧ x7 + 1 ≤ 2147483647) ∧ Y G d mX9_joinValue 3 [(2, 170), (0, x1), (0, x2), (0, x3), (0, x4), (0, x5), (0, x6), (0, (x7 + 1)), (9, 0), (9, 0), (9, 0)] [] (zset (zset M 171 (x5 + (x1 * (M 174 x7))) ((M 171 (x5 + (x1 * (M 174 x7)))) + (2 * (x2 * (M 171 (x3 + (M 174 x7))))))) 171 ((x5 + x1) - (M 174 x7)) (((zset M 171 (x5 + (x1 * (M 174 x7))) ((M 171 (x5 + (x1 * (M 174 x7)))) + (2 * (x2 * (M 171 (x3 + (M 174 x7))))))) 171 ((x5 + x1) - (M 174 x7))) + (x2 * (M 171 (x3 + (M 174 x7)))))) Q) ∧ (¬ x6 = 0 → (-2147483648 ≤ x5 + (M 174 x7) ∧ x5 + (M 174 x7) ≤ 2147483647) ∧ (-2147483648 ≤ (x5 + (M 174 x7)) - x1 ∧ (x5 + (M 174 x7)) - x1 ≤ 2147483647) ∧ (0 ≤ ((x5 + (M 174 x7)) - x1) ∧ ((x5 + (M 174 x7)) - x1) < 50050) ∧ (-2147483648 ≤ ((zset (zset M 171 (x5 + (x1 * (M 174 x7))) ((M 171 (x5 + (x1 * (M 174 x7)))) + (2 * (x2 * (M 171 (x3 + (M 174 x7))))))) 171 ((x5 + x1) - (M 174 x7)) (((zset M 171 (x5 + (x1 * (M 174 x7))) ((M 171 (x5 + (x1 * (M 174 x7)))) + (2 * (x2 * (M 171 (x3 + (M 174 x7))))))) 171 ((x5 + x1) - (M 174 x7))) + (x2 * (M 171 (x3 + (M 174 x7)))))) 171 ((x5 + (M 174 x7)) - x1)) + (x2 * (M 171 (x3 + (M 174 x7)))) ∧ ((zset (zset M 171 (x5 + (x1 * (M 174 x7))) ((M 171 (x5 + (x1 * (M 174 x7)))) + (2 * (x2 * (M 171 (x3 + (M 174 x7))))))) 171 ((x5 + x1) - (M 174 x7)) (((zset M 171 (x5 + (x1 * (M 174 x7))) ((M 171 (x5 + (x1 * (M 174 x7)))) + (2 * (x2 * (M 171 (x3 + (M 174 x7))))))) 171 ((x5 + x1) - (M 174 x7))) + (x2 * (M 171 (x3 + (M 174 x7)))))) 171 ((x5 + (M 174 x7)) - x1)) + (x2 * (M 171 (x3 + (M 174 x7)))) ≤ 2147483647) ∧ (0 ≤ ((x5 + (M 174 x7)) - x1) ∧ ((x5 + (M 174 x7)) - x1) < 50050) ∧ (-2147483648 ≤ x7 + 1 ∧ x7 + 1 ≤ 2147483647) ∧ Y G d mX9_joinValue 3 [(2, 170), (0, x1), (0, x2), (0, x3), (0, x4), (0, x5), (0, x6), (0, (x7 + 1)), (9, 0), (9, 0), (9, 0)] [] (zset (zset (zset M 171 (x5 + (x1 * (M 174 x7))) ((M 171 (x5 + (x1 * (M 174 x7)))) + (2 * (x2 * (M 171 (x3 + (M 174 x7))))))) 171 ((x5 + x1) - (M 174 x7)) (((zset M 171 (x5 + (x1 * (M 174 x7))) ((M 171 (x5 + (x1 * (M 174 x7)))) + (2 * (x2 * (M 171 (x3 + (M 174 x7))))))) 171 ((x5 + x1) - (M 174 x7))) + (x2 * (M 171 (x3 + (M 174 x7)))))) 171 ((x5 + (M 174 x7)) - x1) (((zset (zset M 171 (x5 + (x1 * (M 174 x7))) ((M 171 (x5 + (x1 * (M 174 x7)))) + (2 * (x2 * (M 171 (x3 + (M 174 x7))))))) 171 ((x5 + x1) - (M 174 x7)) (((zset M 171 (x5 + (x1 * (M 174 x7))) ((M 171 (x5 + (x1 * (M 174 x7)))) + (2 * (x2 * (M 171 (x3 + (M 174 x7))))))) 171 ((x5 + x1) - (M 174 x7))) + (x2 * (M 171 (x3 + (M 174 x7)))))) 171 ((x5 + (M 174 x7)) - x1)) + (x2 * (M 171 (x3 + (M 174 x7)))))) Q))))))))))) ∧ ((x1 + (M 174 x7)) ≤ 500 → (-2147483648 ≤ x5 + x1 ∧ x5 + x1 ≤ 2147483647) ∧ (-2147483648 ≤ (x5 + x1) + (M 174 x7) ∧ (x5 + x1) + (M 174 x7) ≤ 2147483647) ∧ (0 ≤ ((x5 + x1) + (M 174 x7)) ∧ ((x5 + x1) + (M 174 x7)) < 50050) ∧ (-2147483648 ≤ (M 171 ((x5 + x1) + (M 174 x7))) + (2 * (x2 * (M 171 (x3 + (M 174 x7))))) ∧ (M 171 ((x5 + x1) + (M 174 x7))) + (2 * (x2 * (M 171 (x3 + (M 174 x7))))) ≤ 2147483647) ∧ (0 ≤ ((x5 + x1) + (M 174 x7)) ∧ ((x5 + x1) + (M 174 x7)) < 50050) ∧ (-2147483648 ≤ x1 * (M 174 x7) ∧ x1 * (M 174 x7) ≤ 2147483647) ∧ (((x1 * (M 174 x7)) < (-500) → (-2147483648 ≤ x1 - (M 174 x7) ∧ x1 - (M 174 x7) ≤ 2147483647) ∧ (((x1 - (M 174 x7)) < (-500) → (-2147483648 ≤ x7 + 1 ∧ x7 + 1 ≤ 2147483647) ∧ Y G d mX9_joinValue 3 [(2, 170), (0, x1), (0, x2), (0, x3), (0, x4), (0, x5), (0, x6), (0, (x7 + 1)), (9, 0), (9, 0), (9, 0)] [] (zset M 171 ((x5 + x1) + (M 174 x7)) ((M 171 ((x5 + x1) + (M 174 x7))) + (2 * (x2 * (M 171 (x3 + (M 174 x7))))))) Q) ∧ ((-500) ≤ (x1 - (M 174 x7)) → (-2147483648 ≤ x1 - (M 174 x7) ∧ x1 - (M 174 x7) ≤ 2147483647) ∧ ((500 < (x1 - (M 174 x7)) → (-2147483648 ≤ x7 + 1 ∧ x7 + 1 ≤ 2147483647) ∧ Y G d mX9_joinValue 3 [(2, 170), (0, x1), (0, x2), (0, x3), (0, x4), (0, x5), (0, x6), (0, (x7 + 1)), (9, 0), (9, 0), (9, 0)] [] (zset M 171 ((x5 + x1) + (M 174 x7)) ((M 171 ((x5 + x1) + (M 174 x7))) + (2 * (x2 * (M 171 (x3 + (M 174 x7))))))) Q) ∧ ((x1 - (M 174 x7)) ≤ 500 → (-2147483648 ≤ x5 + x1 ∧ x5 + x1 ≤ 2147483647) ∧ (-2147483648 ≤ (x5 + x1) - (M 174 x7) ∧ (x5 + x1) - (M 174 x7) ≤ 2147483647) ∧ (0 ≤ ((x5 + x1) - (M 174 x7)) ∧ ((x5 + x1) - (M 174 x7)) < 50050) ∧ (-2147483648 ≤ ((zset M 171 ((x5 + x1) + (M 174 x7)) ((M 171 ((x5 + x1) + (M 174 x7))) + (2 * (x2 * (M 171 (x3 + (M 174 x7))))))) 171 ((x5 + x1) - (M 174 x7))) + (x2 * (M 171 (x3 + (M 174 x7)))) ∧ ((zset M 171 ((x5 + x1) + (M 174 x7)) ((M 171 ((x5 + x1) + (M 174 x7))) + (2 * (x2 * (M 171 (x3 + (M 174 x7))))))) 171 ((x5 + x1) - (M 174 x7))) + (x2 * (M 171 (x3 + (M 174 x7)))) ≤ 2147483647) ∧ (0 ≤ ((x5 + x1) - (M 174 x7)) ∧ ((x5 + x1) - (M 174 x7)) < 50050) ∧ ((x6 = 0 → (-2147483648 ≤ x7 + 1 ∧ x7 + 1 ≤ 2147483647) ∧ Y G d mX9_joinValue 3 [(2, 170), (0, x1), (0, x2), (0, x3), (0, x4), (0, x5), (0, x6), (0, (x7 + 1)), (9, 0), (9, 0), (9, 0)] [] (zset (zset M 171 ((x5 + x1) + (M 174 x7)) ((M 171 ((x5 + x1) + (M 174 x7))) + (2 * (x2 * (M 171 (x3 + (M 174 x7))))))) 171 ((x5 + x1) - (M 174 x7)) (((zset M 171 ((x5 + x1) + (M 174 x7)) ((M 171 ((x5 + x1) + (M 174 x7))) + (2 * (x2 * (M 171 (x3 + (M 174 x7))))))) 171 ((x5 + x1) - (M 174 x7))) + (x2 * (M 171 (x3 + (M 174 x7)))))) Q) ∧ (¬ x6 = 0 → (-2147483648 ≤ x5 + (M 174 x7) ∧ x5 + (M 174 x7) ≤ 2147483647) ∧ (-2147483648 ≤ (x5 + (M 174 x7)) - x1 ∧ (x5 + (M 174 x7)) - x1 ≤ 2147483647) ∧ (0 ≤ ((x5 + (M 174 x7)) - x1) ∧ ((x5 + (M 174 x7)) - x1) < 50050) ∧ (-2147483648 ≤ ((zset (zset M 171 ((x5 + x1) + (M 174 x7)) ((M 171 ((x5 + x1) + (M 174 x7))) + (2 * (x2 * (M 171 (x3 + (M 174 x7))))))) 171 ((x5 + x1) - (M 174 x7)) (((zset M 171 ((x5 + x1) + (M 174 x7)) ((M 171 ((x5 + x1) + (M 174 x7))) + (2 * (x2 * (M 171 (x3 + (M 174 x7))))))) 171 ((x5 + x1) - (M 174 x7))) + (x2 * (M 171 (x3 + (M 174 x7)))))) 171 ((x5 + (M 174 x7)) - x1)) + (x2 * (M 171 (x3 + (M 174 x7)))) ∧ ((zset (zset M 171 ((x5 + x1) + (M 174 x7)) ((M 171 ((x5 + x1) + (M 174 x7))) + (2 * (x2 * (M 171 (x3 + (M 174 x7))))))) 171 ((x5 + x1) - (M 174 x7)) (((zset M 171 ((x5 + x1) + (M 174 x7)) ((M 171 ((x5 + x1) + (M 174 x7))) + (2 * (x2 * (M 171 (x3 + (M 174 x7))))))) 171 ((x5 + x1) - (M 174 x7))) + (x2 * (M 171 (x3 + (M 174 x7)))))) 171 ((x5 + (M 174 x7)) - x1)) + (x2 * (M 171 (x3 + (M 174 x7)))) ≤ 2147483647) ∧ (0 ≤ ((x5 + (M 174 x7)) - x1) ∧ ((x5 + (M 174 x7)) - x1) < 50050) ∧ (-2147483648 ≤ x7 + 1 ∧ x7 + 1 ≤ 2147483647) ∧ Y G d mX9_joinValue 3 [(2, 170), (0, x1), (0, x2), (0, x3), (0, x4), (0, x5), (0, x6), (0, (x7 + 1)), (9, 0), (9, 0), (9, 0)] [] (zset (zset (zset M 171 ((x5 + x1) + (M 174 x7)) ((M 171 ((x5 + x1) + (M 174 x7))) + (2 * (x2 * (M 171 (x3 + (M 174 x7))))))) 171 ((x5 + x1) - (M 174 x7)) (((zset M 171 ((x5 + x1) + (M 174 x7)) ((M 171 ((x5 + x1) + (M 174 x7))) + (2 * (x2 * (M 171 (x3 + (M 174 x7))))))) 171 ((x5 + x1) - (M 174 x7))) + (x2 * (M 171 (x3 + (M 174 x7)))))) 171 ((x5 + (M 174 x7)) - x1) (((zset (zset M 171 ((x5 + x1) + (M 174 x7)) ((M 171 ((x5 + x1) + (M 174 x7))) + (2 * (x2 * (M 171 (x3 + (M 174 x7))))))) 171 ((x5 + x1) - (M 174 x7)) (((zset M 171 ((x5 + x1) + (M 174 x7)) ((M 171 ((x5 + x1) + (M 174 x7))) + (2 * (x2 * (M 171 (x3 + (M 174 x7))))))) 171 ((x5 + x1) - (M 174 x7))) + (x2 * (M 171 (x3 + (M 174 x7)))))) 171 ((x5 + (M 174 x7)) - x1)) + (x2 * (M 171 (x3 + (M 174 x7)))))) Q))))))) ∧ ((-500) ≤ (x1 * (M 174 x7)) → (-2147483648 ≤ x1 * (M 174 x7) ∧ x1 * (M 174 x7) ≤ 2147483647) ∧ ((500 < (x1 * (M 174 x7)) → (-2147483648 ≤ x1 - (M 174 x7) ∧ x1 - (M 174 x7) ≤ 2147483647) ∧ (((x1 - (M 174 x7)) < (-500) → (-2147483648 ≤ x7 + 1 ∧ x7 + 1 ≤ 2147483647) ∧ Y G d mX9_joinValue 3 [(2, 170), (0, x1), (0, x2), (0, x3), (0, x4), (0, x5), (0, x6), (0, (x7 + 1)), (9, 0), (9, 0), (9, 0)] [] (zset M 171 ((x5 + x1) + (M 174 x7)) ((M 171 ((x5 + x1) + (M 174 x7))) + (2 * (x2 * (M 171 (x3 + (M 174 x7))))))) Q) ∧ ((-500) ≤ (x1 - (M 174 x7)) → (-2147483648 ≤ x1 - (M 174 x7) ∧ x1 - (M 174 x7) ≤ 2147483647) ∧ ((500 < (x1 - (M 174 x7)) → (-2147483648 ≤ x7 + 1 ∧ x7 + 1 ≤ 2147483647) ∧ Y G d mX9_joinValue 3 [(2, 170), (0, x1), (0, x2), (0, x3), (0, x4), (0, x5), (0, x6), (0, (x7 + 1)), (9, 0), (9, 0), (9, 0)] [] (zset M 171 ((x5 + x1) + (M 174 x7)) ((M 171 ((x5 + x1) + (M 174 x7))) + (2 * (x2 * (M 171 (x3 + (M 174 x7))))))) Q) ∧ ((x1 - (M 174 x7)) ≤ 500 → (-2147483648 ≤ x5 + x1 ∧ x5 + x1 ≤ 2147483647) ∧ (-2147483648 ≤ (x5 + x1) - (M 174 x7) ∧ (x5 + x1) - (M 174 x7) ≤ 2147483647) ∧ (0 ≤ ((x5 + x1) - (M 174 x7)) ∧ ((x5 + x1) - (M 174 x7)) < 50050) ∧ (-2147483648 ≤ ((zset M 171 ((x5 + x1) + (M 174 x7)) ((M 171 ((x5 + x1) + (M 174 x7))) + (2 * (x2 * (M 171 (x3 + (M 174 x7))))))) 171 ((x5 + x1) - (M 174 x7))) + (x2 * (M 171 (x3 + (M 174 x7)))) ∧ ((zset M 171 ((x5 + x1) + (M 174 x7)) ((M 171 ((x5 + x1) + (M 174 x7))) + (2 * (x2 * (M 171 (x3 + (M 174 x7))))))) 171 ((x5 + x1) - (M 174 x7))) + (x2 * (M 171 (x3 + (M 174 x7)))) ≤ 2147483647) ∧ (0 ≤ ((x5 + x1) - (M 174 x7)) ∧ ((x5 + x1) - (M 174 x7)) < 50050) ∧ ((x6 = 0 → (-2147483648 ≤ x7 + 1 ∧ x7 + 1 ≤ 2147483647) ∧ Y G d mX9_joinValue 3 [(2, 170), (0, x1), (0, x2), (0, x3), (0, x4), (0, x5), (0, x6), (0, (x7 + 1)), (9, 0), (9, 0), (9, 0)] [] (zset (zset M 171 ((x5 + x1) + (M 174 x7)) ((M 171 ((x5 + x1) + (M 174 x7))) + (2 * (x2 * (M 171 (x3 + (M 174 x7))))))) 171 ((x5 + x1) - (M 174 x7)) (((zset M 171 ((x5 + x1) + (M 174 x7)) ((M 171 ((x5 + x1) + (M 174 x7))) + (2 * (x2 * (M 171 (x3 + (M 174 x7))))))) 171 ((x5 + x1) - (M 174 x7))) + (x2 * (M 171 (x3 + (M 174 x7)))))) Q) ∧ (¬ x6 = 0 → (-2147483648 ≤ x5 + (M 174 x7) ∧ x5 + (M 174 x7) ≤ 2147483647) ∧ (-2147483648 ≤ (x5 + (M 174 x7)) - x1 ∧ (x5 + (M 174 x7)) - x1 ≤ 2147483647) ∧ (0 ≤ ((x5 + (M 174 x7)) - x1) ∧ ((x5 + (M 174 x7)) - x1) < 50050) ∧ (-2147483648 ≤ ((zset (zset M 171 ((x5 + x1) + (M 174 x7)) ((M 171 ((x5 + x1) + (M 174 x7))) + (2 * (x2 * (M 171 (x3 + (M 174 x7))))))) 171 ((x5 + x1) - (M 174 x7)) (((zset M 171 ((x5 + x1) + (M 174 x7)) ((M 171 ((x5 + x1) + (M 174 x7))) + (2 * (x2 * (M 171 (x3 + (M 174 x7))))))) 171 ((x5 + x1) - (M 174 x7))) + (x2 * (M 171 (x3 + (M 174 x7)))))) 171 ((x5 + (M 174 x7)) - x1)) + (x2 * (M 171 (x3 + (M 174 x7)))) ∧ ((zset (zset M 171 ((x5 + x1) + (M 174 x7)) ((M 171 ((x5 + x1) + (M 174 x7))) + (2 * (x2 * (M 171 (x3 + (M 174 x7))))))) 171 ((x5 + x1) - (M 174 x7)) (((zset M 171 ((x5 + x1) + (M 174 x7)) ((M 171 ((x5 + x1) + (M 174 x7))) + (2 * (x2 * (M 171 (x3 + (M 174 x7))))))) 171 ((x5 + x1) - (M 174 x7))) + (x2 * (M 171 (x3 + (M 174 x7)))))) 171 ((x5 + (M 174 x7)) - x1)) + (x2 * (M 171 (x3 + (M 174 x7)))) ≤ 2147483647) ∧ (0 ≤ ((x5 + (M 174 x7)) - x1) ∧ ((x5 + (M 174 x7)) - x1) < 50050) ∧ (-2147483648 ≤ x7 + 1 ∧ x7 + 1 ≤ 2147483647) ∧ Y G d mX9_joinValue 3 [(2, 170), (0, x1), (0, x2), (0, x3), (0, x4), (0, x5), (0, x6), (0, (x7 + 1)), (9, 0), (9, 0), (9, 0)] [] (zset (zset (zset M 171 ((x5 + x1) + (M 174 x7)) ((M 171 ((x5 + x1) + (M 174 x7))) + (2 * (x2 * (M 171 (x3 + (M 174 x7))))))) 171 ((x5 + x1) - (M 174 x7)) (((zset M 171 ((x5 + x1) + (M 174 x7)) ((M 171 ((x5 + x1) + (M 174 x7))) + (2 * (x2 * (M 171 (x3 + (M 174 x7))))))) 171 ((x5 + x1) - (M 174 x7))) + (x2 * (M 171 (x3 + (M 174 x7)))))) 171 ((x5 + (M 174 x7)) - x1) (((zset (zset M 171 ((x5 + x1) + (M 174 x7)) ((M 171 ((x5 + x1) + (M 174 x7))) + (2 * (x2 * (M 171 (x3 + (M 174 x7))))))) 171 ((x5 + x1) - (M 174 x7)) (((zset M 171 ((x5 + x1) + (M 174 x7)) ((M 171 ((x5 + x1) + (M 174 x7))) + (2 * (x2 * (M 171 (x3 + (M 174 x7))))))) 171 ((x5 + x1) - (M 174 x7))) + (x2 * (M 171 (x3 + (M 174 x7)))))) 171 ((x5 + (M 174 x7)) - x1)) + (x2 * (M 171 (x3 + (M 174 x7)))))) Q))))))) ∧ ((x1 * (M 174 x7)) ≤ 500 → (-2147483648 ≤ x1 * (M 174 x7) ∧ x1 * (M 174 x7) ≤ 2147483647) ∧ (-2147483648 ≤ x5 + (x1 * (M 174 x7)) ∧ x5 + (x1 * (M 174 x7)) ≤ 2147483647) ∧ (0 ≤ (x5 + (x1 * (M 174 x7))) ∧ (x5 + (x1 * (M 174 x7))) < 50050) ∧ (-2147483648 ≤ ((zset M 171 ((x5 + x1) + (M 174 x7)) ((M 171 ((x5 + x1) + (M 174 x7))) + (2 * (x2 * (M 171 (x3 + (M 174 x7))))))) 171 (x5 + (x1 * (M 174 x7)))) + (2 * (x2 * (M 171 (x3 + (M 174 x7))))) ∧ ((zset M 171 ((x5 + x1) + (M 174 x7)) ((M 171 ((x5 + x1) + (M 174 x7))) + (2 * (x2 * (M 171 (x3 + (M 174 x7))))))) 171 (x5 + (x1 * (M 174 x7)))) + (2 * (x2 * (M 171 (x3 + (M 174 x7))))) ≤ 2147483647) ∧ (0 ≤ (x5 + (x1 * (M 174 x7))) ∧ (x5 + (x1 * (M 174 x7))) < 50050) ∧ (-2147483648 ≤ x1 - (M 174 x7) ∧ x1 - (M 174 x7) ≤ 2147483647) ∧ (((x1 - (M 174 x7)) < (-500) → (-2147483648 ≤ x7 + 1 ∧ x7 + 1 ≤ 2147483647) ∧ Y G d mX9_joinValue 3 [(2, 170), (0, x1), (0, x2), (0, x3), (0, x4), (0, x5), (0, x6), (0, (x7 + 1)), (9, 0), (9, 0), (9, 0)] [] (zset (zset M 171 ((x5 + x1) + (M 174 x7)) ((M 171 ((x5 + x1) + (M 174 x7))) + (2 * (x2 * (M 171 (x3 + (M 174 x7))))))) 171 (x5 + (x1 * (M 174 x7))) (((zset M 171 ((x5 + x1) + (M 174 x7)) ((M 171 ((x5 + x1) + (M 174 x7))) + (2 * (x2 * (M 171 (x3 + (M 174 x7))))))) 171 (x5 + (x1 * (M 174 x7)))) + (2 * (x2 * (M 171 (x3 + (M 174 x7))))))) Q) ∧ ((-500) ≤ (x1 - (M 174 x7)) → (-2147483648 ≤ x1 - (M 174 x7) ∧ x1 - (M 174 x7) ≤ 2147483647) ∧ ((500 < (x1 - (M 174 x7)) → (-2147483648 ≤ x7 + 1 ∧ x7 + 1 ≤ 2147483647) ∧ Y G d mX9_joinValue 3 [(2, 170), (0, x1), (0, x2), (0, x3), (0, x4), (0, x5), (0, x6), (0, (x7 + 1)), (9, 0), (9, 0), (9, 0)] [] (zset (zset M 171 ((x5 + x1) + (M 174 x7)) ((M 171 ((x5 + x1) + (M 174 x7))) + (2 * (x2 * (M 171 (x3 + (M 174 x7))))))) 171 (x5 + (x1 * (M 174 x7))) (((zset M 171 ((x5 + x1) + (M 174 x7)) ((M 171 ((x5 + x1) + (M 174 x7))) + (2 * (x2 * (M 171 (x3 + (M 174 x7))))))) 171 (x5 + (x1 * (M 174 x7)))) + (2 * (x2 * (M 171 (x3 + (M 174 x7))))))) Q) ∧ ((x1 - (M 174 x7)) ≤ 500 → (-2147483648 ≤ x5 + x1 ∧ x5 + x1 ≤ 2147483647) ∧ (-2147483648 ≤ (x5 + x1) - (M 174 x7) ∧ (x5 + x1) - (M 174 x7) ≤ 2147483647) ∧ (0 ≤ ((x5 + x1) - (M 174 x7)) ∧ ((x5 + x1) - (M 174 x7)) < 50050) ∧ (-2147483648 ≤ ((zset (zset M 171 ((x5 + x1) + (M 174 x7)) ((M 171 ((x5 + x1) + (M 174 x7))) + (2 * (x2 * (M 171 (x3 + (M 174 x7))))))) 171 (x5 + (x1 * (M 174 x7))) (((zset M 171 ((x5 + x1) + (M 174 x7)) ((M 171 ((x5 + x1) + (M 174 x7))) + (2 * (x2 * (M 171 (x3 + (M 174 x7))))))) 171 (x5 + (x1 * (M 174 x7)))) + (2 * (x2 * (M 171 (x3 + (M 174 x7))))))) 171 ((x5 + x1) - (M 174 x7))) + (x2 * (M 171 (x3 + (M 174 x7)))) ∧ ((zset (zset M 171 ((x5 + x1) + (M 174 x7)) ((M 171 ((x5 + x1) + (M 174 x7))) + (2 * (x2 * (M 171 (x3 + (M 174 x7))))))) 171 (x5 + (x1 * (M 174 x7))) (((zset M 171 ((x5 + x1) + (M 174 x7)) ((M 171 ((x5 + x1) + (M 174 x7))) + (2 * (x2 * (M 171 (x3 + (M 174 x7))))))) 171 (x5 + (x1 * (M 174 x7)))) + (2 * (x2 * (M 171 (x3 + (M 174 x7))))))) 171 ((x5 + x1) - (M 174 x7))) + (x2 * (M 171 (x3 + (M 174 x7)))) ≤ 2147483647) ∧ (0 ≤ ((x5 + x1) - (M 174 x7)) ∧ ((x5 + x1) - (M 174 x7)) < 50050) ∧ ((x6 = 0 → (-2147483648 ≤ x7 + 1 ∧ x7 + 1 ≤ 2147483647) ∧ Y G d mX9_joinValue 3 [(2, 170), (0, x1), (0, x2), (0, x3), (0, x4), (0, x5), (0, x6), (0, (x7 + 1)), (9, 0), (9, 0), (9, 0)] [] (zset (zset (zset M 171 ((x5 + x1) + (M 174 x7)) ((M 171 ((x5 + x1) + (M 174 x7))) + (2 * (x2 * (M 171 (x3 + (M 174 x7))))))) 171 (x5 + (x1 * (M 174 x7))) (((zset M 171 ((x5 + x1) + (M 174 x7)) ((M 171 ((x5 + x1) + (M 174 x7))) + (2 * (x2 * (M 171 (x3 + (M 174 x7))))))) 171 (x5 + (x1 * (M 174 x7)))) + (2 * (x2 * (M 171 (x3 + (M 174 x7))))))) 171 ((x5 + x1) - (M 174 x7)) (((zset (zset M 171 ((x5 + x1) + (M 174 x7)) ((M 171 ((x5 + x1) + (M 174 x7))) + (2 * (x2 * (M 171 (x3 + (M 174 x7))))))) 171 (x5 + (x1 * (M 174 x7))) (((zset M 171 ((x5 + x1) + (M 174 x7)) ((M 171 ((x5 + x1) + (M 174 x7))) + (2 * (x2 * (M 171 (x3 + (M 174 x7))))))) 171 (x5 + (x1 * (M 174 x7)))) + (2 * (x2 * (M 171 (x3 + (M 174 x7))))))) 171 ((x5 + x1) - (M 174 x7))) + (x2 * (M 171 (x3 + (M 174 x7)))))) Q) ∧ (¬ x6 = 0 → (-2147483648 ≤ x5 + (M 174 x7) ∧ x5 + (M 174 x7) ≤ 2147483647) ∧ (-2147483648 ≤ (x5 + (M 174 x7)) - x1 ∧ (x5 + (M 174 x7)) - x1 ≤ 2147483647) ∧ (0 ≤ ((x5 + (M 174 x7)) - x1) ∧ ((x5 + (M 174 x7)) - x1) < 50050) ∧ (-2147483648 ≤ ((zset (zset (zset M 171 ((x5 + x1) + (M 174 x7)) ((M 171 ((x5 + x1) + (M 174 x7))) + (2 * (x2 * (M 171 (x3 + (M 174 x7))))))) 171 (x5 + (x1 * (M 174 x7))) (((zset M 171 ((x5 + x1) + (M 174 x7)) ((M 171 ((x5 + x1) + (M 174 x7))) + (2 * (x2 * (M 171 (x3 + (M 174 x7))))))) 171 (x5 + (x1 * (M 174 x7)))) + (2 * (x2 * (M 171 (x3 + (M 174 x7))))))) 171 ((x5 + x1) - (M 174 x7)) (((zset (zset M 171 ((x5 + x1) + (M 174 x7)) ((M 171 ((x5 + x1) + (M 174 x7))) + (2 * (x2 * (M 171 (x3 + (M 174 x7))))))) 171 (x5 + (x1 * (M 174 x7))) (((zset M 171 ((x5 + x1) + (M 174 x7)) ((M 171 ((x5 + x1) + (M 174 x7))) + (2 * (x2 * (M 171 (x3 + (M 174 x7))))))) 171 (x5 + (x1 * (M 174 x7)))) + (2 * (x2 * (M 171 (x3 + (M 174 x7))))))) 171 ((x5 + x1) - (M 174 x7))) + (x2 * (M 171 (x3 + (M 174 x7)))))) 171 ((x5 + (M 174 x7)) - x1)) + (x2 * (M 171 (x3 + (M 174 x7)))) ∧ ((zset (zset (zset M 171 ((x5 + x1) + (M 174 x7)) ((M 171 ((x5 + x1) + (M 174 x7))) + (2 * (x2 * (M 171 (x3 + (M 174 x7))))))) 171 (x5 + (x1 * (M 174 x7))) (((zset M 171 ((x5 + x1) + (M 174 x7)) ((M 171 ((x5 + x1) + (M 174 x7))) + (2 * (x2 * (M 171 (x3 + (M 174 x7))))))) 171 (x5 + (x1 * (M 174 x7)))) + (2 * (x2 * (M 171 (x3 + (M 174 x7))))))) 171 ((x5 + x1) - (M 174 x7)) (((zset (zset M 171 ((x5 + x1) + (M 174 x7)) ((M 171 ((x5 + x1) + (M 174 x7))) + (2 * (x2 * (M 171 (x3 + (M 174 x7))))))) 171 (x5 + (x1 * (M 174 x7))) (((zset M 171 ((x5 + x1) + (M 174 x7)) ((M 171 ((x5 + x1) + (M 174 x7))) + (2 * (x2 * (M 171 (x3 + (M 174 x7))))))) 171 (x5 + (x1 * (M 174 x7)))) + (2 * (x2 * (M 171 (x3 + (M 174 x7))))))) 171 ((x5 + x1) - (M 174 x7))) + (x2 * (M 171 (x3 + (M 174 x7)))))) 171 ((x5 + (M 174 x7)) - x1)) + (x2 * (M 171 (x3 + (M 174 x7)))) ≤ 2147483647) ∧ (0 ≤ ((x5 + (M 174 x7)) - x1) ∧ ((x5 + (M 174 x7)) - x1) < 50050) ∧ (-2147483648 ≤ x7 + 1 ∧ x7 + 1 ≤ 2147483647) ∧ Y G d mX9_joinValue 3 [(2, 170), (0, x1), (0, x2), (0, x3), (0, x4), (0, x5), (0, x6), (0, (x7 + 1)), (9, 0), (9, 0), (9, 0)] [] (zset (zset (zset (zset M 171 ((x5 + x1) + (M 174 x7)) ((M 171 ((x5 + x1) + (M 174 x7))) + (2 * (x2 * (M 171 (x3 + (M 174 x7))))))) 171 (x5 + (x1 * (M 174 x7))) (((zset M 171 ((x5 + x1) + (M 174 x7)) ((M 171 ((x5 + x1) + (M 174 x7))) + (2 * (x2 * (M 171 (x3 + (M 174 x7))))))) 171 (x5 + (x1 * (M 174 x7)))) + (2 * (x2 * (M 171 (x3 + (M 174 x7))))))) 171 ((x5 + x1) - (M 174 x7)) (((zset (zset M 171 ((x5 + x1) + (M 174 x7)) ((M 171 ((x5 + x1) + (M 174 x7))) + (2 * (x2 * (M 171 (x3 + (M 174 x7))))))) 171 (x5 + (x1 * (M 174 x7))) (((zset M 171 ((x5 + x1) + (M 174 x7)) ((M 171 ((x5 + x1) + (M 174 x7))) + (2 * (x2 * (M 171 (x3 + (M 174 x7))))))) 171 (x5 + (x1 * (M 174 x7)))) + (2 * (x2 * (M 171 (x3 + (M 174 x7))))))) 171 ((x5 + x1) - (M 174 x7))) + (x2 * (M 171 (x3 + (M 174 x7)))))) 171 ((x5 + (M 174 x7)) - x1) (((zset (zset (zset M 171 ((x5 + x1) + (M 174 x7)) ((M 171 ((x5 + x1) + (M 174 x7))) + (2 * (x2 * (M 171 (x3 + (M 174 x7))))))) 171 (x5 + (x1 * (M 174 x7))) (((zset M 171 ((x5 + x1) + (M 174 x7)) ((M 171 ((x5 + x1) + (M 174 x7))) + (2 * (x2 * (M 171 (x3 + (M 174 x7))))))) 171 (x5 + (x1 * (M 174 x7)))) + (2 * (x2 * (M 171 (x3 + (M 174 x7))))))) 171 ((x5 + x1) - (M 174 x7)) (((zset (zset M 171 ((x5 + x1) + (M 174 x7)) ((M 171 ((x5 + x1) + (M 174 x7))) + (2 * (x2 * (M 171 (x3 + (M 174 x7))))))) 171 (x5 + (x1 * (M 174 x7))) (((zset M 171 ((x5 + x1) + (M 174 x7)) ((M 171 ((x5 + x1) + (M 174 x7))) + (2 * (x2 * (M 171 (x3 + (M 174 x7))))))) 171 (x5 + (x1 * (M 174 x7)))) + (2 * (x2 * (M 171 (x3 + (M 174 x7))))))) 171 ((x5 + x1) - (M 174 x7))) + (x2 * (M 171 (x3 + (M 174 x7)))))) 171 ((x5 + (M 174 x7)) - x1)) + (x2 * (M 171 (x3 + (M 174 x7)))))) Q))))))))))))))))))) :
    Y G d mX9_joinValue 3 [(2, 170), (0, x1), (0, x2), (0, x3), (0, x4), (0, x5), (0, x6), (0, x7), (9, 0), (9, 0), (9, 0)] [] M Q := by
  refine z_iload dX9_joinValue_3 rfl ?_
  refine z_iload dX9_joinValue_5 rfl ?_
  refine z_icmpge (tgt := 187) dX9_joinValue_7 rfl (fun q => ?_) (fun q => ?_)
  · replace h := h.1 q
    exact z_return dX9_joinValue_187 rfl rfl h
  · replace h := h.2 q
    refine z_aloadn dX9_joinValue_10 rfl (Or.inl rfl) ?_
    refine y_getr (v := 174) hG dX9_joinValue_11 fX9_22 sh170 (by decide) rfl (by decide +kernel) (by decide) ?_
    refine z_iload dX9_joinValue_14 rfl ?_
    obtain ⟨q1, h⟩ := h
    refine y_iald (x := (M 174 x7)) dX9_joinValue_16 sh174 q1 rfl ?_
    refine y_istore (ls' := [(2, 170), (0, x1), (0, x2), (0, x3), (0, x4), (0, x5), (0, x6), (0, x7), (0, (M 174 x7)), (9, 0), (9, 0)]) dX9_joinValue_17 rfl rfl ?_
    refine z_iloadn dX9_joinValue_19 rfl ?_
    refine z_aloadn dX9_joinValue_20 rfl (Or.inl rfl) ?_
    refine y_getr (v := 171) hG dX9_joinValue_21 fX9_10 sh170 (by decide) rfl (by decide +kernel) (by decide) ?_
    refine z_iloadn dX9_joinValue_24 rfl ?_
    refine z_iload dX9_joinValue_25 rfl ?_
    obtain ⟨q2, h⟩ := h
    refine z_iadd dX9_joinValue_27 q2 ?_
    obtain ⟨q3, h⟩ := h
    refine y_iald (x := (M 171 (x3 + (M 174 x7)))) dX9_joinValue_28 sh171 q3 rfl ?_
    obtain ⟨q4, h⟩ := h
    refine z_imul dX9_joinValue_29 q4 ?_
    refine y_istore (ls' := [(2, 170), (0, x1), (0, x2), (0, x3), (0, x4), (0, x5), (0, x6), (0, x7), (0, (M 174 x7)), (0, (x2 * (M 171 (x3 + (M 174 x7))))), (9, 0)]) dX9_joinValue_30 rfl rfl ?_
    refine z_iload dX9_joinValue_32 rfl ?_
    refine z_ifeq (tgt := 44) dX9_joinValue_34 rfl (fun q => ?_) (fun q => ?_)
    · replace h := h.1 q
      refine z_iload dX9_joinValue_44 rfl ?_
      refine y_istore (ls' := [(2, 170), (0, x1), (0, x2), (0, x3), (0, x4), (0, x5), (0, x6), (0, x7), (0, (M 174 x7)), (0, (x2 * (M 171 (x3 + (M 174 x7))))), (0, (x2 * (M 171 (x3 + (M 174 x7)))))]) dX9_joinValue_46 rfl rfl ?_
      refine z_iloadn dX9_joinValue_48 rfl ?_
      refine z_iload dX9_joinValue_49 rfl ?_
      obtain ⟨q5, h⟩ := h
      refine z_iadd dX9_joinValue_51 q5 ?_
      refine z_sipush dX9_joinValue_52 ks_m500 ?_
      refine z_icmplt (tgt := 85) dX9_joinValue_55 rfl (fun q => ?_) (fun q => ?_)
      · replace h := h.1 q
        refine z_iloadn dX9_joinValue_85 rfl ?_
        refine z_iload dX9_joinValue_86 rfl ?_
        obtain ⟨q6, h⟩ := h
        refine z_imul dX9_joinValue_88 q6 ?_
        refine z_sipush dX9_joinValue_89 ks_m500 ?_
        refine z_icmplt (tgt := 122) dX9_joinValue_92 rfl (fun q => ?_) (fun q => ?_)
        · replace h := h.1 q
          refine z_iloadn dX9_joinValue_122 rfl ?_
          refine z_iload dX9_joinValue_123 rfl ?_
          obtain ⟨q7, h⟩ := h
          refine z_isub dX9_joinValue_125 q7 ?_
          refine z_sipush dX9_joinValue_126 ks_m500 ?_
          refine z_icmplt (tgt := 181) dX9_joinValue_129 rfl (fun q => ?_) (fun q => ?_)
          · replace h := h.1 q
            obtain ⟨q8, h⟩ := h
            refine y_iinc (ls' := [(2, 170), (0, x1), (0, x2), (0, x3), (0, x4), (0, x5), (0, x6), (0, (x7 + 1)), (0, (M 174 x7)), (0, (x2 * (M 171 (x3 + (M 174 x7))))), (0, (x2 * (M 171 (x3 + (M 174 x7)))))]) dX9_joinValue_181 rfl rfl q8 rfl ?_
            refine z_goto (tgt := 3) dX9_joinValue_184 rfl ?_
            refine z_sub (ls' := [(2, 170), (0, x1), (0, x2), (0, x3), (0, x4), (0, x5), (0, x6), (0, (x7 + 1)), (9, 0), (9, 0), (9, 0)]) ⟨Or.inl rfl, Or.inl rfl, Or.inl rfl, Or.inl rfl, Or.inl rfl, Or.inl rfl, Or.inl rfl, Or.inl rfl, Or.inr rfl, Or.inr rfl, Or.inr rfl, trivial⟩ ?_
            exact h
          · replace h := h.2 q
            refine z_iloadn dX9_joinValue_132 rfl ?_
            refine z_iload dX9_joinValue_133 rfl ?_
            obtain ⟨q9, h⟩ := h
            refine z_isub dX9_joinValue_135 q9 ?_
            refine z_sipush dX9_joinValue_136 ks_500 ?_
            refine z_icmpgt (tgt := 181) dX9_joinValue_139 rfl (fun q => ?_) (fun q => ?_)
            · replace h := h.1 q
              obtain ⟨q10, h⟩ := h
              refine y_iinc (ls' := [(2, 170), (0, x1), (0, x2), (0, x3), (0, x4), (0, x5), (0, x6), (0, (x7 + 1)), (0, (M 174 x7)), (0, (x2 * (M 171 (x3 + (M 174 x7))))), (0, (x2 * (M 171 (x3 + (M 174 x7)))))]) dX9_joinValue_181 rfl rfl q10 rfl ?_
              refine z_goto (tgt := 3) dX9_joinValue_184 rfl ?_
              refine z_sub (ls' := [(2, 170), (0, x1), (0, x2), (0, x3), (0, x4), (0, x5), (0, x6), (0, (x7 + 1)), (9, 0), (9, 0), (9, 0)]) ⟨Or.inl rfl, Or.inl rfl, Or.inl rfl, Or.inl rfl, Or.inl rfl, Or.inl rfl, Or.inl rfl, Or.inl rfl, Or.inr rfl, Or.inr rfl, Or.inr rfl, trivial⟩ ?_
              exact h
            · replace h := h.2 q
              refine z_aloadn dX9_joinValue_142 rfl (Or.inl rfl) ?_
              refine y_getr (v := 171) hG dX9_joinValue_143 fX9_10 sh170 (by decide) rfl (by decide +kernel) (by decide) ?_
              refine z_iload dX9_joinValue_146 rfl ?_
              refine z_iloadn dX9_joinValue_148 rfl ?_
              obtain ⟨q11, h⟩ := h
              refine z_iadd dX9_joinValue_149 q11 ?_
              refine z_iload dX9_joinValue_150 rfl ?_
              obtain ⟨q12, h⟩ := h
              refine z_isub dX9_joinValue_152 q12 ?_
              refine z_dup2 dX9_joinValue_153 (show (0 : Nat) ≠ 1 by decide) (show (2 : Nat) ≠ 1 by decide) ?_
              obtain ⟨q13, h⟩ := h
              refine y_iald (x := (M 171 ((x5 + x1) - (M 174 x7)))) dX9_joinValue_154 sh171 q13 rfl ?_
              refine z_iload dX9_joinValue_155 rfl ?_
              obtain ⟨q14, h⟩ := h
              refine z_iadd dX9_joinValue_157 q14 ?_
              obtain ⟨q15, h⟩ := h
              refine y_iast hG dX9_joinValue_158 sh171 q15 ?_
              refine z_iload dX9_joinValue_159 rfl ?_
              refine z_ifeq (tgt := 181) dX9_joinValue_161 rfl (fun q => ?_) (fun q => ?_)
              · replace h := h.1 q
                obtain ⟨q16, h⟩ := h
                refine y_iinc (ls' := [(2, 170), (0, x1), (0, x2), (0, x3), (0, x4), (0, x5), (0, x6), (0, (x7 + 1)), (0, (M 174 x7)), (0, (x2 * (M 171 (x3 + (M 174 x7))))), (0, (x2 * (M 171 (x3 + (M 174 x7)))))]) dX9_joinValue_181 rfl rfl q16 rfl ?_
                refine z_goto (tgt := 3) dX9_joinValue_184 rfl ?_
                refine z_sub (ls' := [(2, 170), (0, x1), (0, x2), (0, x3), (0, x4), (0, x5), (0, x6), (0, (x7 + 1)), (9, 0), (9, 0), (9, 0)]) ⟨Or.inl rfl, Or.inl rfl, Or.inl rfl, Or.inl rfl, Or.inl rfl, Or.inl rfl, Or.inl rfl, Or.inl rfl, Or.inr rfl, Or.inr rfl, Or.inr rfl, trivial⟩ ?_
                exact h
              · replace h := h.2 q
                refine z_aloadn dX9_joinValue_164 rfl (Or.inl rfl) ?_
                refine y_getr (v := 171) hG dX9_joinValue_165 fX9_10 sh170 (by decide) rfl (by decide +kernel) (by decide) ?_
                refine z_iload dX9_joinValue_168 rfl ?_
                refine z_iload dX9_joinValue_170 rfl ?_
                obtain ⟨q17, h⟩ := h
                refine z_iadd dX9_joinValue_172 q17 ?_
                refine z_iloadn dX9_joinValue_173 rfl ?_
                obtain ⟨q18, h⟩ := h
                refine z_isub dX9_joinValue_174 q18 ?_
                refine z_dup2 dX9_joinValue_175 (show (0 : Nat) ≠ 1 by decide) (show (2 : Nat) ≠ 1 by decide) ?_
                obtain ⟨q19, h⟩ := h
                refine y_iald (x := ((zset M 171 ((x5 + x1) - (M 174 x7)) ((M 171 ((x5 + x1) - (M 174 x7))) + (x2 * (M 171 (x3 + (M 174 x7)))))) 171 ((x5 + (M 174 x7)) - x1))) dX9_joinValue_176 sh171 q19 rfl ?_
                refine z_iload dX9_joinValue_177 rfl ?_
                obtain ⟨q20, h⟩ := h
                refine z_iadd dX9_joinValue_179 q20 ?_
                obtain ⟨q21, h⟩ := h
                refine y_iast hG dX9_joinValue_180 sh171 q21 ?_
                obtain ⟨q22, h⟩ := h
                refine y_iinc (ls' := [(2, 170), (0, x1), (0, x2), (0, x3), (0, x4), (0, x5), (0, x6), (0, (x7 + 1)), (0, (M 174 x7)), (0, (x2 * (M 171 (x3 + (M 174 x7))))), (0, (x2 * (M 171 (x3 + (M 174 x7)))))]) dX9_joinValue_181 rfl rfl q22 rfl ?_
                refine z_goto (tgt := 3) dX9_joinValue_184 rfl ?_
                refine z_sub (ls' := [(2, 170), (0, x1), (0, x2), (0, x3), (0, x4), (0, x5), (0, x6), (0, (x7 + 1)), (9, 0), (9, 0), (9, 0)]) ⟨Or.inl rfl, Or.inl rfl, Or.inl rfl, Or.inl rfl, Or.inl rfl, Or.inl rfl, Or.inl rfl, Or.inl rfl, Or.inr rfl, Or.inr rfl, Or.inr rfl, trivial⟩ ?_
                exact h
        · replace h := h.2 q
          refine z_iloadn dX9_joinValue_95 rfl ?_
          refine z_iload dX9_joinValue_96 rfl ?_
          obtain ⟨q23, h⟩ := h
          refine z_imul dX9_joinValue_98 q23 ?_
          refine z_sipush dX9_joinValue_99 ks_500 ?_
          refine z_icmpgt (tgt := 122) dX9_joinValue_102 rfl (fun q => ?_) (fun q => ?_)
          · replace h := h.1 q
            refine z_iloadn dX9_joinValue_122 rfl ?_
            refine z_iload dX9_joinValue_123 rfl ?_
            obtain ⟨q24, h⟩ := h
            refine z_isub dX9_joinValue_125 q24 ?_
            refine z_sipush dX9_joinValue_126 ks_m500 ?_
            refine z_icmplt (tgt := 181) dX9_joinValue_129 rfl (fun q => ?_) (fun q => ?_)
            · replace h := h.1 q
              obtain ⟨q25, h⟩ := h
              refine y_iinc (ls' := [(2, 170), (0, x1), (0, x2), (0, x3), (0, x4), (0, x5), (0, x6), (0, (x7 + 1)), (0, (M 174 x7)), (0, (x2 * (M 171 (x3 + (M 174 x7))))), (0, (x2 * (M 171 (x3 + (M 174 x7)))))]) dX9_joinValue_181 rfl rfl q25 rfl ?_
              refine z_goto (tgt := 3) dX9_joinValue_184 rfl ?_
              refine z_sub (ls' := [(2, 170), (0, x1), (0, x2), (0, x3), (0, x4), (0, x5), (0, x6), (0, (x7 + 1)), (9, 0), (9, 0), (9, 0)]) ⟨Or.inl rfl, Or.inl rfl, Or.inl rfl, Or.inl rfl, Or.inl rfl, Or.inl rfl, Or.inl rfl, Or.inl rfl, Or.inr rfl, Or.inr rfl, Or.inr rfl, trivial⟩ ?_
              exact h
            · replace h := h.2 q
              refine z_iloadn dX9_joinValue_132 rfl ?_
              refine z_iload dX9_joinValue_133 rfl ?_
              obtain ⟨q26, h⟩ := h
              refine z_isub dX9_joinValue_135 q26 ?_
              refine z_sipush dX9_joinValue_136 ks_500 ?_
              refine z_icmpgt (tgt := 181) dX9_joinValue_139 rfl (fun q => ?_) (fun q => ?_)
              · replace h := h.1 q
                obtain ⟨q27, h⟩ := h
                refine y_iinc (ls' := [(2, 170), (0, x1), (0, x2), (0, x3), (0, x4), (0, x5), (0, x6), (0, (x7 + 1)), (0, (M 174 x7)), (0, (x2 * (M 171 (x3 + (M 174 x7))))), (0, (x2 * (M 171 (x3 + (M 174 x7)))))]) dX9_joinValue_181 rfl rfl q27 rfl ?_
                refine z_goto (tgt := 3) dX9_joinValue_184 rfl ?_
                refine z_sub (ls' := [(2, 170), (0, x1), (0, x2), (0, x3), (0, x4), (0, x5), (0, x6), (0, (x7 + 1)), (9, 0), (9, 0), (9, 0)]) ⟨Or.inl rfl, Or.inl rfl, Or.inl rfl, Or.inl rfl, Or.inl rfl, Or.inl rfl, Or.inl rfl, Or.inl rfl, Or.inr rfl, Or.inr rfl, Or.inr rfl, trivial⟩ ?_
                exact h
              · replace h := h.2 q
                refine z_aloadn dX9_joinValue_142 rfl (Or.inl rfl) ?_
                refine y_getr (v := 171) hG dX9_joinValue_143 fX9_10 sh170 (by decide) rfl (by decide +kernel) (by decide) ?_
                refine z_iload dX9_joinValue_146 rfl ?_
                refine z_iloadn dX9_joinValue_148 rfl ?_
                obtain ⟨q28, h⟩ := h
                refine z_iadd dX9_joinValue_149 q28 ?_
                refine z_iload dX9_joinValue_150 rfl ?_
                obtain ⟨q29, h⟩ := h
                refine z_isub dX9_joinValue_152 q29 ?_
                refine z_dup2 dX9_joinValue_153 (show (0 : Nat) ≠ 1 by decide) (show (2 : Nat) ≠ 1 by decide) ?_
                obtain ⟨q30, h⟩ := h
                refine y_iald (x := (M 171 ((x5 + x1) - (M 174 x7)))) dX9_joinValue_154 sh171 q30 rfl ?_
                refine z_iload dX9_joinValue_155 rfl ?_
                obtain ⟨q31, h⟩ := h
                refine z_iadd dX9_joinValue_157 q31 ?_
                obtain ⟨q32, h⟩ := h
                refine y_iast hG dX9_joinValue_158 sh171 q32 ?_
                refine z_iload dX9_joinValue_159 rfl ?_
                refine z_ifeq (tgt := 181) dX9_joinValue_161 rfl (fun q => ?_) (fun q => ?_)
                · replace h := h.1 q
                  obtain ⟨q33, h⟩ := h
                  refine y_iinc (ls' := [(2, 170), (0, x1), (0, x2), (0, x3), (0, x4), (0, x5), (0, x6), (0, (x7 + 1)), (0, (M 174 x7)), (0, (x2 * (M 171 (x3 + (M 174 x7))))), (0, (x2 * (M 171 (x3 + (M 174 x7)))))]) dX9_joinValue_181 rfl rfl q33 rfl ?_
                  refine z_goto (tgt := 3) dX9_joinValue_184 rfl ?_
                  refine z_sub (ls' := [(2, 170), (0, x1), (0, x2), (0, x3), (0, x4), (0, x5), (0, x6), (0, (x7 + 1)), (9, 0), (9, 0), (9, 0)]) ⟨Or.inl rfl, Or.inl rfl, Or.inl rfl, Or.inl rfl, Or.inl rfl, Or.inl rfl, Or.inl rfl, Or.inl rfl, Or.inr rfl, Or.inr rfl, Or.inr rfl, trivial⟩ ?_
                  exact h
                · replace h := h.2 q
                  refine z_aloadn dX9_joinValue_164 rfl (Or.inl rfl) ?_
                  refine y_getr (v := 171) hG dX9_joinValue_165 fX9_10 sh170 (by decide) rfl (by decide +kernel) (by decide) ?_
                  refine z_iload dX9_joinValue_168 rfl ?_
                  refine z_iload dX9_joinValue_170 rfl ?_
                  obtain ⟨q34, h⟩ := h
                  refine z_iadd dX9_joinValue_172 q34 ?_
                  refine z_iloadn dX9_joinValue_173 rfl ?_
                  obtain ⟨q35, h⟩ := h
                  refine z_isub dX9_joinValue_174 q35 ?_
                  refine z_dup2 dX9_joinValue_175 (show (0 : Nat) ≠ 1 by decide) (show (2 : Nat) ≠ 1 by decide) ?_
                  obtain ⟨q36, h⟩ := h
                  refine y_iald (x := ((zset M 171 ((x5 + x1) - (M 174 x7)) ((M 171 ((x5 + x1) - (M 174 x7))) + (x2 * (M 171 (x3 + (M 174 x7)))))) 171 ((x5 + (M 174 x7)) - x1))) dX9_joinValue_176 sh171 q36 rfl ?_
                  refine z_iload dX9_joinValue_177 rfl ?_
                  obtain ⟨q37, h⟩ := h
                  refine z_iadd dX9_joinValue_179 q37 ?_
                  obtain ⟨q38, h⟩ := h
                  refine y_iast hG dX9_joinValue_180 sh171 q38 ?_
                  obtain ⟨q39, h⟩ := h
                  refine y_iinc (ls' := [(2, 170), (0, x1), (0, x2), (0, x3), (0, x4), (0, x5), (0, x6), (0, (x7 + 1)), (0, (M 174 x7)), (0, (x2 * (M 171 (x3 + (M 174 x7))))), (0, (x2 * (M 171 (x3 + (M 174 x7)))))]) dX9_joinValue_181 rfl rfl q39 rfl ?_
                  refine z_goto (tgt := 3) dX9_joinValue_184 rfl ?_
                  refine z_sub (ls' := [(2, 170), (0, x1), (0, x2), (0, x3), (0, x4), (0, x5), (0, x6), (0, (x7 + 1)), (9, 0), (9, 0), (9, 0)]) ⟨Or.inl rfl, Or.inl rfl, Or.inl rfl, Or.inl rfl, Or.inl rfl, Or.inl rfl, Or.inl rfl, Or.inl rfl, Or.inr rfl, Or.inr rfl, Or.inr rfl, trivial⟩ ?_
                  exact h
          · replace h := h.2 q
            refine z_aloadn dX9_joinValue_105 rfl (Or.inl rfl) ?_
            refine y_getr (v := 171) hG dX9_joinValue_106 fX9_10 sh170 (by decide) rfl (by decide +kernel) (by decide) ?_
            refine z_iload dX9_joinValue_109 rfl ?_
            refine z_iloadn dX9_joinValue_111 rfl ?_
            refine z_iload dX9_joinValue_112 rfl ?_
            obtain ⟨q40, h⟩ := h
            refine z_imul dX9_joinValue_114 q40 ?_
            obtain ⟨q41, h⟩ := h
            refine z_iadd dX9_joinValue_115 q41 ?_
            refine z_dup2 dX9_joinValue_116 (show (0 : Nat) ≠ 1 by decide) (show (2 : Nat) ≠ 1 by decide) ?_
            obtain ⟨q42, h⟩ := h
            refine y_iald (x := (M 171 (x5 + (x1 * (M 174 x7))))) dX9_joinValue_117 sh171 q42 rfl ?_
            refine z_iload dX9_joinValue_118 rfl ?_
            obtain ⟨q43, h⟩ := h
            refine z_iadd dX9_joinValue_120 q43 ?_
            obtain ⟨q44, h⟩ := h
            refine y_iast hG dX9_joinValue_121 sh171 q44 ?_
            refine z_iloadn dX9_joinValue_122 rfl ?_
            refine z_iload dX9_joinValue_123 rfl ?_
            obtain ⟨q45, h⟩ := h
            refine z_isub dX9_joinValue_125 q45 ?_
            refine z_sipush dX9_joinValue_126 ks_m500 ?_
            refine z_icmplt (tgt := 181) dX9_joinValue_129 rfl (fun q => ?_) (fun q => ?_)
            · replace h := h.1 q
              obtain ⟨q46, h⟩ := h
              refine y_iinc (ls' := [(2, 170), (0, x1), (0, x2), (0, x3), (0, x4), (0, x5), (0, x6), (0, (x7 + 1)), (0, (M 174 x7)), (0, (x2 * (M 171 (x3 + (M 174 x7))))), (0, (x2 * (M 171 (x3 + (M 174 x7)))))]) dX9_joinValue_181 rfl rfl q46 rfl ?_
              refine z_goto (tgt := 3) dX9_joinValue_184 rfl ?_
              refine z_sub (ls' := [(2, 170), (0, x1), (0, x2), (0, x3), (0, x4), (0, x5), (0, x6), (0, (x7 + 1)), (9, 0), (9, 0), (9, 0)]) ⟨Or.inl rfl, Or.inl rfl, Or.inl rfl, Or.inl rfl, Or.inl rfl, Or.inl rfl, Or.inl rfl, Or.inl rfl, Or.inr rfl, Or.inr rfl, Or.inr rfl, trivial⟩ ?_
              exact h
            · replace h := h.2 q
              refine z_iloadn dX9_joinValue_132 rfl ?_
              refine z_iload dX9_joinValue_133 rfl ?_
              obtain ⟨q47, h⟩ := h
              refine z_isub dX9_joinValue_135 q47 ?_
              refine z_sipush dX9_joinValue_136 ks_500 ?_
              refine z_icmpgt (tgt := 181) dX9_joinValue_139 rfl (fun q => ?_) (fun q => ?_)
              · replace h := h.1 q
                obtain ⟨q48, h⟩ := h
                refine y_iinc (ls' := [(2, 170), (0, x1), (0, x2), (0, x3), (0, x4), (0, x5), (0, x6), (0, (x7 + 1)), (0, (M 174 x7)), (0, (x2 * (M 171 (x3 + (M 174 x7))))), (0, (x2 * (M 171 (x3 + (M 174 x7)))))]) dX9_joinValue_181 rfl rfl q48 rfl ?_
                refine z_goto (tgt := 3) dX9_joinValue_184 rfl ?_
                refine z_sub (ls' := [(2, 170), (0, x1), (0, x2), (0, x3), (0, x4), (0, x5), (0, x6), (0, (x7 + 1)), (9, 0), (9, 0), (9, 0)]) ⟨Or.inl rfl, Or.inl rfl, Or.inl rfl, Or.inl rfl, Or.inl rfl, Or.inl rfl, Or.inl rfl, Or.inl rfl, Or.inr rfl, Or.inr rfl, Or.inr rfl, trivial⟩ ?_
                exact h
              · replace h := h.2 q
                refine z_aloadn dX9_joinValue_142 rfl (Or.inl rfl) ?_
                refine y_getr (v := 171) hG dX9_joinValue_143 fX9_10 sh170 (by decide) rfl (by decide +kernel) (by decide) ?_
                refine z_iload dX9_joinValue_146 rfl ?_
                refine z_iloadn dX9_joinValue_148 rfl ?_
                obtain ⟨q49, h⟩ := h
                refine z_iadd dX9_joinValue_149 q49 ?_
                refine z_iload dX9_joinValue_150 rfl ?_
                obtain ⟨q50, h⟩ := h
                refine z_isub dX9_joinValue_152 q50 ?_
                refine z_dup2 dX9_joinValue_153 (show (0 : Nat) ≠ 1 by decide) (show (2 : Nat) ≠ 1 by decide) ?_
                obtain ⟨q51, h⟩ := h
                refine y_iald (x := ((zset M 171 (x5 + (x1 * (M 174 x7))) ((M 171 (x5 + (x1 * (M 174 x7)))) + (x2 * (M 171 (x3 + (M 174 x7)))))) 171 ((x5 + x1) - (M 174 x7)))) dX9_joinValue_154 sh171 q51 rfl ?_
                refine z_iload dX9_joinValue_155 rfl ?_
                obtain ⟨q52, h⟩ := h
                refine z_iadd dX9_joinValue_157 q52 ?_
                obtain ⟨q53, h⟩ := h
                refine y_iast hG dX9_joinValue_158 sh171 q53 ?_
                refine z_iload dX9_joinValue_159 rfl ?_
                refine z_ifeq (tgt := 181) dX9_joinValue_161 rfl (fun q => ?_) (fun q => ?_)
                · replace h := h.1 q
                  obtain ⟨q54, h⟩ := h
                  refine y_iinc (ls' := [(2, 170), (0, x1), (0, x2), (0, x3), (0, x4), (0, x5), (0, x6), (0, (x7 + 1)), (0, (M 174 x7)), (0, (x2 * (M 171 (x3 + (M 174 x7))))), (0, (x2 * (M 171 (x3 + (M 174 x7)))))]) dX9_joinValue_181 rfl rfl q54 rfl ?_
                  refine z_goto (tgt := 3) dX9_joinValue_184 rfl ?_
                  refine z_sub (ls' := [(2, 170), (0, x1), (0, x2), (0, x3), (0, x4), (0, x5), (0, x6), (0, (x7 + 1)), (9, 0), (9, 0), (9, 0)]) ⟨Or.inl rfl, Or.inl rfl, Or.inl rfl, Or.inl rfl, Or.inl rfl, Or.inl rfl, Or.inl rfl, Or.inl rfl, Or.inr rfl, Or.inr rfl, Or.inr rfl, trivial⟩ ?_
                  exact h
                · replace h := h.2 q
                  refine z_aloadn dX9_joinValue_164 rfl (Or.inl rfl) ?_
                  refine y_getr (v := 171) hG dX9_joinValue_165 fX9_10 sh170 (by decide) rfl (by decide +kernel) (by decide) ?_
                  refine z_iload dX9_joinValue_168 rfl ?_
                  refine z_iload dX9_joinValue_170 rfl ?_
                  obtain ⟨q55, h⟩ := h
                  refine z_iadd dX9_joinValue_172 q55 ?_
                  refine z_iloadn dX9_joinValue_173 rfl ?_
                  obtain ⟨q56, h⟩ := h
                  refine z_isub dX9_joinValue_174 q56 ?_
                  refine z_dup2 dX9_joinValue_175 (show (0 : Nat) ≠ 1 by decide) (show (2 : Nat) ≠ 1 by decide) ?_
                  obtain ⟨q57, h⟩ := h
                  refine y_iald (x := ((zset (zset M 171 (x5 + (x1 * (M 174 x7))) ((M 171 (x5 + (x1 * (M 174 x7)))) + (x2 * (M 171 (x3 + (M 174 x7)))))) 171 ((x5 + x1) - (M 174 x7)) (((zset M 171 (x5 + (x1 * (M 174 x7))) ((M 171 (x5 + (x1 * (M 174 x7)))) + (x2 * (M 171 (x3 + (M 174 x7)))))) 171 ((x5 + x1) - (M 174 x7))) + (x2 * (M 171 (x3 + (M 174 x7)))))) 171 ((x5 + (M 174 x7)) - x1))) dX9_joinValue_176 sh171 q57 rfl ?_
                  refine z_iload dX9_joinValue_177 rfl ?_
                  obtain ⟨q58, h⟩ := h
                  refine z_iadd dX9_joinValue_179 q58 ?_
                  obtain ⟨q59, h⟩ := h
                  refine y_iast hG dX9_joinValue_180 sh171 q59 ?_
                  obtain ⟨q60, h⟩ := h
                  refine y_iinc (ls' := [(2, 170), (0, x1), (0, x2), (0, x3), (0, x4), (0, x5), (0, x6), (0, (x7 + 1)), (0, (M 174 x7)), (0, (x2 * (M 171 (x3 + (M 174 x7))))), (0, (x2 * (M 171 (x3 + (M 174 x7)))))]) dX9_joinValue_181 rfl rfl q60 rfl ?_
                  refine z_goto (tgt := 3) dX9_joinValue_184 rfl ?_
                  refine z_sub (ls' := [(2, 170), (0, x1), (0, x2), (0, x3), (0, x4), (0, x5), (0, x6), (0, (x7 + 1)), (9, 0), (9, 0), (9, 0)]) ⟨Or.inl rfl, Or.inl rfl, Or.inl rfl, Or.inl rfl, Or.inl rfl, Or.inl rfl, Or.inl rfl, Or.inl rfl, Or.inr rfl, Or.inr rfl, Or.inr rfl, trivial⟩ ?_
                  exact h
      · replace h := h.2 q
        refine z_iloadn dX9_joinValue_58 rfl ?_
        refine z_iload dX9_joinValue_59 rfl ?_
        obtain ⟨q61, h⟩ := h
        refine z_iadd dX9_joinValue_61 q61 ?_
        refine z_sipush dX9_joinValue_62 ks_500 ?_
        refine z_icmpgt (tgt := 85) dX9_joinValue_65 rfl (fun q => ?_) (fun q => ?_)
        · replace h := h.1 q
          refine z_iloadn dX9_joinValue_85 rfl ?_
          refine z_iload dX9_joinValue_86 rfl ?_
          obtain ⟨q62, h⟩ := h
          refine z_imul dX9_joinValue_88 q62 ?_
          refine z_sipush dX9_joinValue_89 ks_m500 ?_
          refine z_icmplt (tgt := 122) dX9_joinValue_92 rfl (fun q => ?_) (fun q => ?_)
          · replace h := h.1 q
            refine z_iloadn dX9_joinValue_122 rfl ?_
            refine z_iload dX9_joinValue_123 rfl ?_
            obtain ⟨q63, h⟩ := h
            refine z_isub dX9_joinValue_125 q63 ?_
            refine z_sipush dX9_joinValue_126 ks_m500 ?_
            refine z_icmplt (tgt := 181) dX9_joinValue_129 rfl (fun q => ?_) (fun q => ?_)
            · replace h := h.1 q
              obtain ⟨q64, h⟩ := h
              refine y_iinc (ls' := [(2, 170), (0, x1), (0, x2), (0, x3), (0, x4), (0, x5), (0, x6), (0, (x7 + 1)), (0, (M 174 x7)), (0, (x2 * (M 171 (x3 + (M 174 x7))))), (0, (x2 * (M 171 (x3 + (M 174 x7)))))]) dX9_joinValue_181 rfl rfl q64 rfl ?_
              refine z_goto (tgt := 3) dX9_joinValue_184 rfl ?_
              refine z_sub (ls' := [(2, 170), (0, x1), (0, x2), (0, x3), (0, x4), (0, x5), (0, x6), (0, (x7 + 1)), (9, 0), (9, 0), (9, 0)]) ⟨Or.inl rfl, Or.inl rfl, Or.inl rfl, Or.inl rfl, Or.inl rfl, Or.inl rfl, Or.inl rfl, Or.inl rfl, Or.inr rfl, Or.inr rfl, Or.inr rfl, trivial⟩ ?_
              exact h
            · replace h := h.2 q
              refine z_iloadn dX9_joinValue_132 rfl ?_
              refine z_iload dX9_joinValue_133 rfl ?_
              obtain ⟨q65, h⟩ := h
              refine z_isub dX9_joinValue_135 q65 ?_
              refine z_sipush dX9_joinValue_136 ks_500 ?_
              refine z_icmpgt (tgt := 181) dX9_joinValue_139 rfl (fun q => ?_) (fun q => ?_)
              · replace h := h.1 q
                obtain ⟨q66, h⟩ := h
                refine y_iinc (ls' := [(2, 170), (0, x1), (0, x2), (0, x3), (0, x4), (0, x5), (0, x6), (0, (x7 + 1)), (0, (M 174 x7)), (0, (x2 * (M 171 (x3 + (M 174 x7))))), (0, (x2 * (M 171 (x3 + (M 174 x7)))))]) dX9_joinValue_181 rfl rfl q66 rfl ?_
                refine z_goto (tgt := 3) dX9_joinValue_184 rfl ?_
                refine z_sub (ls' := [(2, 170), (0, x1), (0, x2), (0, x3), (0, x4), (0, x5), (0, x6), (0, (x7 + 1)), (9, 0), (9, 0), (9, 0)]) ⟨Or.inl rfl, Or.inl rfl, Or.inl rfl, Or.inl rfl, Or.inl rfl, Or.inl rfl, Or.inl rfl, Or.inl rfl, Or.inr rfl, Or.inr rfl, Or.inr rfl, trivial⟩ ?_
                exact h
              · replace h := h.2 q
                refine z_aloadn dX9_joinValue_142 rfl (Or.inl rfl) ?_
                refine y_getr (v := 171) hG dX9_joinValue_143 fX9_10 sh170 (by decide) rfl (by decide +kernel) (by decide) ?_
                refine z_iload dX9_joinValue_146 rfl ?_
                refine z_iloadn dX9_joinValue_148 rfl ?_
                obtain ⟨q67, h⟩ := h
                refine z_iadd dX9_joinValue_149 q67 ?_
                refine z_iload dX9_joinValue_150 rfl ?_
                obtain ⟨q68, h⟩ := h
                refine z_isub dX9_joinValue_152 q68 ?_
                refine z_dup2 dX9_joinValue_153 (show (0 : Nat) ≠ 1 by decide) (show (2 : Nat) ≠ 1 by decide) ?_
                obtain ⟨q69, h⟩ := h
                refine y_iald (x := (M 171 ((x5 + x1) - (M 174 x7)))) dX9_joinValue_154 sh171 q69 rfl ?_
                refine z_iload dX9_joinValue_155 rfl ?_
                obtain ⟨q70, h⟩ := h
                refine z_iadd dX9_joinValue_157 q70 ?_
                obtain ⟨q71, h⟩ := h
                refine y_iast hG dX9_joinValue_158 sh171 q71 ?_
                refine z_iload dX9_joinValue_159 rfl ?_
                refine z_ifeq (tgt := 181) dX9_joinValue_161 rfl (fun q => ?_) (fun q => ?_)
                · replace h := h.1 q
                  obtain ⟨q72, h⟩ := h
                  refine y_iinc (ls' := [(2, 170), (0, x1), (0, x2), (0, x3), (0, x4), (0, x5), (0, x6), (0, (x7 + 1)), (0, (M 174 x7)), (0, (x2 * (M 171 (x3 + (M 174 x7))))), (0, (x2 * (M 171 (x3 + (M 174 x7)))))]) dX9_joinValue_181 rfl rfl q72 rfl ?_
                  refine z_goto (tgt := 3) dX9_joinValue_184 rfl ?_
                  refine z_sub (ls' := [(2, 170), (0, x1), (0, x2), (0, x3), (0, x4), (0, x5), (0, x6), (0, (x7 + 1)), (9, 0), (9, 0), (9, 0)]) ⟨Or.inl rfl, Or.inl rfl, Or.inl rfl, Or.inl rfl, Or.inl rfl, Or.inl rfl, Or.inl rfl, Or.inl rfl, Or.inr rfl, Or.inr rfl, Or.inr rfl, trivial⟩ ?_
                  exact h
                · replace h := h.2 q
                  refine z_aloadn dX9_joinValue_164 rfl (Or.inl rfl) ?_
                  refine y_getr (v := 171) hG dX9_joinValue_165 fX9_10 sh170 (by decide) rfl (by decide +kernel) (by decide) ?_
                  refine z_iload dX9_joinValue_168 rfl ?_
                  refine z_iload dX9_joinValue_170 rfl ?_
                  obtain ⟨q73, h⟩ := h
                  refine z_iadd dX9_joinValue_172 q73 ?_
                  refine z_iloadn dX9_joinValue_173 rfl ?_
                  obtain ⟨q74, h⟩ := h
                  refine z_isub dX9_joinValue_174 q74 ?_
                  refine z_dup2 dX9_joinValue_175 (show (0 : Nat) ≠ 1 by decide) (show (2 : Nat) ≠ 1 by decide) ?_
                  obtain ⟨q75, h⟩ := h
                  refine y_iald (x := ((zset M 171 ((x5 + x1) - (M 174 x7)) ((M 171 ((x5 + x1) - (M 174 x7))) + (x2 * (M 171 (x3 + (M 174 x7)))))) 171 ((x5 + (M 174 x7)) - x1))) dX9_joinValue_176 sh171 q75 rfl ?_
                  refine z_iload dX9_joinValue_177 rfl ?_
                  obtain ⟨q76, h⟩ := h
                  refine z_iadd dX9_joinValue_179 q76 ?_
                  obtain ⟨q77, h⟩ := h
                  refine y_iast hG dX9_joinValue_180 sh171 q77 ?_
                  obtain ⟨q78, h⟩ := h
                  refine y_iinc (ls' := [(2, 170), (0, x1), (0, x2), (0, x3), (0, x4), (0, x5), (0, x6), (0, (x7 + 1)), (0, (M 174 x7)), (0, (x2 * (M 171 (x3 + (M 174 x7))))), (0, (x2 * (M 171 (x3 + (M 174 x7)))))]) dX9_joinValue_181 rfl rfl q78 rfl ?_
                  refine z_goto (tgt := 3) dX9_joinValue_184 rfl ?_
                  refine z_sub (ls' := [(2, 170), (0, x1), (0, x2), (0, x3), (0, x4), (0, x5), (0, x6), (0, (x7 + 1)), (9, 0), (9, 0), (9, 0)]) ⟨Or.inl rfl, Or.inl rfl, Or.inl rfl, Or.inl rfl, Or.inl rfl, Or.inl rfl, Or.inl rfl, Or.inl rfl, Or.inr rfl, Or.inr rfl, Or.inr rfl, trivial⟩ ?_
                  exact h
          · replace h := h.2 q
            refine z_iloadn dX9_joinValue_95 rfl ?_
            refine z_iload dX9_joinValue_96 rfl ?_
            obtain ⟨q79, h⟩ := h
            refine z_imul dX9_joinValue_98 q79 ?_
            refine z_sipush dX9_joinValue_99 ks_500 ?_
            refine z_icmpgt (tgt := 122) dX9_joinValue_102 rfl (fun q => ?_) (fun q => ?_)
            · replace h := h.1 q
              refine z_iloadn dX9_joinValue_122 rfl ?_
              refine z_iload dX9_joinValue_123 rfl ?_
              obtain ⟨q80, h⟩ := h
              refine z_isub dX9_joinValue_125 q80 ?_
              refine z_sipush dX9_joinValue_126 ks_m500 ?_
              refine z_icmplt (tgt := 181) dX9_joinValue_129 rfl (fun q => ?_) (fun q => ?_)
              · replace h := h.1 q
                obtain ⟨q81, h⟩ := h
                refine y_iinc (ls' := [(2, 170), (0, x1), (0, x2), (0, x3), (0, x4), (0, x5), (0, x6), (0, (x7 + 1)), (0, (M 174 x7)), (0, (x2 * (M 171 (x3 + (M 174 x7))))), (0, (x2 * (M 171 (x3 + (M 174 x7)))))]) dX9_joinValue_181 rfl rfl q81 rfl ?_
                refine z_goto (tgt := 3) dX9_joinValue_184 rfl ?_
                refine z_sub (ls' := [(2, 170), (0, x1), (0, x2), (0, x3), (0, x4), (0, x5), (0, x6), (0, (x7 + 1)), (9, 0), (9, 0), (9, 0)]) ⟨Or.inl rfl, Or.inl rfl, Or.inl rfl, Or.inl rfl, Or.inl rfl, Or.inl rfl, Or.inl rfl, Or.inl rfl, Or.inr rfl, Or.inr rfl, Or.inr rfl, trivial⟩ ?_
                exact h
              · replace h := h.2 q
                refine z_iloadn dX9_joinValue_132 rfl ?_
                refine z_iload dX9_joinValue_133 rfl ?_
                obtain ⟨q82, h⟩ := h
                refine z_isub dX9_joinValue_135 q82 ?_
                refine z_sipush dX9_joinValue_136 ks_500 ?_
                refine z_icmpgt (tgt := 181) dX9_joinValue_139 rfl (fun q => ?_) (fun q => ?_)
                · replace h := h.1 q
                  obtain ⟨q83, h⟩ := h
                  refine y_iinc (ls' := [(2, 170), (0, x1), (0, x2), (0, x3), (0, x4), (0, x5), (0, x6), (0, (x7 + 1)), (0, (M 174 x7)), (0, (x2 * (M 171 (x3 + (M 174 x7))))), (0, (x2 * (M 171 (x3 + (M 174 x7)))))]) dX9_joinValue_181 rfl rfl q83 rfl ?_
                  refine z_goto (tgt := 3) dX9_joinValue_184 rfl ?_
                  refine z_sub (ls' := [(2, 170), (0, x1), (0, x2), (0, x3), (0, x4), (0, x5), (0, x6), (0, (x7 + 1)), (9, 0), (9, 0), (9, 0)]) ⟨Or.inl rfl, Or.inl rfl, Or.inl rfl, Or.inl rfl, Or.inl rfl, Or.inl rfl, Or.inl rfl, Or.inl rfl, Or.inr rfl, Or.inr rfl, Or.inr rfl, trivial⟩ ?_
                  exact h
                · replace h := h.2 q
                  refine z_aloadn dX9_joinValue_142 rfl (Or.inl rfl) ?_
                  refine y_getr (v := 171) hG dX9_joinValue_143 fX9_10 sh170 (by decide) rfl (by decide +kernel) (by decide) ?_
                  refine z_iload dX9_joinValue_146 rfl ?_
                  refine z_iloadn dX9_joinValue_148 rfl ?_
                  obtain ⟨q84, h⟩ := h
                  refine z_iadd dX9_joinValue_149 q84 ?_
                  refine z_iload dX9_joinValue_150 rfl ?_
                  obtain ⟨q85, h⟩ := h
                  refine z_isub dX9_joinValue_152 q85 ?_
                  refine z_dup2 dX9_joinValue_153 (show (0 : Nat) ≠ 1 by decide) (show (2 : Nat) ≠ 1 by decide) ?_
                  obtain ⟨q86, h⟩ := h
                  refine y_iald (x := (M 171 ((x5 + x1) - (M 174 x7)))) dX9_joinValue_154 sh171 q86 rfl ?_
                  refine z_iload dX9_joinValue_155 rfl ?_
                  obtain ⟨q87, h⟩ := h
                  refine z_iadd dX9_joinValue_157 q87 ?_
                  obtain ⟨q88, h⟩ := h
                  refine y_iast hG dX9_joinValue_158 sh171 q88 ?_
                  refine z_iload dX9_joinValue_159 rfl ?_
                  refine z_ifeq (tgt := 181) dX9_joinValue_161 rfl (fun q => ?_) (fun q => ?_)
                  · replace h := h.1 q
                    obtain ⟨q89, h⟩ := h
                    refine y_iinc (ls' := [(2, 170), (0, x1), (0, x2), (0, x3), (0, x4), (0, x5), (0, x6), (0, (x7 + 1)), (0, (M 174 x7)), (0, (x2 * (M 171 (x3 + (M 174 x7))))), (0, (x2 * (M 171 (x3 + (M 174 x7)))))]) dX9_joinValue_181 rfl rfl q89 rfl ?_
                    refine z_goto (tgt := 3) dX9_joinValue_184 rfl ?_
                    refine z_sub (ls' := [(2, 170), (0, x1), (0, x2), (0, x3), (0, x4), (0, x5), (0, x6), (0, (x7 + 1)), (9, 0), (9, 0), (9, 0)]) ⟨Or.inl rfl, Or.inl rfl, Or.inl rfl, Or.inl rfl, Or.inl rfl, Or.inl rfl, Or.inl rfl, Or.inl rfl, Or.inr rfl, Or.inr rfl, Or.inr rfl, trivial⟩ ?_
                    exact h
                  · replace h := h.2 q
                    refine z_aloadn dX9_joinValue_164 rfl (Or.inl rfl) ?_
                    refine y_getr (v := 171) hG dX9_joinValue_165 fX9_10 sh170 (by decide) rfl (by decide +kernel) (by decide) ?_
                    refine z_iload dX9_joinValue_168 rfl ?_
                    refine z_iload dX9_joinValue_170 rfl ?_
                    obtain ⟨q90, h⟩ := h
                    refine z_iadd dX9_joinValue_172 q90 ?_
                    refine z_iloadn dX9_joinValue_173 rfl ?_
                    obtain ⟨q91, h⟩ := h
                    refine z_isub dX9_joinValue_174 q91 ?_
                    refine z_dup2 dX9_joinValue_175 (show (0 : Nat) ≠ 1 by decide) (show (2 : Nat) ≠ 1 by decide) ?_
                    obtain ⟨q92, h⟩ := h
                    refine y_iald (x := ((zset M 171 ((x5 + x1) - (M 174 x7)) ((M 171 ((x5 + x1) - (M 174 x7))) + (x2 * (M 171 (x3 + (M 174 x7)))))) 171 ((x5 + (M 174 x7)) - x1))) dX9_joinValue_176 sh171 q92 rfl ?_
                    refine z_iload dX9_joinValue_177 rfl ?_
                    obtain ⟨q93, h⟩ := h
                    refine z_iadd dX9_joinValue_179 q93 ?_
                    obtain ⟨q94, h⟩ := h
                    refine y_iast hG dX9_joinValue_180 sh171 q94 ?_
                    obtain ⟨q95, h⟩ := h
                    refine y_iinc (ls' := [(2, 170), (0, x1), (0, x2), (0, x3), (0, x4), (0, x5), (0, x6), (0, (x7 + 1)), (0, (M 174 x7)), (0, (x2 * (M 171 (x3 + (M 174 x7))))), (0, (x2 * (M 171 (x3 + (M 174 x7)))))]) dX9_joinValue_181 rfl rfl q95 rfl ?_
                    refine z_goto (tgt := 3) dX9_joinValue_184 rfl ?_
                    refine z_sub (ls' := [(2, 170), (0, x1), (0, x2), (0, x3), (0, x4), (0, x5), (0, x6), (0, (x7 + 1)), (9, 0), (9, 0), (9, 0)]) ⟨Or.inl rfl, Or.inl rfl, Or.inl rfl, Or.inl rfl, Or.inl rfl, Or.inl rfl, Or.inl rfl, Or.inl rfl, Or.inr rfl, Or.inr rfl, Or.inr rfl, trivial⟩ ?_
                    exact h
            · replace h := h.2 q
              refine z_aloadn dX9_joinValue_105 rfl (Or.inl rfl) ?_
              refine y_getr (v := 171) hG dX9_joinValue_106 fX9_10 sh170 (by decide) rfl (by decide +kernel) (by decide) ?_
              refine z_iload dX9_joinValue_109 rfl ?_
              refine z_iloadn dX9_joinValue_111 rfl ?_
              refine z_iload dX9_joinValue_112 rfl ?_
              obtain ⟨q96, h⟩ := h
              refine z_imul dX9_joinValue_114 q96 ?_
              obtain ⟨q97, h⟩ := h
              refine z_iadd dX9_joinValue_115 q97 ?_
              refine z_dup2 dX9_joinValue_116 (show (0 : Nat) ≠ 1 by decide) (show (2 : Nat) ≠ 1 by decide) ?_
              obtain ⟨q98, h⟩ := h
              refine y_iald (x := (M 171 (x5 + (x1 * (M 174 x7))))) dX9_joinValue_117 sh171 q98 rfl ?_
              refine z_iload dX9_joinValue_118 rfl ?_
              obtain ⟨q99, h⟩ := h
              refine z_iadd dX9_joinValue_120 q99 ?_
              obtain ⟨q100, h⟩ := h
              refine y_iast hG dX9_joinValue_121 sh171 q100 ?_
              refine z_iloadn dX9_joinValue_122 rfl ?_
              refine z_iload dX9_joinValue_123 rfl ?_
              obtain ⟨q101, h⟩ := h
              refine z_isub dX9_joinValue_125 q101 ?_
              refine z_sipush dX9_joinValue_126 ks_m500 ?_
              refine z_icmplt (tgt := 181) dX9_joinValue_129 rfl (fun q => ?_) (fun q => ?_)
              · replace h := h.1 q
                obtain ⟨q102, h⟩ := h
                refine y_iinc (ls' := [(2, 170), (0, x1), (0, x2), (0, x3), (0, x4), (0, x5), (0, x6), (0, (x7 + 1)), (0, (M 174 x7)), (0, (x2 * (M 171 (x3 + (M 174 x7))))), (0, (x2 * (M 171 (x3 + (M 174 x7)))))]) dX9_joinValue_181 rfl rfl q102 rfl ?_
                refine z_goto (tgt := 3) dX9_joinValue_184 rfl ?_
                refine z_sub (ls' := [(2, 170), (0, x1), (0, x2), (0, x3), (0, x4), (0, x5), (0, x6), (0, (x7 + 1)), (9, 0), (9, 0), (9, 0)]) ⟨Or.inl rfl, Or.inl rfl, Or.inl rfl, Or.inl rfl, Or.inl rfl, Or.inl rfl, Or.inl rfl, Or.inl rfl, Or.inr rfl, Or.inr rfl, Or.inr rfl, trivial⟩ ?_
                exact h
              · replace h := h.2 q
                refine z_iloadn dX9_joinValue_132 rfl ?_
                refine z_iload dX9_joinValue_133 rfl ?_
                obtain ⟨q103, h⟩ := h
                refine z_isub dX9_joinValue_135 q103 ?_
                refine z_sipush dX9_joinValue_136 ks_500 ?_
                refine z_icmpgt (tgt := 181) dX9_joinValue_139 rfl (fun q => ?_) (fun q => ?_)
                · replace h := h.1 q
                  obtain ⟨q104, h⟩ := h
                  refine y_iinc (ls' := [(2, 170), (0, x1), (0, x2), (0, x3), (0, x4), (0, x5), (0, x6), (0, (x7 + 1)), (0, (M 174 x7)), (0, (x2 * (M 171 (x3 + (M 174 x7))))), (0, (x2 * (M 171 (x3 + (M 174 x7)))))]) dX9_joinValue_181 rfl rfl q104 rfl ?_
                  refine z_goto (tgt := 3) dX9_joinValue_184 rfl ?_
                  refine z_sub (ls' := [(2, 170), (0, x1), (0, x2), (0, x3), (0, x4), (0, x5), (0, x6), (0, (x7 + 1)), (9, 0), (9, 0), (9, 0)]) ⟨Or.inl rfl, Or.inl rfl, Or.inl rfl, Or.inl rfl, Or.inl rfl, Or.inl rfl, Or.inl rfl, Or.inl rfl, Or.inr rfl, Or.inr rfl, Or.inr rfl, trivial⟩ ?_
                  exact h
                · replace h := h.2 q
                  refine z_aloadn dX9_joinValue_142 rfl (Or.inl rfl) ?_
                  refine y_getr (v := 171) hG dX9_joinValue_143 fX9_10 sh170 (by decide) rfl (by decide +kernel) (by decide) ?_
                  refine z_iload dX9_joinValue_146 rfl ?_
                  refine z_iloadn dX9_joinValue_148 rfl ?_
                  obtain ⟨q105, h⟩ := h
                  refine z_iadd dX9_joinValue_149 q105 ?_
                  refine z_iload dX9_joinValue_150 rfl ?_
                  obtain ⟨q106, h⟩ := h
                  refine z_isub dX9_joinValue_152 q106 ?_
                  refine z_dup2 dX9_joinValue_153 (show (0 : Nat) ≠ 1 by decide) (show (2 : Nat) ≠ 1 by decide) ?_
                  obtain ⟨q107, h⟩ := h
                  refine y_iald (x := ((zset M 171 (x5 + (x1 * (M 174 x7))) ((M 171 (x5 + (x1 * (M 174 x7)))) + (x2 * (M 171 (x3 + (M 174 x7)))))) 171 ((x5 + x1) - (M 174 x7)))) dX9_joinValue_154 sh171 q107 rfl ?_
                  refine z_iload dX9_joinValue_155 rfl ?_
                  obtain ⟨q108, h⟩ := h
                  refine z_iadd dX9_joinValue_157 q108 ?_
                  obtain ⟨q109, h⟩ := h
                  refine y_iast hG dX9_joinValue_158 sh171 q109 ?_
                  refine z_iload dX9_joinValue_159 rfl ?_
                  refine z_ifeq (tgt := 181) dX9_joinValue_161 rfl (fun q => ?_) (fun q => ?_)
                  · replace h := h.1 q
                    obtain ⟨q110, h⟩ := h
                    refine y_iinc (ls' := [(2, 170), (0, x1), (0, x2), (0, x3), (0, x4), (0, x5), (0, x6), (0, (x7 + 1)), (0, (M 174 x7)), (0, (x2 * (M 171 (x3 + (M 174 x7))))), (0, (x2 * (M 171 (x3 + (M 174 x7)))))]) dX9_joinValue_181 rfl rfl q110 rfl ?_
                    refine z_goto (tgt := 3) dX9_joinValue_184 rfl ?_
                    refine z_sub (ls' := [(2, 170), (0, x1), (0, x2), (0, x3), (0, x4), (0, x5), (0, x6), (0, (x7 + 1)), (9, 0), (9, 0), (9, 0)]) ⟨Or.inl rfl, Or.inl rfl, Or.inl rfl, Or.inl rfl, Or.inl rfl, Or.inl rfl, Or.inl rfl, Or.inl rfl, Or.inr rfl, Or.inr rfl, Or.inr rfl, trivial⟩ ?_
                    exact h
                  · replace h := h.2 q
                    refine z_aloadn dX9_joinValue_164 rfl (Or.inl rfl) ?_
                    refine y_getr (v := 171) hG dX9_joinValue_165 fX9_10 sh170 (by decide) rfl (by decide +kernel) (by decide) ?_
                    refine z_iload dX9_joinValue_168 rfl ?_
                    refine z_iload dX9_joinValue_170 rfl ?_
                    obtain ⟨q111, h⟩ := h
                    refine z_iadd dX9_joinValue_172 q111 ?_
                    refine z_iloadn dX9_joinValue_173 rfl ?_
                    obtain ⟨q112, h⟩ := h
                    refine z_isub dX9_joinValue_174 q112 ?_
                    refine z_dup2 dX9_joinValue_175 (show (0 : Nat) ≠ 1 by decide) (show (2 : Nat) ≠ 1 by decide) ?_
                    obtain ⟨q113, h⟩ := h
                    refine y_iald (x := ((zset (zset M 171 (x5 + (x1 * (M 174 x7))) ((M 171 (x5 + (x1 * (M 174 x7)))) + (x2 * (M 171 (x3 + (M 174 x7)))))) 171 ((x5 + x1) - (M 174 x7)) (((zset M 171 (x5 + (x1 * (M 174 x7))) ((M 171 (x5 + (x1 * (M 174 x7)))) + (x2 * (M 171 (x3 + (M 174 x7)))))) 171 ((x5 + x1) - (M 174 x7))) + (x2 * (M 171 (x3 + (M 174 x7)))))) 171 ((x5 + (M 174 x7)) - x1))) dX9_joinValue_176 sh171 q113 rfl ?_
                    refine z_iload dX9_joinValue_177 rfl ?_
                    obtain ⟨q114, h⟩ := h
                    refine z_iadd dX9_joinValue_179 q114 ?_
                    obtain ⟨q115, h⟩ := h
                    refine y_iast hG dX9_joinValue_180 sh171 q115 ?_
                    obtain ⟨q116, h⟩ := h
                    refine y_iinc (ls' := [(2, 170), (0, x1), (0, x2), (0, x3), (0, x4), (0, x5), (0, x6), (0, (x7 + 1)), (0, (M 174 x7)), (0, (x2 * (M 171 (x3 + (M 174 x7))))), (0, (x2 * (M 171 (x3 + (M 174 x7)))))]) dX9_joinValue_181 rfl rfl q116 rfl ?_
                    refine z_goto (tgt := 3) dX9_joinValue_184 rfl ?_
                    refine z_sub (ls' := [(2, 170), (0, x1), (0, x2), (0, x3), (0, x4), (0, x5), (0, x6), (0, (x7 + 1)), (9, 0), (9, 0), (9, 0)]) ⟨Or.inl rfl, Or.inl rfl, Or.inl rfl, Or.inl rfl, Or.inl rfl, Or.inl rfl, Or.inl rfl, Or.inl rfl, Or.inr rfl, Or.inr rfl, Or.inr rfl, trivial⟩ ?_
                    exact h
        · replace h := h.2 q
          refine z_aloadn dX9_joinValue_68 rfl (Or.inl rfl) ?_
          refine y_getr (v := 171) hG dX9_joinValue_69 fX9_10 sh170 (by decide) rfl (by decide +kernel) (by decide) ?_
          refine z_iload dX9_joinValue_72 rfl ?_
          refine z_iloadn dX9_joinValue_74 rfl ?_
          obtain ⟨q117, h⟩ := h
          refine z_iadd dX9_joinValue_75 q117 ?_
          refine z_iload dX9_joinValue_76 rfl ?_
          obtain ⟨q118, h⟩ := h
          refine z_iadd dX9_joinValue_78 q118 ?_
          refine z_dup2 dX9_joinValue_79 (show (0 : Nat) ≠ 1 by decide) (show (2 : Nat) ≠ 1 by decide) ?_
          obtain ⟨q119, h⟩ := h
          refine y_iald (x := (M 171 ((x5 + x1) + (M 174 x7)))) dX9_joinValue_80 sh171 q119 rfl ?_
          refine z_iload dX9_joinValue_81 rfl ?_
          obtain ⟨q120, h⟩ := h
          refine z_iadd dX9_joinValue_83 q120 ?_
          obtain ⟨q121, h⟩ := h
          refine y_iast hG dX9_joinValue_84 sh171 q121 ?_
          refine z_iloadn dX9_joinValue_85 rfl ?_
          refine z_iload dX9_joinValue_86 rfl ?_
          obtain ⟨q122, h⟩ := h
          refine z_imul dX9_joinValue_88 q122 ?_
          refine z_sipush dX9_joinValue_89 ks_m500 ?_
          refine z_icmplt (tgt := 122) dX9_joinValue_92 rfl (fun q => ?_) (fun q => ?_)
          · replace h := h.1 q
            refine z_iloadn dX9_joinValue_122 rfl ?_
            refine z_iload dX9_joinValue_123 rfl ?_
            obtain ⟨q123, h⟩ := h
            refine z_isub dX9_joinValue_125 q123 ?_
            refine z_sipush dX9_joinValue_126 ks_m500 ?_
            refine z_icmplt (tgt := 181) dX9_joinValue_129 rfl (fun q => ?_) (fun q => ?_)
            · replace h := h.1 q
              obtain ⟨q124, h⟩ := h
              refine y_iinc (ls' := [(2, 170), (0, x1), (0, x2), (0, x3), (0, x4), (0, x5), (0, x6), (0, (x7 + 1)), (0, (M 174 x7)), (0, (x2 * (M 171 (x3 + (M 174 x7))))), (0, (x2 * (M 171 (x3 + (M 174 x7)))))]) dX9_joinValue_181 rfl rfl q124 rfl ?_
              refine z_goto (tgt := 3) dX9_joinValue_184 rfl ?_
              refine z_sub (ls' := [(2, 170), (0, x1), (0, x2), (0, x3), (0, x4), (0, x5), (0, x6), (0, (x7 + 1)), (9, 0), (9, 0), (9, 0)]) ⟨Or.inl rfl, Or.inl rfl, Or.inl rfl, Or.inl rfl, Or.inl rfl, Or.inl rfl, Or.inl rfl, Or.inl rfl, Or.inr rfl, Or.inr rfl, Or.inr rfl, trivial⟩ ?_
              exact h
            · replace h := h.2 q
              refine z_iloadn dX9_joinValue_132 rfl ?_
              refine z_iload dX9_joinValue_133 rfl ?_
              obtain ⟨q125, h⟩ := h
              refine z_isub dX9_joinValue_135 q125 ?_
              refine z_sipush dX9_joinValue_136 ks_500 ?_
              refine z_icmpgt (tgt := 181) dX9_joinValue_139 rfl (fun q => ?_) (fun q => ?_)
              · replace h := h.1 q
                obtain ⟨q126, h⟩ := h
                refine y_iinc (ls' := [(2, 170), (0, x1), (0, x2), (0, x3), (0, x4), (0, x5), (0, x6), (0, (x7 + 1)), (0, (M 174 x7)), (0, (x2 * (M 171 (x3 + (M 174 x7))))), (0, (x2 * (M 171 (x3 + (M 174 x7)))))]) dX9_joinValue_181 rfl rfl q126 rfl ?_
                refine z_goto (tgt := 3) dX9_joinValue_184 rfl ?_
                refine z_sub (ls' := [(2, 170), (0, x1), (0, x2), (0, x3), (0, x4), (0, x5), (0, x6), (0, (x7 + 1)), (9, 0), (9, 0), (9, 0)]) ⟨Or.inl rfl, Or.inl rfl, Or.inl rfl, Or.inl rfl, Or.inl rfl, Or.inl rfl, Or.inl rfl, Or.inl rfl, Or.inr rfl, Or.inr rfl, Or.inr rfl, trivial⟩ ?_
                exact h
              · replace h := h.2 q
                refine z_aloadn dX9_joinValue_142 rfl (Or.inl rfl) ?_
                refine y_getr (v := 171) hG dX9_joinValue_143 fX9_10 sh170 (by decide) rfl (by decide +kernel) (by decide) ?_
                refine z_iload dX9_joinValue_146 rfl ?_
                refine z_iloadn dX9_joinValue_148 rfl ?_
                obtain ⟨q127, h⟩ := h
                refine z_iadd dX9_joinValue_149 q127 ?_
                refine z_iload dX9_joinValue_150 rfl ?_
                obtain ⟨q128, h⟩ := h
                refine z_isub dX9_joinValue_152 q128 ?_
                refine z_dup2 dX9_joinValue_153 (show (0 : Nat) ≠ 1 by decide) (show (2 : Nat) ≠ 1 by decide) ?_
                obtain ⟨q129, h⟩ := h
                refine y_iald (x := ((zset M 171 ((x5 + x1) + (M 174 x7)) ((M 171 ((x5 + x1) + (M 174 x7))) + (x2 * (M 171 (x3 + (M 174 x7)))))) 171 ((x5 + x1) - (M 174 x7)))) dX9_joinValue_154 sh171 q129 rfl ?_
                refine z_iload dX9_joinValue_155 rfl ?_
                obtain ⟨q130, h⟩ := h
                refine z_iadd dX9_joinValue_157 q130 ?_
                obtain ⟨q131, h⟩ := h
                refine y_iast hG dX9_joinValue_158 sh171 q131 ?_
                refine z_iload dX9_joinValue_159 rfl ?_
                refine z_ifeq (tgt := 181) dX9_joinValue_161 rfl (fun q => ?_) (fun q => ?_)
                · replace h := h.1 q
                  obtain ⟨q132, h⟩ := h
                  refine y_iinc (ls' := [(2, 170), (0, x1), (0, x2), (0, x3), (0, x4), (0, x5), (0, x6), (0, (x7 + 1)), (0, (M 174 x7)), (0, (x2 * (M 171 (x3 + (M 174 x7))))), (0, (x2 * (M 171 (x3 + (M 174 x7)))))]) dX9_joinValue_181 rfl rfl q132 rfl ?_
                  refine z_goto (tgt := 3) dX9_joinValue_184 rfl ?_
                  refine z_sub (ls' := [(2, 170), (0, x1), (0, x2), (0, x3), (0, x4), (0, x5), (0, x6), (0, (x7 + 1)), (9, 0), (9, 0), (9, 0)]) ⟨Or.inl rfl, Or.inl rfl, Or.inl rfl, Or.inl rfl, Or.inl rfl, Or.inl rfl, Or.inl rfl, Or.inl rfl, Or.inr rfl, Or.inr rfl, Or.inr rfl, trivial⟩ ?_
                  exact h
                · replace h := h.2 q
                  refine z_aloadn dX9_joinValue_164 rfl (Or.inl rfl) ?_
                  refine y_getr (v := 171) hG dX9_joinValue_165 fX9_10 sh170 (by decide) rfl (by decide +kernel) (by decide) ?_
                  refine z_iload dX9_joinValue_168 rfl ?_
                  refine z_iload dX9_joinValue_170 rfl ?_
                  obtain ⟨q133, h⟩ := h
                  refine z_iadd dX9_joinValue_172 q133 ?_
                  refine z_iloadn dX9_joinValue_173 rfl ?_
                  obtain ⟨q134, h⟩ := h
                  refine z_isub dX9_joinValue_174 q134 ?_
                  refine z_dup2 dX9_joinValue_175 (show (0 : Nat) ≠ 1 by decide) (show (2 : Nat) ≠ 1 by decide) ?_
                  obtain ⟨q135, h⟩ := h
                  refine y_iald (x := ((zset (zset M 171 ((x5 + x1) + (M 174 x7)) ((M 171 ((x5 + x1) + (M 174 x7))) + (x2 * (M 171 (x3 + (M 174 x7)))))) 171 ((x5 + x1) - (M 174 x7)) (((zset M 171 ((x5 + x1) + (M 174 x7)) ((M 171 ((x5 + x1) + (M 174 x7))) + (x2 * (M 171 (x3 + (M 174 x7)))))) 171 ((x5 + x1) - (M 174 x7))) + (x2 * (M 171 (x3 + (M 174 x7)))))) 171 ((x5 + (M 174 x7)) - x1))) dX9_joinValue_176 sh171 q135 rfl ?_
                  refine z_iload dX9_joinValue_177 rfl ?_
                  obtain ⟨q136, h⟩ := h
                  refine z_iadd dX9_joinValue_179 q136 ?_
                  obtain ⟨q137, h⟩ := h
                  refine y_iast hG dX9_joinValue_180 sh171 q137 ?_
                  obtain ⟨q138, h⟩ := h
                  refine y_iinc (ls' := [(2, 170), (0, x1), (0, x2), (0, x3), (0, x4), (0, x5), (0, x6), (0, (x7 + 1)), (0, (M 174 x7)), (0, (x2 * (M 171 (x3 + (M 174 x7))))), (0, (x2 * (M 171 (x3 + (M 174 x7)))))]) dX9_joinValue_181 rfl rfl q138 rfl ?_
                  refine z_goto (tgt := 3) dX9_joinValue_184 rfl ?_
                  refine z_sub (ls' := [(2, 170), (0, x1), (0, x2), (0, x3), (0, x4), (0, x5), (0, x6), (0, (x7 + 1)), (9, 0), (9, 0), (9, 0)]) ⟨Or.inl rfl, Or.inl rfl, Or.inl rfl, Or.inl rfl, Or.inl rfl, Or.inl rfl, Or.inl rfl, Or.inl rfl, Or.inr rfl, Or.inr rfl, Or.inr rfl, trivial⟩ ?_
                  exact h
          · replace h := h.2 q
            refine z_iloadn dX9_joinValue_95 rfl ?_
            refine z_iload dX9_joinValue_96 rfl ?_
            obtain ⟨q139, h⟩ := h
            refine z_imul dX9_joinValue_98 q139 ?_
            refine z_sipush dX9_joinValue_99 ks_500 ?_
            refine z_icmpgt (tgt := 122) dX9_joinValue_102 rfl (fun q => ?_) (fun q => ?_)
            · replace h := h.1 q
              refine z_iloadn dX9_joinValue_122 rfl ?_
              refine z_iload dX9_joinValue_123 rfl ?_
              obtain ⟨q140, h⟩ := h
              refine z_isub dX9_joinValue_125 q140 ?_
              refine z_sipush dX9_joinValue_126 ks_m500 ?_
              refine z_icmplt (tgt := 181) dX9_joinValue_129 rfl (fun q => ?_) (fun q => ?_)
              · replace h := h.1 q
                obtain ⟨q141, h⟩ := h
                refine y_iinc (ls' := [(2, 170), (0, x1), (0, x2), (0, x3), (0, x4), (0, x5), (0, x6), (0, (x7 + 1)), (0, (M 174 x7)), (0, (x2 * (M 171 (x3 + (M 174 x7))))), (0, (x2 * (M 171 (x3 + (M 174 x7)))))]) dX9_joinValue_181 rfl rfl q141 rfl ?_
                refine z_goto (tgt := 3) dX9_joinValue_184 rfl ?_
                refine z_sub (ls' := [(2, 170), (0, x1), (0, x2), (0, x3), (0, x4), (0, x5), (0, x6), (0, (x7 + 1)), (9, 0), (9, 0), (9, 0)]) ⟨Or.inl rfl, Or.inl rfl, Or.inl rfl, Or.inl rfl, Or.inl rfl, Or.inl rfl, Or.inl rfl, Or.inl rfl, Or.inr rfl, Or.inr rfl, Or.inr rfl, trivial⟩ ?_
                exact h
              · replace h := h.2 q
                refine z_iloadn dX9_joinValue_132 rfl ?_
                refine z_iload dX9_joinValue_133 rfl ?_
                obtain ⟨q142, h⟩ := h
                refine z_isub dX9_joinValue_135 q142 ?_
                refine z_sipush dX9_joinValue_136 ks_500 ?_
                refine z_icmpgt (tgt := 181) dX9_joinValue_139 rfl (fun q => ?_) (fun q => ?_)
                · replace h := h.1 q
                  obtain ⟨q143, h⟩ := h
                  refine y_iinc (ls' := [(2, 170), (0, x1), (0, x2), (0, x3), (0, x4), (0, x5), (0, x6), (0, (x7 + 1)), (0, (M 174 x7)), (0, (x2 * (M 171 (x3 + (M 174 x7))))), (0, (x2 * (M 171 (x3 + (M 174 x7)))))]) dX9_joinValue_181 rfl rfl q143 rfl ?_
                  refine z_goto (tgt := 3) dX9_joinValue_184 rfl ?_
                  refine z_sub (ls' := [(2, 170), (0, x1), (0, x2), (0, x3), (0, x4), (0, x5), (0, x6), (0, (x7 + 1)), (9, 0), (9, 0), (9, 0)]) ⟨Or.inl rfl, Or.inl rfl, Or.inl rfl, Or.inl rfl, Or.inl rfl, Or.inl rfl, Or.inl rfl, Or.inl rfl, Or.inr rfl, Or.inr rfl, Or.inr rfl, trivial⟩ ?_
                  exact h
                · replace h := h.2 q
                  refine z_aloadn dX9_joinValue_142 rfl (Or.inl rfl) ?_
                  refine y_getr (v := 171) hG dX9_joinValue_143 fX9_10 sh170 (by decide) rfl (by decide +kernel) (by decide) ?_
                  refine z_iload dX9_joinValue_146 rfl ?_
                  refine z_iloadn dX9_joinValue_148 rfl ?_
                  obtain ⟨q144, h⟩ := h
                  refine z_iadd dX9_joinValue_149 q144 ?_
                  refine z_iload dX9_joinValue_150 rfl ?_
                  obtain ⟨q145, h⟩ := h
                  refine z_isub dX9_joinValue_152 q145 ?_
                  refine z_dup2 dX9_joinValue_153 (show (0 : Nat) ≠ 1 by decide) (show (2 : Nat) ≠ 1 by decide) ?_
                  obtain ⟨q146, h⟩ := h
                  refine y_iald (x := ((zset M 171 ((x5 + x1) + (M 174 x7)) ((M 171 ((x5 + x1) + (M 174 x7))) + (x2 * (M 171 (x3 + (M 174 x7)))))) 171 ((x5 + x1) - (M 174 x7)))) dX9_joinValue_154 sh171 q146 rfl ?_
                  refine z_iload dX9_joinValue_155 rfl ?_
                  obtain ⟨q147, h⟩ := h
                  refine z_iadd dX9_joinValue_157 q147 ?_
                  obtain ⟨q148, h⟩ := h
                  refine y_iast hG dX9_joinValue_158 sh171 q148 ?_
                  refine z_iload dX9_joinValue_159 rfl ?_
                  refine z_ifeq (tgt := 181) dX9_joinValue_161 rfl (fun q => ?_) (fun q => ?_)
                  · replace h := h.1 q
                    obtain ⟨q149, h⟩ := h
                    refine y_iinc (ls' := [(2, 170), (0, x1), (0, x2), (0, x3), (0, x4), (0, x5), (0, x6), (0, (x7 + 1)), (0, (M 174 x7)), (0, (x2 * (M 171 (x3 + (M 174 x7))))), (0, (x2 * (M 171 (x3 + (M 174 x7)))))]) dX9_joinValue_181 rfl rfl q149 rfl ?_
                    refine z_goto (tgt := 3) dX9_joinValue_184 rfl ?_
                    refine z_sub (ls' := [(2, 170), (0, x1), (0, x2), (0, x3), (0, x4), (0, x5), (0, x6), (0, (x7 + 1)), (9, 0), (9, 0), (9, 0)]) ⟨Or.inl rfl, Or.inl rfl, Or.inl rfl, Or.inl rfl, Or.inl rfl, Or.inl rfl, Or.inl rfl, Or.inl rfl, Or.inr rfl, Or.inr rfl, Or.inr rfl, trivial⟩ ?_
                    exact h
                  · replace h := h.2 q
                    refine z_aloadn dX9_joinValue_164 rfl (Or.inl rfl) ?_
                    refine y_getr (v := 171) hG dX9_joinValue_165 fX9_10 sh170 (by decide) rfl (by decide +kernel) (by decide) ?_
                    refine z_iload dX9_joinValue_168 rfl ?_
                    refine z_iload dX9_joinValue_170 rfl ?_
                    obtain ⟨q150, h⟩ := h
                    refine z_iadd dX9_joinValue_172 q150 ?_
                    refine z_iloadn dX9_joinValue_173 rfl ?_
                    obtain ⟨q151, h⟩ := h
                    refine z_isub dX9_joinValue_174 q151 ?_
                    refine z_dup2 dX9_joinValue_175 (show (0 : Nat) ≠ 1 by decide) (show (2 : Nat) ≠ 1 by decide) ?_
                    obtain ⟨q152, h⟩ := h
                    refine y_iald (x := ((zset (zset M 171 ((x5 + x1) + (M 174 x7)) ((M 171 ((x5 + x1) + (M 174 x7))) + (x2 * (M 171 (x3 + (M 174 x7)))))) 171 ((x5 + x1) - (M 174 x7)) (((zset M 171 ((x5 + x1) + (M 174 x7)) ((M 171 ((x5 + x1) + (M 174 x7))) + (x2 * (M 171 (x3 + (M 174 x7)))))) 171 ((x5 + x1) - (M 174 x7))) + (x2 * (M 171 (x3 + (M 174 x7)))))) 171 ((x5 + (M 174 x7)) - x1))) dX9_joinValue_176 sh171 q152 rfl ?_
                    refine z_iload dX9_joinValue_177 rfl ?_
                    obtain ⟨q153, h⟩ := h
                    refine z_iadd dX9_joinValue_179 q153 ?_
                    obtain ⟨q154, h⟩ := h
                    refine y_iast hG dX9_joinValue_180 sh171 q154 ?_
                    obtain ⟨q155, h⟩ := h
                    refine y_iinc (ls' := [(2, 170), (0, x1), (0, x2), (0, x3), (0, x4), (0, x5), (0, x6), (0, (x7 + 1)), (0, (M 174 x7)), (0, (x2 * (M 171 (x3 + (M 174 x7))))), (0, (x2 * (M 171 (x3 + (M 174 x7)))))]) dX9_joinValue_181 rfl rfl q155 rfl ?_
                    refine z_goto (tgt := 3) dX9_joinValue_184 rfl ?_
                    refine z_sub (ls' := [(2, 170), (0, x1), (0, x2), (0, x3), (0, x4), (0, x5), (0, x6), (0, (x7 + 1)), (9, 0), (9, 0), (9, 0)]) ⟨Or.inl rfl, Or.inl rfl, Or.inl rfl, Or.inl rfl, Or.inl rfl, Or.inl rfl, Or.inl rfl, Or.inl rfl, Or.inr rfl, Or.inr rfl, Or.inr rfl, trivial⟩ ?_
                    exact h
            · replace h := h.2 q
              refine z_aloadn dX9_joinValue_105 rfl (Or.inl rfl) ?_
              refine y_getr (v := 171) hG dX9_joinValue_106 fX9_10 sh170 (by decide) rfl (by decide +kernel) (by decide) ?_
              refine z_iload dX9_joinValue_109 rfl ?_
              refine z_iloadn dX9_joinValue_111 rfl ?_
              refine z_iload dX9_joinValue_112 rfl ?_
              obtain ⟨q156, h⟩ := h
              refine z_imul dX9_joinValue_114 q156 ?_
              obtain ⟨q157, h⟩ := h
              refine z_iadd dX9_joinValue_115 q157 ?_
              refine z_dup2 dX9_joinValue_116 (show (0 : Nat) ≠ 1 by decide) (show (2 : Nat) ≠ 1 by decide) ?_
              obtain ⟨q158, h⟩ := h
              refine y_iald (x := ((zset M 171 ((x5 + x1) + (M 174 x7)) ((M 171 ((x5 + x1) + (M 174 x7))) + (x2 * (M 171 (x3 + (M 174 x7)))))) 171 (x5 + (x1 * (M 174 x7))))) dX9_joinValue_117 sh171 q158 rfl ?_
              refine z_iload dX9_joinValue_118 rfl ?_
              obtain ⟨q159, h⟩ := h
              refine z_iadd dX9_joinValue_120 q159 ?_
              obtain ⟨q160, h⟩ := h
              refine y_iast hG dX9_joinValue_121 sh171 q160 ?_
              refine z_iloadn dX9_joinValue_122 rfl ?_
              refine z_iload dX9_joinValue_123 rfl ?_
              obtain ⟨q161, h⟩ := h
              refine z_isub dX9_joinValue_125 q161 ?_
              refine z_sipush dX9_joinValue_126 ks_m500 ?_
              refine z_icmplt (tgt := 181) dX9_joinValue_129 rfl (fun q => ?_) (fun q => ?_)
              · replace h := h.1 q
                obtain ⟨q162, h⟩ := h
                refine y_iinc (ls' := [(2, 170), (0, x1), (0, x2), (0, x3), (0, x4), (0, x5), (0, x6), (0, (x7 + 1)), (0, (M 174 x7)), (0, (x2 * (M 171 (x3 + (M 174 x7))))), (0, (x2 * (M 171 (x3 + (M 174 x7)))))]) dX9_joinValue_181 rfl rfl q162 rfl ?_
                refine z_goto (tgt := 3) dX9_joinValue_184 rfl ?_
                refine z_sub (ls' := [(2, 170), (0, x1), (0, x2), (0, x3), (0, x4), (0, x5), (0, x6), (0, (x7 + 1)), (9, 0), (9, 0), (9, 0)]) ⟨Or.inl rfl, Or.inl rfl, Or.inl rfl, Or.inl rfl, Or.inl rfl, Or.inl rfl, Or.inl rfl, Or.inl rfl, Or.inr rfl, Or.inr rfl, Or.inr rfl, trivial⟩ ?_
                exact h
              · replace h := h.2 q
                refine z_iloadn dX9_joinValue_132 rfl ?_
                refine z_iload dX9_joinValue_133 rfl ?_
                obtain ⟨q163, h⟩ := h
                refine z_isub dX9_joinValue_135 q163 ?_
                refine z_sipush dX9_joinValue_136 ks_500 ?_
                refine z_icmpgt (tgt := 181) dX9_joinValue_139 rfl (fun q => ?_) (fun q => ?_)
                · replace h := h.1 q
                  obtain ⟨q164, h⟩ := h
                  refine y_iinc (ls' := [(2, 170), (0, x1), (0, x2), (0, x3), (0, x4), (0, x5), (0, x6), (0, (x7 + 1)), (0, (M 174 x7)), (0, (x2 * (M 171 (x3 + (M 174 x7))))), (0, (x2 * (M 171 (x3 + (M 174 x7)))))]) dX9_joinValue_181 rfl rfl q164 rfl ?_
                  refine z_goto (tgt := 3) dX9_joinValue_184 rfl ?_
                  refine z_sub (ls' := [(2, 170), (0, x1), (0, x2), (0, x3), (0, x4), (0, x5), (0, x6), (0, (x7 + 1)), (9, 0), (9, 0), (9, 0)]) ⟨Or.inl rfl, Or.inl rfl, Or.inl rfl, Or.inl rfl, Or.inl rfl, Or.inl rfl, Or.inl rfl, Or.inl rfl, Or.inr rfl, Or.inr rfl, Or.inr rfl, trivial⟩ ?_
                  exact h
                · replace h := h.2 q
                  refine z_aloadn dX9_joinValue_142 rfl (Or.inl rfl) ?_
                  refine y_getr (v := 171) hG dX9_joinValue_143 fX9_10 sh170 (by decide) rfl (by decide +kernel) (by decide) ?_
                  refine z_iload dX9_joinValue_146 rfl ?_
                  refine z_iloadn dX9_joinValue_148 rfl ?_
                  obtain ⟨q165, h⟩ := h
                  refine z_iadd dX9_joinValue_149 q165 ?_
                  refine z_iload dX9_joinValue_150 rfl ?_
                  obtain ⟨q166, h⟩ := h
                  refine z_isub dX9_joinValue_152 q166 ?_
                  refine z_dup2 dX9_joinValue_153 (show (0 : Nat) ≠ 1 by decide) (show (2 : Nat) ≠ 1 by decide) ?_
                  obtain ⟨q167, h⟩ := h
                  refine y_iald (x := ((zset (zset M 171 ((x5 + x1) + (M 174 x7)) ((M 171 ((x5 + x1) + (M 174 x7))) + (x2 * (M 171 (x3 + (M 174 x7)))))) 171 (x5 + (x1 * (M 174 x7))) (((zset M 171 ((x5 + x1) + (M 174 x7)) ((M 171 ((x5 + x1) + (M 174 x7))) + (x2 * (M 171 (x3 + (M 174 x7)))))) 171 (x5 + (x1 * (M 174 x7)))) + (x2 * (M 171 (x3 + (M 174 x7)))))) 171 ((x5 + x1) - (M 174 x7)))) dX9_joinValue_154 sh171 q167 rfl ?_
                  refine z_iload dX9_joinValue_155 rfl ?_
                  obtain ⟨q168, h⟩ := h
                  refine z_iadd dX9_joinValue_157 q168 ?_
                  obtain ⟨q169, h⟩ := h
                  refine y_iast hG dX9_joinValue_158 sh171 q169 ?_
                  refine z_iload dX9_joinValue_159 rfl ?_
                  refine z_ifeq (tgt := 181) dX9_joinValue_161 rfl (fun q => ?_) (fun q => ?_)
                  · replace h := h.1 q
                    obtain ⟨q170, h⟩ := h
                    refine y_iinc (ls' := [(2, 170), (0, x1), (0, x2), (0, x3), (0, x4), (0, x5), (0, x6), (0, (x7 + 1)), (0, (M 174 x7)), (0, (x2 * (M 171 (x3 + (M 174 x7))))), (0, (x2 * (M 171 (x3 + (M 174 x7)))))]) dX9_joinValue_181 rfl rfl q170 rfl ?_
                    refine z_goto (tgt := 3) dX9_joinValue_184 rfl ?_
                    refine z_sub (ls' := [(2, 170), (0, x1), (0, x2), (0, x3), (0, x4), (0, x5), (0, x6), (0, (x7 + 1)), (9, 0), (9, 0), (9, 0)]) ⟨Or.inl rfl, Or.inl rfl, Or.inl rfl, Or.inl rfl, Or.inl rfl, Or.inl rfl, Or.inl rfl, Or.inl rfl, Or.inr rfl, Or.inr rfl, Or.inr rfl, trivial⟩ ?_
                    exact h
                  · replace h := h.2 q
                    refine z_aloadn dX9_joinValue_164 rfl (Or.inl rfl) ?_
                    refine y_getr (v := 171) hG dX9_joinValue_165 fX9_10 sh170 (by decide) rfl (by decide +kernel) (by decide) ?_
                    refine z_iload dX9_joinValue_168 rfl ?_
                    refine z_iload dX9_joinValue_170 rfl ?_
                    obtain ⟨q171, h⟩ := h
                    refine z_iadd dX9_joinValue_172 q171 ?_
                    refine z_iloadn dX9_joinValue_173 rfl ?_
                    obtain ⟨q172, h⟩ := h
                    refine z_isub dX9_joinValue_174 q172 ?_
                    refine z_dup2 dX9_joinValue_175 (show (0 : Nat) ≠ 1 by decide) (show (2 : Nat) ≠ 1 by decide) ?_
                    obtain ⟨q173, h⟩ := h
                    refine y_iald (x := ((zset (zset (zset M 171 ((x5 + x1) + (M 174 x7)) ((M 171 ((x5 + x1) + (M 174 x7))) + (x2 * (M 171 (x3 + (M 174 x7)))))) 171 (x5 + (x1 * (M 174 x7))) (((zset M 171 ((x5 + x1) + (M 174 x7)) ((M 171 ((x5 + x1) + (M 174 x7))) + (x2 * (M 171 (x3 + (M 174 x7)))))) 171 (x5 + (x1 * (M 174 x7)))) + (x2 * (M 171 (x3 + (M 174 x7)))))) 171 ((x5 + x1) - (M 174 x7)) (((zset (zset M 171 ((x5 + x1) + (M 174 x7)) ((M 171 ((x5 + x1) + (M 174 x7))) + (x2 * (M 171 (x3 + (M 174 x7)))))) 171 (x5 + (x1 * (M 174 x7))) (((zset M 171 ((x5 + x1) + (M 174 x7)) ((M 171 ((x5 + x1) + (M 174 x7))) + (x2 * (M 171 (x3 + (M 174 x7)))))) 171 (x5 + (x1 * (M 174 x7)))) + (x2 * (M 171 (x3 + (M 174 x7)))))) 171 ((x5 + x1) - (M 174 x7))) + (x2 * (M 171 (x3 + (M 174 x7)))))) 171 ((x5 + (M 174 x7)) - x1))) dX9_joinValue_176 sh171 q173 rfl ?_
                    refine z_iload dX9_joinValue_177 rfl ?_
                    obtain ⟨q174, h⟩ := h
                    refine z_iadd dX9_joinValue_179 q174 ?_
                    obtain ⟨q175, h⟩ := h
                    refine y_iast hG dX9_joinValue_180 sh171 q175 ?_
                    obtain ⟨q176, h⟩ := h
                    refine y_iinc (ls' := [(2, 170), (0, x1), (0, x2), (0, x3), (0, x4), (0, x5), (0, x6), (0, (x7 + 1)), (0, (M 174 x7)), (0, (x2 * (M 171 (x3 + (M 174 x7))))), (0, (x2 * (M 171 (x3 + (M 174 x7)))))]) dX9_joinValue_181 rfl rfl q176 rfl ?_
                    refine z_goto (tgt := 3) dX9_joinValue_184 rfl ?_
                    refine z_sub (ls' := [(2, 170), (0, x1), (0, x2), (0, x3), (0, x4), (0, x5), (0, x6), (0, (x7 + 1)), (9, 0), (9, 0), (9, 0)]) ⟨Or.inl rfl, Or.inl rfl, Or.inl rfl, Or.inl rfl, Or.inl rfl, Or.inl rfl, Or.inl rfl, Or.inl rfl, Or.inr rfl, Or.inr rfl, Or.inr rfl, trivial⟩ ?_
                    exact h
    · replace h := h.2 q
      refine z_iconst dX9_joinValue_37 ki_2 ?_
      refine z_iload dX9_joinValue_38 rfl ?_
      obtain ⟨q177, h⟩ := h
      refine z_imul dX9_joinValue_40 q177 ?_
      refine z_goto (tgt := 46) dX9_joinValue_41 rfl ?_
      refine y_istore (ls' := [(2, 170), (0, x1), (0, x2), (0, x3), (0, x4), (0, x5), (0, x6), (0, x7), (0, (M 174 x7)), (0, (x2 * (M 171 (x3 + (M 174 x7))))), (0, (2 * (x2 * (M 171 (x3 + (M 174 x7))))))]) dX9_joinValue_46 rfl rfl ?_
      refine z_iloadn dX9_joinValue_48 rfl ?_
      refine z_iload dX9_joinValue_49 rfl ?_
      obtain ⟨q178, h⟩ := h
      refine z_iadd dX9_joinValue_51 q178 ?_
      refine z_sipush dX9_joinValue_52 ks_m500 ?_
      refine z_icmplt (tgt := 85) dX9_joinValue_55 rfl (fun q => ?_) (fun q => ?_)
      · replace h := h.1 q
        refine z_iloadn dX9_joinValue_85 rfl ?_
        refine z_iload dX9_joinValue_86 rfl ?_
        obtain ⟨q179, h⟩ := h
        refine z_imul dX9_joinValue_88 q179 ?_
        refine z_sipush dX9_joinValue_89 ks_m500 ?_
        refine z_icmplt (tgt := 122) dX9_joinValue_92 rfl (fun q => ?_) (fun q => ?_)
        · replace h := h.1 q
          refine z_iloadn dX9_joinValue_122 rfl ?_
          refine z_iload dX9_joinValue_123 rfl ?_
          obtain ⟨q180, h⟩ := h
          refine z_isub dX9_joinValue_125 q180 ?_
          refine z_sipush dX9_joinValue_126 ks_m500 ?_
          refine z_icmplt (tgt := 181) dX9_joinValue_129 rfl (fun q => ?_) (fun q => ?_)
          · replace h := h.1 q
            obtain ⟨q181, h⟩ := h
            refine y_iinc (ls' := [(2, 170), (0, x1), (0, x2), (0, x3), (0, x4), (0, x5), (0, x6), (0, (x7 + 1)), (0, (M 174 x7)), (0, (x2 * (M 171 (x3 + (M 174 x7))))), (0, (2 * (x2 * (M 171 (x3 + (M 174 x7))))))]) dX9_joinValue_181 rfl rfl q181 rfl ?_
            refine z_goto (tgt := 3) dX9_joinValue_184 rfl ?_
            refine z_sub (ls' := [(2, 170), (0, x1), (0, x2), (0, x3), (0, x4), (0, x5), (0, x6), (0, (x7 + 1)), (9, 0), (9, 0), (9, 0)]) ⟨Or.inl rfl, Or.inl rfl, Or.inl rfl, Or.inl rfl, Or.inl rfl, Or.inl rfl, Or.inl rfl, Or.inl rfl, Or.inr rfl, Or.inr rfl, Or.inr rfl, trivial⟩ ?_
            exact h
          · replace h := h.2 q
            refine z_iloadn dX9_joinValue_132 rfl ?_
            refine z_iload dX9_joinValue_133 rfl ?_
            obtain ⟨q182, h⟩ := h
            refine z_isub dX9_joinValue_135 q182 ?_
            refine z_sipush dX9_joinValue_136 ks_500 ?_
            refine z_icmpgt (tgt := 181) dX9_joinValue_139 rfl (fun q => ?_) (fun q => ?_)
            · replace h := h.1 q
              obtain ⟨q183, h⟩ := h
              refine y_iinc (ls' := [(2, 170), (0, x1), (0, x2), (0, x3), (0, x4), (0, x5), (0, x6), (0, (x7 + 1)), (0, (M 174 x7)), (0, (x2 * (M 171 (x3 + (M 174 x7))))), (0, (2 * (x2 * (M 171 (x3 + (M 174 x7))))))]) dX9_joinValue_181 rfl rfl q183 rfl ?_
              refine z_goto (tgt := 3) dX9_joinValue_184 rfl ?_
              refine z_sub (ls' := [(2, 170), (0, x1), (0, x2), (0, x3), (0, x4), (0, x5), (0, x6), (0, (x7 + 1)), (9, 0), (9, 0), (9, 0)]) ⟨Or.inl rfl, Or.inl rfl, Or.inl rfl, Or.inl rfl, Or.inl rfl, Or.inl rfl, Or.inl rfl, Or.inl rfl, Or.inr rfl, Or.inr rfl, Or.inr rfl, trivial⟩ ?_
              exact h
            · replace h := h.2 q
              refine z_aloadn dX9_joinValue_142 rfl (Or.inl rfl) ?_
              refine y_getr (v := 171) hG dX9_joinValue_143 fX9_10 sh170 (by decide) rfl (by decide +kernel) (by decide) ?_
              refine z_iload dX9_joinValue_146 rfl ?_
              refine z_iloadn dX9_joinValue_148 rfl ?_
              obtain ⟨q184, h⟩ := h
              refine z_iadd dX9_joinValue_149 q184 ?_
              refine z_iload dX9_joinValue_150 rfl ?_
              obtain ⟨q185, h⟩ := h
              refine z_isub dX9_joinValue_152 q185 ?_
              refine z_dup2 dX9_joinValue_153 (show (0 : Nat) ≠ 1 by decide) (show (2 : Nat) ≠ 1 by decide) ?_
              obtain ⟨q186, h⟩ := h
              refine y_iald (x := (M 171 ((x5 + x1) - (M 174 x7)))) dX9_joinValue_154 sh171 q186 rfl ?_
              refine z_iload dX9_joinValue_155 rfl ?_
              obtain ⟨q187, h⟩ := h
              refine z_iadd dX9_joinValue_157 q187 ?_
              obtain ⟨q188, h⟩ := h
              refine y_iast hG dX9_joinValue_158 sh171 q188 ?_
              refine z_iload dX9_joinValue_159 rfl ?_
              refine z_ifeq (tgt := 181) dX9_joinValue_161 rfl (fun q => ?_) (fun q => ?_)
              · replace h := h.1 q
                obtain ⟨q189, h⟩ := h
                refine y_iinc (ls' := [(2, 170), (0, x1), (0, x2), (0, x3), (0, x4), (0, x5), (0, x6), (0, (x7 + 1)), (0, (M 174 x7)), (0, (x2 * (M 171 (x3 + (M 174 x7))))), (0, (2 * (x2 * (M 171 (x3 + (M 174 x7))))))]) dX9_joinValue_181 rfl rfl q189 rfl ?_
                refine z_goto (tgt := 3) dX9_joinValue_184 rfl ?_
                refine z_sub (ls' := [(2, 170), (0, x1), (0, x2), (0, x3), (0, x4), (0, x5), (0, x6), (0, (x7 + 1)), (9, 0), (9, 0), (9, 0)]) ⟨Or.inl rfl, Or.inl rfl, Or.inl rfl, Or.inl rfl, Or.inl rfl, Or.inl rfl, Or.inl rfl, Or.inl rfl, Or.inr rfl, Or.inr rfl, Or.inr rfl, trivial⟩ ?_
                exact h
              · replace h := h.2 q
                refine z_aloadn dX9_joinValue_164 rfl (Or.inl rfl) ?_
                refine y_getr (v := 171) hG dX9_joinValue_165 fX9_10 sh170 (by decide) rfl (by decide +kernel) (by decide) ?_
                refine z_iload dX9_joinValue_168 rfl ?_
                refine z_iload dX9_joinValue_170 rfl ?_
                obtain ⟨q190, h⟩ := h
                refine z_iadd dX9_joinValue_172 q190 ?_
                refine z_iloadn dX9_joinValue_173 rfl ?_
                obtain ⟨q191, h⟩ := h
                refine z_isub dX9_joinValue_174 q191 ?_
                refine z_dup2 dX9_joinValue_175 (show (0 : Nat) ≠ 1 by decide) (show (2 : Nat) ≠ 1 by decide) ?_
                obtain ⟨q192, h⟩ := h
                refine y_iald (x := ((zset M 171 ((x5 + x1) - (M 174 x7)) ((M 171 ((x5 + x1) - (M 174 x7))) + (x2 * (M 171 (x3 + (M 174 x7)))))) 171 ((x5 + (M 174 x7)) - x1))) dX9_joinValue_176 sh171 q192 rfl ?_
                refine z_iload dX9_joinValue_177 rfl ?_
                obtain ⟨q193, h⟩ := h
                refine z_iadd dX9_joinValue_179 q193 ?_
                obtain ⟨q194, h⟩ := h
                refine y_iast hG dX9_joinValue_180 sh171 q194 ?_
                obtain ⟨q195, h⟩ := h
                refine y_iinc (ls' := [(2, 170), (0, x1), (0, x2), (0, x3), (0, x4), (0, x5), (0, x6), (0, (x7 + 1)), (0, (M 174 x7)), (0, (x2 * (M 171 (x3 + (M 174 x7))))), (0, (2 * (x2 * (M 171 (x3 + (M 174 x7))))))]) dX9_joinValue_181 rfl rfl q195 rfl ?_
                refine z_goto (tgt := 3) dX9_joinValue_184 rfl ?_
                refine z_sub (ls' := [(2, 170), (0, x1), (0, x2), (0, x3), (0, x4), (0, x5), (0, x6), (0, (x7 + 1)), (9, 0), (9, 0), (9, 0)]) ⟨Or.inl rfl, Or.inl rfl, Or.inl rfl, Or.inl rfl, Or.inl rfl, Or.inl rfl, Or.inl rfl, Or.inl rfl, Or.inr rfl, Or.inr rfl, Or.inr rfl, trivial⟩ ?_
                exact h
        · replace h := h.2 q
          refine z_iloadn dX9_joinValue_95 rfl ?_
          refine z_iload dX9_joinValue_96 rfl ?_
          obtain ⟨q196, h⟩ := h
          refine z_imul dX9_joinValue_98 q196 ?_
          refine z_sipush dX9_joinValue_99 ks_500 ?_
          refine z_icmpgt (tgt := 122) dX9_joinValue_102 rfl (fun q => ?_) (fun q => ?_)
          · replace h := h.1 q
            refine z_iloadn dX9_joinValue_122 rfl ?_
            refine z_iload dX9_joinValue_123 rfl ?_
            obtain ⟨q197, h⟩ := h
            refine z_isub dX9_joinValue_125 q197 ?_
            refine z_sipush dX9_joinValue_126 ks_m500 ?_
            refine z_icmplt (tgt := 181) dX9_joinValue_129 rfl (fun q => ?_) (fun q => ?_)
            · replace h := h.1 q
              obtain ⟨q198, h⟩ := h
              refine y_iinc (ls' := [(2, 170), (0, x1), (0, x2), (0, x3), (0, x4), (0, x5), (0, x6), (0, (x7 + 1)), (0, (M 174 x7)), (0, (x2 * (M 171 (x3 + (M 174 x7))))), (0, (2 * (x2 * (M 171 (x3 + (M 174 x7))))))]) dX9_joinValue_181 rfl rfl q198 rfl ?_
              refine z_goto (tgt := 3) dX9_joinValue_184 rfl ?_
              refine z_sub (ls' := [(2, 170), (0, x1), (0, x2), (0, x3), (0, x4), (0, x5), (0, x6), (0, (x7 + 1)), (9, 0), (9, 0), (9, 0)]) ⟨Or.inl rfl, Or.inl rfl, Or.inl rfl, Or.inl rfl, Or.inl rfl, Or.inl rfl, Or.inl rfl, Or.inl rfl, Or.inr rfl, Or.inr rfl, Or.inr rfl, trivial⟩ ?_
              exact h
            · replace h := h.2 q
              refine z_iloadn dX9_joinValue_132 rfl ?_
              refine z_iload dX9_joinValue_133 rfl ?_
              obtain ⟨q199, h⟩ := h
              refine z_isub dX9_joinValue_135 q199 ?_
              refine z_sipush dX9_joinValue_136 ks_500 ?_
              refine z_icmpgt (tgt := 181) dX9_joinValue_139 rfl (fun q => ?_) (fun q => ?_)
              · replace h := h.1 q
                obtain ⟨q200, h⟩ := h
                refine y_iinc (ls' := [(2, 170), (0, x1), (0, x2), (0, x3), (0, x4), (0, x5), (0, x6), (0, (x7 + 1)), (0, (M 174 x7)), (0, (x2 * (M 171 (x3 + (M 174 x7))))), (0, (2 * (x2 * (M 171 (x3 + (M 174 x7))))))]) dX9_joinValue_181 rfl rfl q200 rfl ?_
                refine z_goto (tgt := 3) dX9_joinValue_184 rfl ?_
                refine z_sub (ls' := [(2, 170), (0, x1), (0, x2), (0, x3), (0, x4), (0, x5), (0, x6), (0, (x7 + 1)), (9, 0), (9, 0), (9, 0)]) ⟨Or.inl rfl, Or.inl rfl, Or.inl rfl, Or.inl rfl, Or.inl rfl, Or.inl rfl, Or.inl rfl, Or.inl rfl, Or.inr rfl, Or.inr rfl, Or.inr rfl, trivial⟩ ?_
                exact h
              · replace h := h.2 q
                refine z_aloadn dX9_joinValue_142 rfl (Or.inl rfl) ?_
                refine y_getr (v := 171) hG dX9_joinValue_143 fX9_10 sh170 (by decide) rfl (by decide +kernel) (by decide) ?_
                refine z_iload dX9_joinValue_146 rfl ?_
                refine z_iloadn dX9_joinValue_148 rfl ?_
                obtain ⟨q201, h⟩ := h
                refine z_iadd dX9_joinValue_149 q201 ?_
                refine z_iload dX9_joinValue_150 rfl ?_
                obtain ⟨q202, h⟩ := h
                refine z_isub dX9_joinValue_152 q202 ?_
                refine z_dup2 dX9_joinValue_153 (show (0 : Nat) ≠ 1 by decide) (show (2 : Nat) ≠ 1 by decide) ?_
                obtain ⟨q203, h⟩ := h
                refine y_iald (x := (M 171 ((x5 + x1) - (M 174 x7)))) dX9_joinValue_154 sh171 q203 rfl ?_
                refine z_iload dX9_joinValue_155 rfl ?_
                obtain ⟨q204, h⟩ := h
                refine z_iadd dX9_joinValue_157 q204 ?_
                obtain ⟨q205, h⟩ := h
                refine y_iast hG dX9_joinValue_158 sh171 q205 ?_
                refine z_iload dX9_joinValue_159 rfl ?_
                refine z_ifeq (tgt := 181) dX9_joinValue_161 rfl (fun q => ?_) (fun q => ?_)
                · replace h := h.1 q
                  obtain ⟨q206, h⟩ := h
                  refine y_iinc (ls' := [(2, 170), (0, x1), (0, x2), (0, x3), (0, x4), (0, x5), (0, x6), (0, (x7 + 1)), (0, (M 174 x7)), (0, (x2 * (M 171 (x3 + (M 174 x7))))), (0, (2 * (x2 * (M 171 (x3 + (M 174 x7))))))]) dX9_joinValue_181 rfl rfl q206 rfl ?_
                  refine z_goto (tgt := 3) dX9_joinValue_184 rfl ?_
                  refine z_sub (ls' := [(2, 170), (0, x1), (0, x2), (0, x3), (0, x4), (0, x5), (0, x6), (0, (x7 + 1)), (9, 0), (9, 0), (9, 0)]) ⟨Or.inl rfl, Or.inl rfl, Or.inl rfl, Or.inl rfl, Or.inl rfl, Or.inl rfl, Or.inl rfl, Or.inl rfl, Or.inr rfl, Or.inr rfl, Or.inr rfl, trivial⟩ ?_
                  exact h
                · replace h := h.2 q
                  refine z_aloadn dX9_joinValue_164 rfl (Or.inl rfl) ?_
                  refine y_getr (v := 171) hG dX9_joinValue_165 fX9_10 sh170 (by decide) rfl (by decide +kernel) (by decide) ?_
                  refine z_iload dX9_joinValue_168 rfl ?_
                  refine z_iload dX9_joinValue_170 rfl ?_
                  obtain ⟨q207, h⟩ := h
                  refine z_iadd dX9_joinValue_172 q207 ?_
                  refine z_iloadn dX9_joinValue_173 rfl ?_
                  obtain ⟨q208, h⟩ := h
                  refine z_isub dX9_joinValue_174 q208 ?_
                  refine z_dup2 dX9_joinValue_175 (show (0 : Nat) ≠ 1 by decide) (show (2 : Nat) ≠ 1 by decide) ?_
                  obtain ⟨q209, h⟩ := h
                  refine y_iald (x := ((zset M 171 ((x5 + x1) - (M 174 x7)) ((M 171 ((x5 + x1) - (M 174 x7))) + (x2 * (M 171 (x3 + (M 174 x7)))))) 171 ((x5 + (M 174 x7)) - x1))) dX9_joinValue_176 sh171 q209 rfl ?_
                  refine z_iload dX9_joinValue_177 rfl ?_
                  obtain ⟨q210, h⟩ := h
                  refine z_iadd dX9_joinValue_179 q210 ?_
                  obtain ⟨q211, h⟩ := h
                  refine y_iast hG dX9_joinValue_180 sh171 q211 ?_
                  obtain ⟨q212, h⟩ := h
                  refine y_iinc (ls' := [(2, 170), (0, x1), (0, x2), (0, x3), (0, x4), (0, x5), (0, x6), (0, (x7 + 1)), (0, (M 174 x7)), (0, (x2 * (M 171 (x3 + (M 174 x7))))), (0, (2 * (x2 * (M 171 (x3 + (M 174 x7))))))]) dX9_joinValue_181 rfl rfl q212 rfl ?_
                  refine z_goto (tgt := 3) dX9_joinValue_184 rfl ?_
                  refine z_sub (ls' := [(2, 170), (0, x1), (0, x2), (0, x3), (0, x4), (0, x5), (0, x6), (0, (x7 + 1)), (9, 0), (9, 0), (9, 0)]) ⟨Or.inl rfl, Or.inl rfl, Or.inl rfl, Or.inl rfl, Or.inl rfl, Or.inl rfl, Or.inl rfl, Or.inl rfl, Or.inr rfl, Or.inr rfl, Or.inr rfl, trivial⟩ ?_
                  exact h
          · replace h := h.2 q
            refine z_aloadn dX9_joinValue_105 rfl (Or.inl rfl) ?_
            refine y_getr (v := 171) hG dX9_joinValue_106 fX9_10 sh170 (by decide) rfl (by decide +kernel) (by decide) ?_
            refine z_iload dX9_joinValue_109 rfl ?_
            refine z_iloadn dX9_joinValue_111 rfl ?_
            refine z_iload dX9_joinValue_112 rfl ?_
            obtain ⟨q213, h⟩ := h
            refine z_imul dX9_joinValue_114 q213 ?_
            obtain ⟨q214, h⟩ := h
            refine z_iadd dX9_joinValue_115 q214 ?_
            refine z_dup2 dX9_joinValue_116 (show (0 : Nat) ≠ 1 by decide) (show (2 : Nat) ≠ 1 by decide) ?_
            obtain ⟨q215, h⟩ := h
            refine y_iald (x := (M 171 (x5 + (x1 * (M 174 x7))))) dX9_joinValue_117 sh171 q215 rfl ?_
            refine z_iload dX9_joinValue_118 rfl ?_
            obtain ⟨q216, h⟩ := h
            refine z_iadd dX9_joinValue_120 q216 ?_
            obtain ⟨q217, h⟩ := h
            refine y_iast hG dX9_joinValue_121 sh171 q217 ?_
            refine z_iloadn dX9_joinValue_122 rfl ?_
            refine z_iload dX9_joinValue_123 rfl ?_
            obtain ⟨q218, h⟩ := h
            refine z_isub dX9_joinValue_125 q218 ?_
            refine z_sipush dX9_joinValue_126 ks_m500 ?_
            refine z_icmplt (tgt := 181) dX9_joinValue_129 rfl (fun q => ?_) (fun q => ?_)
            · replace h := h.1 q
              obtain ⟨q219, h⟩ := h
              refine y_iinc (ls' := [(2, 170), (0, x1), (0, x2), (0, x3), (0, x4), (0, x5), (0, x6), (0, (x7 + 1)), (0, (M 174 x7)), (0, (x2 * (M 171 (x3 + (M 174 x7))))), (0, (2 * (x2 * (M 171 (x3 + (M 174 x7))))))]) dX9_joinValue_181 rfl rfl q219 rfl ?_
              refine z_goto (tgt := 3) dX9_joinValue_184 rfl ?_
              refine z_sub (ls' := [(2, 170), (0, x1), (0, x2), (0, x3), (0, x4), (0, x5), (0, x6), (0, (x7 + 1)), (9, 0), (9, 0), (9, 0)]) ⟨Or.inl rfl, Or.inl rfl, Or.inl rfl, Or.inl rfl, Or.inl rfl, Or.inl rfl, Or.inl rfl, Or.inl rfl, Or.inr rfl, Or.inr rfl, Or.inr rfl, trivial⟩ ?_
              exact h
            · replace h := h.2 q
              refine z_iloadn dX9_joinValue_132 rfl ?_
              refine z_iload dX9_joinValue_133 rfl ?_
              obtain ⟨q220, h⟩ := h
              refine z_isub dX9_joinValue_135 q220 ?_
              refine z_sipush dX9_joinValue_136 ks_500 ?_
              refine z_icmpgt (tgt := 181) dX9_joinValue_139 rfl (fun q => ?_) (fun q => ?_)
              · replace h := h.1 q
                obtain ⟨q221, h⟩ := h
                refine y_iinc (ls' := [(2, 170), (0, x1), (0, x2), (0, x3), (0, x4), (0, x5), (0, x6), (0, (x7 + 1)), (0, (M 174 x7)), (0, (x2 * (M 171 (x3 + (M 174 x7))))), (0, (2 * (x2 * (M 171 (x3 + (M 174 x7))))))]) dX9_joinValue_181 rfl rfl q221 rfl ?_
                refine z_goto (tgt := 3) dX9_joinValue_184 rfl ?_
                refine z_sub (ls' := [(2, 170), (0, x1), (0, x2), (0, x3), (0, x4), (0, x5), (0, x6), (0, (x7 + 1)), (9, 0), (9, 0), (9, 0)]) ⟨Or.inl rfl, Or.inl rfl, Or.inl rfl, Or.inl rfl, Or.inl rfl, Or.inl rfl, Or.inl rfl, Or.inl rfl, Or.inr rfl, Or.inr rfl, Or.inr rfl, trivial⟩ ?_
                exact h
              · replace h := h.2 q
                refine z_aloadn dX9_joinValue_142 rfl (Or.inl rfl) ?_
                refine y_getr (v := 171) hG dX9_joinValue_143 fX9_10 sh170 (by decide) rfl (by decide +kernel) (by decide) ?_
                refine z_iload dX9_joinValue_146 rfl ?_
                refine z_iloadn dX9_joinValue_148 rfl ?_
                obtain ⟨q222, h⟩ := h
                refine z_iadd dX9_joinValue_149 q222 ?_
                refine z_iload dX9_joinValue_150 rfl ?_
                obtain ⟨q223, h⟩ := h
                refine z_isub dX9_joinValue_152 q223 ?_
                refine z_dup2 dX9_joinValue_153 (show (0 : Nat) ≠ 1 by decide) (show (2 : Nat) ≠ 1 by decide) ?_
                obtain ⟨q224, h⟩ := h
                refine y_iald (x := ((zset M 171 (x5 + (x1 * (M 174 x7))) ((M 171 (x5 + (x1 * (M 174 x7)))) + (2 * (x2 * (M 171 (x3 + (M 174 x7))))))) 171 ((x5 + x1) - (M 174 x7)))) dX9_joinValue_154 sh171 q224 rfl ?_
                refine z_iload dX9_joinValue_155 rfl ?_
                obtain ⟨q225, h⟩ := h
                refine z_iadd dX9_joinValue_157 q225 ?_
                obtain ⟨q226, h⟩ := h
                refine y_iast hG dX9_joinValue_158 sh171 q226 ?_
                refine z_iload dX9_joinValue_159 rfl ?_
                refine z_ifeq (tgt := 181) dX9_joinValue_161 rfl (fun q => ?_) (fun q => ?_)
                · replace h := h.1 q
                  obtain ⟨q227, h⟩ := h
                  refine y_iinc (ls' := [(2, 170), (0, x1), (0, x2), (0, x3), (0, x4), (0, x5), (0, x6), (0, (x7 + 1)), (0, (M 174 x7)), (0, (x2 * (M 171 (x3 + (M 174 x7))))), (0, (2 * (x2 * (M 171 (x3 + (M 174 x7))))))]) dX9_joinValue_181 rfl rfl q227 rfl ?_
                  refine z_goto (tgt := 3) dX9_joinValue_184 rfl ?_
                  refine z_sub (ls' := [(2, 170), (0, x1), (0, x2), (0, x3), (0, x4), (0, x5), (0, x6), (0, (x7 + 1)), (9, 0), (9, 0), (9, 0)]) ⟨Or.inl rfl, Or.inl rfl, Or.inl rfl, Or.inl rfl, Or.inl rfl, Or.inl rfl, Or.inl rfl, Or.inl rfl, Or.inr rfl, Or.inr rfl, Or.inr rfl, trivial⟩ ?_
                  exact h
                · replace h := h.2 q
                  refine z_aloadn dX9_joinValue_164 rfl (Or.inl rfl) ?_
                  refine y_getr (v := 171) hG dX9_joinValue_165 fX9_10 sh170 (by decide) rfl (by decide +kernel) (by decide) ?_
                  refine z_iload dX9_joinValue_168 rfl ?_
                  refine z_iload dX9_joinValue_170 rfl ?_
                  obtain ⟨q228, h⟩ := h
                  refine z_iadd dX9_joinValue_172 q228 ?_
                  refine z_iloadn dX9_joinValue_173 rfl ?_
                  obtain ⟨q229, h⟩ := h
                  refine z_isub dX9_joinValue_174 q229 ?_
                  refine z_dup2 dX9_joinValue_175 (show (0 : Nat) ≠ 1 by decide) (show (2 : Nat) ≠ 1 by decide) ?_
                  obtain ⟨q230, h⟩ := h
                  refine y_iald (x := ((zset (zset M 171 (x5 + (x1 * (M 174 x7))) ((M 171 (x5 + (x1 * (M 174 x7)))) + (2 * (x2 * (M 171 (x3 + (M 174 x7))))))) 171 ((x5 + x1) - (M 174 x7)) (((zset M 171 (x5 + (x1 * (M 174 x7))) ((M 171 (x5 + (x1 * (M 174 x7)))) + (2 * (x2 * (M 171 (x3 + (M 174 x7))))))) 171 ((x5 + x1) - (M 174 x7))) + (x2 * (M 171 (x3 + (M 174 x7)))))) 171 ((x5 + (M 174 x7)) - x1))) dX9_joinValue_176 sh171 q230 rfl ?_
                  refine z_iload dX9_joinValue_177 rfl ?_
                  obtain ⟨q231, h⟩ := h
                  refine z_iadd dX9_joinValue_179 q231 ?_
                  obtain ⟨q232, h⟩ := h
                  refine y_iast hG dX9_joinValue_180 sh171 q232 ?_
                  obtain ⟨q233, h⟩ := h
                  refine y_iinc (ls' := [(2, 170), (0, x1), (0, x2), (0, x3), (0, x4), (0, x5), (0, x6), (0, (x7 + 1)), (0, (M 174 x7)), (0, (x2 * (M 171 (x3 + (M 174 x7))))), (0, (2 * (x2 * (M 171 (x3 + (M 174 x7))))))]) dX9_joinValue_181 rfl rfl q233 rfl ?_
                  refine z_goto (tgt := 3) dX9_joinValue_184 rfl ?_
                  refine z_sub (ls' := [(2, 170), (0, x1), (0, x2), (0, x3), (0, x4), (0, x5), (0, x6), (0, (x7 + 1)), (9, 0), (9, 0), (9, 0)]) ⟨Or.inl rfl, Or.inl rfl, Or.inl rfl, Or.inl rfl, Or.inl rfl, Or.inl rfl, Or.inl rfl, Or.inl rfl, Or.inr rfl, Or.inr rfl, Or.inr rfl, trivial⟩ ?_
                  exact h
      · replace h := h.2 q
        refine z_iloadn dX9_joinValue_58 rfl ?_
        refine z_iload dX9_joinValue_59 rfl ?_
        obtain ⟨q234, h⟩ := h
        refine z_iadd dX9_joinValue_61 q234 ?_
        refine z_sipush dX9_joinValue_62 ks_500 ?_
        refine z_icmpgt (tgt := 85) dX9_joinValue_65 rfl (fun q => ?_) (fun q => ?_)
        · replace h := h.1 q
          refine z_iloadn dX9_joinValue_85 rfl ?_
          refine z_iload dX9_joinValue_86 rfl ?_
          obtain ⟨q235, h⟩ := h
          refine z_imul dX9_joinValue_88 q235 ?_
          refine z_sipush dX9_joinValue_89 ks_m500 ?_
          refine z_icmplt (tgt := 122) dX9_joinValue_92 rfl (fun q => ?_) (fun q => ?_)
          · replace h := h.1 q
            refine z_iloadn dX9_joinValue_122 rfl ?_
            refine z_iload dX9_joinValue_123 rfl ?_
            obtain ⟨q236, h⟩ := h
            refine z_isub dX9_joinValue_125 q236 ?_
            refine z_sipush dX9_joinValue_126 ks_m500 ?_
            refine z_icmplt (tgt := 181) dX9_joinValue_129 rfl (fun q => ?_) (fun q => ?_)
            · replace h := h.1 q
              obtain ⟨q237, h⟩ := h
              refine y_iinc (ls' := [(2, 170), (0, x1), (0, x2), (0, x3), (0, x4), (0, x5), (0, x6), (0, (x7 + 1)), (0, (M 174 x7)), (0, (x2 * (M 171 (x3 + (M 174 x7))))), (0, (2 * (x2 * (M 171 (x3 + (M 174 x7))))))]) dX9_joinValue_181 rfl rfl q237 rfl ?_
              refine z_goto (tgt := 3) dX9_joinValue_184 rfl ?_
              refine z_sub (ls' := [(2, 170), (0, x1), (0, x2), (0, x3), (0, x4), (0, x5), (0, x6), (0, (x7 + 1)), (9, 0), (9, 0), (9, 0)]) ⟨Or.inl rfl, Or.inl rfl, Or.inl rfl, Or.inl rfl, Or.inl rfl, Or.inl rfl, Or.inl rfl, Or.inl rfl, Or.inr rfl, Or.inr rfl, Or.inr rfl, trivial⟩ ?_
              exact h
            · replace h := h.2 q
              refine z_iloadn dX9_joinValue_132 rfl ?_
              refine z_iload dX9_joinValue_133 rfl ?_
              obtain ⟨q238, h⟩ := h
              refine z_isub dX9_joinValue_135 q238 ?_
              refine z_sipush dX9_joinValue_136 ks_500 ?_
              refine z_icmpgt (tgt := 181) dX9_joinValue_139 rfl (fun q => ?_) (fun q => ?_)
              · replace h := h.1 q
                obtain ⟨q239, h⟩ := h
                refine y_iinc (ls' := [(2, 170), (0, x1), (0, x2), (0, x3), (0, x4), (0, x5), (0, x6), (0, (x7 + 1)), (0, (M 174 x7)), (0, (x2 * (M 171 (x3 + (M 174 x7))))), (0, (2 * (x2 * (M 171 (x3 + (M 174 x7))))))]) dX9_joinValue_181 rfl rfl q239 rfl ?_
                refine z_goto (tgt := 3) dX9_joinValue_184 rfl ?_
                refine z_sub (ls' := [(2, 170), (0, x1), (0, x2), (0, x3), (0, x4), (0, x5), (0, x6), (0, (x7 + 1)), (9, 0), (9, 0), (9, 0)]) ⟨Or.inl rfl, Or.inl rfl, Or.inl rfl, Or.inl rfl, Or.inl rfl, Or.inl rfl, Or.inl rfl, Or.inl rfl, Or.inr rfl, Or.inr rfl, Or.inr rfl, trivial⟩ ?_
                exact h
              · replace h := h.2 q
                refine z_aloadn dX9_joinValue_142 rfl (Or.inl rfl) ?_
                refine y_getr (v := 171) hG dX9_joinValue_143 fX9_10 sh170 (by decide) rfl (by decide +kernel) (by decide) ?_
                refine z_iload dX9_joinValue_146 rfl ?_
                refine z_iloadn dX9_joinValue_148 rfl ?_
                obtain ⟨q240, h⟩ := h
                refine z_iadd dX9_joinValue_149 q240 ?_
                refine z_iload dX9_joinValue_150 rfl ?_
                obtain ⟨q241, h⟩ := h
                refine z_isub dX9_joinValue_152 q241 ?_
                refine z_dup2 dX9_joinValue_153 (show (0 : Nat) ≠ 1 by decide) (show (2 : Nat) ≠ 1 by decide) ?_
                obtain ⟨q242, h⟩ := h
                refine y_iald (x := (M 171 ((x5 + x1) - (M 174 x7)))) dX9_joinValue_154 sh171 q242 rfl ?_
                refine z_iload dX9_joinValue_155 rfl ?_
                obtain ⟨q243, h⟩ := h
                refine z_iadd dX9_joinValue_157 q243 ?_
                obtain ⟨q244, h⟩ := h
                refine y_iast hG dX9_joinValue_158 sh171 q244 ?_
                refine z_iload dX9_joinValue_159 rfl ?_
                refine z_ifeq (tgt := 181) dX9_joinValue_161 rfl (fun q => ?_) (fun q => ?_)
                · replace h := h.1 q
                  obtain ⟨q245, h⟩ := h
                  refine y_iinc (ls' := [(2, 170), (0, x1), (0, x2), (0, x3), (0, x4), (0, x5), (0, x6), (0, (x7 + 1)), (0, (M 174 x7)), (0, (x2 * (M 171 (x3 + (M 174 x7))))), (0, (2 * (x2 * (M 171 (x3 + (M 174 x7))))))]) dX9_joinValue_181 rfl rfl q245 rfl ?_
                  refine z_goto (tgt := 3) dX9_joinValue_184 rfl ?_
                  refine z_sub (ls' := [(2, 170), (0, x1), (0, x2), (0, x3), (0, x4), (0, x5), (0, x6), (0, (x7 + 1)), (9, 0), (9, 0), (9, 0)]) ⟨Or.inl rfl, Or.inl rfl, Or.inl rfl, Or.inl rfl, Or.inl rfl, Or.inl rfl, Or.inl rfl, Or.inl rfl, Or.inr rfl, Or.inr rfl, Or.inr rfl, trivial⟩ ?_
                  exact h
                · replace h := h.2 q
                  refine z_aloadn dX9_joinValue_164 rfl (Or.inl rfl) ?_
                  refine y_getr (v := 171) hG dX9_joinValue_165 fX9_10 sh170 (by decide) rfl (by decide +kernel) (by decide) ?_
                  refine z_iload dX9_joinValue_168 rfl ?_
                  refine z_iload dX9_joinValue_170 rfl ?_
                  obtain ⟨q246, h⟩ := h
                  refine z_iadd dX9_joinValue_172 q246 ?_
                  refine z_iloadn dX9_joinValue_173 rfl ?_
                  obtain ⟨q247, h⟩ := h
                  refine z_isub dX9_joinValue_174 q247 ?_
                  refine z_dup2 dX9_joinValue_175 (show (0 : Nat) ≠ 1 by decide) (show (2 : Nat) ≠ 1 by decide) ?_
                  obtain ⟨q248, h⟩ := h
                  refine y_iald (x := ((zset M 171 ((x5 + x1) - (M 174 x7)) ((M 171 ((x5 + x1) - (M 174 x7))) + (x2 * (M 171 (x3 + (M 174 x7)))))) 171 ((x5 + (M 174 x7)) - x1))) dX9_joinValue_176 sh171 q248 rfl ?_
                  refine z_iload dX9_joinValue_177 rfl ?_
                  obtain ⟨q249, h⟩ := h
                  refine z_iadd dX9_joinValue_179 q249 ?_
                  obtain ⟨q250, h⟩ := h
                  refine y_iast hG dX9_joinValue_180 sh171 q250 ?_
                  obtain ⟨q251, h⟩ := h
                  refine y_iinc (ls' := [(2, 170), (0, x1), (0, x2), (0, x3), (0, x4), (0, x5), (0, x6), (0, (x7 + 1)), (0, (M 174 x7)), (0, (x2 * (M 171 (x3 + (M 174 x7))))), (0, (2 * (x2 * (M 171 (x3 + (M 174 x7))))))]) dX9_joinValue_181 rfl rfl q251 rfl ?_
                  refine z_goto (tgt := 3) dX9_joinValue_184 rfl ?_
                  refine z_sub (ls' := [(2, 170), (0, x1), (0, x2), (0, x3), (0, x4), (0, x5), (0, x6), (0, (x7 + 1)), (9, 0), (9, 0), (9, 0)]) ⟨Or.inl rfl, Or.inl rfl, Or.inl rfl, Or.inl rfl, Or.inl rfl, Or.inl rfl, Or.inl rfl, Or.inl rfl, Or.inr rfl, Or.inr rfl, Or.inr rfl, trivial⟩ ?_
                  exact h
          · replace h := h.2 q
            refine z_iloadn dX9_joinValue_95 rfl ?_
            refine z_iload dX9_joinValue_96 rfl ?_
            obtain ⟨q252, h⟩ := h
            refine z_imul dX9_joinValue_98 q252 ?_
            refine z_sipush dX9_joinValue_99 ks_500 ?_
            refine z_icmpgt (tgt := 122) dX9_joinValue_102 rfl (fun q => ?_) (fun q => ?_)
            · replace h := h.1 q
              refine z_iloadn dX9_joinValue_122 rfl ?_
              refine z_iload dX9_joinValue_123 rfl ?_
              obtain ⟨q253, h⟩ := h
              refine z_isub dX9_joinValue_125 q253 ?_
              refine z_sipush dX9_joinValue_126 ks_m500 ?_
              refine z_icmplt (tgt := 181) dX9_joinValue_129 rfl (fun q => ?_) (fun q => ?_)
              · replace h := h.1 q
                obtain ⟨q254, h⟩ := h
                refine y_iinc (ls' := [(2, 170), (0, x1), (0, x2), (0, x3), (0, x4), (0, x5), (0, x6), (0, (x7 + 1)), (0, (M 174 x7)), (0, (x2 * (M 171 (x3 + (M 174 x7))))), (0, (2 * (x2 * (M 171 (x3 + (M 174 x7))))))]) dX9_joinValue_181 rfl rfl q254 rfl ?_
                refine z_goto (tgt := 3) dX9_joinValue_184 rfl ?_
                refine z_sub (ls' := [(2, 170), (0, x1), (0, x2), (0, x3), (0, x4), (0, x5), (0, x6), (0, (x7 + 1)), (9, 0), (9, 0), (9, 0)]) ⟨Or.inl rfl, Or.inl rfl, Or.inl rfl, Or.inl rfl, Or.inl rfl, Or.inl rfl, Or.inl rfl, Or.inl rfl, Or.inr rfl, Or.inr rfl, Or.inr rfl, trivial⟩ ?_
                exact h
              · replace h := h.2 q
                refine z_iloadn dX9_joinValue_132 rfl ?_
                refine z_iload dX9_joinValue_133 rfl ?_
                obtain ⟨q255, h⟩ := h
                refine z_isub dX9_joinValue_135 q255 ?_
                refine z_sipush dX9_joinValue_136 ks_500 ?_
                refine z_icmpgt (tgt := 181) dX9_joinValue_139 rfl (fun q => ?_) (fun q => ?_)
                · replace h := h.1 q
                  obtain ⟨q256, h⟩ := h
                  refine y_iinc (ls' := [(2, 170), (0, x1), (0, x2), (0, x3), (0, x4), (0, x5), (0, x6), (0, (x7 + 1)), (0, (M 174 x7)), (0, (x2 * (M 171 (x3 + (M 174 x7))))), (0, (2 * (x2 * (M 171 (x3 + (M 174 x7))))))]) dX9_joinValue_181 rfl rfl q256 rfl ?_
                  refine z_goto (tgt := 3) dX9_joinValue_184 rfl ?_
                  refine z_sub (ls' := [(2, 170), (0, x1), (0, x2), (0, x3), (0, x4), (0, x5), (0, x6), (0, (x7 + 1)), (9, 0), (9, 0), (9, 0)]) ⟨Or.inl rfl, Or.inl rfl, Or.inl rfl, Or.inl rfl, Or.inl rfl, Or.inl rfl, Or.inl rfl, Or.inl rfl, Or.inr rfl, Or.inr rfl, Or.inr rfl, trivial⟩ ?_
                  exact h
                · replace h := h.2 q
                  refine z_aloadn dX9_joinValue_142 rfl (Or.inl rfl) ?_
                  refine y_getr (v := 171) hG dX9_joinValue_143 fX9_10 sh170 (by decide) rfl (by decide +kernel) (by decide) ?_
                  refine z_iload dX9_joinValue_146 rfl ?_
                  refine z_iloadn dX9_joinValue_148 rfl ?_
                  obtain ⟨q257, h⟩ := h
                  refine z_iadd dX9_joinValue_149 q257 ?_
                  refine z_iload dX9_joinValue_150 rfl ?_
                  obtain ⟨q258, h⟩ := h
                  refine z_isub dX9_joinValue_152 q258 ?_
                  refine z_dup2 dX9_joinValue_153 (show (0 : Nat) ≠ 1 by decide) (show (2 : Nat) ≠ 1 by decide) ?_
                  obtain ⟨q259, h⟩ := h
                  refine y_iald (x := (M 171 ((x5 + x1) - (M 174 x7)))) dX9_joinValue_154 sh171 q259 rfl ?_
                  refine z_iload dX9_joinValue_155 rfl ?_
                  obtain ⟨q260, h⟩ := h
                  refine z_iadd dX9_joinValue_157 q260 ?_
                  obtain ⟨q261, h⟩ := h
                  refine y_iast hG dX9_joinValue_158 sh171 q261 ?_
                  refine z_iload dX9_joinValue_159 rfl ?_
                  refine z_ifeq (tgt := 181) dX9_joinValue_161 rfl (fun q => ?_) (fun q => ?_)
                  · replace h := h.1 q
                    obtain ⟨q262, h⟩ := h
                    refine y_iinc (ls' := [(2, 170), (0, x1), (0, x2), (0, x3), (0, x4), (0, x5), (0, x6), (0, (x7 + 1)), (0, (M 174 x7)), (0, (x2 * (M 171 (x3 + (M 174 x7))))), (0, (2 * (x2 * (M 171 (x3 + (M 174 x7))))))]) dX9_joinValue_181 rfl rfl q262 rfl ?_
                    refine z_goto (tgt := 3) dX9_joinValue_184 rfl ?_
                    refine z_sub (ls' := [(2, 170), (0, x1), (0, x2), (0, x3), (0, x4), (0, x5), (0, x6), (0, (x7 + 1)), (9, 0), (9, 0), (9, 0)]) ⟨Or.inl rfl, Or.inl rfl, Or.inl rfl, Or.inl rfl, Or.inl rfl, Or.inl rfl, Or.inl rfl, Or.inl rfl, Or.inr rfl, Or.inr rfl, Or.inr rfl, trivial⟩ ?_
                    exact h
                  · replace h := h.2 q
                    refine z_aloadn dX9_joinValue_164 rfl (Or.inl rfl) ?_
                    refine y_getr (v := 171) hG dX9_joinValue_165 fX9_10 sh170 (by decide) rfl (by decide +kernel) (by decide) ?_
                    refine z_iload dX9_joinValue_168 rfl ?_
                    refine z_iload dX9_joinValue_170 rfl ?_
                    obtain ⟨q263, h⟩ := h
                    refine z_iadd dX9_joinValue_172 q263 ?_
                    refine z_iloadn dX9_joinValue_173 rfl ?_
                    obtain ⟨q264, h⟩ := h
                    refine z_isub dX9_joinValue_174 q264 ?_
                    refine z_dup2 dX9_joinValue_175 (show (0 : Nat) ≠ 1 by decide) (show (2 : Nat) ≠ 1 by decide) ?_
                    obtain ⟨q265, h⟩ := h
                    refine y_iald (x := ((zset M 171 ((x5 + x1) - (M 174 x7)) ((M 171 ((x5 + x1) - (M 174 x7))) + (x2 * (M 171 (x3 + (M 174 x7)))))) 171 ((x5 + (M 174 x7)) - x1))) dX9_joinValue_176 sh171 q265 rfl ?_
                    refine z_iload dX9_joinValue_177 rfl ?_
                    obtain ⟨q266, h⟩ := h
                    refine z_iadd dX9_joinValue_179 q266 ?_
                    obtain ⟨q267, h⟩ := h
                    refine y_iast hG dX9_joinValue_180 sh171 q267 ?_
                    obtain ⟨q268, h⟩ := h
                    refine y_iinc (ls' := [(2, 170), (0, x1), (0, x2), (0, x3), (0, x4), (0, x5), (0, x6), (0, (x7 + 1)), (0, (M 174 x7)), (0, (x2 * (M 171 (x3 + (M 174 x7))))), (0, (2 * (x2 * (M 171 (x3 + (M 174 x7))))))]) dX9_joinValue_181 rfl rfl q268 rfl ?_
                    refine z_goto (tgt := 3) dX9_joinValue_184 rfl ?_
                    refine z_sub (ls' := [(2, 170), (0, x1), (0, x2), (0, x3), (0, x4), (0, x5), (0, x6), (0, (x7 + 1)), (9, 0), (9, 0), (9, 0)]) ⟨Or.inl rfl, Or.inl rfl, Or.inl rfl, Or.inl rfl, Or.inl rfl, Or.inl rfl, Or.inl rfl, Or.inl rfl, Or.inr rfl, Or.inr rfl, Or.inr rfl, trivial⟩ ?_
                    exact h
            · replace h := h.2 q
              refine z_aloadn dX9_joinValue_105 rfl (Or.inl rfl) ?_
              refine y_getr (v := 171) hG dX9_joinValue_106 fX9_10 sh170 (by decide) rfl (by decide +kernel) (by decide) ?_
              refine z_iload dX9_joinValue_109 rfl ?_
              refine z_iloadn dX9_joinValue_111 rfl ?_
              refine z_iload dX9_joinValue_112 rfl ?_
              obtain ⟨q269, h⟩ := h
              refine z_imul dX9_joinValue_114 q269 ?_
              obtain ⟨q270, h⟩ := h
              refine z_iadd dX9_joinValue_115 q270 ?_
              refine z_dup2 dX9_joinValue_116 (show (0 : Nat) ≠ 1 by decide) (show (2 : Nat) ≠ 1 by decide) ?_
              obtain ⟨q271, h⟩ := h
              refine y_iald (x := (M 171 (x5 + (x1 * (M 174 x7))))) dX9_joinValue_117 sh171 q271 rfl ?_
              refine z_iload dX9_joinValue_118 rfl ?_
              obtain ⟨q272, h⟩ := h
              refine z_iadd dX9_joinValue_120 q272 ?_
              obtain ⟨q273, h⟩ := h
              refine y_iast hG dX9_joinValue_121 sh171 q273 ?_
              refine z_iloadn dX9_joinValue_122 rfl ?_
              refine z_iload dX9_joinValue_123 rfl ?_
              obtain ⟨q274, h⟩ := h
              refine z_isub dX9_joinValue_125 q274 ?_
              refine z_sipush dX9_joinValue_126 ks_m500 ?_
              refine z_icmplt (tgt := 181) dX9_joinValue_129 rfl (fun q => ?_) (fun q => ?_)
              · replace h := h.1 q
                obtain ⟨q275, h⟩ := h
                refine y_iinc (ls' := [(2, 170), (0, x1), (0, x2), (0, x3), (0, x4), (0, x5), (0, x6), (0, (x7 + 1)), (0, (M 174 x7)), (0, (x2 * (M 171 (x3 + (M 174 x7))))), (0, (2 * (x2 * (M 171 (x3 + (M 174 x7))))))]) dX9_joinValue_181 rfl rfl q275 rfl ?_
                refine z_goto (tgt := 3) dX9_joinValue_184 rfl ?_
                refine z_sub (ls' := [(2, 170), (0, x1), (0, x2), (0, x3), (0, x4), (0, x5), (0, x6), (0, (x7 + 1)), (9, 0), (9, 0), (9, 0)]) ⟨Or.inl rfl, Or.inl rfl, Or.inl rfl, Or.inl rfl, Or.inl rfl, Or.inl rfl, Or.inl rfl, Or.inl rfl, Or.inr rfl, Or.inr rfl, Or.inr rfl, trivial⟩ ?_
                exact h
              · replace h := h.2 q
                refine z_iloadn dX9_joinValue_132 rfl ?_
                refine z_iload dX9_joinValue_133 rfl ?_
                obtain ⟨q276, h⟩ := h
                refine z_isub dX9_joinValue_135 q276 ?_
                refine z_sipush dX9_joinValue_136 ks_500 ?_
                refine z_icmpgt (tgt := 181) dX9_joinValue_139 rfl (fun q => ?_) (fun q => ?_)
                · replace h := h.1 q
                  obtain ⟨q277, h⟩ := h
                  refine y_iinc (ls' := [(2, 170), (0, x1), (0, x2), (0, x3), (0, x4), (0, x5), (0, x6), (0, (x7 + 1)), (0, (M 174 x7)), (0, (x2 * (M 171 (x3 + (M 174 x7))))), (0, (2 * (x2 * (M 171 (x3 + (M 174 x7))))))]) dX9_joinValue_181 rfl rfl q277 rfl ?_
                  refine z_goto (tgt := 3) dX9_joinValue_184 rfl ?_
                  refine z_sub (ls' := [(2, 170), (0, x1), (0, x2), (0, x3), (0, x4), (0, x5), (0, x6), (0, (x7 + 1)), (9, 0), (9, 0), (9, 0)]) ⟨Or.inl rfl, Or.inl rfl, Or.inl rfl, Or.inl rfl, Or.inl rfl, Or.inl rfl, Or.inl rfl, Or.inl rfl, Or.inr rfl, Or.inr rfl, Or.inr rfl, trivial⟩ ?_
                  exact h
                · replace h := h.2 q
                  refine z_aloadn dX9_joinValue_142 rfl (Or.inl rfl) ?_
                  refine y_getr (v := 171) hG dX9_joinValue_143 fX9_10 sh170 (by decide) rfl (by decide +kernel) (by decide) ?_
                  refine z_iload dX9_joinValue_146 rfl ?_
                  refine z_iloadn dX9_joinValue_148 rfl ?_
                  obtain ⟨q278, h⟩ := h
                  refine z_iadd dX9_joinValue_149 q278 ?_
                  refine z_iload dX9_joinValue_150 rfl ?_
                  obtain ⟨q279, h⟩ := h
                  refine z_isub dX9_joinValue_152 q279 ?_
                  refine z_dup2 dX9_joinValue_153 (show (0 : Nat) ≠ 1 by decide) (show (2 : Nat) ≠ 1 by decide) ?_
                  obtain ⟨q280, h⟩ := h
                  refine y_iald (x := ((zset M 171 (x5 + (x1 * (M 174 x7))) ((M 171 (x5 + (x1 * (M 174 x7)))) + (2 * (x2 * (M 171 (x3 + (M 174 x7))))))) 171 ((x5 + x1) - (M 174 x7)))) dX9_joinValue_154 sh171 q280 rfl ?_
                  refine z_iload dX9_joinValue_155 rfl ?_
                  obtain ⟨q281, h⟩ := h
                  refine z_iadd dX9_joinValue_157 q281 ?_
                  obtain ⟨q282, h⟩ := h
                  refine y_iast hG dX9_joinValue_158 sh171 q282 ?_
                  refine z_iload dX9_joinValue_159 rfl ?_
                  refine z_ifeq (tgt := 181) dX9_joinValue_161 rfl (fun q => ?_) (fun q => ?_)
                  · replace h := h.1 q
                    obtain ⟨q283, h⟩ := h
                    refine y_iinc (ls' := [(2, 170), (0, x1), (0, x2), (0, x3), (0, x4), (0, x5), (0, x6), (0, (x7 + 1)), (0, (M 174 x7)), (0, (x2 * (M 171 (x3 + (M 174 x7))))), (0, (2 * (x2 * (M 171 (x3 + (M 174 x7))))))]) dX9_joinValue_181 rfl rfl q283 rfl ?_
                    refine z_goto (tgt := 3) dX9_joinValue_184 rfl ?_
                    refine z_sub (ls' := [(2, 170), (0, x1), (0, x2), (0, x3), (0, x4), (0, x5), (0, x6), (0, (x7 + 1)), (9, 0), (9, 0), (9, 0)]) ⟨Or.inl rfl, Or.inl rfl, Or.inl rfl, Or.inl rfl, Or.inl rfl, Or.inl rfl, Or.inl rfl, Or.inl rfl, Or.inr rfl, Or.inr rfl, Or.inr rfl, trivial⟩ ?_
                    exact h
                  · replace h := h.2 q
                    refine z_aloadn dX9_joinValue_164 rfl (Or.inl rfl) ?_
                    refine y_getr (v := 171) hG dX9_joinValue_165 fX9_10 sh170 (by decide) rfl (by decide +kernel) (by decide) ?_
                    refine z_iload dX9_joinValue_168 rfl ?_
                    refine z_iload dX9_joinValue_170 rfl ?_
                    obtain ⟨q284, h⟩ := h
                    refine z_iadd dX9_joinValue_172 q284 ?_
                    refine z_iloadn dX9_joinValue_173 rfl ?_
                    obtain ⟨q285, h⟩ := h
                    refine z_isub dX9_joinValue_174 q285 ?_
                    refine z_dup2 dX9_joinValue_175 (show (0 : Nat) ≠ 1 by decide) (show (2 : Nat) ≠ 1 by decide) ?_
                    obtain ⟨q286, h⟩ := h
                    refine y_iald (x := ((zset (zset M 171 (x5 + (x1 * (M 174 x7))) ((M 171 (x5 + (x1 * (M 174 x7)))) + (2 * (x2 * (M 171 (x3 + (M 174 x7))))))) 171 ((x5 + x1) - (M 174 x7)) (((zset M 171 (x5 + (x1 * (M 174 x7))) ((M 171 (x5 + (x1 * (M 174 x7)))) + (2 * (x2 * (M 171 (x3 + (M 174 x7))))))) 171 ((x5 + x1) - (M 174 x7))) + (x2 * (M 171 (x3 + (M 174 x7)))))) 171 ((x5 + (M 174 x7)) - x1))) dX9_joinValue_176 sh171 q286 rfl ?_
                    refine z_iload dX9_joinValue_177 rfl ?_
                    obtain ⟨q287, h⟩ := h
                    refine z_iadd dX9_joinValue_179 q287 ?_
                    obtain ⟨q288, h⟩ := h
                    refine y_iast hG dX9_joinValue_180 sh171 q288 ?_
                    obtain ⟨q289, h⟩ := h
                    refine y_iinc (ls' := [(2, 170), (0, x1), (0, x2), (0, x3), (0, x4), (0, x5), (0, x6), (0, (x7 + 1)), (0, (M 174 x7)), (0, (x2 * (M 171 (x3 + (M 174 x7))))), (0, (2 * (x2 * (M 171 (x3 + (M 174 x7))))))]) dX9_joinValue_181 rfl rfl q289 rfl ?_
                    refine z_goto (tgt := 3) dX9_joinValue_184 rfl ?_
                    refine z_sub (ls' := [(2, 170), (0, x1), (0, x2), (0, x3), (0, x4), (0, x5), (0, x6), (0, (x7 + 1)), (9, 0), (9, 0), (9, 0)]) ⟨Or.inl rfl, Or.inl rfl, Or.inl rfl, Or.inl rfl, Or.inl rfl, Or.inl rfl, Or.inl rfl, Or.inl rfl, Or.inr rfl, Or.inr rfl, Or.inr rfl, trivial⟩ ?_
                    exact h
        · replace h := h.2 q
          refine z_aloadn dX9_joinValue_68 rfl (Or.inl rfl) ?_
          refine y_getr (v := 171) hG dX9_joinValue_69 fX9_10 sh170 (by decide) rfl (by decide +kernel) (by decide) ?_
          refine z_iload dX9_joinValue_72 rfl ?_
          refine z_iloadn dX9_joinValue_74 rfl ?_
          obtain ⟨q290, h⟩ := h
          refine z_iadd dX9_joinValue_75 q290 ?_
          refine z_iload dX9_joinValue_76 rfl ?_
          obtain ⟨q291, h⟩ := h
          refine z_iadd dX9_joinValue_78 q291 ?_
          refine z_dup2 dX9_joinValue_79 (show (0 : Nat) ≠ 1 by decide) (show (2 : Nat) ≠ 1 by decide) ?_
          obtain ⟨q292, h⟩ := h
          refine y_iald (x := (M 171 ((x5 + x1) + (M 174 x7)))) dX9_joinValue_80 sh171 q292 rfl ?_
          refine z_iload dX9_joinValue_81 rfl ?_
          obtain ⟨q293, h⟩ := h
          refine z_iadd dX9_joinValue_83 q293 ?_
          obtain ⟨q294, h⟩ := h
          refine y_iast hG dX9_joinValue_84 sh171 q294 ?_
          refine z_iloadn dX9_joinValue_85 rfl ?_
          refine z_iload dX9_joinValue_86 rfl ?_
          obtain ⟨q295, h⟩ := h
          refine z_imul dX9_joinValue_88 q295 ?_
          refine z_sipush dX9_joinValue_89 ks_m500 ?_
          refine z_icmplt (tgt := 122) dX9_joinValue_92 rfl (fun q => ?_) (fun q => ?_)
          · replace h := h.1 q
            refine z_iloadn dX9_joinValue_122 rfl ?_
            refine z_iload dX9_joinValue_123 rfl ?_
            obtain ⟨q296, h⟩ := h
            refine z_isub dX9_joinValue_125 q296 ?_
            refine z_sipush dX9_joinValue_126 ks_m500 ?_
            refine z_icmplt (tgt := 181) dX9_joinValue_129 rfl (fun q => ?_) (fun q => ?_)
            · replace h := h.1 q
              obtain ⟨q297, h⟩ := h
              refine y_iinc (ls' := [(2, 170), (0, x1), (0, x2), (0, x3), (0, x4), (0, x5), (0, x6), (0, (x7 + 1)), (0, (M 174 x7)), (0, (x2 * (M 171 (x3 + (M 174 x7))))), (0, (2 * (x2 * (M 171 (x3 + (M 174 x7))))))]) dX9_joinValue_181 rfl rfl q297 rfl ?_
              refine z_goto (tgt := 3) dX9_joinValue_184 rfl ?_
              refine z_sub (ls' := [(2, 170), (0, x1), (0, x2), (0, x3), (0, x4), (0, x5), (0, x6), (0, (x7 + 1)), (9, 0), (9, 0), (9, 0)]) ⟨Or.inl rfl, Or.inl rfl, Or.inl rfl, Or.inl rfl, Or.inl rfl, Or.inl rfl, Or.inl rfl, Or.inl rfl, Or.inr rfl, Or.inr rfl, Or.inr rfl, trivial⟩ ?_
              exact h
            · replace h := h.2 q
              refine z_iloadn dX9_joinValue_132 rfl ?_
              refine z_iload dX9_joinValue_133 rfl ?_
              obtain ⟨q298, h⟩ := h
              refine z_isub dX9_joinValue_135 q298 ?_
              refine z_sipush dX9_joinValue_136 ks_500 ?_
              refine z_icmpgt (tgt := 181) dX9_joinValue_139 rfl (fun q => ?_) (fun q => ?_)
              · replace h := h.1 q
                obtain ⟨q299, h⟩ := h
                refine y_iinc (ls' := [(2, 170), (0, x1), (0, x2), (0, x3), (0, x4), (0, x5), (0, x6), (0, (x7 + 1)), (0, (M 174 x7)), (0, (x2 * (M 171 (x3 + (M 174 x7))))), (0, (2 * (x2 * (M 171 (x3 + (M 174 x7))))))]) dX9_joinValue_181 rfl rfl q299 rfl ?_
                refine z_goto (tgt := 3) dX9_joinValue_184 rfl ?_
                refine z_sub (ls' := [(2, 170), (0, x1), (0, x2), (0, x3), (0, x4), (0, x5), (0, x6), (0, (x7 + 1)), (9, 0), (9, 0), (9, 0)]) ⟨Or.inl rfl, Or.inl rfl, Or.inl rfl, Or.inl rfl, Or.inl rfl, Or.inl rfl, Or.inl rfl, Or.inl rfl, Or.inr rfl, Or.inr rfl, Or.inr rfl, trivial⟩ ?_
                exact h
              · replace h := h.2 q
                refine z_aloadn dX9_joinValue_142 rfl (Or.inl rfl) ?_
                refine y_getr (v := 171) hG dX9_joinValue_143 fX9_10 sh170 (by decide) rfl (by decide +kernel) (by decide) ?_
                refine z_iload dX9_joinValue_146 rfl ?_
                refine z_iloadn dX9_joinValue_148 rfl ?_
                obtain ⟨q300, h⟩ := h
                refine z_iadd dX9_joinValue_149 q300 ?_
                refine z_iload dX9_joinValue_150 rfl ?_
                obtain ⟨q301, h⟩ := h
                refine z_isub dX9_joinValue_152 q301 ?_
                refine z_dup2 dX9_joinValue_153 (show (0 : Nat) ≠ 1 by decide) (show (2 : Nat) ≠ 1 by decide) ?_
                obtain ⟨q302, h⟩ := h
                refine y_iald (x := ((zset M 171 ((x5 + x1) + (M 174 x7)) ((M 171 ((x5 + x1) + (M 174 x7))) + (2 * (x2 * (M 171 (x3 + (M 174 x7))))))) 171 ((x5 + x1) - (M 174 x7)))) dX9_joinValue_154 sh171 q302 rfl ?_
                refine z_iload dX9_joinValue_155 rfl ?_
                obtain ⟨q303, h⟩ := h
                refine z_iadd dX9_joinValue_157 q303 ?_
                obtain ⟨q304, h⟩ := h
                refine y_iast hG dX9_joinValue_158 sh171 q304 ?_
                refine z_iload dX9_joinValue_159 rfl ?_
                refine z_ifeq (tgt := 181) dX9_joinValue_161 rfl (fun q => ?_) (fun q => ?_)
                · replace h := h.1 q
                  obtain ⟨q305, h⟩ := h
                  refine y_iinc (ls' := [(2, 170), (0, x1), (0, x2), (0, x3), (0, x4), (0, x5), (0, x6), (0, (x7 + 1)), (0, (M 174 x7)), (0, (x2 * (M 171 (x3 + (M 174 x7))))), (0, (2 * (x2 * (M 171 (x3 + (M 174 x7))))))]) dX9_joinValue_181 rfl rfl q305 rfl ?_
                  refine z_goto (tgt := 3) dX9_joinValue_184 rfl ?_
                  refine z_sub (ls' := [(2, 170), (0, x1), (0, x2), (0, x3), (0, x4), (0, x5), (0, x6), (0, (x7 + 1)), (9, 0), (9, 0), (9, 0)]) ⟨Or.inl rfl, Or.inl rfl, Or.inl rfl, Or.inl rfl, Or.inl rfl, Or.inl rfl, Or.inl rfl, Or.inl rfl, Or.inr rfl, Or.inr rfl, Or.inr rfl, trivial⟩ ?_
                  exact h
                · replace h := h.2 q
                  refine z_aloadn dX9_joinValue_164 rfl (Or.inl rfl) ?_
                  refine y_getr (v := 171) hG dX9_joinValue_165 fX9_10 sh170 (by decide) rfl (by decide +kernel) (by decide) ?_
                  refine z_iload dX9_joinValue_168 rfl ?_
                  refine z_iload dX9_joinValue_170 rfl ?_
                  obtain ⟨q306, h⟩ := h
                  refine z_iadd dX9_joinValue_172 q306 ?_
                  refine z_iloadn dX9_joinValue_173 rfl ?_
                  obtain ⟨q307, h⟩ := h
                  refine z_isub dX9_joinValue_174 q307 ?_
                  refine z_dup2 dX9_joinValue_175 (show (0 : Nat) ≠ 1 by decide) (show (2 : Nat) ≠ 1 by decide) ?_
                  obtain ⟨q308, h⟩ := h
                  refine y_iald (x := ((zset (zset M 171 ((x5 + x1) + (M 174 x7)) ((M 171 ((x5 + x1) + (M 174 x7))) + (2 * (x2 * (M 171 (x3 + (M 174 x7))))))) 171 ((x5 + x1) - (M 174 x7)) (((zset M 171 ((x5 + x1) + (M 174 x7)) ((M 171 ((x5 + x1) + (M 174 x7))) + (2 * (x2 * (M 171 (x3 + (M 174 x7))))))) 171 ((x5 + x1) - (M 174 x7))) + (x2 * (M 171 (x3 + (M 174 x7)))))) 171 ((x5 + (M 174 x7)) - x1))) dX9_joinValue_176 sh171 q308 rfl ?_
                  refine z_iload dX9_joinValue_177 rfl ?_
                  obtain ⟨q309, h⟩ := h
                  refine z_iadd dX9_joinValue_179 q309 ?_
                  obtain ⟨q310, h⟩ := h
                  refine y_iast hG dX9_joinValue_180 sh171 q310 ?_
                  obtain ⟨q311, h⟩ := h
                  refine y_iinc (ls' := [(2, 170), (0, x1), (0, x2), (0, x3), (0, x4), (0, x5), (0, x6), (0, (x7 + 1)), (0, (M 174 x7)), (0, (x2 * (M 171 (x3 + (M 174 x7))))), (0, (2 * (x2 * (M 171 (x3 + (M 174 x7))))))]) dX9_joinValue_181 rfl rfl q311 rfl ?_
                  refine z_goto (tgt := 3) dX9_joinValue_184 rfl ?_
                  refine z_sub (ls' := [(2, 170), (0, x1), (0, x2), (0, x3), (0, x4), (0, x5), (0, x6), (0, (x7 + 1)), (9, 0), (9, 0), (9, 0)]) ⟨Or.inl rfl, Or.inl rfl, Or.inl rfl, Or.inl rfl, Or.inl rfl, Or.inl rfl, Or.inl rfl, Or.inl rfl, Or.inr rfl, Or.inr rfl, Or.inr rfl, trivial⟩ ?_
                  exact h
          · replace h := h.2 q
            refine z_iloadn dX9_joinValue_95 rfl ?_
            refine z_iload dX9_joinValue_96 rfl ?_
            obtain ⟨q312, h⟩ := h
            refine z_imul dX9_joinValue_98 q312 ?_
            refine z_sipush dX9_joinValue_99 ks_500 ?_
            refine z_icmpgt (tgt := 122) dX9_joinValue_102 rfl (fun q => ?_) (fun q => ?_)
            · replace h := h.1 q
              refine z_iloadn dX9_joinValue_122 rfl ?_
              refine z_iload dX9_joinValue_123 rfl ?_
              obtain ⟨q313, h⟩ := h
              refine z_isub dX9_joinValue_125 q313 ?_
              refine z_sipush dX9_joinValue_126 ks_m500 ?_
              refine z_icmplt (tgt := 181) dX9_joinValue_129 rfl (fun q => ?_) (fun q => ?_)
              · replace h := h.1 q
                obtain ⟨q314, h⟩ := h
                refine y_iinc (ls' := [(2, 170), (0, x1), (0, x2), (0, x3), (0, x4), (0, x5), (0, x6), (0, (x7 + 1)), (0, (M 174 x7)), (0, (x2 * (M 171 (x3 + (M 174 x7))))), (0, (2 * (x2 * (M 171 (x3 + (M 174 x7))))))]) dX9_joinValue_181 rfl rfl q314 rfl ?_
                refine z_goto (tgt := 3) dX9_joinValue_184 rfl ?_
                refine z_sub (ls' := [(2, 170), (0, x1), (0, x2), (0, x3), (0, x4), (0, x5), (0, x6), (0, (x7 + 1)), (9, 0), (9, 0), (9, 0)]) ⟨Or.inl rfl, Or.inl rfl, Or.inl rfl, Or.inl rfl, Or.inl rfl, Or.inl rfl, Or.inl rfl, Or.inl rfl, Or.inr rfl, Or.inr rfl, Or.inr rfl, trivial⟩ ?_
                exact h
              · replace h := h.2 q
                refine z_iloadn dX9_joinValue_132 rfl ?_
                refine z_iload dX9_joinValue_133 rfl ?_
                obtain ⟨q315, h⟩ := h
                refine z_isub dX9_joinValue_135 q315 ?_
                refine z_sipush dX9_joinValue_136 ks_500 ?_
                refine z_icmpgt (tgt := 181) dX9_joinValue_139 rfl (fun q => ?_) (fun q => ?_)
                · replace h := h.1 q
                  obtain ⟨q316, h⟩ := h
                  refine y_iinc (ls' := [(2, 170), (0, x1), (0, x2), (0, x3), (0, x4), (0, x5), (0, x6), (0, (x7 + 1)), (0, (M 174 x7)), (0, (x2 * (M 171 (x3 + (M 174 x7))))), (0, (2 * (x2 * (M 171 (x3 + (M 174 x7))))))]) dX9_joinValue_181 rfl rfl q316 rfl ?_
                  refine z_goto (tgt := 3) dX9_joinValue_184 rfl ?_
                  refine z_sub (ls' := [(2, 170), (0, x1), (0, x2), (0, x3), (0, x4), (0, x5), (0, x6), (0, (x7 + 1)), (9, 0), (9, 0), (9, 0)]) ⟨Or.inl rfl, Or.inl rfl, Or.inl rfl, Or.inl rfl, Or.inl rfl, Or.inl rfl, Or.inl rfl, Or.inl rfl, Or.inr rfl, Or.inr rfl, Or.inr rfl, trivial⟩ ?_
                  exact h
                · replace h := h.2 q
                  refine z_aloadn dX9_joinValue_142 rfl (Or.inl rfl) ?_
                  refine y_getr (v := 171) hG dX9_joinValue_143 fX9_10 sh170 (by decide) rfl (by decide +kernel) (by decide) ?_
                  refine z_iload dX9_joinValue_146 rfl ?_
                  refine z_iloadn dX9_joinValue_148 rfl ?_
                  obtain ⟨q317, h⟩ := h
                  refine z_iadd dX9_joinValue_149 q317 ?_
                  refine z_iload dX9_joinValue_150 rfl ?_
                  obtain ⟨q318, h⟩ := h
                  refine z_isub dX9_joinValue_152 q318 ?_
                  refine z_dup2 dX9_joinValue_153 (show (0 : Nat) ≠ 1 by decide) (show (2 : Nat) ≠ 1 by decide) ?_
                  obtain ⟨q319, h⟩ := h
                  refine y_iald (x := ((zset M 171 ((x5 + x1) + (M 174 x7)) ((M 171 ((x5 + x1) + (M 174 x7))) + (2 * (x2 * (M 171 (x3 + (M 174 x7))))))) 171 ((x5 + x1) - (M 174 x7)))) dX9_joinValue_154 sh171 q319 rfl ?_
                  refine z_iload dX9_joinValue_155 rfl ?_
                  obtain ⟨q320, h⟩ := h
                  refine z_iadd dX9_joinValue_157 q320 ?_
                  obtain ⟨q321, h⟩ := h
                  refine y_iast hG dX9_joinValue_158 sh171 q321 ?_
                  refine z_iload dX9_joinValue_159 rfl ?_
                  refine z_ifeq (tgt := 181) dX9_joinValue_161 rfl (fun q => ?_) (fun q => ?_)
                  · replace h := h.1 q
                    obtain ⟨q322, h⟩ := h
                    refine y_iinc (ls' := [(2, 170), (0, x1), (0, x2), (0, x3), (0, x4), (0, x5), (0, x6), (0, (x7 + 1)), (0, (M 174 x7)), (0, (x2 * (M 171 (x3 + (M 174 x7))))), (0, (2 * (x2 * (M 171 (x3 + (M 174 x7))))))]) dX9_joinValue_181 rfl rfl q322 rfl ?_
                    refine z_goto (tgt := 3) dX9_joinValue_184 rfl ?_
                    refine z_sub (ls' := [(2, 170), (0, x1), (0, x2), (0, x3), (0, x4), (0, x5), (0, x6), (0, (x7 + 1)), (9, 0), (9, 0), (9, 0)]) ⟨Or.inl rfl, Or.inl rfl, Or.inl rfl, Or.inl rfl, Or.inl rfl, Or.inl rfl, Or.inl rfl, Or.inl rfl, Or.inr rfl, Or.inr rfl, Or.inr rfl, trivial⟩ ?_
                    exact h
                  · replace h := h.2 q
                    refine z_aloadn dX9_joinValue_164 rfl (Or.inl rfl) ?_
                    refine y_getr (v := 171) hG dX9_joinValue_165 fX9_10 sh170 (by decide) rfl (by decide +kernel) (by decide) ?_
                    refine z_iload dX9_joinValue_168 rfl ?_
                    refine z_iload dX9_joinValue_170 rfl ?_
                    obtain ⟨q323, h⟩ := h
                    refine z_iadd dX9_joinValue_172 q323 ?_
                    refine z_iloadn dX9_joinValue_173 rfl ?_
                    obtain ⟨q324, h⟩ := h
                    refine z_isub dX9_joinValue_174 q324 ?_
                    refine z_dup2 dX9_joinValue_175 (show (0 : Nat) ≠ 1 by decide) (show (2 : Nat) ≠ 1 by decide) ?_
                    obtain ⟨q325, h⟩ := h
                    refine y_iald (x := ((zset (zset M 171 ((x5 + x1) + (M 174 x7)) ((M 171 ((x5 + x1) + (M 174 x7))) + (2 * (x2 * (M 171 (x3 + (M 174 x7))))))) 171 ((x5 + x1) - (M 174 x7)) (((zset M 171 ((x5 + x1) + (M 174 x7)) ((M 171 ((x5 + x1) + (M 174 x7))) + (2 * (x2 * (M 171 (x3 + (M 174 x7))))))) 171 ((x5 + x1) - (M 174 x7))) + (x2 * (M 171 (x3 + (M 174 x7)))))) 171 ((x5 + (M 174 x7)) - x1))) dX9_joinValue_176 sh171 q325 rfl ?_
                    refine z_iload dX9_joinValue_177 rfl ?_
                    obtain ⟨q326, h⟩ := h
                    refine z_iadd dX9_joinValue_179 q326 ?_
                    obtain ⟨q327, h⟩ := h
                    refine y_iast hG dX9_joinValue_180 sh171 q327 ?_
                    obtain ⟨q328, h⟩ := h
                    refine y_iinc (ls' := [(2, 170), (0, x1), (0, x2), (0, x3), (0, x4), (0, x5), (0, x6), (0, (x7 + 1)), (0, (M 174 x7)), (0, (x2 * (M 171 (x3 + (M 174 x7))))), (0, (2 * (x2 * (M 171 (x3 + (M 174 x7))))))]) dX9_joinValue_181 rfl rfl q328 rfl ?_
                    refine z_goto (tgt := 3) dX9_joinValue_184 rfl ?_
                    refine z_sub (ls' := [(2, 170), (0, x1), (0, x2), (0, x3), (0, x4), (0, x5), (0, x6), (0, (x7 + 1)), (9, 0), (9, 0), (9, 0)]) ⟨Or.inl rfl, Or.inl rfl, Or.inl rfl, Or.inl rfl, Or.inl rfl, Or.inl rfl, Or.inl rfl, Or.inl rfl, Or.inr rfl, Or.inr rfl, Or.inr rfl, trivial⟩ ?_
                    exact h
            · replace h := h.2 q
              refine z_aloadn dX9_joinValue_105 rfl (Or.inl rfl) ?_
              refine y_getr (v := 171) hG dX9_joinValue_106 fX9_10 sh170 (by decide) rfl (by decide +kernel) (by decide) ?_
              refine z_iload dX9_joinValue_109 rfl ?_
              refine z_iloadn dX9_joinValue_111 rfl ?_
              refine z_iload dX9_joinValue_112 rfl ?_
              obtain ⟨q329, h⟩ := h
              refine z_imul dX9_joinValue_114 q329 ?_
              obtain ⟨q330, h⟩ := h
              refine z_iadd dX9_joinValue_115 q330 ?_
              refine z_dup2 dX9_joinValue_116 (show (0 : Nat) ≠ 1 by decide) (show (2 : Nat) ≠ 1 by decide) ?_
              obtain ⟨q331, h⟩ := h
              refine y_iald (x := ((zset M 171 ((x5 + x1) + (M 174 x7)) ((M 171 ((x5 + x1) + (M 174 x7))) + (2 * (x2 * (M 171 (x3 + (M 174 x7))))))) 171 (x5 + (x1 * (M 174 x7))))) dX9_joinValue_117 sh171 q331 rfl ?_
              refine z_iload dX9_joinValue_118 rfl ?_
              obtain ⟨q332, h⟩ := h
              refine z_iadd dX9_joinValue_120 q332 ?_
              obtain ⟨q333, h⟩ := h
              refine y_iast hG dX9_joinValue_121 sh171 q333 ?_
              refine z_iloadn dX9_joinValue_122 rfl ?_
              refine z_iload dX9_joinValue_123 rfl ?_
              obtain ⟨q334, h⟩ := h
              refine z_isub dX9_joinValue_125 q334 ?_
              refine z_sipush dX9_joinValue_126 ks_m500 ?_
              refine z_icmplt (tgt := 181) dX9_joinValue_129 rfl (fun q => ?_) (fun q => ?_)
              · replace h := h.1 q
                obtain ⟨q335, h⟩ := h
                refine y_iinc (ls' := [(2, 170), (0, x1), (0, x2), (0, x3), (0, x4), (0, x5), (0, x6), (0, (x7 + 1)), (0, (M 174 x7)), (0, (x2 * (M 171 (x3 + (M 174 x7))))), (0, (2 * (x2 * (M 171 (x3 + (M 174 x7))))))]) dX9_joinValue_181 rfl rfl q335 rfl ?_
                refine z_goto (tgt := 3) dX9_joinValue_184 rfl ?_
                refine z_sub (ls' := [(2, 170), (0, x1), (0, x2), (0, x3), (0, x4), (0, x5), (0, x6), (0, (x7 + 1)), (9, 0), (9, 0), (9, 0)]) ⟨Or.inl rfl, Or.inl rfl, Or.inl rfl, Or.inl rfl, Or.inl rfl, Or.inl rfl, Or.inl rfl, Or.inl rfl, Or.inr rfl, Or.inr rfl, Or.inr rfl, trivial⟩ ?_
                exact h
              · replace h := h.2 q
                refine z_iloadn dX9_joinValue_132 rfl ?_
                refine z_iload dX9_joinValue_133 rfl ?_
                obtain ⟨q336, h⟩ := h
                refine z_isub dX9_joinValue_135 q336 ?_
                refine z_sipush dX9_joinValue_136 ks_500 ?_
                refine z_icmpgt (tgt := 181) dX9_joinValue_139 rfl (fun q => ?_) (fun q => ?_)
                · replace h := h.1 q
                  obtain ⟨q337, h⟩ := h
                  refine y_iinc (ls' := [(2, 170), (0, x1), (0, x2), (0, x3), (0, x4), (0, x5), (0, x6), (0, (x7 + 1)), (0, (M 174 x7)), (0, (x2 * (M 171 (x3 + (M 174 x7))))), (0, (2 * (x2 * (M 171 (x3 + (M 174 x7))))))]) dX9_joinValue_181 rfl rfl q337 rfl ?_
                  refine z_goto (tgt := 3) dX9_joinValue_184 rfl ?_
                  refine z_sub (ls' := [(2, 170), (0, x1), (0, x2), (0, x3), (0, x4), (0, x5), (0, x6), (0, (x7 + 1)), (9, 0), (9, 0), (9, 0)]) ⟨Or.inl rfl, Or.inl rfl, Or.inl rfl, Or.inl rfl, Or.inl rfl, Or.inl rfl, Or.inl rfl, Or.inl rfl, Or.inr rfl, Or.inr rfl, Or.inr rfl, trivial⟩ ?_
                  exact h
                · replace h := h.2 q
                  refine z_aloadn dX9_joinValue_142 rfl (Or.inl rfl) ?_
                  refine y_getr (v := 171) hG dX9_joinValue_143 fX9_10 sh170 (by decide) rfl (by decide +kernel) (by decide) ?_
                  refine z_iload dX9_joinValue_146 rfl ?_
                  refine z_iloadn dX9_joinValue_148 rfl ?_
                  obtain ⟨q338, h⟩ := h
                  refine z_iadd dX9_joinValue_149 q338 ?_
                  refine z_iload dX9_joinValue_150 rfl ?_
                  obtain ⟨q339, h⟩ := h
                  refine z_isub dX9_joinValue_152 q339 ?_
                  refine z_dup2 dX9_joinValue_153 (show (0 : Nat) ≠ 1 by decide) (show (2 : Nat) ≠ 1 by decide) ?_
                  obtain ⟨q340, h⟩ := h
                  refine y_iald (x := ((zset (zset M 171 ((x5 + x1) + (M 174 x7)) ((M 171 ((x5 + x1) + (M 174 x7))) + (2 * (x2 * (M 171 (x3 + (M 174 x7))))))) 171 (x5 + (x1 * (M 174 x7))) (((zset M 171 ((x5 + x1) + (M 174 x7)) ((M 171 ((x5 + x1) + (M 174 x7))) + (2 * (x2 * (M 171 (x3 + (M 174 x7))))))) 171 (x5 + (x1 * (M 174 x7)))) + (2 * (x2 * (M 171 (x3 + (M 174 x7))))))) 171 ((x5 + x1) - (M 174 x7)))) dX9_joinValue_154 sh171 q340 rfl ?_
                  refine z_iload dX9_joinValue_155 rfl ?_
                  obtain ⟨q341, h⟩ := h
                  refine z_iadd dX9_joinValue_157 q341 ?_
                  obtain ⟨q342, h⟩ := h
                  refine y_iast hG dX9_joinValue_158 sh171 q342 ?_
                  refine z_iload dX9_joinValue_159 rfl ?_
                  refine z_ifeq (tgt := 181) dX9_joinValue_161 rfl (fun q => ?_) (fun q => ?_)
                  · replace h := h.1 q
                    obtain ⟨q343, h⟩ := h
                    refine y_iinc (ls' := [(2, 170), (0, x1), (0, x2), (0, x3), (0, x4), (0, x5), (0, x6), (0, (x7 + 1)), (0, (M 174 x7)), (0, (x2 * (M 171 (x3 + (M 174 x7))))), (0, (2 * (x2 * (M 171 (x3 + (M 174 x7))))))]) dX9_joinValue_181 rfl rfl q343 rfl ?_
                    refine z_goto (tgt := 3) dX9_joinValue_184 rfl ?_
                    refine z_sub (ls' := [(2, 170), (0, x1), (0, x2), (0, x3), (0, x4), (0, x5), (0, x6), (0, (x7 + 1)), (9, 0), (9, 0), (9, 0)]) ⟨Or.inl rfl, Or.inl rfl, Or.inl rfl, Or.inl rfl, Or.inl rfl, Or.inl rfl, Or.inl rfl, Or.inl rfl, Or.inr rfl, Or.inr rfl, Or.inr rfl, trivial⟩ ?_
                    exact h
                  · replace h := h.2 q
                    refine z_aloadn dX9_joinValue_164 rfl (Or.inl rfl) ?_
                    refine y_getr (v := 171) hG dX9_joinValue_165 fX9_10 sh170 (by decide) rfl (by decide +kernel) (by decide) ?_
                    refine z_iload dX9_joinValue_168 rfl ?_
                    refine z_iload dX9_joinValue_170 rfl ?_
                    obtain ⟨q344, h⟩ := h
                    refine z_iadd dX9_joinValue_172 q344 ?_
                    refine z_iloadn dX9_joinValue_173 rfl ?_
                    obtain ⟨q345, h⟩ := h
                    refine z_isub dX9_joinValue_174 q345 ?_
                    refine z_dup2 dX9_joinValue_175 (show (0 : Nat) ≠ 1 by decide) (show (2 : Nat) ≠ 1 by decide) ?_
                    obtain ⟨q346, h⟩ := h
                    refine y_iald (x := ((zset (zset (zset M 171 ((x5 + x1) + (M 174 x7)) ((M 171 ((x5 + x1) + (M 174 x7))) + (2 * (x2 * (M 171 (x3 + (M 174 x7))))))) 171 (x5 + (x1 * (M 174 x7))) (((zset M 171 ((x5 + x1) + (M 174 x7)) ((M 171 ((x5 + x1) + (M 174 x7))) + (2 * (x2 * (M 171 (x3 + (M 174 x7))))))) 171 (x5 + (x1 * (M 174 x7)))) + (2 * (x2 * (M 171 (x3 + (M 174 x7))))))) 171 ((x5 + x1) - (M 174 x7)) (((zset (zset M 171 ((x5 + x1) + (M 174 x7)) ((M 171 ((x5 + x1) + (M 174 x7))) + (2 * (x2 * (M 171 (x3 + (M 174 x7))))))) 171 (x5 + (x1 * (M 174 x7))) (((zset M 171 ((x5 + x1) + (M 174 x7)) ((M 171 ((x5 + x1) + (M 174 x7))) + (2 * (x2 * (M 171 (x3 + (M 174 x7))))))) 171 (x5 + (x1 * (M 174 x7)))) + (2 * (x2 * (M 171 (x3 + (M 174 x7))))))) 171 ((x5 + x1) - (M 174 x7))) + (x2 * (M 171 (x3 + (M 174 x7)))))) 171 ((x5 + (M 174 x7)) - x1))) dX9_joinValue_176 sh171 q346 rfl ?_
                    refine z_iload dX9_joinValue_177 rfl ?_
                    obtain ⟨q347, h⟩ := h
                    refine z_iadd dX9_joinValue_179 q347 ?_
                    obtain ⟨q348, h⟩ := h
                    refine y_iast hG dX9_joinValue_180 sh171 q348 ?_
                    obtain ⟨q349, h⟩ := h
                    refine y_iinc (ls' := [(2, 170), (0, x1), (0, x2), (0, x3), (0, x4), (0, x5), (0, x6), (0, (x7 + 1)), (0, (M 174 x7)), (0, (x2 * (M 171 (x3 + (M 174 x7))))), (0, (2 * (x2 * (M 171 (x3 + (M 174 x7))))))]) dX9_joinValue_181 rfl rfl q349 rfl ?_
                    refine z_goto (tgt := 3) dX9_joinValue_184 rfl ?_
                    refine z_sub (ls' := [(2, 170), (0, x1), (0, x2), (0, x3), (0, x4), (0, x5), (0, x6), (0, (x7 + 1)), (9, 0), (9, 0), (9, 0)]) ⟨Or.inl rfl, Or.inl rfl, Or.inl rfl, Or.inl rfl, Or.inl rfl, Or.inl rfl, Or.inl rfl, Or.inl rfl, Or.inr rfl, Or.inr rfl, Or.inr rfl, trivial⟩ ?_
                    exact h
set_option maxRecDepth 20000 in
set_option maxHeartbeats 4000000 in
theorem bX9_countOf_0 {G : zG} {d : Nat} {M : zM} {Q : zV → zM → Prop} (hG : zP G) {x1 x2 x3 : Int}
    (h : ((x3 < (-500) → Q (0, 0) M) ∧ ((-500) ≤ x3 → ((500 < x3 → Q (0, 0) M) ∧ (x3 ≤ 500 → (zplr x1 x2 x3) ∧ (0 ≤ (zpl x1 x2 x3) ∧ (zpl x1 x2 x3) < 50050) ∧ Q (0, (M 171 (zpl x1 x2 x3))) M))))) :
    Y G (d + 1) mX9_countOf 0 [(2, 170), (0, x1), (0, x2), (0, x3)] [] M Q := by
  refine z_iloadn dX9_countOf_0 rfl ?_
  refine z_sipush dX9_countOf_1 ks_m500 ?_
  refine z_icmplt (tgt := 28) dX9_countOf_4 rfl (fun q => ?_) (fun q => ?_)
  · replace h := h.1 q
    refine z_iconst dX9_countOf_28 ki_0 ?_
    exact z_ireturn dX9_countOf_29 (Or.inl rfl) rfl h
  · replace h := h.2 q
    refine z_iloadn dX9_countOf_7 rfl ?_
    refine z_sipush dX9_countOf_8 ks_500 ?_
    refine z_icmpgt (tgt := 28) dX9_countOf_11 rfl (fun q => ?_) (fun q => ?_)
    · replace h := h.1 q
      refine z_iconst dX9_countOf_28 ki_0 ?_
      exact z_ireturn dX9_countOf_29 (Or.inl rfl) rfl h
    · replace h := h.2 q
      refine z_aloadn dX9_countOf_14 rfl (Or.inl rfl) ?_
      refine y_getr (v := 171) hG dX9_countOf_15 fX9_10 sh170 (by decide) rfl (by decide +kernel) (by decide) ?_
      refine z_iloadn dX9_countOf_18 rfl ?_
      refine z_iloadn dX9_countOf_19 rfl ?_
      refine z_iloadn dX9_countOf_20 rfl ?_
      obtain ⟨q1, h⟩ := h
      refine y_cs (mt2 := mX9_placeOf) (en := [(0, x1), (0, x2), (0, x3)]) (st := [(2, 171)]) (as := [(0, x1), (0, x2), (0, x3)]) dX9_countOf_21 lX9_46 kX9_placeOf tX9_placeOf rfl (Nat.le_of_ble_eq_true rfl) (Nat.le_of_ble_eq_true rfl) rfl (s_placeOf hG  q1 ?_)
      show Y G (d + 1) mX9_countOf 24 [(2, 170), (0, x1), (0, x2), (0, x3)] [(0, (zpl x1 x2 x3)), (2, 171)] M Q
      obtain ⟨q2, h⟩ := h
      refine y_iald (x := (M 171 (zpl x1 x2 x3))) dX9_countOf_24 sh171 q2 rfl ?_
      refine z_goto (tgt := 29) dX9_countOf_25 rfl ?_
      exact z_ireturn dX9_countOf_29 (Or.inl rfl) rfl h
set_option maxRecDepth 20000 in
set_option maxHeartbeats 4000000 in
theorem bX9_fewestLeaves_0 {G : zG} {d : Nat} {M : zM} {Q : zV → zM → Prop} (hG : zP G) {x1 x2 x3 r4 : Int} {nr4 : Nat} (hr4 : zsh r4.toNat = (100, nr4))
    (h : Y G (d + 1) mX9_fewestLeaves 3 [(2, 170), (0, x1), (0, x2), (0, x3), (2, r4), (0, 1)] [] M Q) :
    Y G (d + 1) mX9_fewestLeaves 0 [(2, 170), (0, x1), (0, x2), (0, x3), (2, r4), (9, 0)] [] M Q := by
  refine z_iconst dX9_fewestLeaves_0 ki_1 ?_
  refine y_istore (ls' := [(2, 170), (0, x1), (0, x2), (0, x3), (2, r4), (0, 1)]) dX9_fewestLeaves_1 rfl rfl ?_
  exact h
set_option maxRecDepth 20000 in
set_option maxHeartbeats 4000000 in
theorem bX9_fewestLeaves_3 {G : zG} {d : Nat} {M : zM} {Q : zV → zM → Prop} (hG : zP G) {x1 x2 x3 r4 x5 : Int} {nr4 : Nat} (hr4 : zsh r4.toNat = (100, nr4))
    (h : ((x3 < x5 → Q (0, (-1)) M) ∧ (x5 ≤ x3 → Y G d mX9_prepare 0 [(2, 170), (0, x1), (0, x5), (2, r4), (9, 0), (9, 0)] [] M (fun r M' => Y G (d + 1) mX9_fewestLeaves 18 [(2, 170), (0, x1), (0, x2), (0, x3), (2, r4), (0, x5)] (zpush r []) M' Q)))) :
    Y G (d + 1) mX9_fewestLeaves 3 [(2, 170), (0, x1), (0, x2), (0, x3), (2, r4), (0, x5)] [] M Q := by
  refine z_iload dX9_fewestLeaves_3 rfl ?_
  refine z_iloadn dX9_fewestLeaves_5 rfl ?_
  refine z_icmpgt (tgt := 38) dX9_fewestLeaves_6 rfl (fun q => ?_) (fun q => ?_)
  · replace h := h.1 q
    refine z_iconst dX9_fewestLeaves_38 ki_m1 ?_
    exact z_ireturn dX9_fewestLeaves_39 (Or.inl rfl) rfl h
  · replace h := h.2 q
    refine z_aloadn dX9_fewestLeaves_9 rfl (Or.inl rfl) ?_
    refine z_iloadn dX9_fewestLeaves_10 rfl ?_
    refine z_iload dX9_fewestLeaves_11 rfl ?_
    refine z_aload dX9_fewestLeaves_13 rfl (Or.inl rfl) ?_
    refine y_cv (mt2 := mX9_prepare) (en := [(2, 170), (0, x1), (0, x5), (2, r4), (9, 0), (9, 0)]) (st := []) (as := [(0, x1), (0, x5), (2, r4)]) dX9_fewestLeaves_15 lX9_54 kX9_prepare iX9_prepare eX9_prepare rfl sh170 (by decide +kernel) (Nat.le_of_ble_eq_true rfl) (Nat.le_of_ble_eq_true rfl) rfl ?_
    exact h
set_option maxRecDepth 20000 in
set_option maxHeartbeats 4000000 in
theorem bX9_fewestLeaves_18 {G : zG} {d : Nat} {M : zM} {Q : zV → zM → Prop} (hG : zP G) {x1 x2 x3 r4 x5 : Int} {nr4 : Nat} (hr4 : zsh r4.toNat = (100, nr4))
    (h : Y G d mX9_countOf 0 [(2, 170), (0, x1), (0, x5), (0, x2)] [] M (fun r M' => Y G (d + 1) mX9_fewestLeaves 26 [(2, 170), (0, x1), (0, x2), (0, x3), (2, r4), (0, x5)] (zpush r []) M' Q)) :
    Y G (d + 1) mX9_fewestLeaves 18 [(2, 170), (0, x1), (0, x2), (0, x3), (2, r4), (0, x5)] [] M Q := by
  refine z_aloadn dX9_fewestLeaves_18 rfl (Or.inl rfl) ?_
  refine z_iloadn dX9_fewestLeaves_19 rfl ?_
  refine z_iload dX9_fewestLeaves_20 rfl ?_
  refine z_iloadn dX9_fewestLeaves_22 rfl ?_
  refine y_cv (mt2 := mX9_countOf) (en := [(2, 170), (0, x1), (0, x5), (0, x2)]) (st := []) (as := [(0, x1), (0, x5), (0, x2)]) dX9_fewestLeaves_23 lX9_58 kX9_countOf iX9_countOf eX9_countOf rfl sh170 (by decide +kernel) (Nat.le_of_ble_eq_true rfl) (Nat.le_of_ble_eq_true rfl) rfl ?_
  exact h
set_option maxRecDepth 20000 in
set_option maxHeartbeats 4000000 in
theorem bX9_fewestLeaves_26 {G : zG} {d : Nat} {M : zM} {Q : zV → zM → Prop} (hG : zP G) {x1 x2 x3 r4 x5 x49 : Int} {nr4 : Nat} (hr4 : zsh r4.toNat = (100, nr4))
    (h : ((x49 = 0 → (-2147483648 ≤ x5 + 1 ∧ x5 + 1 ≤ 2147483647) ∧ Y G (d + 1) mX9_fewestLeaves 3 [(2, 170), (0, x1), (0, x2), (0, x3), (2, r4), (0, (x5 + 1))] [] M Q) ∧ (¬ x49 = 0 → Q (0, x5) M))) :
    Y G (d + 1) mX9_fewestLeaves 26 [(2, 170), (0, x1), (0, x2), (0, x3), (2, r4), (0, x5)] [(0, x49)] M Q := by
  refine z_ifeq (tgt := 32) dX9_fewestLeaves_26 rfl (fun q => ?_) (fun q => ?_)
  · replace h := h.1 q
    obtain ⟨q1, h⟩ := h
    refine y_iinc (ls' := [(2, 170), (0, x1), (0, x2), (0, x3), (2, r4), (0, (x5 + 1))]) dX9_fewestLeaves_32 rfl rfl q1 rfl ?_
    refine z_goto (tgt := 3) dX9_fewestLeaves_35 rfl ?_
    exact h
  · replace h := h.2 q
    refine z_iload dX9_fewestLeaves_29 rfl ?_
    exact z_ireturn dX9_fewestLeaves_31 (Or.inl rfl) rfl h
