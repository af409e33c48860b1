set_option maxRecDepth 20000 in
set_option maxHeartbeats 4000000 in
theorem bX9_rarestOf_0 {G : zG} {d : Nat} {M : zM} {Q : zV → zM → Prop} (hG : zP G) {x1 x2 x3 x4 : Int}
    (h : Y G (d + 1) mX9_rarestOf 11 [(2, 170), (0, x1), (0, x2), (0, x3), (0, x4), (0, (-1000)), (0, 0), (0, x3), (9, 0)] [] M Q) :
    Y G (d + 1) mX9_rarestOf 0 [(2, 170), (0, x1), (0, x2), (0, x3), (0, x4), (9, 0), (9, 0), (9, 0), (9, 0)] [] M Q := by
  refine z_sipush dX9_rarestOf_0 ks_m1000 ?_
  refine y_istore (ls' := [(2, 170), (0, x1), (0, x2), (0, x3), (0, x4), (0, (-1000)), (9, 0), (9, 0), (9, 0)]) dX9_rarestOf_3 rfl rfl ?_
  refine z_iconst dX9_rarestOf_5 ki_0 ?_
  refine y_istore (ls' := [(2, 170), (0, x1), (0, x2), (0, x3), (0, x4), (0, (-1000)), (0, 0), (9, 0), (9, 0)]) dX9_rarestOf_6 rfl rfl ?_
  refine z_iloadn dX9_rarestOf_8 rfl ?_
  refine y_istore (ls' := [(2, 170), (0, x1), (0, x2), (0, x3), (0, x4), (0, (-1000)), (0, 0), (0, x3), (9, 0)]) dX9_rarestOf_9 rfl rfl ?_
  exact h
set_option maxRecDepth 20000 in
set_option maxHeartbeats 4000000 in
theorem bX9_rarestOf_11 {G : zG} {d : Nat} {M : zM} {Q : zV → zM → Prop} (hG : zP G) {x1 x2 x3 x4 x5 x6 x7 : Int}
    (h : ((x4 < x7 → Q (0, x5) M) ∧ (x7 ≤ x4 → Y G d mX9_countOf 0 [(2, 170), (0, x1), (0, x2), (0, x7), (9, 0)] [] M (fun r M' => Y G (d + 1) mX9_rarestOf 26 [(2, 170), (0, x1), (0, x2), (0, x3), (0, x4), (0, x5), (0, x6), (0, x7), (9, 0)] (zpush r []) M' Q)))) :
    Y G (d + 1) mX9_rarestOf 11 [(2, 170), (0, x1), (0, x2), (0, x3), (0, x4), (0, x5), (0, x6), (0, x7), (9, 0)] [] M Q := by
  refine z_iload dX9_rarestOf_11 rfl ?_
  refine z_iload dX9_rarestOf_13 rfl ?_
  refine z_icmpgt (tgt := 62) dX9_rarestOf_15 rfl (fun q => ?_) (fun q => ?_)
  · replace h := h.1 q
    refine z_iload dX9_rarestOf_62 rfl ?_
    exact z_ireturn dX9_rarestOf_64 (Or.inl rfl) rfl h
  · replace h := h.2 q
    refine z_aloadn dX9_rarestOf_18 rfl (Or.inl rfl) ?_
    refine z_iloadn dX9_rarestOf_19 rfl ?_
    refine z_iloadn dX9_rarestOf_20 rfl ?_
    refine z_iload dX9_rarestOf_21 rfl ?_
    refine y_cv (mt2 := mX9_countOf) (en := [(2, 170), (0, x1), (0, x2), (0, x7), (9, 0)]) (st := []) (as := [(0, x1), (0, x2), (0, x7)]) dX9_rarestOf_23 lX9_62 kX9_countOf iX9_countOf eX9_countOf rfl sh170 (by decide +kernel) (Nat.le_of_ble_eq_true rfl) (Nat.le_of_ble_eq_true rfl) rfl ?_
    exact h
set_option maxRecDepth 20000 in
set_option maxHeartbeats 4000000 in
theorem bX9_rarestOf_26 {G : zG} {d : Nat} {M : zM} {Q : zV → zM → Prop} (hG : zP G) {x1 x2 x3 x4 x5 x6 x7 x49 : Int}
    (h : ((x49 = 0 → (-2147483648 ≤ x7 + 1 ∧ x7 + 1 ≤ 2147483647) ∧ Y G (d + 1) mX9_rarestOf 11 [(2, 170), (0, x1), (0, x2), (0, x3), (0, x4), (0, x5), (0, x6), (0, (x7 + 1)), (9, 0)] [] M Q) ∧ (¬ x49 = 0 → ((x5 = (-1000) → (-2147483648 ≤ x7 + 1 ∧ x7 + 1 ≤ 2147483647) ∧ Y G (d + 1) mX9_rarestOf 11 [(2, 170), (0, x1), (0, x2), (0, x3), (0, x4), (0, x7), (0, x49), (0, (x7 + 1)), (9, 0)] [] M Q) ∧ (¬ x5 = (-1000) → ((x6 ≤ x49 → (-2147483648 ≤ x7 + 1 ∧ x7 + 1 ≤ 2147483647) ∧ Y G (d + 1) mX9_rarestOf 11 [(2, 170), (0, x1), (0, x2), (0, x3), (0, x4), (0, x5), (0, x6), (0, (x7 + 1)), (9, 0)] [] M Q) ∧ (x49 < x6 → (-2147483648 ≤ x7 + 1 ∧ x7 + 1 ≤ 2147483647) ∧ Y G (d + 1) mX9_rarestOf 11 [(2, 170), (0, x1), (0, x2), (0, x3), (0, x4), (0, x7), (0, x49), (0, (x7 + 1)), (9, 0)] [] M Q))))))) :
    Y G (d + 1) mX9_rarestOf 26 [(2, 170), (0, x1), (0, x2), (0, x3), (0, x4), (0, x5), (0, x6), (0, x7), (9, 0)] [(0, x49)] M Q := by
  refine y_istore (ls' := [(2, 170), (0, x1), (0, x2), (0, x3), (0, x4), (0, x5), (0, x6), (0, x7), (0, x49)]) dX9_rarestOf_26 rfl rfl ?_
  refine z_iload dX9_rarestOf_28 rfl ?_
  refine z_ifeq (tgt := 56) dX9_rarestOf_30 rfl (fun q => ?_) (fun q => ?_)
  · replace h := h.1 q
    obtain ⟨q1, h⟩ := h
    refine y_iinc (ls' := [(2, 170), (0, x1), (0, x2), (0, x3), (0, x4), (0, x5), (0, x6), (0, (x7 + 1)), (0, x49)]) dX9_rarestOf_56 rfl rfl q1 rfl ?_
    refine z_goto (tgt := 11) dX9_rarestOf_59 rfl ?_
    refine z_sub (ls' := [(2, 170), (0, x1), (0, x2), (0, x3), (0, x4), (0, x5), (0, x6), (0, (x7 + 1)), (9, 0)]) ⟨Or.inl rfl, Or.inl rfl, Or.inl rfl, Or.inl rfl, Or.inl rfl, Or.inl rfl, Or.inl rfl, Or.inl rfl, Or.inr rfl, trivial⟩ ?_
    exact h
  · replace h := h.2 q
    refine z_iload dX9_rarestOf_33 rfl ?_
    refine z_sipush dX9_rarestOf_35 ks_m1000 ?_
    refine z_icmpeq (tgt := 48) dX9_rarestOf_38 rfl (fun q => ?_) (fun q => ?_)
    · replace h := h.1 q
      refine z_iload dX9_rarestOf_48 rfl ?_
      refine y_istore (ls' := [(2, 170), (0, x1), (0, x2), (0, x3), (0, x4), (0, x7), (0, x6), (0, x7), (0, x49)]) dX9_rarestOf_50 rfl rfl ?_
      refine z_iload dX9_rarestOf_52 rfl ?_
      refine y_istore (ls' := [(2, 170), (0, x1), (0, x2), (0, x3), (0, x4), (0, x7), (0, x49), (0, x7), (0, x49)]) dX9_rarestOf_54 rfl rfl ?_
      obtain ⟨q2, h⟩ := h
      refine y_iinc (ls' := [(2, 170), (0, x1), (0, x2), (0, x3), (0, x4), (0, x7), (0, x49), (0, (x7 + 1)), (0, x49)]) dX9_rarestOf_56 rfl rfl q2 rfl ?_
      refine z_goto (tgt := 11) dX9_rarestOf_59 rfl ?_
      refine z_sub (ls' := [(2, 170), (0, x1), (0, x2), (0, x3), (0, x4), (0, x7), (0, x49), (0, (x7 + 1)), (9, 0)]) ⟨Or.inl rfl, Or.inl rfl, Or.inl rfl, Or.inl rfl, Or.inl rfl, Or.inl rfl, Or.inl rfl, Or.inl rfl, Or.inr rfl, trivial⟩ ?_
      exact h
    · replace h := h.2 q
      refine z_iload dX9_rarestOf_41 rfl ?_
      refine z_iload dX9_rarestOf_43 rfl ?_
      refine z_icmpge (tgt := 56) dX9_rarestOf_45 rfl (fun q => ?_) (fun q => ?_)
      · replace h := h.1 q
        obtain ⟨q3, h⟩ := h
        refine y_iinc (ls' := [(2, 170), (0, x1), (0, x2), (0, x3), (0, x4), (0, x5), (0, x6), (0, (x7 + 1)), (0, x49)]) dX9_rarestOf_56 rfl rfl q3 rfl ?_
        refine z_goto (tgt := 11) dX9_rarestOf_59 rfl ?_
        refine z_sub (ls' := [(2, 170), (0, x1), (0, x2), (0, x3), (0, x4), (0, x5), (0, x6), (0, (x7 + 1)), (9, 0)]) ⟨Or.inl rfl, Or.inl rfl, Or.inl rfl, Or.inl rfl, Or.inl rfl, Or.inl rfl, Or.inl rfl, Or.inl rfl, Or.inr rfl, trivial⟩ ?_
        exact h
      · replace h := h.2 q
        refine z_iload dX9_rarestOf_48 rfl ?_
        refine y_istore (ls' := [(2, 170), (0, x1), (0, x2), (0, x3), (0, x4), (0, x7), (0, x6), (0, x7), (0, x49)]) dX9_rarestOf_50 rfl rfl ?_
        refine z_iload dX9_rarestOf_52 rfl ?_
        refine y_istore (ls' := [(2, 170), (0, x1), (0, x2), (0, x3), (0, x4), (0, x7), (0, x49), (0, x7), (0, x49)]) dX9_rarestOf_54 rfl rfl ?_
        obtain ⟨q4, h⟩ := h
        refine y_iinc (ls' := [(2, 170), (0, x1), (0, x2), (0, x3), (0, x4), (0, x7), (0, x49), (0, (x7 + 1)), (0, x49)]) dX9_rarestOf_56 rfl rfl q4 rfl ?_
        refine z_goto (tgt := 11) dX9_rarestOf_59 rfl ?_
        refine z_sub (ls' := [(2, 170), (0, x1), (0, x2), (0, x3), (0, x4), (0, x7), (0, x49), (0, (x7 + 1)), (9, 0)]) ⟨Or.inl rfl, Or.inl rfl, Or.inl rfl, Or.inl rfl, Or.inl rfl, Or.inl rfl, Or.inl rfl, Or.inl rfl, Or.inr rfl, trivial⟩ ?_
        exact h
set_option maxRecDepth 20000 in
set_option maxHeartbeats 4000000 in
theorem bX9_longestOf_0 {G : zG} {d : Nat} {M : zM} {Q : zV → zM → Prop} (hG : zP G) {x1 x2 x3 x4 r5 : Int} {nr5 : Nat} (hr5 : zsh r5.toNat = (100, nr5))
    (h : Y G (d + 1) mX9_longestOf 11 [(2, 170), (0, x1), (0, x2), (0, x3), (0, x4), (2, r5), (0, (-1000)), (0, 0), (0, x3), (9, 0)] [] M Q) :
    Y G (d + 1) mX9_longestOf 0 [(2, 170), (0, x1), (0, x2), (0, x3), (0, x4), (2, r5), (9, 0), (9, 0), (9, 0), (9, 0)] [] M Q := by
  refine z_sipush dX9_longestOf_0 ks_m1000 ?_
  refine y_istore (ls' := [(2, 170), (0, x1), (0, x2), (0, x3), (0, x4), (2, r5), (0, (-1000)), (9, 0), (9, 0), (9, 0)]) dX9_longestOf_3 rfl rfl ?_
  refine z_iconst dX9_longestOf_5 ki_0 ?_
  refine y_istore (ls' := [(2, 170), (0, x1), (0, x2), (0, x3), (0, x4), (2, r5), (0, (-1000)), (0, 0), (9, 0), (9, 0)]) dX9_longestOf_6 rfl rfl ?_
  refine z_iloadn dX9_longestOf_8 rfl ?_
  refine y_istore (ls' := [(2, 170), (0, x1), (0, x2), (0, x3), (0, x4), (2, r5), (0, (-1000)), (0, 0), (0, x3), (9, 0)]) dX9_longestOf_9 rfl rfl ?_
  exact h
set_option maxRecDepth 20000 in
set_option maxHeartbeats 4000000 in
theorem bX9_longestOf_11 {G : zG} {d : Nat} {M : zM} {Q : zV → zM → Prop} (hG : zP G) {x1 x2 x3 x4 r5 x6 x7 x8 : Int} {nr5 : Nat} (hr5 : zsh r5.toNat = (100, nr5))
    (h : ((x4 < x8 → Q (0, x6) M) ∧ (x8 ≤ x4 → Y G d mX9_fewestLeaves 0 [(2, 170), (0, x1), (0, x8), (0, x2), (2, r5), (9, 0)] [] M (fun r M' => Y G (d + 1) mX9_longestOf 28 [(2, 170), (0, x1), (0, x2), (0, x3), (0, x4), (2, r5), (0, x6), (0, x7), (0, x8), (9, 0)] (zpush r []) M' Q)))) :
    Y G (d + 1) mX9_longestOf 11 [(2, 170), (0, x1), (0, x2), (0, x3), (0, x4), (2, r5), (0, x6), (0, x7), (0, x8), (9, 0)] [] M Q := by
  refine z_iload dX9_longestOf_11 rfl ?_
  refine z_iload dX9_longestOf_13 rfl ?_
  refine z_icmpgt (tgt := 51) dX9_longestOf_15 rfl (fun q => ?_) (fun q => ?_)
  · replace h := h.1 q
    refine z_iload dX9_longestOf_51 rfl ?_
    exact z_ireturn dX9_longestOf_53 (Or.inl rfl) rfl h
  · replace h := h.2 q
    refine z_aloadn dX9_longestOf_18 rfl (Or.inl rfl) ?_
    refine z_iloadn dX9_longestOf_19 rfl ?_
    refine z_iload dX9_longestOf_20 rfl ?_
    refine z_iloadn dX9_longestOf_22 rfl ?_
    refine z_aload dX9_longestOf_23 rfl (Or.inl rfl) ?_
    refine y_cv (mt2 := mX9_fewestLeaves) (en := [(2, 170), (0, x1), (0, x8), (0, x2), (2, r5), (9, 0)]) (st := []) (as := [(0, x1), (0, x8), (0, x2), (2, r5)]) dX9_longestOf_25 lX9_65 kX9_fewestLeaves iX9_fewestLeaves eX9_fewestLeaves rfl sh170 (by decide +kernel) (Nat.le_of_ble_eq_true rfl) (Nat.le_of_ble_eq_true rfl) rfl ?_
    exact h
set_option maxRecDepth 20000 in
set_option maxHeartbeats 4000000 in
theorem bX9_longestOf_28 {G : zG} {d : Nat} {M : zM} {Q : zV → zM → Prop} (hG : zP G) {x1 x2 x3 x4 r5 x6 x7 x8 x49 : Int} {nr5 : Nat} (hr5 : zsh r5.toNat = (100, nr5))
    (h : ((x49 ≤ x7 → (-2147483648 ≤ x8 + 1 ∧ x8 + 1 ≤ 2147483647) ∧ Y G (d + 1) mX9_longestOf 11 [(2, 170), (0, x1), (0, x2), (0, x3), (0, x4), (2, r5), (0, x6), (0, x7), (0, (x8 + 1)), (9, 0)] [] M Q) ∧ (x7 < x49 → (-2147483648 ≤ x8 + 1 ∧ x8 + 1 ≤ 2147483647) ∧ Y G (d + 1) mX9_longestOf 11 [(2, 170), (0, x1), (0, x2), (0, x3), (0, x4), (2, r5), (0, x8), (0, x49), (0, (x8 + 1)), (9, 0)] [] M Q))) :
    Y G (d + 1) mX9_longestOf 28 [(2, 170), (0, x1), (0, x2), (0, x3), (0, x4), (2, r5), (0, x6), (0, x7), (0, x8), (9, 0)] [(0, x49)] M Q := by
  refine y_istore (ls' := [(2, 170), (0, x1), (0, x2), (0, x3), (0, x4), (2, r5), (0, x6), (0, x7), (0, x8), (0, x49)]) dX9_longestOf_28 rfl rfl ?_
  refine z_iload dX9_longestOf_30 rfl ?_
  refine z_iload dX9_longestOf_32 rfl ?_
  refine z_icmple (tgt := 45) dX9_longestOf_34 rfl (fun q => ?_) (fun q => ?_)
  · replace h := h.1 q
    obtain ⟨q1, h⟩ := h
    refine y_iinc (ls' := [(2, 170), (0, x1), (0, x2), (0, x3), (0, x4), (2, r5), (0, x6), (0, x7), (0, (x8 + 1)), (0, x49)]) dX9_longestOf_45 rfl rfl q1 rfl ?_
    refine z_goto (tgt := 11) dX9_longestOf_48 rfl ?_
    refine z_sub (ls' := [(2, 170), (0, x1), (0, x2), (0, x3), (0, x4), (2, r5), (0, x6), (0, x7), (0, (x8 + 1)), (9, 0)]) ⟨Or.inl rfl, Or.inl rfl, Or.inl rfl, Or.inl rfl, Or.inl rfl, Or.inl rfl, Or.inl rfl, Or.inl rfl, Or.inl rfl, Or.inr rfl, trivial⟩ ?_
    exact h
  · replace h := h.2 q
    refine z_iload dX9_longestOf_37 rfl ?_
    refine y_istore (ls' := [(2, 170), (0, x1), (0, x2), (0, x3), (0, x4), (2, r5), (0, x8), (0, x7), (0, x8), (0, x49)]) dX9_longestOf_39 rfl rfl ?_
    refine z_iload dX9_longestOf_41 rfl ?_
    refine y_istore (ls' := [(2, 170), (0, x1), (0, x2), (0, x3), (0, x4), (2, r5), (0, x8), (0, x49), (0, x8), (0, x49)]) dX9_longestOf_43 rfl rfl ?_
    obtain ⟨q2, h⟩ := h
    refine y_iinc (ls' := [(2, 170), (0, x1), (0, x2), (0, x3), (0, x4), (2, r5), (0, x8), (0, x49), (0, (x8 + 1)), (0, x49)]) dX9_longestOf_45 rfl rfl q2 rfl ?_
    refine z_goto (tgt := 11) dX9_longestOf_48 rfl ?_
    refine z_sub (ls' := [(2, 170), (0, x1), (0, x2), (0, x3), (0, x4), (2, r5), (0, x8), (0, x49), (0, (x8 + 1)), (9, 0)]) ⟨Or.inl rfl, Or.inl rfl, Or.inl rfl, Or.inl rfl, Or.inl rfl, Or.inl rfl, Or.inl rfl, Or.inl rfl, Or.inl rfl, Or.inr rfl, trivial⟩ ?_
    exact h
set_option maxRecDepth 20000 in
set_option maxHeartbeats 4000000 in
theorem bX9_signAt_0 {G : zG} {d : Nat} {M : zM} {Q : zV → zM → Prop} (hG : zP G) {x1 x2 x3 x4 : Int}
    (h : Y G d mX9_write 0 [(2, 170), (0, x1), (0, x2), (0, x3), (0, 0), (9, 0), (9, 0), (9, 0), (9, 0)] [] M (fun r M' => Y G (d + 1) mX9_signAt 8 [(2, 170), (0, x1), (0, x2), (0, x3), (0, x4)] (zpush r []) M' Q)) :
    Y G (d + 1) mX9_signAt 0 [(2, 170), (0, x1), (0, x2), (0, x3), (0, x4)] [] M Q := by
  refine z_aloadn dX9_signAt_0 rfl (Or.inl rfl) ?_
  refine z_iloadn dX9_signAt_1 rfl ?_
  refine z_iloadn dX9_signAt_2 rfl ?_
  refine z_iloadn dX9_signAt_3 rfl ?_
  refine z_iconst dX9_signAt_4 ki_0 ?_
  refine y_cv (mt2 := mX9_write) (en := [(2, 170), (0, x1), (0, x2), (0, x3), (0, 0), (9, 0), (9, 0), (9, 0), (9, 0)]) (st := []) (as := [(0, x1), (0, x2), (0, x3), (0, 0)]) dX9_signAt_5 lX9_69 kX9_write iX9_write eX9_write rfl sh170 (by decide +kernel) (Nat.le_of_ble_eq_true rfl) (Nat.le_of_ble_eq_true rfl) rfl ?_
  exact h
set_option maxRecDepth 20000 in
set_option maxHeartbeats 4000000 in
theorem bX9_signAt_8 {G : zG} {d : Nat} {M : zM} {Q : zV → zM → Prop} (hG : zP G) {x1 x2 x3 x4 x49 : Int}
    (h : ((x4 < 0 → Q (0, (-1)) M) ∧ (0 ≤ x4 → ((9 ≤ x4 → Q (0, (-1)) M) ∧ (x4 < 9 → (0 ≤ x4 ∧ x4 < 9) ∧ Q (0, (M 175 x4)) M))))) :
    Y G (d + 1) mX9_signAt 8 [(2, 170), (0, x1), (0, x2), (0, x3), (0, x4)] [(0, x49)] M Q := by
  refine z_pop dX9_signAt_8 (show (0 : Nat) ≠ 1 by decide) ?_
  refine z_iload dX9_signAt_9 rfl ?_
  refine z_iflt (tgt := 34) dX9_signAt_11 rfl (fun q => ?_) (fun q => ?_)
  · replace h := h.1 q
    refine z_iconst dX9_signAt_34 ki_m1 ?_
    exact z_ireturn dX9_signAt_35 (Or.inl rfl) rfl h
  · replace h := h.2 q
    refine z_iload dX9_signAt_14 rfl ?_
    refine z_aloadn dX9_signAt_16 rfl (Or.inl rfl) ?_
    refine y_getr (v := 175) hG dX9_signAt_17 fX9_25 sh170 (by decide) rfl (by decide +kernel) (by decide) ?_
    refine y_alen (x := 9) dX9_signAt_20 sh175 (by decide) (by decide) rfl ?_
    refine z_icmpge (tgt := 34) dX9_signAt_21 rfl (fun q => ?_) (fun q => ?_)
    · replace h := h.1 q
      refine z_iconst dX9_signAt_34 ki_m1 ?_
      exact z_ireturn dX9_signAt_35 (Or.inl rfl) rfl h
    · replace h := h.2 q
      refine z_aloadn dX9_signAt_24 rfl (Or.inl rfl) ?_
      refine y_getr (v := 175) hG dX9_signAt_25 fX9_25 sh170 (by decide) rfl (by decide +kernel) (by decide) ?_
      refine z_iload dX9_signAt_28 rfl ?_
      obtain ⟨q1, h⟩ := h
      refine y_iald (x := (M 175 x4)) dX9_signAt_30 sh175 q1 rfl ?_
      refine z_goto (tgt := 35) dX9_signAt_31 rfl ?_
      exact z_ireturn dX9_signAt_35 (Or.inl rfl) rfl h
set_option maxRecDepth 20000 in
set_option maxHeartbeats 4000000 in
theorem bX9_put_0 {G : zG} {d : Nat} {M : zM} {Q : zV → zM → Prop} (hG : zP G) {x1 x2 : Int}
    (h : ((x1 < 0 → Q (9, 0) M) ∧ (0 ≤ x1 → ((9 ≤ x1 → Q (9, 0) M) ∧ (x1 < 9 → (0 ≤ x1 ∧ x1 < 9) ∧ Q (9, 0) (zset M 175 x1 x2)))))) :
    Y G d mX9_put 0 [(2, 170), (0, x1), (0, x2)] [] M Q := by
  refine z_iloadn dX9_put_0 rfl ?_
  refine z_iflt (tgt := 20) dX9_put_1 rfl (fun q => ?_) (fun q => ?_)
  · replace h := h.1 q
    exact z_return dX9_put_20 rfl rfl h
  · replace h := h.2 q
    refine z_iloadn dX9_put_4 rfl ?_
    refine z_aloadn dX9_put_5 rfl (Or.inl rfl) ?_
    refine y_getr (v := 175) hG dX9_put_6 fX9_25 sh170 (by decide) rfl (by decide +kernel) (by decide) ?_
    refine y_alen (x := 9) dX9_put_9 sh175 (by decide) (by decide) rfl ?_
    refine z_icmpge (tgt := 20) dX9_put_10 rfl (fun q => ?_) (fun q => ?_)
    · replace h := h.1 q
      exact z_return dX9_put_20 rfl rfl h
    · replace h := h.2 q
      refine z_aloadn dX9_put_13 rfl (Or.inl rfl) ?_
      refine y_getr (v := 175) hG dX9_put_14 fX9_25 sh170 (by decide) rfl (by decide +kernel) (by decide) ?_
      refine z_iloadn dX9_put_17 rfl ?_
      refine z_iloadn dX9_put_18 rfl ?_
      obtain ⟨q1, h⟩ := h
      refine y_iast hG dX9_put_19 sh175 q1 ?_
      exact z_return dX9_put_20 rfl rfl h
set_option maxRecDepth 20000 in
set_option maxHeartbeats 4000000 in
theorem bX9_write_0 {G : zG} {d : Nat} {M : zM} {Q : zV → zM → Prop} (hG : zP G) {x1 x2 x3 x4 : Int}
    (h : ((x2 ≤ 5 → ((1 < x2 → Y G (d + 1) mX9_write 33 [(2, 170), (0, x1), (0, x2), (0, x3), (0, x4), (0, 1), (9, 0), (9, 0), (9, 0)] [] M Q) ∧ (x2 ≤ 1 → Y G d mX9_leafOf 0 [(2, 170), (0, x1), (0, x3), (9, 0)] [] M (fun r M' => Y G (d + 1) mX9_write 22 [(2, 170), (0, x1), (0, x2), (0, x3), (0, x4), (9, 0), (9, 0), (9, 0), (9, 0)] (zpush r [(0, x4), (2, 170)]) M' Q)))) ∧ (5 < x2 → Q (0, x4) M))) :
    Y G (d + 1) mX9_write 0 [(2, 170), (0, x1), (0, x2), (0, x3), (0, x4), (9, 0), (9, 0), (9, 0), (9, 0)] [] M Q := by
  refine z_iloadn dX9_write_0 rfl ?_
  refine z_iconst dX9_write_1 ki_5 ?_
  refine z_icmple (tgt := 8) dX9_write_2 rfl (fun q => ?_) (fun q => ?_)
  · replace h := h.1 q
    refine z_iloadn dX9_write_8 rfl ?_
    refine z_iconst dX9_write_9 ki_1 ?_
    refine z_icmpgt (tgt := 30) dX9_write_10 rfl (fun q => ?_) (fun q => ?_)
    · replace h := h.1 q
      refine z_iconst dX9_write_30 ki_1 ?_
      refine y_istore (ls' := [(2, 170), (0, x1), (0, x2), (0, x3), (0, x4), (0, 1), (9, 0), (9, 0), (9, 0)]) dX9_write_31 rfl rfl ?_
      exact h
    · replace h := h.2 q
      refine z_aloadn dX9_write_13 rfl (Or.inl rfl) ?_
      refine z_iload dX9_write_14 rfl ?_
      refine z_aloadn dX9_write_16 rfl (Or.inl rfl) ?_
      refine z_iloadn dX9_write_17 rfl ?_
      refine z_iloadn dX9_write_18 rfl ?_
      refine y_cv (mt2 := mX9_leafOf) (en := [(2, 170), (0, x1), (0, x3), (9, 0)]) (st := [(0, x4), (2, 170)]) (as := [(0, x1), (0, x3)]) dX9_write_19 lX9_73 kX9_leafOf iX9_leafOf eX9_leafOf rfl sh170 (by decide +kernel) (Nat.le_of_ble_eq_true rfl) (Nat.le_of_ble_eq_true rfl) rfl ?_
      exact h
  · replace h := h.2 q
    refine z_iload dX9_write_5 rfl ?_
    exact z_ireturn dX9_write_7 (Or.inl rfl) rfl h
set_option maxRecDepth 20000 in
set_option maxHeartbeats 4000000 in
theorem bX9_write_33 {G : zG} {d : Nat} {M : zM} {Q : zV → zM → Prop} (hG : zP G) {x1 x2 x3 x4 x5 : Int}
    (h : ((x2 ≤ x5 → Q (0, x4) M) ∧ (x5 < x2 → Y G (d + 1) mX9_write 42 [(2, 170), (0, x1), (0, x2), (0, x3), (0, x4), (0, x5), (0, 0), (9, 0), (9, 0)] [] M Q))) :
    Y G (d + 1) mX9_write 33 [(2, 170), (0, x1), (0, x2), (0, x3), (0, x4), (0, x5), (9, 0), (9, 0), (9, 0)] [] M Q := by
  refine z_iload dX9_write_33 rfl ?_
  refine z_iloadn dX9_write_35 rfl ?_
  refine z_icmpge (tgt := 158) dX9_write_36 rfl (fun q => ?_) (fun q => ?_)
  · replace h := h.1 q
    refine z_iload dX9_write_158 rfl ?_
    exact z_ireturn dX9_write_160 (Or.inl rfl) rfl h
  · replace h := h.2 q
    refine z_iconst dX9_write_39 ki_0 ?_
    refine y_istore (ls' := [(2, 170), (0, x1), (0, x2), (0, x3), (0, x4), (0, x5), (0, 0), (9, 0), (9, 0)]) dX9_write_40 rfl rfl ?_
    exact h
set_option maxRecDepth 20000 in
set_option maxHeartbeats 4000000 in
theorem bX9_write_42 {G : zG} {d : Nat} {M : zM} {Q : zV → zM → Prop} (hG : zP G) {x1 x2 x3 x4 x5 x6 : Int}
    (h : ((3 ≤ x6 → (-2147483648 ≤ x5 + 1 ∧ x5 + 1 ≤ 2147483647) ∧ Y G (d + 1) mX9_write 33 [(2, 170), (0, x1), (0, x2), (0, x3), (0, x4), (0, (x5 + 1)), (9, 0), (9, 0), (9, 0)] [] M Q) ∧ (x6 < 3 → Y G (d + 1) mX9_write 53 [(2, 170), (0, x1), (0, x2), (0, x3), (0, x4), (0, x5), (0, x6), (0, (-500)), (9, 0)] [] M Q))) :
    Y G (d + 1) mX9_write 42 [(2, 170), (0, x1), (0, x2), (0, x3), (0, x4), (0, x5), (0, x6), (9, 0), (9, 0)] [] M Q := by
  refine z_iload dX9_write_42 rfl ?_
  refine z_iconst dX9_write_44 ki_3 ?_
  refine z_icmpge (tgt := 152) dX9_write_45 rfl (fun q => ?_) (fun q => ?_)
  · replace h := h.1 q
    obtain ⟨q1, h⟩ := h
    refine y_iinc (ls' := [(2, 170), (0, x1), (0, x2), (0, x3), (0, x4), (0, (x5 + 1)), (0, x6), (9, 0), (9, 0)]) dX9_write_152 rfl rfl q1 rfl ?_
    refine z_goto (tgt := 33) dX9_write_155 rfl ?_
    refine z_sub (ls' := [(2, 170), (0, x1), (0, x2), (0, x3), (0, x4), (0, (x5 + 1)), (9, 0), (9, 0), (9, 0)]) ⟨Or.inl rfl, Or.inl rfl, Or.inl rfl, Or.inl rfl, Or.inl rfl, Or.inl rfl, Or.inr rfl, Or.inl rfl, Or.inl rfl, trivial⟩ ?_
    exact h
  · replace h := h.2 q
    refine z_sipush dX9_write_48 ks_m500 ?_
    refine y_istore (ls' := [(2, 170), (0, x1), (0, x2), (0, x3), (0, x4), (0, x5), (0, x6), (0, (-500)), (9, 0)]) dX9_write_51 rfl rfl ?_
    exact h
set_option maxRecDepth 20000 in
set_option maxHeartbeats 4000000 in
theorem bX9_write_53 {G : zG} {d : Nat} {M : zM} {Q : zV → zM → Prop} (hG : zP G) {x1 x2 x3 x4 x5 x6 x7 : Int}
    (h : ((500 < x7 → (-2147483648 ≤ x6 + 1 ∧ x6 + 1 ≤ 2147483647) ∧ Y G (d + 1) mX9_write 42 [(2, 170), (0, x1), (0, x2), (0, x3), (0, x4), (0, x5), (0, (x6 + 1)), (9, 0), (9, 0)] [] M Q) ∧ (x7 ≤ 500 → Y G d mX9_countOf 0 [(2, 170), (0, x1), (0, x5), (0, x7), (9, 0)] [] M (fun r M' => Y G (d + 1) mX9_write 70 [(2, 170), (0, x1), (0, x2), (0, x3), (0, x4), (0, x5), (0, x6), (0, x7), (9, 0)] (zpush r []) M' Q)))) :
    Y G (d + 1) mX9_write 53 [(2, 170), (0, x1), (0, x2), (0, x3), (0, x4), (0, x5), (0, x6), (0, x7), (9, 0)] [] M Q := by
  refine z_iload dX9_write_53 rfl ?_
  refine z_sipush dX9_write_55 ks_500 ?_
  refine z_icmpgt (tgt := 146) dX9_write_58 rfl (fun q => ?_) (fun q => ?_)
  · replace h := h.1 q
    obtain ⟨q1, h⟩ := h
    refine y_iinc (ls' := [(2, 170), (0, x1), (0, x2), (0, x3), (0, x4), (0, x5), (0, (x6 + 1)), (0, x7), (9, 0)]) dX9_write_146 rfl rfl q1 rfl ?_
    refine z_goto (tgt := 42) dX9_write_149 rfl ?_
    refine z_sub (ls' := [(2, 170), (0, x1), (0, x2), (0, x3), (0, x4), (0, x5), (0, (x6 + 1)), (9, 0), (9, 0)]) ⟨Or.inl rfl, Or.inl rfl, Or.inl rfl, Or.inl rfl, Or.inl rfl, Or.inl rfl, Or.inl rfl, Or.inr rfl, Or.inl rfl, trivial⟩ ?_
    exact h
  · replace h := h.2 q
    refine z_aloadn dX9_write_61 rfl (Or.inl rfl) ?_
    refine z_iloadn dX9_write_62 rfl ?_
    refine z_iload dX9_write_63 rfl ?_
    refine z_iload dX9_write_65 rfl ?_
    refine y_cv (mt2 := mX9_countOf) (en := [(2, 170), (0, x1), (0, x5), (0, x7), (9, 0)]) (st := []) (as := [(0, x1), (0, x5), (0, x7)]) dX9_write_67 lX9_62 kX9_countOf iX9_countOf eX9_countOf rfl sh170 (by decide +kernel) (Nat.le_of_ble_eq_true rfl) (Nat.le_of_ble_eq_true rfl) rfl ?_
    exact h
set_option maxRecDepth 20000 in
set_option maxHeartbeats 4000000 in
theorem bX9_write_22 {G : zG} {d : Nat} {M : zM} {Q : zV → zM → Prop} (hG : zP G) {x1 x2 x3 x4 x49 x50 : Int}
    (h : Y G d mX9_put 0 [(2, 170), (0, x50), (0, x49)] [] M (fun r M' => Y G (d + 1) mX9_write 25 [(2, 170), (0, x1), (0, x2), (0, x3), (0, x4), (9, 0), (9, 0), (9, 0), (9, 0)] (zpush r []) M' Q)) :
    Y G (d + 1) mX9_write 22 [(2, 170), (0, x1), (0, x2), (0, x3), (0, x4), (9, 0), (9, 0), (9, 0), (9, 0)] [(0, x49), (0, x50), (2, 170)] M Q := by
  refine y_cv (mt2 := mX9_put) (en := [(2, 170), (0, x50), (0, x49)]) (st := []) (as := [(0, x50), (0, x49)]) dX9_write_22 lX9_77 kX9_put iX9_put eX9_put rfl sh170 (by decide +kernel) (Nat.le_of_ble_eq_true rfl) (Nat.le_of_ble_eq_true rfl) rfl ?_
  exact h
set_option maxRecDepth 20000 in
set_option maxHeartbeats 4000000 in
theorem bX9_write_70 {G : zG} {d : Nat} {M : zM} {Q : zV → zM → Prop} (hG : zP G) {x1 x2 x3 x4 x5 x6 x7 x49 : Int}
    (h : ((¬ x49 = 0 → (-2147483648 ≤ x2 - x5 ∧ x2 - x5 ≤ 2147483647) ∧ Y G d mX9_partnerOf 0 [(2, 170), (0, x7), (0, x6), (0, x3), (0, x1), (0, (x2 - x5)), (9, 0)] [] M (fun r M' => Y G (d + 1) mX9_write 93 [(2, 170), (0, x1), (0, x2), (0, x3), (0, x4), (0, x5), (0, x6), (0, x7), (9, 0)] (zpush r []) M' Q)) ∧ (x49 = 0 → (-2147483648 ≤ x7 + 1 ∧ x7 + 1 ≤ 2147483647) ∧ Y G (d + 1) mX9_write 53 [(2, 170), (0, x1), (0, x2), (0, x3), (0, x4), (0, x5), (0, x6), (0, (x7 + 1)), (9, 0)] [] M Q))) :
    Y G (d + 1) mX9_write 70 [(2, 170), (0, x1), (0, x2), (0, x3), (0, x4), (0, x5), (0, x6), (0, x7), (9, 0)] [(0, x49)] M Q := by
  refine z_ifne (tgt := 79) dX9_write_70 rfl (fun q => ?_) (fun q => ?_)
  · replace h := h.1 q
    refine z_aloadn dX9_write_79 rfl (Or.inl rfl) ?_
    refine z_iload dX9_write_80 rfl ?_
    refine z_iload dX9_write_82 rfl ?_
    refine z_iloadn dX9_write_84 rfl ?_
    refine z_iloadn dX9_write_85 rfl ?_
    refine z_iloadn dX9_write_86 rfl ?_
    refine z_iload dX9_write_87 rfl ?_
    obtain ⟨q1, h⟩ := h
    refine z_isub dX9_write_89 q1 ?_
    refine y_cv (mt2 := mX9_partnerOf) (en := [(2, 170), (0, x7), (0, x6), (0, x3), (0, x1), (0, (x2 - x5)), (9, 0)]) (st := []) (as := [(0, x7), (0, x6), (0, x3), (0, x1), (0, (x2 - x5))]) dX9_write_90 lX9_80 kX9_partnerOf iX9_partnerOf eX9_partnerOf rfl sh170 (by decide +kernel) (Nat.le_of_ble_eq_true rfl) (Nat.le_of_ble_eq_true rfl) rfl ?_
    exact h
  · replace h := h.2 q
    refine z_sipush dX9_write_73 ks_m1000 ?_
    refine z_goto (tgt := 93) dX9_write_76 rfl ?_
    refine y_istore (ls' := [(2, 170), (0, x1), (0, x2), (0, x3), (0, x4), (0, x5), (0, x6), (0, x7), (0, (-1000))]) dX9_write_93 rfl rfl ?_
    refine z_iload dX9_write_95 rfl ?_
    refine z_sipush dX9_write_97 ks_m1000 ?_
    refine z_icmpeq (tgt := 140) dX9_write_100 rfl (fun _ => ?_) (fun q => absurd q (by decide))
    obtain ⟨q2, h⟩ := h
    refine y_iinc (ls' := [(2, 170), (0, x1), (0, x2), (0, x3), (0, x4), (0, x5), (0, x6), (0, (x7 + 1)), (0, (-1000))]) dX9_write_140 rfl rfl q2 rfl ?_
    refine z_goto (tgt := 53) dX9_write_143 rfl ?_
    refine z_sub (ls' := [(2, 170), (0, x1), (0, x2), (0, x3), (0, x4), (0, x5), (0, x6), (0, (x7 + 1)), (9, 0)]) ⟨Or.inl rfl, Or.inl rfl, Or.inl rfl, Or.inl rfl, Or.inl rfl, Or.inl rfl, Or.inl rfl, Or.inl rfl, Or.inr rfl, trivial⟩ ?_
    exact h
set_option maxRecDepth 20000 in
set_option maxHeartbeats 4000000 in
theorem bX9_write_25 {G : zG} {d : Nat} {M : zM} {Q : zV → zM → Prop} (hG : zP G) {x1 x2 x3 x4 : Int}
    (h : (-2147483648 ≤ x4 + 1 ∧ x4 + 1 ≤ 2147483647) ∧ Q (0, (x4 + 1)) M) :
    Y G (d + 1) mX9_write 25 [(2, 170), (0, x1), (0, x2), (0, x3), (0, x4), (9, 0), (9, 0), (9, 0), (9, 0)] [] M Q := by
  refine z_iload dX9_write_25 rfl ?_
  refine z_iconst dX9_write_27 ki_1 ?_
  obtain ⟨q1, h⟩ := h
  refine z_iadd dX9_write_28 q1 ?_
  exact z_ireturn dX9_write_29 (Or.inl rfl) rfl h
set_option maxRecDepth 20000 in
set_option maxHeartbeats 4000000 in
theorem bX9_write_93 {G : zG} {d : Nat} {M : zM} {Q : zV → zM → Prop} (hG : zP G) {x1 x2 x3 x4 x5 x6 x7 x49 : Int}
    (h : ((x49 = (-1000) → (-2147483648 ≤ x7 + 1 ∧ x7 + 1 ≤ 2147483647) ∧ Y G (d + 1) mX9_write 53 [(2, 170), (0, x1), (0, x2), (0, x3), (0, x4), (0, x5), (0, x6), (0, (x7 + 1)), (9, 0)] [] M Q) ∧ (¬ x49 = (-1000) → (-2147483648 ≤ 1000 + x6 ∧ 1000 + x6 ≤ 2147483647) ∧ Y G d mX9_put 0 [(2, 170), (0, x4), (0, (1000 + x6))] [] M (fun r M' => Y G (d + 1) mX9_write 115 [(2, 170), (0, x1), (0, x2), (0, x3), (0, x4), (0, x5), (0, x6), (0, x7), (0, x49)] (zpush r []) M' Q)))) :
    Y G (d + 1) mX9_write 93 [(2, 170), (0, x1), (0, x2), (0, x3), (0, x4), (0, x5), (0, x6), (0, x7), (9, 0)] [(0, x49)] M Q := by
  refine y_istore (ls' := [(2, 170), (0, x1), (0, x2), (0, x3), (0, x4), (0, x5), (0, x6), (0, x7), (0, x49)]) dX9_write_93 rfl rfl ?_
  refine z_iload dX9_write_95 rfl ?_
  refine z_sipush dX9_write_97 ks_m1000 ?_
  refine z_icmpeq (tgt := 140) dX9_write_100 rfl (fun q => ?_) (fun q => ?_)
  · replace h := h.1 q
    obtain ⟨q1, h⟩ := h
    refine y_iinc (ls' := [(2, 170), (0, x1), (0, x2), (0, x3), (0, x4), (0, x5), (0, x6), (0, (x7 + 1)), (0, x49)]) dX9_write_140 rfl rfl q1 rfl ?_
    refine z_goto (tgt := 53) dX9_write_143 rfl ?_
    refine z_sub (ls' := [(2, 170), (0, x1), (0, x2), (0, x3), (0, x4), (0, x5), (0, x6), (0, (x7 + 1)), (9, 0)]) ⟨Or.inl rfl, Or.inl rfl, Or.inl rfl, Or.inl rfl, Or.inl rfl, Or.inl rfl, Or.inl rfl, Or.inl rfl, Or.inr rfl, trivial⟩ ?_
    exact h
  · replace h := h.2 q
    refine z_aloadn dX9_write_103 rfl (Or.inl rfl) ?_
    refine z_iload dX9_write_104 rfl ?_
    refine z_sipush dX9_write_106 ks_1000 ?_
    refine z_iload dX9_write_109 rfl ?_
    obtain ⟨q2, h⟩ := h
    refine z_iadd dX9_write_111 q2 ?_
    refine y_cv (mt2 := mX9_put) (en := [(2, 170), (0, x4), (0, (1000 + x6))]) (st := []) (as := [(0, x4), (0, (1000 + x6))]) dX9_write_112 lX9_77 kX9_put iX9_put eX9_put rfl sh170 (by decide +kernel) (Nat.le_of_ble_eq_true rfl) (Nat.le_of_ble_eq_true rfl) rfl ?_
    exact h
set_option maxRecDepth 20000 in
set_option maxHeartbeats 4000000 in
theorem bX9_write_115 {G : zG} {d : Nat} {M : zM} {Q : zV → zM → Prop} (hG : zP G) {x1 x2 x3 x4 x5 x6 x7 x8 : Int}
    (h : (-2147483648 ≤ x2 - x5 ∧ x2 - x5 ≤ 2147483647) ∧ (-2147483648 ≤ x4 + 1 ∧ x4 + 1 ≤ 2147483647) ∧ Y G d mX9_write 0 [(2, 170), (0, x1), (0, x5), (0, x7), (0, (x4 + 1)), (9, 0), (9, 0), (9, 0), (9, 0)] [] M (fun r M' => Y G (d + 1) mX9_write 136 [(2, 170), (0, x1), (0, x2), (0, x3), (0, x4), (0, x5), (0, x6), (0, x7), (0, x8)] (zpush r [(0, x8), (0, (x2 - x5)), (0, x1), (2, 170)]) M' Q)) :
    Y G (d + 1) mX9_write 115 [(2, 170), (0, x1), (0, x2), (0, x3), (0, x4), (0, x5), (0, x6), (0, x7), (0, x8)] [] M Q := by
  refine z_aloadn dX9_write_115 rfl (Or.inl rfl) ?_
  refine z_iloadn dX9_write_116 rfl ?_
  refine z_iloadn dX9_write_117 rfl ?_
  refine z_iload dX9_write_118 rfl ?_
  obtain ⟨q1, h⟩ := h
  refine z_isub dX9_write_120 q1 ?_
  refine z_iload dX9_write_121 rfl ?_
  refine z_aloadn dX9_write_123 rfl (Or.inl rfl) ?_
  refine z_iloadn dX9_write_124 rfl ?_
  refine z_iload dX9_write_125 rfl ?_
  refine z_iload dX9_write_127 rfl ?_
  refine z_iload dX9_write_129 rfl ?_
  refine z_iconst dX9_write_131 ki_1 ?_
  obtain ⟨q2, h⟩ := h
  refine z_iadd dX9_write_132 q2 ?_
  refine y_cv (mt2 := mX9_write) (en := [(2, 170), (0, x1), (0, x5), (0, x7), (0, (x4 + 1)), (9, 0), (9, 0), (9, 0), (9, 0)]) (st := [(0, x8), (0, (x2 - x5)), (0, x1), (2, 170)]) (as := [(0, x1), (0, x5), (0, x7), (0, (x4 + 1))]) dX9_write_133 lX9_69 kX9_write iX9_write eX9_write rfl sh170 (by decide +kernel) (Nat.le_of_ble_eq_true rfl) (Nat.le_of_ble_eq_true rfl) rfl ?_
  exact h
set_option maxRecDepth 20000 in
set_option maxHeartbeats 4000000 in
theorem bX9_write_136 {G : zG} {d : Nat} {M : zM} {Q : zV → zM → Prop} (hG : zP G) {x1 x2 x3 x4 x5 x6 x7 x8 x49 x50 x51 x52 : Int}
    (h : Y G d mX9_write 0 [(2, 170), (0, x52), (0, x51), (0, x50), (0, x49), (9, 0), (9, 0), (9, 0), (9, 0)] [] M (fun r M' => Y G (d + 1) mX9_write 139 [(2, 170), (0, x1), (0, x2), (0, x3), (0, x4), (0, x5), (0, x6), (0, x7), (0, x8)] (zpush r []) M' Q)) :
    Y G (d + 1) mX9_write 136 [(2, 170), (0, x1), (0, x2), (0, x3), (0, x4), (0, x5), (0, x6), (0, x7), (0, x8)] [(0, x49), (0, x50), (0, x51), (0, x52), (2, 170)] M Q := by
  refine y_cv (mt2 := mX9_write) (en := [(2, 170), (0, x52), (0, x51), (0, x50), (0, x49), (9, 0), (9, 0), (9, 0), (9, 0)]) (st := []) (as := [(0, x52), (0, x51), (0, x50), (0, x49)]) dX9_write_136 lX9_69 kX9_write iX9_write eX9_write rfl sh170 (by decide +kernel) (Nat.le_of_ble_eq_true rfl) (Nat.le_of_ble_eq_true rfl) rfl ?_
  exact h
set_option maxRecDepth 20000 in
set_option maxHeartbeats 4000000 in
theorem bX9_write_139 {G : zG} {d : Nat} {M : zM} {Q : zV → zM → Prop} (hG : zP G) {x1 x2 x3 x4 x5 x6 x7 x8 x49 : Int}
    (h : Q (0, x49) M) :
    Y G (d + 1) mX9_write 139 [(2, 170), (0, x1), (0, x2), (0, x3), (0, x4), (0, x5), (0, x6), (0, x7), (0, x8)] [(0, x49)] M Q := by
  exact z_ireturn dX9_write_139 (Or.inl rfl) rfl h
set_option maxRecDepth 20000 in
set_option maxHeartbeats 4000000 in
theorem bX9_leafOf_0 {G : zG} {d : Nat} {M : zM} {Q : zV → zM → Prop} (hG : zP G) {x1 x2 : Int}
    (h : ((x2 < 1 → Y G d mX9_leafOf 14 [(2, 170), (0, x1), (0, x2), (0, 0)] [] M Q) ∧ (1 ≤ x2 → ((x1 < x2 → Y G d mX9_leafOf 14 [(2, 170), (0, x1), (0, x2), (0, 0)] [] M Q) ∧ (x2 ≤ x1 → Q (0, x2) M))))) :
    Y G d mX9_leafOf 0 [(2, 170), (0, x1), (0, x2), (9, 0)] [] M Q := by
  refine z_iloadn dX9_leafOf_0 rfl ?_
  refine z_iconst dX9_leafOf_1 ki_1 ?_
  refine z_icmplt (tgt := 12) dX9_leafOf_2 rfl (fun q => ?_) (fun q => ?_)
  · replace h := h.1 q
    refine z_iconst dX9_leafOf_12 ki_0 ?_
    refine y_istoren (ls' := [(2, 170), (0, x1), (0, x2), (0, 0)]) dX9_leafOf_13 rfl rfl ?_
    exact h
  · replace h := h.2 q
    refine z_iloadn dX9_leafOf_5 rfl ?_
    refine z_iloadn dX9_leafOf_6 rfl ?_
    refine z_icmpgt (tgt := 12) dX9_leafOf_7 rfl (fun q => ?_) (fun q => ?_)
    · replace h := h.1 q
      refine z_iconst dX9_leafOf_12 ki_0 ?_
      refine y_istoren (ls' := [(2, 170), (0, x1), (0, x2), (0, 0)]) dX9_leafOf_13 rfl rfl ?_
      exact h
    · replace h := h.2 q
      refine z_iloadn dX9_leafOf_10 rfl ?_
      exact z_ireturn dX9_leafOf_11 (Or.inl rfl) rfl h
set_option maxRecDepth 20000 in
set_option maxHeartbeats 4000000 in
theorem bX9_leafOf_14 {G : zG} {d : Nat} {M : zM} {Q : zV → zM → Prop} (hG : zP G) {x1 x2 x3 : Int}
    (h : ((4 ≤ x3 → Q (0, (-1)) M) ∧ (x3 < 4 → (0 ≤ x3 ∧ x3 < 4) ∧ ((¬ (M 173 x3) = x2 → (-2147483648 ≤ x3 + 1 ∧ x3 + 1 ≤ 2147483647) ∧ Y G d mX9_leafOf 14 [(2, 170), (0, x1), (0, x2), (0, (x3 + 1))] [] M Q) ∧ ((M 173 x3) = x2 → (-2147483648 ≤ 2000 + x3 ∧ 2000 + x3 ≤ 2147483647) ∧ Q (0, (2000 + x3)) M))))) :
    Y G d mX9_leafOf 14 [(2, 170), (0, x1), (0, x2), (0, x3)] [] M Q := by
  refine z_iloadn dX9_leafOf_14 rfl ?_
  refine z_iconst dX9_leafOf_15 ki_4 ?_
  refine z_icmpge (tgt := 41) dX9_leafOf_16 rfl (fun q => ?_) (fun q => ?_)
  · replace h := h.1 q
    refine z_iconst dX9_leafOf_41 ki_m1 ?_
    exact z_ireturn dX9_leafOf_42 (Or.inl rfl) rfl h
  · replace h := h.2 q
    refine z_aloadn dX9_leafOf_19 rfl (Or.inl rfl) ?_
    refine y_getr (v := 173) hG dX9_leafOf_20 fX9_19 sh170 (by decide) rfl (by decide +kernel) (by decide) ?_
    refine z_iloadn dX9_leafOf_23 rfl ?_
    obtain ⟨q1, h⟩ := h
    refine y_iald (x := (M 173 x3)) dX9_leafOf_24 sh173 q1 rfl ?_
    refine z_iloadn dX9_leafOf_25 rfl ?_
    refine z_icmpne (tgt := 35) dX9_leafOf_26 rfl (fun q => ?_) (fun q => ?_)
    · replace h := h.1 q
      obtain ⟨q2, h⟩ := h
      refine y_iinc (ls' := [(2, 170), (0, x1), (0, x2), (0, (x3 + 1))]) dX9_leafOf_35 rfl rfl q2 rfl ?_
      refine z_goto (tgt := 14) dX9_leafOf_38 rfl ?_
      exact h
    · replace h := h.2 q
      refine z_sipush dX9_leafOf_29 ks_2000 ?_
      refine z_iloadn dX9_leafOf_32 rfl ?_
      obtain ⟨q3, h⟩ := h
      refine z_iadd dX9_leafOf_33 q3 ?_
      exact z_ireturn dX9_leafOf_34 (Or.inl rfl) rfl h
set_option maxRecDepth 20000 in
set_option maxHeartbeats 4000000 in
theorem bX9_partnerOf_0 {G : zG} {d : Nat} {M : zM} {Q : zV → zM → Prop} (hG : zP G) {x1 x2 x3 x4 x5 : Int}
    (h : ((¬ x2 = 0 → ((¬ x2 = 1 → ((¬ x1 = 0 → (¬ x1 = 0) ∧ ((¬ (zrem x3 x1) = 0 → Y G d mX9_countOf 0 [(2, 170), (0, x4), (0, x5), (0, (-1000)), (9, 0)] [] M (fun r M' => Y G (d + 1) mX9_partnerOf 74 [(2, 170), (0, x1), (0, x2), (0, x3), (0, x4), (0, x5), (0, (-1000))] (zpush r []) M' Q)) ∧ ((zrem x3 x1) = 0 → (¬ x1 = 0) ∧ Y G d mX9_countOf 0 [(2, 170), (0, x4), (0, x5), (0, (zdiv x3 x1)), (9, 0)] [] M (fun r M' => Y G (d + 1) mX9_partnerOf 74 [(2, 170), (0, x1), (0, x2), (0, x3), (0, x4), (0, x5), (0, (zdiv x3 x1))] (zpush r []) M' Q)))) ∧ (x1 = 0 → ((¬ x3 = 0 → Q (0, (-1000)) M) ∧ (x3 = 0 → Y G d mX9_leastOf 0 [(2, 170), (0, x4), (0, x5), (9, 0)] [] M (fun r M' => Y G (d + 1) mX9_partnerOf 46 [(2, 170), (0, x1), (0, x2), (0, x3), (0, x4), (0, x5), (0, (-1000))] (zpush r []) M' Q)))))) ∧ (x2 = 1 → (-2147483648 ≤ x1 - x3 ∧ x1 - x3 ≤ 2147483647) ∧ Y G d mX9_countOf 0 [(2, 170), (0, x4), (0, x5), (0, (x1 - x3)), (9, 0)] [] M (fun r M' => Y G (d + 1) mX9_partnerOf 74 [(2, 170), (0, x1), (0, x2), (0, x3), (0, x4), (0, x5), (0, (x1 - x3))] (zpush r []) M' Q)))) ∧ (x2 = 0 → (-2147483648 ≤ x3 - x1 ∧ x3 - x1 ≤ 2147483647) ∧ Y G d mX9_countOf 0 [(2, 170), (0, x4), (0, x5), (0, (x3 - x1)), (9, 0)] [] M (fun r M' => Y G (d + 1) mX9_partnerOf 74 [(2, 170), (0, x1), (0, x2), (0, x3), (0, x4), (0, x5), (0, (x3 - x1))] (zpush r []) M' Q)))) :
    Y G (d + 1) mX9_partnerOf 0 [(2, 170), (0, x1), (0, x2), (0, x3), (0, x4), (0, x5), (9, 0)] [] M Q := by
  refine z_sipush dX9_partnerOf_0 ks_m1000 ?_
  refine y_istore (ls' := [(2, 170), (0, x1), (0, x2), (0, x3), (0, x4), (0, x5), (0, (-1000))]) dX9_partnerOf_3 rfl rfl ?_
  refine z_iloadn dX9_partnerOf_5 rfl ?_
  refine z_ifne (tgt := 17) dX9_partnerOf_6 rfl (fun q => ?_) (fun q => ?_)
  · replace h := h.1 q
    refine z_iloadn dX9_partnerOf_17 rfl ?_
    refine z_iconst dX9_partnerOf_18 ki_1 ?_
    refine z_icmpne (tgt := 30) dX9_partnerOf_19 rfl (fun q => ?_) (fun q => ?_)
    · replace h := h.1 q
      refine z_iloadn dX9_partnerOf_30 rfl ?_
      refine z_ifne (tgt := 53) dX9_partnerOf_31 rfl (fun q => ?_) (fun q => ?_)
      · replace h := h.1 q
        refine z_iloadn dX9_partnerOf_53 rfl ?_
        refine z_iloadn dX9_partnerOf_54 rfl ?_
        obtain ⟨q1, h⟩ := h
        refine z_irem dX9_partnerOf_55 q1 ?_
        refine z_ifne (tgt := 64) dX9_partnerOf_56 rfl (fun q => ?_) (fun q => ?_)
        · replace h := h.1 q
          refine z_aloadn dX9_partnerOf_64 rfl (Or.inl rfl) ?_
          refine z_iload dX9_partnerOf_65 rfl ?_
          refine z_iload dX9_partnerOf_67 rfl ?_
          refine z_iload dX9_partnerOf_69 rfl ?_
          refine y_cv (mt2 := mX9_countOf) (en := [(2, 170), (0, x4), (0, x5), (0, (-1000)), (9, 0)]) (st := []) (as := [(0, x4), (0, x5), (0, (-1000))]) dX9_partnerOf_71 lX9_62 kX9_countOf iX9_countOf eX9_countOf rfl sh170 (by decide +kernel) (Nat.le_of_ble_eq_true rfl) (Nat.le_of_ble_eq_true rfl) rfl ?_
          exact h
        · replace h := h.2 q
          refine z_iloadn dX9_partnerOf_59 rfl ?_
          refine z_iloadn dX9_partnerOf_60 rfl ?_
          obtain ⟨q2, h⟩ := h
          refine z_idiv dX9_partnerOf_61 q2 ?_
          refine y_istore (ls' := [(2, 170), (0, x1), (0, x2), (0, x3), (0, x4), (0, x5), (0, (zdiv x3 x1))]) dX9_partnerOf_62 rfl rfl ?_
          refine z_aloadn dX9_partnerOf_64 rfl (Or.inl rfl) ?_
          refine z_iload dX9_partnerOf_65 rfl ?_
          refine z_iload dX9_partnerOf_67 rfl ?_
          refine z_iload dX9_partnerOf_69 rfl ?_
          refine y_cv (mt2 := mX9_countOf) (en := [(2, 170), (0, x4), (0, x5), (0, (zdiv x3 x1)), (9, 0)]) (st := []) (as := [(0, x4), (0, x5), (0, (zdiv x3 x1))]) dX9_partnerOf_71 lX9_62 kX9_countOf iX9_countOf eX9_countOf rfl sh170 (by decide +kernel) (Nat.le_of_ble_eq_true rfl) (Nat.le_of_ble_eq_true rfl) rfl ?_
          exact h
      · replace h := h.2 q
        refine z_iloadn dX9_partnerOf_34 rfl ?_
        refine z_ifne (tgt := 49) dX9_partnerOf_35 rfl (fun q => ?_) (fun q => ?_)
        · replace h := h.1 q
          refine z_sipush dX9_partnerOf_49 ks_m1000 ?_
          exact z_ireturn dX9_partnerOf_52 (Or.inl rfl) rfl h
        · replace h := h.2 q
          refine z_aloadn dX9_partnerOf_38 rfl (Or.inl rfl) ?_
          refine z_iload dX9_partnerOf_39 rfl ?_
          refine z_iload dX9_partnerOf_41 rfl ?_
          refine y_cv (mt2 := mX9_leastOf) (en := [(2, 170), (0, x4), (0, x5), (9, 0)]) (st := []) (as := [(0, x4), (0, x5)]) dX9_partnerOf_43 lX9_84 kX9_leastOf iX9_leastOf eX9_leastOf rfl sh170 (by decide +kernel) (Nat.le_of_ble_eq_true rfl) (Nat.le_of_ble_eq_true rfl) rfl ?_
          exact h
    · replace h := h.2 q
      refine z_iloadn dX9_partnerOf_22 rfl ?_
      refine z_iloadn dX9_partnerOf_23 rfl ?_
      obtain ⟨q3, h⟩ := h
      refine z_isub dX9_partnerOf_24 q3 ?_
      refine y_istore (ls' := [(2, 170), (0, x1), (0, x2), (0, x3), (0, x4), (0, x5), (0, (x1 - x3))]) dX9_partnerOf_25 rfl rfl ?_
      refine z_goto (tgt := 64) dX9_partnerOf_27 rfl ?_
      refine z_aloadn dX9_partnerOf_64 rfl (Or.inl rfl) ?_
      refine z_iload dX9_partnerOf_65 rfl ?_
      refine z_iload dX9_partnerOf_67 rfl ?_
      refine z_iload dX9_partnerOf_69 rfl ?_
      refine y_cv (mt2 := mX9_countOf) (en := [(2, 170), (0, x4), (0, x5), (0, (x1 - x3)), (9, 0)]) (st := []) (as := [(0, x4), (0, x5), (0, (x1 - x3))]) dX9_partnerOf_71 lX9_62 kX9_countOf iX9_countOf eX9_countOf rfl sh170 (by decide +kernel) (Nat.le_of_ble_eq_true rfl) (Nat.le_of_ble_eq_true rfl) rfl ?_
      exact h
  · replace h := h.2 q
    refine z_iloadn dX9_partnerOf_9 rfl ?_
    refine z_iloadn dX9_partnerOf_10 rfl ?_
    obtain ⟨q4, h⟩ := h
    refine z_isub dX9_partnerOf_11 q4 ?_
    refine y_istore (ls' := [(2, 170), (0, x1), (0, x2), (0, x3), (0, x4), (0, x5), (0, (x3 - x1))]) dX9_partnerOf_12 rfl rfl ?_
    refine z_goto (tgt := 64) dX9_partnerOf_14 rfl ?_
    refine z_aloadn dX9_partnerOf_64 rfl (Or.inl rfl) ?_
    refine z_iload dX9_partnerOf_65 rfl ?_
    refine z_iload dX9_partnerOf_67 rfl ?_
    refine z_iload dX9_partnerOf_69 rfl ?_
    refine y_cv (mt2 := mX9_countOf) (en := [(2, 170), (0, x4), (0, x5), (0, (x3 - x1)), (9, 0)]) (st := []) (as := [(0, x4), (0, x5), (0, (x3 - x1))]) dX9_partnerOf_71 lX9_62 kX9_countOf iX9_countOf eX9_countOf rfl sh170 (by decide +kernel) (Nat.le_of_ble_eq_true rfl) (Nat.le_of_ble_eq_true rfl) rfl ?_
    exact h
set_option maxRecDepth 20000 in
set_option maxHeartbeats 4000000 in
theorem bX9_partnerOf_74 {G : zG} {d : Nat} {M : zM} {Q : zV → zM → Prop} (hG : zP G) {x1 x2 x3 x4 x5 x6 x49 : Int}
    (h : ((x49 = 0 → Q (0, (-1000)) M) ∧ (¬ x49 = 0 → Q (0, x6) M))) :
    Y G (d + 1) mX9_partnerOf 74 [(2, 170), (0, x1), (0, x2), (0, x3), (0, x4), (0, x5), (0, x6)] [(0, x49)] M Q := by
  refine z_ifeq (tgt := 82) dX9_partnerOf_74 rfl (fun q => ?_) (fun q => ?_)
  · replace h := h.1 q
    refine z_sipush dX9_partnerOf_82 ks_m1000 ?_
    exact z_ireturn dX9_partnerOf_85 (Or.inl rfl) rfl h
  · replace h := h.2 q
    refine z_iload dX9_partnerOf_77 rfl ?_
    refine z_goto (tgt := 85) dX9_partnerOf_79 rfl ?_
    exact z_ireturn dX9_partnerOf_85 (Or.inl rfl) rfl h
set_option maxRecDepth 20000 in
set_option maxHeartbeats 4000000 in
theorem bX9_partnerOf_46 {G : zG} {d : Nat} {M : zM} {Q : zV → zM → Prop} (hG : zP G) {x1 x2 x3 x4 x5 x6 x49 : Int}
    (h : Q (0, x49) M) :
    Y G (d + 1) mX9_partnerOf 46 [(2, 170), (0, x1), (0, x2), (0, x3), (0, x4), (0, x5), (0, x6)] [(0, x49)] M Q := by
  refine z_goto (tgt := 52) dX9_partnerOf_46 rfl ?_
  exact z_ireturn dX9_partnerOf_52 (Or.inl rfl) rfl h
set_option maxRecDepth 20000 in
set_option maxHeartbeats 4000000 in
theorem bX9_leastOf_0 {G : zG} {d : Nat} {M : zM} {Q : zV → zM → Prop} (hG : zP G) {x1 x2 : Int}
    (h : Y G (d + 1) mX9_leastOf 4 [(2, 170), (0, x1), (0, x2), (0, (-500))] [] M Q) :
    Y G (d + 1) mX9_leastOf 0 [(2, 170), (0, x1), (0, x2), (9, 0)] [] M Q := by
  refine z_sipush dX9_leastOf_0 ks_m500 ?_
  refine y_istoren (ls' := [(2, 170), (0, x1), (0, x2), (0, (-500))]) dX9_leastOf_3 rfl rfl ?_
  exact h
set_option maxRecDepth 20000 in
set_option maxHeartbeats 4000000 in
theorem bX9_leastOf_4 {G : zG} {d : Nat} {M : zM} {Q : zV → zM → Prop} (hG : zP G) {x1 x2 x3 : Int}
    (h : ((500 < x3 → Q (0, (-1000)) M) ∧ (x3 ≤ 500 → Y G d mX9_countOf 0 [(2, 170), (0, x1), (0, x2), (0, x3), (9, 0)] [] M (fun r M' => Y G (d + 1) mX9_leastOf 18 [(2, 170), (0, x1), (0, x2), (0, x3)] (zpush r []) M' Q)))) :
    Y G (d + 1) mX9_leastOf 4 [(2, 170), (0, x1), (0, x2), (0, x3)] [] M Q := by
  refine z_iloadn dX9_leastOf_4 rfl ?_
  refine z_sipush dX9_leastOf_5 ks_500 ?_
  refine z_icmpgt (tgt := 29) dX9_leastOf_8 rfl (fun q => ?_) (fun q => ?_)
  · replace h := h.1 q
    refine z_sipush dX9_leastOf_29 ks_m1000 ?_
    exact z_ireturn dX9_leastOf_32 (Or.inl rfl) rfl h
  · replace h := h.2 q
    refine z_aloadn dX9_leastOf_11 rfl (Or.inl rfl) ?_
    refine z_iloadn dX9_leastOf_12 rfl ?_
    refine z_iloadn dX9_leastOf_13 rfl ?_
    refine z_iloadn dX9_leastOf_14 rfl ?_
    refine y_cv (mt2 := mX9_countOf) (en := [(2, 170), (0, x1), (0, x2), (0, x3), (9, 0)]) (st := []) (as := [(0, x1), (0, x2), (0, x3)]) dX9_leastOf_15 lX9_62 kX9_countOf iX9_countOf eX9_countOf rfl sh170 (by decide +kernel) (Nat.le_of_ble_eq_true rfl) (Nat.le_of_ble_eq_true rfl) rfl ?_
    exact h
set_option maxRecDepth 20000 in
set_option maxHeartbeats 4000000 in
theorem bX9_leastOf_18 {G : zG} {d : Nat} {M : zM} {Q : zV → zM → Prop} (hG : zP G) {x1 x2 x3 x49 : Int}
    (h : ((x49 = 0 → (-2147483648 ≤ x3 + 1 ∧ x3 + 1 ≤ 2147483647) ∧ Y G (d + 1) mX9_leastOf 4 [(2, 170), (0, x1), (0, x2), (0, (x3 + 1))] [] M Q) ∧ (¬ x49 = 0 → Q (0, x3) M))) :
    Y G (d + 1) mX9_leastOf 18 [(2, 170), (0, x1), (0, x2), (0, x3)] [(0, x49)] M Q := by
  refine z_ifeq (tgt := 23) dX9_leastOf_18 rfl (fun q => ?_) (fun q => ?_)
  · replace h := h.1 q
    obtain ⟨q1, h⟩ := h
    refine y_iinc (ls' := [(2, 170), (0, x1), (0, x2), (0, (x3 + 1))]) dX9_leastOf_23 rfl rfl q1 rfl ?_
    refine z_goto (tgt := 4) dX9_leastOf_26 rfl ?_
    exact h
  · replace h := h.2 q
    refine z_iloadn dX9_leastOf_21 rfl ?_
    exact z_ireturn dX9_leastOf_22 (Or.inl rfl) rfl h
set_option maxRecDepth 20000 in
set_option maxHeartbeats 4000000 in
theorem bX9_prepare_0 {G : zG} {d : Nat} {M : zM} {Q : zV → zM → Prop} (hG : zP G) {x1 x2 r3 : Int} {nr3 : Nat} (hr3 : zsh r3.toNat = (100, nr3))
    (h : Y G (d + 1) mX9_prepare 3 [(2, 170), (0, x1), (0, x2), (2, r3), (0, 0), (9, 0)] [] M Q) :
    Y G (d + 1) mX9_prepare 0 [(2, 170), (0, x1), (0, x2), (2, r3), (9, 0), (9, 0)] [] M Q := by
  refine z_iconst dX9_prepare_0 ki_0 ?_
  refine y_istore (ls' := [(2, 170), (0, x1), (0, x2), (2, r3), (0, 0), (9, 0)]) dX9_prepare_1 rfl rfl ?_
  exact h
set_option maxRecDepth 20000 in
set_option maxHeartbeats 4000000 in
theorem bX9_prepare_3 {G : zG} {d : Nat} {M : zM} {Q : zV → zM → Prop} (hG : zP G) {x1 x2 r3 x4 : Int} {nr3 : Nat} (hr3 : zsh r3.toNat = (100, nr3))
    (h : ((4 ≤ x4 → (0 ≤ x1 ∧ x1 < 10) ∧ (-2147483648 ≤ (M 172 x1) + 1 ∧ (M 172 x1) + 1 ≤ 2147483647) ∧ Y G (d + 1) mX9_prepare 58 [(2, 170), (0, x1), (0, x2), (2, r3), (0, ((M 172 x1) + 1)), (9, 0)] [] M Q) ∧ (x4 < 4 → (0 ≤ x4 ∧ x4 < 4) ∧ (0 ≤ x4 ∧ x4 < (nr3 : Int)) ∧ (((M 173 x4) = (M r3 x4) → (-2147483648 ≤ x4 + 1 ∧ x4 + 1 ≤ 2147483647) ∧ Y G (d + 1) mX9_prepare 3 [(2, 170), (0, x1), (0, x2), (2, r3), (0, (x4 + 1)), (9, 0)] [] M Q) ∧ (¬ (M 173 x4) = (M r3 x4) → (0 ≤ x4 ∧ x4 < (nr3 : Int)) ∧ (0 ≤ x4 ∧ x4 < 4) ∧ Y G d mJ7_fill_53178 0 [(2, 172), (0, 0), (9, 0), (9, 0)] [] (zset M 173 x4 (M r3 x4)) (fun r M' => Y G (d + 1) mX9_prepare 42 [(2, 170), (0, x1), (0, x2), (2, r3), (0, x4), (9, 0)] (zpush r []) M' Q)))))) :
    Y G (d + 1) mX9_prepare 3 [(2, 170), (0, x1), (0, x2), (2, r3), (0, x4), (9, 0)] [] M Q := by
  refine z_iload dX9_prepare_3 rfl ?_
  refine z_iconst dX9_prepare_5 ki_4 ?_
  refine z_icmpge (tgt := 48) dX9_prepare_6 rfl (fun q => ?_) (fun q => ?_)
  · replace h := h.1 q
    refine z_aloadn dX9_prepare_48 rfl (Or.inl rfl) ?_
    refine y_getr (v := 172) hG dX9_prepare_49 fX9_16 sh170 (by decide) rfl (by decide +kernel) (by decide) ?_
    refine z_iloadn dX9_prepare_52 rfl ?_
    obtain ⟨q1, h⟩ := h
    refine y_iald (x := (M 172 x1)) dX9_prepare_53 sh172 q1 rfl ?_
    refine z_iconst dX9_prepare_54 ki_1 ?_
    obtain ⟨q2, h⟩ := h
    refine z_iadd dX9_prepare_55 q2 ?_
    refine y_istore (ls' := [(2, 170), (0, x1), (0, x2), (2, r3), (0, ((M 172 x1) + 1)), (9, 0)]) dX9_prepare_56 rfl rfl ?_
    exact h
  · replace h := h.2 q
    refine z_aloadn dX9_prepare_9 rfl (Or.inl rfl) ?_
    refine y_getr (v := 173) hG dX9_prepare_10 fX9_19 sh170 (by decide) rfl (by decide +kernel) (by decide) ?_
    refine z_iload dX9_prepare_13 rfl ?_
    obtain ⟨q3, h⟩ := h
    refine y_iald (x := (M 173 x4)) dX9_prepare_15 sh173 q3 rfl ?_
    refine z_aloadn dX9_prepare_16 rfl (Or.inl rfl) ?_
    refine z_iload dX9_prepare_17 rfl ?_
    obtain ⟨q4, h⟩ := h
    refine y_iald (x := (M r3 x4)) dX9_prepare_19 hr3 q4 rfl ?_
    refine z_icmpeq (tgt := 42) dX9_prepare_20 rfl (fun q => ?_) (fun q => ?_)
    · replace h := h.1 q
      obtain ⟨q5, h⟩ := h
      refine y_iinc (ls' := [(2, 170), (0, x1), (0, x2), (2, r3), (0, (x4 + 1)), (9, 0)]) dX9_prepare_42 rfl rfl q5 rfl ?_
      refine z_goto (tgt := 3) dX9_prepare_45 rfl ?_
      exact h
    · replace h := h.2 q
      refine z_aloadn dX9_prepare_23 rfl (Or.inl rfl) ?_
      refine y_getr (v := 173) hG dX9_prepare_24 fX9_19 sh170 (by decide) rfl (by decide +kernel) (by decide) ?_
      refine z_iload dX9_prepare_27 rfl ?_
      refine z_aloadn dX9_prepare_29 rfl (Or.inl rfl) ?_
      refine z_iload dX9_prepare_30 rfl ?_
      obtain ⟨q6, h⟩ := h
      refine y_iald (x := (M r3 x4)) dX9_prepare_32 hr3 q6 rfl ?_
      obtain ⟨q7, h⟩ := h
      refine y_iast hG dX9_prepare_33 sh173 q7 ?_
      refine z_aloadn dX9_prepare_34 rfl (Or.inl rfl) ?_
      refine y_getr (v := 172) hG dX9_prepare_35 fX9_16 sh170 (by decide) rfl (by decide +kernel) (by decide) ?_
      refine z_iconst dX9_prepare_38 ki_0 ?_
      refine y_cs (mt2 := mJ7_fill_53178) (en := [(2, 172), (0, 0), (9, 0), (9, 0)]) (st := []) (as := [(2, 172), (0, 0)]) dX9_prepare_39 lX9_28 kJ7_fill_53178 tJ7_fill_53178 rfl (Nat.le_of_ble_eq_true rfl) (Nat.le_of_ble_eq_true rfl) rfl ?_
      exact h
set_option maxRecDepth 20000 in
set_option maxHeartbeats 4000000 in
theorem bX9_prepare_58 {G : zG} {d : Nat} {M : zM} {Q : zV → zM → Prop} (hG : zP G) {x1 x2 r3 x4 : Int} {nr3 : Nat} (hr3 : zsh r3.toNat = (100, nr3))
    (h : ((x2 < x4 → Q (9, 0) M) ∧ (x4 ≤ x2 → Y G d mX9_clear 0 [(2, 170), (0, x1), (0, x4), (9, 0), (9, 0)] [] M (fun r M' => Y G (d + 1) mX9_prepare 71 [(2, 170), (0, x1), (0, x2), (2, r3), (0, x4), (9, 0)] (zpush r []) M' Q)))) :
    Y G (d + 1) mX9_prepare 58 [(2, 170), (0, x1), (0, x2), (2, r3), (0, x4), (9, 0)] [] M Q := by
  refine z_iload dX9_prepare_58 rfl ?_
  refine z_iloadn dX9_prepare_60 rfl ?_
  refine z_icmpgt (tgt := 127) dX9_prepare_61 rfl (fun q => ?_) (fun q => ?_)
  · replace h := h.1 q
    exact z_return dX9_prepare_127 rfl rfl h
  · replace h := h.2 q
    refine z_aloadn dX9_prepare_64 rfl (Or.inl rfl) ?_
    refine z_iloadn dX9_prepare_65 rfl ?_
    refine z_iload dX9_prepare_66 rfl ?_
    refine y_cv (mt2 := mX9_clear) (en := [(2, 170), (0, x1), (0, x4), (9, 0), (9, 0)]) (st := []) (as := [(0, x1), (0, x4)]) dX9_prepare_68 lX9_34 kX9_clear iX9_clear eX9_clear rfl sh170 (by decide +kernel) (Nat.le_of_ble_eq_true rfl) (Nat.le_of_ble_eq_true rfl) rfl ?_
    exact h
set_option maxRecDepth 20000 in
set_option maxHeartbeats 4000000 in
theorem bX9_prepare_85 {G : zG} {d : Nat} {M : zM} {Q : zV → zM → Prop} (hG : zP G) {x1 x2 r3 x4 x5 : Int} {nr3 : Nat} (hr3 : zsh r3.toNat = (100, nr3))
    (h : (-2147483648 ≤ x4 - x5 ∧ x4 - x5 ≤ 2147483647) ∧ (((x4 - x5) < x5 → (0 ≤ x1 ∧ x1 < 10) ∧ (-2147483648 ≤ x4 + 1 ∧ x4 + 1 ≤ 2147483647) ∧ Y G (d + 1) mX9_prepare 58 [(2, 170), (0, x1), (0, x2), (2, r3), (0, (x4 + 1)), (9, 0)] [] (zset M 172 x1 x4) Q) ∧ (x5 ≤ (x4 - x5) → (-2147483648 ≤ x4 - x5 ∧ x4 - x5 ≤ 2147483647) ∧ Y G d mX9_join 0 [(2, 170), (0, x1), (0, x5), (0, (x4 - x5)), (9, 0), (9, 0), (9, 0), (9, 0)] [] M (fun r M' => Y G (d + 1) mX9_prepare 107 [(2, 170), (0, x1), (0, x2), (2, r3), (0, x4), (0, x5)] (zpush r []) M' Q)))) :
    Y G (d + 1) mX9_prepare 85 [(2, 170), (0, x1), (0, x2), (2, r3), (0, x4), (0, x5)] [] M Q := by
  refine z_iload dX9_prepare_85 rfl ?_
  refine z_iload dX9_prepare_87 rfl ?_
  refine z_iload dX9_prepare_89 rfl ?_
  obtain ⟨q1, h⟩ := h
  refine z_isub dX9_prepare_91 q1 ?_
  refine z_icmpgt (tgt := 113) dX9_prepare_92 rfl (fun q => ?_) (fun q => ?_)
  · replace h := h.1 q
    refine z_aloadn dX9_prepare_113 rfl (Or.inl rfl) ?_
    refine y_getr (v := 172) hG dX9_prepare_114 fX9_16 sh170 (by decide) rfl (by decide +kernel) (by decide) ?_
    refine z_iloadn dX9_prepare_117 rfl ?_
    refine z_iload dX9_prepare_118 rfl ?_
    obtain ⟨q2, h⟩ := h
    refine y_iast hG dX9_prepare_120 sh172 q2 ?_
    obtain ⟨q3, h⟩ := h
    refine y_iinc (ls' := [(2, 170), (0, x1), (0, x2), (2, r3), (0, (x4 + 1)), (0, x5)]) dX9_prepare_121 rfl rfl q3 rfl ?_
    refine z_goto (tgt := 58) dX9_prepare_124 rfl ?_
    refine z_sub (ls' := [(2, 170), (0, x1), (0, x2), (2, r3), (0, (x4 + 1)), (9, 0)]) ⟨Or.inl rfl, Or.inl rfl, Or.inl rfl, Or.inl rfl, Or.inl rfl, Or.inr rfl, trivial⟩ ?_
    exact h
  · replace h := h.2 q
    refine z_aloadn dX9_prepare_95 rfl (Or.inl rfl) ?_
    refine z_iloadn dX9_prepare_96 rfl ?_
    refine z_iload dX9_prepare_97 rfl ?_
    refine z_iload dX9_prepare_99 rfl ?_
    refine z_iload dX9_prepare_101 rfl ?_
    obtain ⟨q4, h⟩ := h
    refine z_isub dX9_prepare_103 q4 ?_
    refine y_cv (mt2 := mX9_join) (en := [(2, 170), (0, x1), (0, x5), (0, (x4 - x5)), (9, 0), (9, 0), (9, 0), (9, 0)]) (st := []) (as := [(0, x1), (0, x5), (0, (x4 - x5))]) dX9_prepare_104 lX9_42 kX9_join iX9_join eX9_join rfl sh170 (by decide +kernel) (Nat.le_of_ble_eq_true rfl) (Nat.le_of_ble_eq_true rfl) rfl ?_
    exact h
set_option maxRecDepth 20000 in
set_option maxHeartbeats 4000000 in
theorem bX9_prepare_42 {G : zG} {d : Nat} {M : zM} {Q : zV → zM → Prop} (hG : zP G) {x1 x2 r3 x4 : Int} {nr3 : Nat} (hr3 : zsh r3.toNat = (100, nr3))
    (h : (-2147483648 ≤ x4 + 1 ∧ x4 + 1 ≤ 2147483647) ∧ Y G (d + 1) mX9_prepare 3 [(2, 170), (0, x1), (0, x2), (2, r3), (0, (x4 + 1)), (9, 0)] [] M Q) :
    Y G (d + 1) mX9_prepare 42 [(2, 170), (0, x1), (0, x2), (2, r3), (0, x4), (9, 0)] [] M Q := by
  obtain ⟨q1, h⟩ := h
  refine y_iinc (ls' := [(2, 170), (0, x1), (0, x2), (2, r3), (0, (x4 + 1)), (9, 0)]) dX9_prepare_42 rfl rfl q1 rfl ?_
  refine z_goto (tgt := 3) dX9_prepare_45 rfl ?_
  exact h
set_option maxRecDepth 20000 in
set_option maxHeartbeats 4000000 in
theorem bX9_prepare_71 {G : zG} {d : Nat} {M : zM} {Q : zV → zM → Prop} (hG : zP G) {x1 x2 r3 x4 : Int} {nr3 : Nat} (hr3 : zsh r3.toNat = (100, nr3))
    (h : ((¬ x4 = 1 → Y G (d + 1) mX9_prepare 85 [(2, 170), (0, x1), (0, x2), (2, r3), (0, x4), (0, 1)] [] M Q) ∧ (x4 = 1 → Y G d mX9_countLeaves 0 [(2, 170), (0, x1), (9, 0)] [] M (fun r M' => Y G (d + 1) mX9_prepare 82 [(2, 170), (0, x1), (0, x2), (2, r3), (0, x4), (9, 0)] (zpush r []) M' Q)))) :
    Y G (d + 1) mX9_prepare 71 [(2, 170), (0, x1), (0, x2), (2, r3), (0, x4), (9, 0)] [] M Q := by
  refine z_iload dX9_prepare_71 rfl ?_
  refine z_iconst dX9_prepare_73 ki_1 ?_
  refine z_icmpne (tgt := 82) dX9_prepare_74 rfl (fun q => ?_) (fun q => ?_)
  · replace h := h.1 q
    refine z_iconst dX9_prepare_82 ki_1 ?_
    refine y_istore (ls' := [(2, 170), (0, x1), (0, x2), (2, r3), (0, x4), (0, 1)]) dX9_prepare_83 rfl rfl ?_
    exact h
  · replace h := h.2 q
    refine z_aloadn dX9_prepare_77 rfl (Or.inl rfl) ?_
    refine z_iloadn dX9_prepare_78 rfl ?_
    refine y_cv (mt2 := mX9_countLeaves) (en := [(2, 170), (0, x1), (9, 0)]) (st := []) (as := [(0, x1)]) dX9_prepare_79 lX9_38 kX9_countLeaves iX9_countLeaves eX9_countLeaves rfl sh170 (by decide +kernel) (Nat.le_of_ble_eq_true rfl) (Nat.le_of_ble_eq_true rfl) rfl ?_
    exact h
set_option maxRecDepth 20000 in
set_option maxHeartbeats 4000000 in
theorem bX9_prepare_107 {G : zG} {d : Nat} {M : zM} {Q : zV → zM → Prop} (hG : zP G) {x1 x2 r3 x4 x5 : Int} {nr3 : Nat} (hr3 : zsh r3.toNat = (100, nr3))
    (h : (-2147483648 ≤ x5 + 1 ∧ x5 + 1 ≤ 2147483647) ∧ Y G (d + 1) mX9_prepare 85 [(2, 170), (0, x1), (0, x2), (2, r3), (0, x4), (0, (x5 + 1))] [] M Q) :
    Y G (d + 1) mX9_prepare 107 [(2, 170), (0, x1), (0, x2), (2, r3), (0, x4), (0, x5)] [] M Q := by
  obtain ⟨q1, h⟩ := h
  refine y_iinc (ls' := [(2, 170), (0, x1), (0, x2), (2, r3), (0, x4), (0, (x5 + 1))]) dX9_prepare_107 rfl rfl q1 rfl ?_
  refine z_goto (tgt := 85) dX9_prepare_110 rfl ?_
  exact h
set_option maxRecDepth 20000 in
set_option maxHeartbeats 4000000 in
theorem bX9_prepare_82 {G : zG} {d : Nat} {M : zM} {Q : zV → zM → Prop} (hG : zP G) {x1 x2 r3 x4 : Int} {nr3 : Nat} (hr3 : zsh r3.toNat = (100, nr3))
    (h : Y G (d + 1) mX9_prepare 85 [(2, 170), (0, x1), (0, x2), (2, r3), (0, x4), (0, 1)] [] M Q) :
    Y G (d + 1) mX9_prepare 82 [(2, 170), (0, x1), (0, x2), (2, r3), (0, x4), (9, 0)] [] M Q := by
  refine z_iconst dX9_prepare_82 ki_1 ?_
  refine y_istore (ls' := [(2, 170), (0, x1), (0, x2), (2, r3), (0, x4), (0, 1)]) dX9_prepare_83 rfl rfl ?_
  exact h
set_option maxRecDepth 20000 in
set_option maxHeartbeats 4000000 in
theorem bX9_clear_0 {G : zG} {d : Nat} {M : zM} {Q : zV → zM → Prop} (hG : zP G) {x1 x2 : Int}
    (h : (zplr x1 x2 0) ∧ Y G (d + 1) mX9_clear 12 [(2, 170), (0, x1), (0, x2), (0, (zpl x1 x2 0)), (0, (-500))] [] M Q) :
    Y G (d + 1) mX9_clear 0 [(2, 170), (0, x1), (0, x2), (9, 0), (9, 0)] [] M Q := by
  refine z_iloadn dX9_clear_0 rfl ?_
  refine z_iloadn dX9_clear_1 rfl ?_
  refine z_iconst dX9_clear_2 ki_0 ?_
  obtain ⟨q1, h⟩ := h
  refine y_cs (mt2 := mX9_placeOf) (en := [(0, x1), (0, x2), (0, 0)]) (st := []) (as := [(0, x1), (0, x2), (0, 0)]) dX9_clear_3 lX9_46 kX9_placeOf tX9_placeOf rfl (Nat.le_of_ble_eq_true rfl) (Nat.le_of_ble_eq_true rfl) rfl (s_placeOf hG q1 ?_)
  show Y G (d + 1) mX9_clear 6 [(2, 170), (0, x1), (0, x2), (9, 0), (9, 0)] [(0, (zpl x1 x2 0))] M Q
  refine y_istoren (ls' := [(2, 170), (0, x1), (0, x2), (0, (zpl x1 x2 0)), (9, 0)]) dX9_clear_6 rfl rfl ?_
  refine z_sipush dX9_clear_7 ks_m500 ?_
  refine y_istore (ls' := [(2, 170), (0, x1), (0, x2), (0, (zpl x1 x2 0)), (0, (-500))]) dX9_clear_10 rfl rfl ?_
  exact h
set_option maxRecDepth 20000 in
set_option maxHeartbeats 4000000 in
theorem bX9_clear_12 {G : zG} {d : Nat} {M : zM} {Q : zV → zM → Prop} (hG : zP G) {x1 x2 x3 x4 : Int}
    (h : ((500 < x4 → Q (9, 0) M) ∧ (x4 ≤ 500 → (-2147483648 ≤ x3 + x4 ∧ x3 + x4 ≤ 2147483647) ∧ (0 ≤ (x3 + x4) ∧ (x3 + x4) < 50050) ∧ (-2147483648 ≤ x4 + 1 ∧ x4 + 1 ≤ 2147483647) ∧ Y G (d + 1) mX9_clear 12 [(2, 170), (0, x1), (0, x2), (0, x3), (0, (x4 + 1))] [] (zset M 171 (x3 + x4) 0) Q))) :
    Y G (d + 1) mX9_clear 12 [(2, 170), (0, x1), (0, x2), (0, x3), (0, x4)] [] M Q := by
  refine z_iload dX9_clear_12 rfl ?_
  refine z_sipush dX9_clear_14 ks_500 ?_
  refine z_icmpgt (tgt := 36) dX9_clear_17 rfl (fun q => ?_) (fun q => ?_)
  · replace h := h.1 q
    exact z_return dX9_clear_36 rfl rfl h
  · replace h := h.2 q
    refine z_aloadn dX9_clear_20 rfl (Or.inl rfl) ?_
    refine y_getr (v := 171) hG dX9_clear_21 fX9_10 sh170 (by decide) rfl (by decide +kernel) (by decide) ?_
    refine z_iloadn dX9_clear_24 rfl ?_
    refine z_iload dX9_clear_25 rfl ?_
    obtain ⟨q1, h⟩ := h
    refine z_iadd dX9_clear_27 q1 ?_
    refine z_iconst dX9_clear_28 ki_0 ?_
    obtain ⟨q2, h⟩ := h
    refine y_iast hG dX9_clear_29 sh171 q2 ?_
    obtain ⟨q3, h⟩ := h
    refine y_iinc (ls' := [(2, 170), (0, x1), (0, x2), (0, x3), (0, (x4 + 1))]) dX9_clear_30 rfl rfl q3 rfl ?_
    refine z_goto (tgt := 12) dX9_clear_33 rfl ?_
    exact h
set_option maxRecDepth 20000 in
set_option maxHeartbeats 4000000 in
theorem bX9_countLeaves_0 {G : zG} {d : Nat} {M : zM} {Q : zV → zM → Prop} (hG : zP G) {x1 : Int}
    (h : Y G (d + 1) mX9_countLeaves 2 [(2, 170), (0, x1), (0, 1)] [] M Q) :
    Y G (d + 1) mX9_countLeaves 0 [(2, 170), (0, x1), (9, 0)] [] M Q := by
  refine z_iconst dX9_countLeaves_0 ki_1 ?_
  refine y_istoren (ls' := [(2, 170), (0, x1), (0, 1)]) dX9_countLeaves_1 rfl rfl ?_
  exact h
set_option maxRecDepth 20000 in
set_option maxHeartbeats 4000000 in
theorem bX9_countLeaves_2 {G : zG} {d : Nat} {M : zM} {Q : zV → zM → Prop} (hG : zP G) {x1 x2 : Int}
    (h : ((x1 < x2 → Y G (d + 1) mX9_countLeaves 30 [(2, 170), (0, x1), (0, 0)] [] M Q) ∧ (x2 ≤ x1 → (zplr x1 1 x2) ∧ (0 ≤ (zpl x1 1 x2) ∧ (zpl x1 1 x2) < 50050) ∧ (-2147483648 ≤ (M 171 (zpl x1 1 x2)) + 1 ∧ (M 171 (zpl x1 1 x2)) + 1 ≤ 2147483647) ∧ (0 ≤ (zpl x1 1 x2) ∧ (zpl x1 1 x2) < 50050) ∧ (-2147483648 ≤ x2 + 1 ∧ x2 + 1 ≤ 2147483647) ∧ Y G (d + 1) mX9_countLeaves 2 [(2, 170), (0, x1), (0, (x2 + 1))] [] (zset M 171 (zpl x1 1 x2) ((M 171 (zpl x1 1 x2)) + 1)) Q))) :
    Y G (d + 1) mX9_countLeaves 2 [(2, 170), (0, x1), (0, x2)] [] M Q := by
  refine z_iloadn dX9_countLeaves_2 rfl ?_
  refine z_iloadn dX9_countLeaves_3 rfl ?_
  refine z_icmpgt (tgt := 28) dX9_countLeaves_4 rfl (fun q => ?_) (fun q => ?_)
  · replace h := h.1 q
    refine z_iconst dX9_countLeaves_28 ki_0 ?_
    refine y_istoren (ls' := [(2, 170), (0, x1), (0, 0)]) dX9_countLeaves_29 rfl rfl ?_
    exact h
  · replace h := h.2 q
    refine z_aloadn dX9_countLeaves_7 rfl (Or.inl rfl) ?_
    refine y_getr (v := 171) hG dX9_countLeaves_8 fX9_10 sh170 (by decide) rfl (by decide +kernel) (by decide) ?_
    refine z_iloadn dX9_countLeaves_11 rfl ?_
    refine z_iconst dX9_countLeaves_12 ki_1 ?_
    refine z_iloadn dX9_countLeaves_13 rfl ?_
    obtain ⟨q1, h⟩ := h
    refine y_cs (mt2 := mX9_placeOf) (en := [(0, x1), (0, 1), (0, x2)]) (st := [(2, 171)]) (as := [(0, x1), (0, 1), (0, x2)]) dX9_countLeaves_14 lX9_46 kX9_placeOf tX9_placeOf rfl (Nat.le_of_ble_eq_true rfl) (Nat.le_of_ble_eq_true rfl) rfl (s_placeOf hG q1 ?_)
    show Y G (d + 1) mX9_countLeaves 17 [(2, 170), (0, x1), (0, x2)] [(0, (zpl x1 1 x2)), (2, 171)] M Q
    refine z_dup2 dX9_countLeaves_17 (show (0 : Nat) ≠ 1 by decide) (show (2 : Nat) ≠ 1 by decide) ?_
    obtain ⟨q2, h⟩ := h
    refine y_iald (x := (M 171 (zpl x1 1 x2))) dX9_countLeaves_18 sh171 q2 rfl ?_
    refine z_iconst dX9_countLeaves_19 ki_1 ?_
    obtain ⟨q3, h⟩ := h
    refine z_iadd dX9_countLeaves_20 q3 ?_
    obtain ⟨q4, h⟩ := h
    refine y_iast hG dX9_countLeaves_21 sh171 q4 ?_
    obtain ⟨q5, h⟩ := h
    refine y_iinc (ls' := [(2, 170), (0, x1), (0, (x2 + 1))]) dX9_countLeaves_22 rfl rfl q5 rfl ?_
    refine z_goto (tgt := 2) dX9_countLeaves_25 rfl ?_
    exact h
set_option maxRecDepth 20000 in
set_option maxHeartbeats 4000000 in
theorem bX9_countLeaves_30 {G : zG} {d : Nat} {M : zM} {Q : zV → zM → Prop} (hG : zP G) {x1 x2 : Int}
    (h : ((4 ≤ x2 → Q (9, 0) M) ∧ (x2 < 4 → (0 ≤ x2 ∧ x2 < 4) ∧ (zplr x1 1 (M 173 x2)) ∧ (0 ≤ (zpl x1 1 (M 173 x2)) ∧ (zpl x1 1 (M 173 x2)) < 50050) ∧ (-2147483648 ≤ (M 171 (zpl x1 1 (M 173 x2))) + 1 ∧ (M 171 (zpl x1 1 (M 173 x2))) + 1 ≤ 2147483647) ∧ (0 ≤ (zpl x1 1 (M 173 x2)) ∧ (zpl x1 1 (M 173 x2)) < 50050) ∧ (-2147483648 ≤ x2 + 1 ∧ x2 + 1 ≤ 2147483647) ∧ Y G (d + 1) mX9_countLeaves 30 [(2, 170), (0, x1), (0, (x2 + 1))] [] (zset M 171 (zpl x1 1 (M 173 x2)) ((M 171 (zpl x1 1 (M 173 x2))) + 1)) Q))) :
    Y G (d + 1) mX9_countLeaves 30 [(2, 170), (0, x1), (0, x2)] [] M Q := by
  refine z_iloadn dX9_countLeaves_30 rfl ?_
  refine z_iconst dX9_countLeaves_31 ki_4 ?_
  refine z_icmpge (tgt := 61) dX9_countLeaves_32 rfl (fun q => ?_) (fun q => ?_)
  · replace h := h.1 q
    exact z_return dX9_countLeaves_61 rfl rfl h
  · replace h := h.2 q
    refine z_aloadn dX9_countLeaves_35 rfl (Or.inl rfl) ?_
    refine y_getr (v := 171) hG dX9_countLeaves_36 fX9_10 sh170 (by decide) rfl (by decide +kernel) (by decide) ?_
    refine z_iloadn dX9_countLeaves_39 rfl ?_
    refine z_iconst dX9_countLeaves_40 ki_1 ?_
    refine z_aloadn dX9_countLeaves_41 rfl (Or.inl rfl) ?_
    refine y_getr (v := 173) hG dX9_countLeaves_42 fX9_19 sh170 (by decide) rfl (by decide +kernel) (by decide) ?_
    refine z_iloadn dX9_countLeaves_45 rfl ?_
    obtain ⟨q1, h⟩ := h
    refine y_iald (x := (M 173 x2)) dX9_countLeaves_46 sh173 q1 rfl ?_
    obtain ⟨q2, h⟩ := h
    refine y_cs (mt2 := mX9_placeOf) (en := [(0, x1), (0, 1), (0, (M 173 x2))]) (st := [(2, 171)]) (as := [(0, x1), (0, 1), (0, (M 173 x2))]) dX9_countLeaves_47 lX9_46 kX9_placeOf tX9_placeOf rfl (Nat.le_of_ble_eq_true rfl) (Nat.le_of_ble_eq_true rfl) rfl (s_placeOf hG q2 ?_)
    show Y G (d + 1) mX9_countLeaves 50 [(2, 170), (0, x1), (0, x2)] [(0, (zpl x1 1 (M 173 x2))), (2, 171)] M Q
    refine z_dup2 dX9_countLeaves_50 (show (0 : Nat) ≠ 1 by decide) (show (2 : Nat) ≠ 1 by decide) ?_
    obtain ⟨q3, h⟩ := h
    refine y_iald (x := (M 171 (zpl x1 1 (M 173 x2)))) dX9_countLeaves_51 sh171 q3 rfl ?_
    refine z_iconst dX9_countLeaves_52 ki_1 ?_
    obtain ⟨q4, h⟩ := h
    refine z_iadd dX9_countLeaves_53 q4 ?_
    obtain ⟨q5, h⟩ := h
    refine y_iast hG dX9_countLeaves_54 sh171 q5 ?_
    obtain ⟨q6, h⟩ := h
    refine y_iinc (ls' := [(2, 170), (0, x1), (0, (x2 + 1))]) dX9_countLeaves_55 rfl rfl q6 rfl ?_
    refine z_goto (tgt := 30) dX9_countLeaves_58 rfl ?_
    exact h
set_option maxRecDepth 20000 in
set_option maxHeartbeats 4000000 in
theorem bX9_join_0 {G : zG} {d : Nat} {M : zM} {Q : zV → zM → Prop} (hG : zP G) {x1 x2 x3 : Int}
    (h : (zplr x1 x3 0) ∧ Y G (d + 1) mX9_join 16 [(2, 170), (0, x1), (0, x2), (0, x3), (0, (zpl x1 x3 0)), (0, 0), (0, (-500)), (9, 0)] [] M Q) :
    Y G (d + 1) mX9_join 0 [(2, 170), (0, x1), (0, x2), (0, x3), (9, 0), (9, 0), (9, 0), (9, 0)] [] M Q := by
  refine z_iloadn dX9_join_0 rfl ?_
  refine z_iloadn dX9_join_1 rfl ?_
  refine z_iconst dX9_join_2 ki_0 ?_
  obtain ⟨q1, h⟩ := h
  refine y_cs (mt2 := mX9_placeOf) (en := [(0, x1), (0, x3), (0, 0)]) (st := []) (as := [(0, x1), (0, x3), (0, 0)]) dX9_join_3 lX9_46 kX9_placeOf tX9_placeOf rfl (Nat.le_of_ble_eq_true rfl) (Nat.le_of_ble_eq_true rfl) rfl (s_placeOf hG q1 ?_)
  show Y G (d + 1) mX9_join 6 [(2, 170), (0, x1), (0, x2), (0, x3), (9, 0), (9, 0), (9, 0), (9, 0)] [(0, (zpl x1 x3 0))] M Q
  refine y_istore (ls' := [(2, 170), (0, x1), (0, x2), (0, x3), (0, (zpl x1 x3 0)), (9, 0), (9, 0), (9, 0)]) dX9_join_6 rfl rfl ?_
  refine z_iconst dX9_join_8 ki_0 ?_
  refine y_istore (ls' := [(2, 170), (0, x1), (0, x2), (0, x3), (0, (zpl x1 x3 0)), (0, 0), (9, 0), (9, 0)]) dX9_join_9 rfl rfl ?_
  refine z_sipush dX9_join_11 ks_m500 ?_
  refine y_istore (ls' := [(2, 170), (0, x1), (0, x2), (0, x3), (0, (zpl x1 x3 0)), (0, 0), (0, (-500)), (9, 0)]) dX9_join_14 rfl rfl ?_
  exact h
set_option maxRecDepth 20000 in
set_option maxHeartbeats 4000000 in
theorem bX9_join_16 {G : zG} {d : Nat} {M : zM} {Q : zV → zM → Prop} (hG : zP G) {x1 x2 x3 x4 x5 x6 : Int}
    (h : ((500 < x6 → Y G (d + 1) mX9_join 60 [(2, 170), (0, x1), (0, x2), (0, x3), (0, x4), (0, x5), (0, (-500)), (9, 0)] [] M Q) ∧ (x6 ≤ 500 → (-2147483648 ≤ x4 + x6 ∧ x4 + x6 ≤ 2147483647) ∧ (0 ≤ (x4 + x6) ∧ (x4 + x6) < 50050) ∧ (((M 171 (x4 + x6)) = 0 → (-2147483648 ≤ x6 + 1 ∧ x6 + 1 ≤ 2147483647) ∧ Y G (d + 1) mX9_join 16 [(2, 170), (0, x1), (0, x2), (0, x3), (0, x4), (0, x5), (0, (x6 + 1)), (9, 0)] [] M Q) ∧ (¬ (M 171 (x4 + x6)) = 0 → (0 ≤ x5 ∧ x5 < 1001) ∧ (-2147483648 ≤ x5 + 1 ∧ x5 + 1 ≤ 2147483647) ∧ (-2147483648 ≤ x6 + 1 ∧ x6 + 1 ≤ 2147483647) ∧ Y G (d + 1) mX9_join 16 [(2, 170), (0, x1), (0, x2), (0, x3), (0, x4), (0, (x5 + 1)), (0, (x6 + 1)), (9, 0)] [] (zset M 174 x5 x6) Q))))) :
    Y G (d + 1) mX9_join 16 [(2, 170), (0, x1), (0, x2), (0, x3), (0, x4), (0, x5), (0, x6), (9, 0)] [] M Q := by
  refine z_iload dX9_join_16 rfl ?_
  refine z_sipush dX9_join_18 ks_500 ?_
  refine z_icmpgt (tgt := 55) dX9_join_21 rfl (fun q => ?_) (fun q => ?_)
  · replace h := h.1 q
    refine z_sipush dX9_join_55 ks_m500 ?_
    refine y_istore (ls' := [(2, 170), (0, x1), (0, x2), (0, x3), (0, x4), (0, x5), (0, (-500)), (9, 0)]) dX9_join_58 rfl rfl ?_
    exact h
  · replace h := h.2 q
    refine z_aloadn dX9_join_24 rfl (Or.inl rfl) ?_
    refine y_getr (v := 171) hG dX9_join_25 fX9_10 sh170 (by decide) rfl (by decide +kernel) (by decide) ?_
    refine z_iload dX9_join_28 rfl ?_
    refine z_iload dX9_join_30 rfl ?_
    obtain ⟨q1, h⟩ := h
    refine z_iadd dX9_join_32 q1 ?_
    obtain ⟨q2, h⟩ := h
    refine y_iald (x := (M 171 (x4 + x6))) dX9_join_33 sh171 q2 rfl ?_
    refine z_ifeq (tgt := 49) dX9_join_34 rfl (fun q => ?_) (fun q => ?_)
    · replace h := h.1 q
      obtain ⟨q3, h⟩ := h
      refine y_iinc (ls' := [(2, 170), (0, x1), (0, x2), (0, x3), (0, x4), (0, x5), (0, (x6 + 1)), (9, 0)]) dX9_join_49 rfl rfl q3 rfl ?_
      refine z_goto (tgt := 16) dX9_join_52 rfl ?_
      exact h
    · replace h := h.2 q
      refine z_aloadn dX9_join_37 rfl (Or.inl rfl) ?_
      refine y_getr (v := 174) hG dX9_join_38 fX9_22 sh170 (by decide) rfl (by decide +kernel) (by decide) ?_
      refine z_iload dX9_join_41 rfl ?_
      refine z_iload dX9_join_43 rfl ?_
      obtain ⟨q4, h⟩ := h
      refine y_iast hG dX9_join_45 sh174 q4 ?_
      obtain ⟨q5, h⟩ := h
      refine y_iinc (ls' := [(2, 170), (0, x1), (0, x2), (0, x3), (0, x4), (0, (x5 + 1)), (0, x6), (9, 0)]) dX9_join_46 rfl rfl q5 rfl ?_
      obtain ⟨q6, h⟩ := h
      refine y_iinc (ls' := [(2, 170), (0, x1), (0, x2), (0, x3), (0, x4), (0, (x5 + 1)), (0, (x6 + 1)), (9, 0)]) dX9_join_49 rfl rfl q6 rfl ?_
      refine z_goto (tgt := 16) dX9_join_52 rfl ?_
      exact h
set_option maxRecDepth 20000 in
set_option maxHeartbeats 4000000 in
theorem bX9_join_60 {G : zG} {d : Nat} {M : zM} {Q : zV → zM → Prop} (hG : zP G) {x1 x2 x3 x4 x5 x6 : Int}
    (h : ((500 < x6 → Q (9, 0) M) ∧ (x6 ≤ 500 → (zplr x1 x2 x6) ∧ (0 ≤ (zpl x1 x2 x6) ∧ (zpl x1 x2 x6) < 50050) ∧ (((M 171 (zpl x1 x2 x6)) = 0 → (-2147483648 ≤ x6 + 1 ∧ x6 + 1 ≤ 2147483647) ∧ Y G (d + 1) mX9_join 60 [(2, 170), (0, x1), (0, x2), (0, x3), (0, x4), (0, x5), (0, (x6 + 1)), (9, 0)] [] M Q) ∧ (¬ (M 171 (zpl x1 x2 x6)) = 0 → (-2147483648 ≤ x2 + x3 ∧ x2 + x3 ≤ 2147483647) ∧ (zplr x1 (x2 + x3) 0) ∧ ((x2 = x3 → Y G d mX9_joinValue 0 [(2, 170), (0, x6), (0, (M 171 (zpl x1 x2 x6))), (0, x4), (0, x5), (0, (zpl x1 (x2 + x3) 0)), (0, 0), (9, 0), (9, 0), (9, 0), (9, 0)] [] M (fun r M' => Y G (d + 1) mX9_join 117 [(2, 170), (0, x1), (0, x2), (0, x3), (0, x4), (0, x5), (0, x6), (0, (M 171 (zpl x1 x2 x6)))] (zpush r []) M' Q)) ∧ (¬ x2 = x3 → Y G d mX9_joinValue 0 [(2, 170), (0, x6), (0, (M 171 (zpl x1 x2 x6))), (0, x4), (0, x5), (0, (zpl x1 (x2 + x3) 0)), (0, 1), (9, 0), (9, 0), (9, 0), (9, 0)] [] M (fun r M' => Y G (d + 1) mX9_join 117 [(2, 170), (0, x1), (0, x2), (0, x3), (0, x4), (0, x5), (0, x6), (0, (M 171 (zpl x1 x2 x6)))] (zpush r []) M' Q)))))))) :
    Y G (d + 1) mX9_join 60 [(2, 170), (0, x1), (0, x2), (0, x3), (0, x4), (0, x5), (0, x6), (9, 0)] [] M Q := by
  refine z_iload dX9_join_60 rfl ?_
  refine z_sipush dX9_join_62 ks_500 ?_
  refine z_icmpgt (tgt := 123) dX9_join_65 rfl (fun q => ?_) (fun q => ?_)
  · replace h := h.1 q
    exact z_return dX9_join_123 rfl rfl h
  · replace h := h.2 q
    refine z_aloadn dX9_join_68 rfl (Or.inl rfl) ?_
    refine y_getr (v := 171) hG dX9_join_69 fX9_10 sh170 (by decide) rfl (by decide +kernel) (by decide) ?_
    refine z_iloadn dX9_join_72 rfl ?_
    refine z_iloadn dX9_join_73 rfl ?_
    refine z_iload dX9_join_74 rfl ?_
    obtain ⟨q1, h⟩ := h
    refine y_cs (mt2 := mX9_placeOf) (en := [(0, x1), (0, x2), (0, x6)]) (st := [(2, 171)]) (as := [(0, x1), (0, x2), (0, x6)]) dX9_join_76 lX9_46 kX9_placeOf tX9_placeOf rfl (Nat.le_of_ble_eq_true rfl) (Nat.le_of_ble_eq_true rfl) rfl (s_placeOf hG q1 ?_)
    show Y G (d + 1) mX9_join 79 [(2, 170), (0, x1), (0, x2), (0, x3), (0, x4), (0, x5), (0, x6), (9, 0)] [(0, (zpl x1 x2 x6)), (2, 171)] M Q
    obtain ⟨q2, h⟩ := h
    refine y_iald (x := (M 171 (zpl x1 x2 x6))) dX9_join_79 sh171 q2 rfl ?_
    refine y_istore (ls' := [(2, 170), (0, x1), (0, x2), (0, x3), (0, x4), (0, x5), (0, x6), (0, (M 171 (zpl x1 x2 x6)))]) dX9_join_80 rfl rfl ?_
    refine z_iload dX9_join_82 rfl ?_
    refine z_ifeq (tgt := 117) dX9_join_84 rfl (fun q => ?_) (fun q => ?_)
    · replace h := h.1 q
      obtain ⟨q3, h⟩ := h
      refine y_iinc (ls' := [(2, 170), (0, x1), (0, x2), (0, x3), (0, x4), (0, x5), (0, (x6 + 1)), (0, (M 171 (zpl x1 x2 x6)))]) dX9_join_117 rfl rfl q3 rfl ?_
      refine z_goto (tgt := 60) dX9_join_120 rfl ?_
      refine z_sub (ls' := [(2, 170), (0, x1), (0, x2), (0, x3), (0, x4), (0, x5), (0, (x6 + 1)), (9, 0)]) ⟨Or.inl rfl, Or.inl rfl, Or.inl rfl, Or.inl rfl, Or.inl rfl, Or.inl rfl, Or.inl rfl, Or.inr rfl, trivial⟩ ?_
      exact h
    · replace h := h.2 q
      refine z_aloadn dX9_join_87 rfl (Or.inl rfl) ?_
      refine z_iload dX9_join_88 rfl ?_
      refine z_iload dX9_join_90 rfl ?_
      refine z_iload dX9_join_92 rfl ?_
      refine z_iload dX9_join_94 rfl ?_
      refine z_iloadn dX9_join_96 rfl ?_
      refine z_iloadn dX9_join_97 rfl ?_
      refine z_iloadn dX9_join_98 rfl ?_
      obtain ⟨q4, h⟩ := h
      refine z_iadd dX9_join_99 q4 ?_
      refine z_iconst dX9_join_100 ki_0 ?_
      obtain ⟨q5, h⟩ := h
      refine y_cs (mt2 := mX9_placeOf) (en := [(0, x1), (0, (x2 + x3)), (0, 0)]) (st := [(0, x5), (0, x4), (0, (M 171 (zpl x1 x2 x6))), (0, x6), (2, 170)]) (as := [(0, x1), (0, (x2 + x3)), (0, 0)]) dX9_join_101 lX9_46 kX9_placeOf tX9_placeOf rfl (Nat.le_of_ble_eq_true rfl) (Nat.le_of_ble_eq_true rfl) rfl (s_placeOf hG q5 ?_)
      show Y G (d + 1) mX9_join 104 [(2, 170), (0, x1), (0, x2), (0, x3), (0, x4), (0, x5), (0, x6), (0, (M 171 (zpl x1 x2 x6)))] [(0, (zpl x1 (x2 + x3) 0)), (0, x5), (0, x4), (0, (M 171 (zpl x1 x2 x6))), (0, x6), (2, 170)] M Q
      refine z_iloadn dX9_join_104 rfl ?_
      refine z_iloadn dX9_join_105 rfl ?_
      refine z_icmpeq (tgt := 113) dX9_join_106 rfl (fun q => ?_) (fun q => ?_)
      · replace h := h.1 q
        refine z_iconst dX9_join_113 ki_0 ?_
        refine y_cv (mt2 := mX9_joinValue) (en := [(2, 170), (0, x6), (0, (M 171 (zpl x1 x2 x6))), (0, x4), (0, x5), (0, (zpl x1 (x2 + x3) 0)), (0, 0), (9, 0), (9, 0), (9, 0), (9, 0)]) (st := []) (as := [(0, x6), (0, (M 171 (zpl x1 x2 x6))), (0, x4), (0, x5), (0, (zpl x1 (x2 + x3) 0)), (0, 0)]) dX9_join_114 lX9_50 kX9_joinValue iX9_joinValue eX9_joinValue rfl sh170 (by decide +kernel) (Nat.le_of_ble_eq_true rfl) (Nat.le_of_ble_eq_true rfl) rfl ?_
        exact h
      · replace h := h.2 q
        refine z_iconst dX9_join_109 ki_1 ?_
        refine z_goto (tgt := 114) dX9_join_110 rfl ?_
        refine y_cv (mt2 := mX9_joinValue) (en := [(2, 170), (0, x6), (0, (M 171 (zpl x1 x2 x6))), (0, x4), (0, x5), (0, (zpl x1 (x2 + x3) 0)), (0, 1), (9, 0), (9, 0), (9, 0), (9, 0)]) (st := []) (as := [(0, x6), (0, (M 171 (zpl x1 x2 x6))), (0, x4), (0, x5), (0, (zpl x1 (x2 + x3) 0)), (0, 1)]) dX9_join_114 lX9_50 kX9_joinValue iX9_joinValue eX9_joinValue rfl sh170 (by decide +kernel) (Nat.le_of_ble_eq_true rfl) (Nat.le_of_ble_eq_true rfl) rfl ?_
        exact h
set_option maxRecDepth 20000 in
set_option maxHeartbeats 4000000 in
theorem bX9_join_117 {G : zG} {d : Nat} {M : zM} {Q : zV → zM → Prop} (hG : zP G) {x1 x2 x3 x4 x5 x6 x7 : Int}
    (h : (-2147483648 ≤ x6 + 1 ∧ x6 + 1 ≤ 2147483647) ∧ Y G (d + 1) mX9_join 60 [(2, 170), (0, x1), (0, x2), (0, x3), (0, x4), (0, x5), (0, (x6 + 1)), (9, 0)] [] M Q) :
    Y G (d + 1) mX9_join 117 [(2, 170), (0, x1), (0, x2), (0, x3), (0, x4), (0, x5), (0, x6), (0, x7)] [] M Q := by
  obtain ⟨q1, h⟩ := h
  refine y_iinc (ls' := [(2, 170), (0, x1), (0, x2), (0, x3), (0, x4), (0, x5), (0, (x6 + 1)), (0, x7)]) dX9_join_117 rfl rfl q1 rfl ?_
  refine z_goto (tgt := 60) dX9_join_120 rfl ?_
  refine z_sub (ls' := [(2, 170), (0, x1), (0, x2), (0, x3), (0, x4), (0, x5), (0, (x6 + 1)), (9, 0)]) ⟨Or.inl rfl, Or.inl rfl, Or.inl rfl, Or.inl rfl, Or.inl rfl, Or.inl rfl, Or.inl rfl, Or.inr rfl, trivial⟩ ?_
  exact h
set_option maxRecDepth 20000 in
set_option maxHeartbeats 4000000 in
theorem bX9_joinValue_0 {G : zG} {d : Nat} {M : zM} {Q : zV → zM → Prop} (hG : zP G) {x1 x2 x3 x4 x5 x6 : Int}
    (h : Y G d mX9_joinValue 3 [(2, 170), (0, x1), (0, x2), (0, x3), (0, x4), (0, x5), (0, x6), (0, 0), (9, 0), (9, 0), (9, 0)] [] M Q) :
    Y G d mX9_joinValue 0 [(2, 170), (0, x1), (0, x2), (0, x3), (0, x4), (0, x5), (0, x6), (9, 0), (9, 0), (9, 0), (9, 0)] [] M Q := by
  refine z_iconst dX9_joinValue_0 ki_0 ?_
  refine y_istore (ls' := [(2, 170), (0, x1), (0, x2), (0, x3), (0, x4), (0, x5), (0, x6), (0, 0), (9, 0), (9, 0), (9, 0)]) dX9_joinValue_1 rfl rfl ?_
  exact h
set_option maxRecDepth 20000 in
set_option maxHeartbeats 4000000 in
theorem bX9_joinValue_3 {G : zG} {d : Nat} {M : zM} {Q : zV → zM → Prop} (hG : zP G) {x1 x2 x3 x4 x5 x6 x7 : Int}
    (h : ((x4 ≤ x7 → Q (9, 0) M) ∧ (x7 < x4 → (0 ≤ x7 ∧ x7 < 1001) ∧ (-2147483648 ≤ x3 + (M 174 x7) ∧ x3 + (M 174 x7) ≤ 2147483647) ∧ (0 ≤ (x3 + (M 174 x7)) ∧ (x3 + (M 174 x7)) < 50050) ∧ (-2147483648 ≤ x2 * (M 171 (x3 + (M 174 x7))) ∧ x2 * (M 171 (x3 + (M 174 x7))) ≤ 2147483647) ∧ ((x6 = 0 → (-2147483648 ≤ x1 + (M 174 x7) ∧ x1 + (M 174 x7) ≤ 2147483647) ∧ (((x1 + (M 174 x7)) < (-500) → Y G d mX9_joinValue 85 [(2, 170), (0, x1), (0, x2), (0, x3), (0, x4), (0, x5), (0, x6), (0, x7), (0, (M 174 x7)), (0, (x2 * (M 171 (x3 + (M 174 x7))))), (0, (x2 * (M 171 (x3 + (M 174 x7)))))] [] M Q) ∧ ((-500) ≤ (x1 + (M 174 x7)) → (-2147483648 ≤ x1 + (M 174 x7) ∧ x1 + (M 174 x7) ≤ 2147483647) ∧ ((500 < (x1 + (M 174 x7)) → Y G d mX9_joinValue 85 [(2, 170), (0, x1), (0, x2), (0, x3), (0, x4), (0, x5), (0, x6), (0, x7), (0, (M 174 x7)), (0, (x2 * (M 171 (x3 + (M 174 x7))))), (0, (x2 * (M 171 (x3 + (M 174 x7)))))] [] M Q) ∧ ((x1 + (M 174 x7)) ≤ 500 → (-2147483648 ≤ x5 + x1 ∧ x5 + x1 ≤ 2147483647) ∧ (-2147483648 ≤ (x5 + x1) + (M 174 x7) ∧ (x5 + x1) + (M 174 x7) ≤ 2147483647) ∧ (0 ≤ ((x5 + x1) + (M 174 x7)) ∧ ((x5 + x1) + (M 174 x7)) < 50050) ∧ (-2147483648 ≤ (M 171 ((x5 + x1) + (M 174 x7))) + (x2 * (M 171 (x3 + (M 174 x7)))) ∧ (M 171 ((x5 + x1) + (M 174 x7))) + (x2 * (M 171 (x3 + (M 174 x7)))) ≤ 2147483647) ∧ (0 ≤ ((x5 + x1) + (M 174 x7)) ∧ ((x5 + x1) + (M 174 x7)) < 50050) ∧ Y G d mX9_joinValue 85 [(2, 170), (0, x1), (0, x2), (0, x3), (0, x4), (0, x5), (0, x6), (0, x7), (0, (M 174 x7)), (0, (x2 * (M 171 (x3 + (M 174 x7))))), (0, (x2 * (M 171 (x3 + (M 174 x7)))))] [] (zset M 171 ((x5 + x1) + (M 174 x7)) ((M 171 ((x5 + x1) + (M 174 x7))) + (x2 * (M 171 (x3 + (M 174 x7)))))) Q))))) ∧ (¬ x6 = 0 → (-2147483648 ≤ 2 * (x2 * (M 171 (x3 + (M 174 x7)))) ∧ 2 * (x2 * (M 171 (x3 + (M 174 x7)))) ≤ 2147483647) ∧ (-2147483648 ≤ x1 + (M 174 x7) ∧ x1 + (M 174 x7) ≤ 2147483647) ∧ (((x1 + (M 174 x7)) < (-500) → Y G d mX9_joinValue 85 [(2, 170), (0, x1), (0, x2), (0, x3), (0, x4), (0, x5), (0, x6), (0, x7), (0, (M 174 x7)), (0, (x2 * (M 171 (x3 + (M 174 x7))))), (0, (2 * (x2 * (M 171 (x3 + (M 174 x7))))))] [] M Q) ∧ ((-500) ≤ (x1 + (M 174 x7)) → (-2147483648 ≤ x1 + (M 174 x7) ∧ x1 + (M 174 x7) ≤ 2147483647) ∧ ((500 < (x1 + (M 174 x7)) → Y G d mX9_joinValue 85 [(2, 170), (0, x1), (0, x2), (0, x3), (0, x4), (0, x5), (0, x6), (0, x7), (0, (M 174 x7)), (0, (x2 * (M 171 (x3 + (M 174 x7))))), (0, (2 * (x2 * (M 171 (x3 + (M 174 x7))))))] [] M Q) ∧ ((x1 + (M 174 x7)) ≤ 500 → (-2147483648 ≤ x5 + x1 ∧ x5 + x1 ≤ 2147483647) ∧ (-2147483648 ≤ (x5 + x1) + (M 174 x7) ∧ (x5 + x1) + (M 174 x7) ≤ 2147483647) ∧ (0 ≤ ((x5 + x1) + (M 174 x7)) ∧ ((x5 + x1) + (M 174 x7)) < 50050) ∧ (-2147483648 ≤ (M 171 ((x5 + x1) + (M 174 x7))) + (2 * (x2 * (M 171 (x3 + (M 174 x7))))) ∧ (M 171 ((x5 + x1) + (M 174 x7))) + (2 * (x2 * (M 171 (x3 + (M 174 x7))))) ≤ 2147483647) ∧ (0 ≤ ((x5 + x1) + (M 174 x7)) ∧ ((x5 + x1) + (M 174 x7)) < 50050) ∧ Y G d mX9_joinValue 85 [(2, 170), (0, x1), (0, x2), (0, x3), (0, x4), (0, x5), (0, x6), (0, x7), (0, (M 174 x7)), (0, (x2 * (M 171 (x3 + (M 174 x7))))), (0, (2 * (x2 * (M 171 (x3 + (M 174 x7))))))] [] (zset M 171 ((x5 + x1) + (M 174 x7)) ((M 171 ((x5 + x1) + (M 174 x7))) + (2 * (x2 * (M 171 (x3 + (M 174 x7))))))) Q))))))))) :
    Y G d mX9_joinValue 3 [(2, 170), (0, x1), (0, x2), (0, x3), (0, x4), (0, x5), (0, x6), (0, x7), (9, 0), (9, 0), (9, 0)] [] M Q := by
  refine z_iload dX9_joinValue_3 rfl ?_
  refine z_iload dX9_joinValue_5 rfl ?_
  refine z_icmpge (tgt := 187) dX9_joinValue_7 rfl (fun q => ?_) (fun q => ?_)
  · replace h := h.1 q
    exact z_return dX9_joinValue_187 rfl rfl h
  · replace h := h.2 q
    refine z_aloadn dX9_joinValue_10 rfl (Or.inl rfl) ?_
    refine y_getr (v := 174) hG dX9_joinValue_11 fX9_22 sh170 (by decide) rfl (by decide +kernel) (by decide) ?_
    refine z_iload dX9_joinValue_14 rfl ?_
    obtain ⟨q1, h⟩ := h
    refine y_iald (x := (M 174 x7)) dX9_joinValue_16 sh174 q1 rfl ?_
    refine y_istore (ls' := [(2, 170), (0, x1), (0, x2), (0, x3), (0, x4), (0, x5), (0, x6), (0, x7), (0, (M 174 x7)), (9, 0), (9, 0)]) dX9_joinValue_17 rfl rfl ?_
    refine z_iloadn dX9_joinValue_19 rfl ?_
    refine z_aloadn dX9_joinValue_20 rfl (Or.inl rfl) ?_
    refine y_getr (v := 171) hG dX9_joinValue_21 fX9_10 sh170 (by decide) rfl (by decide +kernel) (by decide) ?_
    refine z_iloadn dX9_joinValue_24 rfl ?_
    refine z_iload dX9_joinValue_25 rfl ?_
    obtain ⟨q2, h⟩ := h
    refine z_iadd dX9_joinValue_27 q2 ?_
    obtain ⟨q3, h⟩ := h
    refine y_iald (x := (M 171 (x3 + (M 174 x7)))) dX9_joinValue_28 sh171 q3 rfl ?_
    obtain ⟨q4, h⟩ := h
    refine z_imul dX9_joinValue_29 q4 ?_
    refine y_istore (ls' := [(2, 170), (0, x1), (0, x2), (0, x3), (0, x4), (0, x5), (0, x6), (0, x7), (0, (M 174 x7)), (0, (x2 * (M 171 (x3 + (M 174 x7))))), (9, 0)]) dX9_joinValue_30 rfl rfl ?_
    refine z_iload dX9_joinValue_32 rfl ?_
    refine z_ifeq (tgt := 44) dX9_joinValue_34 rfl (fun q => ?_) (fun q => ?_)
    · replace h := h.1 q
      refine z_iload dX9_joinValue_44 rfl ?_
      refine y_istore (ls' := [(2, 170), (0, x1), (0, x2), (0, x3), (0, x4), (0, x5), (0, x6), (0, x7), (0, (M 174 x7)), (0, (x2 * (M 171 (x3 + (M 174 x7))))), (0, (x2 * (M 171 (x3 + (M 174 x7)))))]) dX9_joinValue_46 rfl rfl ?_
      refine z_iloadn dX9_joinValue_48 rfl ?_
      refine z_iload dX9_joinValue_49 rfl ?_
      obtain ⟨q5, h⟩ := h
      refine z_iadd dX9_joinValue_51 q5 ?_
      refine z_sipush dX9_joinValue_52 ks_m500 ?_
      refine z_icmplt (tgt := 85) dX9_joinValue_55 rfl (fun q => ?_) (fun q => ?_)
      · replace h := h.1 q
        exact h
      · replace h := h.2 q
        refine z_iloadn dX9_joinValue_58 rfl ?_
        refine z_iload dX9_joinValue_59 rfl ?_
        obtain ⟨q6, h⟩ := h
        refine z_iadd dX9_joinValue_61 q6 ?_
        refine z_sipush dX9_joinValue_62 ks_500 ?_
        refine z_icmpgt (tgt := 85) dX9_joinValue_65 rfl (fun q => ?_) (fun q => ?_)
        · replace h := h.1 q
          exact h
        · replace h := h.2 q
          refine z_aloadn dX9_joinValue_68 rfl (Or.inl rfl) ?_
          refine y_getr (v := 171) hG dX9_joinValue_69 fX9_10 sh170 (by decide) rfl (by decide +kernel) (by decide) ?_
          refine z_iload dX9_joinValue_72 rfl ?_
          refine z_iloadn dX9_joinValue_74 rfl ?_
          obtain ⟨q7, h⟩ := h
          refine z_iadd dX9_joinValue_75 q7 ?_
          refine z_iload dX9_joinValue_76 rfl ?_
          obtain ⟨q8, h⟩ := h
          refine z_iadd dX9_joinValue_78 q8 ?_
          refine z_dup2 dX9_joinValue_79 (show (0 : Nat) ≠ 1 by decide) (show (2 : Nat) ≠ 1 by decide) ?_
          obtain ⟨q9, h⟩ := h
          refine y_iald (x := (M 171 ((x5 + x1) + (M 174 x7)))) dX9_joinValue_80 sh171 q9 rfl ?_
          refine z_iload dX9_joinValue_81 rfl ?_
          obtain ⟨q10, h⟩ := h
          refine z_iadd dX9_joinValue_83 q10 ?_
          obtain ⟨q11, h⟩ := h
          refine y_iast hG dX9_joinValue_84 sh171 q11 ?_
          exact h
    · replace h := h.2 q
      refine z_iconst dX9_joinValue_37 ki_2 ?_
      refine z_iload dX9_joinValue_38 rfl ?_
      obtain ⟨q12, h⟩ := h
      refine z_imul dX9_joinValue_40 q12 ?_
      refine z_goto (tgt := 46) dX9_joinValue_41 rfl ?_
      refine y_istore (ls' := [(2, 170), (0, x1), (0, x2), (0, x3), (0, x4), (0, x5), (0, x6), (0, x7), (0, (M 174 x7)), (0, (x2 * (M 171 (x3 + (M 174 x7))))), (0, (2 * (x2 * (M 171 (x3 + (M 174 x7))))))]) dX9_joinValue_46 rfl rfl ?_
      refine z_iloadn dX9_joinValue_48 rfl ?_
      refine z_iload dX9_joinValue_49 rfl ?_
      obtain ⟨q13, h⟩ := h
      refine z_iadd dX9_joinValue_51 q13 ?_
      refine z_sipush dX9_joinValue_52 ks_m500 ?_
      refine z_icmplt (tgt := 85) dX9_joinValue_55 rfl (fun q => ?_) (fun q => ?_)
      · replace h := h.1 q
        exact h
      · replace h := h.2 q
        refine z_iloadn dX9_joinValue_58 rfl ?_
        refine z_iload dX9_joinValue_59 rfl ?_
        obtain ⟨q14, h⟩ := h
        refine z_iadd dX9_joinValue_61 q14 ?_
        refine z_sipush dX9_joinValue_62 ks_500 ?_
        refine z_icmpgt (tgt := 85) dX9_joinValue_65 rfl (fun q => ?_) (fun q => ?_)
        · replace h := h.1 q
          exact h
        · replace h := h.2 q
          refine z_aloadn dX9_joinValue_68 rfl (Or.inl rfl) ?_
          refine y_getr (v := 171) hG dX9_joinValue_69 fX9_10 sh170 (by decide) rfl (by decide +kernel) (by decide) ?_
          refine z_iload dX9_joinValue_72 rfl ?_
          refine z_iloadn dX9_joinValue_74 rfl ?_
          obtain ⟨q15, h⟩ := h
          refine z_iadd dX9_joinValue_75 q15 ?_
          refine z_iload dX9_joinValue_76 rfl ?_
          obtain ⟨q16, h⟩ := h
          refine z_iadd dX9_joinValue_78 q16 ?_
          refine z_dup2 dX9_joinValue_79 (show (0 : Nat) ≠ 1 by decide) (show (2 : Nat) ≠ 1 by decide) ?_
          obtain ⟨q17, h⟩ := h
          refine y_iald (x := (M 171 ((x5 + x1) + (M 174 x7)))) dX9_joinValue_80 sh171 q17 rfl ?_
          refine z_iload dX9_joinValue_81 rfl ?_
          obtain ⟨q18, h⟩ := h
          refine z_iadd dX9_joinValue_83 q18 ?_
          obtain ⟨q19, h⟩ := h
          refine y_iast hG dX9_joinValue_84 sh171 q19 ?_
          exact h
set_option maxRecDepth 20000 in
set_option maxHeartbeats 4000000 in
theorem bX9_joinValue_85 {G : zG} {d : Nat} {M : zM} {Q : zV → zM → Prop} (hG : zP G) {x1 x2 x3 x4 x5 x6 x7 x8 x9 x10 : Int}
    (h : (-2147483648 ≤ x1 * x8 ∧ x1 * x8 ≤ 2147483647) ∧ (((x1 * x8) < (-500) → Y G d mX9_joinValue 122 [(2, 170), (0, x1), (0, x2), (0, x3), (0, x4), (0, x5), (0, x6), (0, x7), (0, x8), (0, x9), (0, x10)] [] M Q) ∧ ((-500) ≤ (x1 * x8) → (-2147483648 ≤ x1 * x8 ∧ x1 * x8 ≤ 2147483647) ∧ ((500 < (x1 * x8) → Y G d mX9_joinValue 122 [(2, 170), (0, x1), (0, x2), (0, x3), (0, x4), (0, x5), (0, x6), (0, x7), (0, x8), (0, x9), (0, x10)] [] M Q) ∧ ((x1 * x8) ≤ 500 → (-2147483648 ≤ x1 * x8 ∧ x1 * x8 ≤ 2147483647) ∧ (-2147483648 ≤ x5 + (x1 * x8) ∧ x5 + (x1 * x8) ≤ 2147483647) ∧ (0 ≤ (x5 + (x1 * x8)) ∧ (x5 + (x1 * x8)) < 50050) ∧ (-2147483648 ≤ (M 171 (x5 + (x1 * x8))) + x10 ∧ (M 171 (x5 + (x1 * x8))) + x10 ≤ 2147483647) ∧ (0 ≤ (x5 + (x1 * x8)) ∧ (x5 + (x1 * x8)) < 50050) ∧ Y G d mX9_joinValue 122 [(2, 170), (0, x1), (0, x2), (0, x3), (0, x4), (0, x5), (0, x6), (0, x7), (0, x8), (0, x9), (0, x10)] [] (zset M 171 (x5 + (x1 * x8)) ((M 171 (x5 + (x1 * x8))) + x10)) Q))))) :
    Y G d mX9_joinValue 85 [(2, 170), (0, x1), (0, x2), (0, x3), (0, x4), (0, x5), (0, x6), (0, x7), (0, x8), (0, x9), (0, x10)] [] M Q := by
  refine z_iloadn dX9_joinValue_85 rfl ?_
  refine z_iload dX9_joinValue_86 rfl ?_
  obtain ⟨q1, h⟩ := h
  refine z_imul dX9_joinValue_88 q1 ?_
  refine z_sipush dX9_joinValue_89 ks_m500 ?_
  refine z_icmplt (tgt := 122) dX9_joinValue_92 rfl (fun q => ?_) (fun q => ?_)
  · replace h := h.1 q
    exact h
  · replace h := h.2 q
    refine z_iloadn dX9_joinValue_95 rfl ?_
    refine z_iload dX9_joinValue_96 rfl ?_
    obtain ⟨q2, h⟩ := h
    refine z_imul dX9_joinValue_98 q2 ?_
    refine z_sipush dX9_joinValue_99 ks_500 ?_
    refine z_icmpgt (tgt := 122) dX9_joinValue_102 rfl (fun q => ?_) (fun q => ?_)
    · replace h := h.1 q
      exact h
    · replace h := h.2 q
      refine z_aloadn dX9_joinValue_105 rfl (Or.inl rfl) ?_
      refine y_getr (v := 171) hG dX9_joinValue_106 fX9_10 sh170 (by decide) rfl (by decide +kernel) (by decide) ?_
      refine z_iload dX9_joinValue_109 rfl ?_
      refine z_iloadn dX9_joinValue_111 rfl ?_
      refine z_iload dX9_joinValue_112 rfl ?_
      obtain ⟨q3, h⟩ := h
      refine z_imul dX9_joinValue_114 q3 ?_
      obtain ⟨q4, h⟩ := h
      refine z_iadd dX9_joinValue_115 q4 ?_
      refine z_dup2 dX9_joinValue_116 (show (0 : Nat) ≠ 1 by decide) (show (2 : Nat) ≠ 1 by decide) ?_
      obtain ⟨q5, h⟩ := h
      refine y_iald (x := (M 171 (x5 + (x1 * x8)))) dX9_joinValue_117 sh171 q5 rfl ?_
      refine z_iload dX9_joinValue_118 rfl ?_
      obtain ⟨q6, h⟩ := h
      refine z_iadd dX9_joinValue_120 q6 ?_
      obtain ⟨q7, h⟩ := h
      refine y_iast hG dX9_joinValue_121 sh171 q7 ?_
      exact h
set_option maxRecDepth 20000 in
set_option maxHeartbeats 4000000 in
theorem bX9_joinValue_122 {G : zG} {d : Nat} {M : zM} {Q : zV → zM → Prop} (hG : zP G) {x1 x2 x3 x4 x5 x6 x7 x8 x9 x10 : Int}
    (h : (-2147483648 ≤ x1 - x8 ∧ x1 - x8 ≤ 2147483647) ∧ (((x1 - x8) < (-500) → Y G d mX9_joinValue 181 [(2, 170), (0, x1), (0, x2), (0, x3), (0, x4), (0, x5), (0, x6), (0, x7), (0, x8), (0, x9), (0, x10)] [] M Q) ∧ ((-500) ≤ (x1 - x8) → (-2147483648 ≤ x1 - x8 ∧ x1 - x8 ≤ 2147483647) ∧ ((500 < (x1 - x8) → Y G d mX9_joinValue 181 [(2, 170), (0, x1), (0, x2), (0, x3), (0, x4), (0, x5), (0, x6), (0, x7), (0, x8), (0, x9), (0, x10)] [] M Q) ∧ ((x1 - x8) ≤ 500 → (-2147483648 ≤ x5 + x1 ∧ x5 + x1 ≤ 2147483647) ∧ (-2147483648 ≤ (x5 + x1) - x8 ∧ (x5 + x1) - x8 ≤ 2147483647) ∧ (0 ≤ ((x5 + x1) - x8) ∧ ((x5 + x1) - x8) < 50050) ∧ (-2147483648 ≤ (M 171 ((x5 + x1) - x8)) + x9 ∧ (M 171 ((x5 + x1) - x8)) + x9 ≤ 2147483647) ∧ (0 ≤ ((x5 + x1) - x8) ∧ ((x5 + x1) - x8) < 50050) ∧ ((x6 = 0 → Y G d mX9_joinValue 181 [(2, 170), (0, x1), (0, x2), (0, x3), (0, x4), (0, x5), (0, x6), (0, x7), (0, x8), (0, x9), (0, x10)] [] (zset M 171 ((x5 + x1) - x8) ((M 171 ((x5 + x1) - x8)) + x9)) Q) ∧ (¬ x6 = 0 → (-2147483648 ≤ x5 + x8 ∧ x5 + x8 ≤ 2147483647) ∧ (-2147483648 ≤ (x5 + x8) - x1 ∧ (x5 + x8) - x1 ≤ 2147483647) ∧ (0 ≤ ((x5 + x8) - x1) ∧ ((x5 + x8) - x1) < 50050) ∧ (-2147483648 ≤ ((zset M 171 ((x5 + x1) - x8) ((M 171 ((x5 + x1) - x8)) + x9)) 171 ((x5 + x8) - x1)) + x9 ∧ ((zset M 171 ((x5 + x1) - x8) ((M 171 ((x5 + x1) - x8)) + x9)) 171 ((x5 + x8) - x1)) + x9 ≤ 2147483647) ∧ (0 ≤ ((x5 + x8) - x1) ∧ ((x5 + x8) - x1) < 50050) ∧ Y G d mX9_joinValue 181 [(2, 170), (0, x1), (0, x2), (0, x3), (0, x4), (0, x5), (0, x6), (0, x7), (0, x8), (0, x9), (0, x10)] [] (zset (zset M 171 ((x5 + x1) - x8) ((M 171 ((x5 + x1) - x8)) + x9)) 171 ((x5 + x8) - x1) (((zset M 171 ((x5 + x1) - x8) ((M 171 ((x5 + x1) - x8)) + x9)) 171 ((x5 + x8) - x1)) + x9)) Q))))))) :
    Y G d mX9_joinValue 122 [(2, 170), (0, x1), (0, x2), (0, x3), (0, x4), (0, x5), (0, x6), (0, x7), (0, x8), (0, x9), (0, x10)] [] M Q := by
  refine z_iloadn dX9_joinValue_122 rfl ?_
  refine z_iload dX9_joinValue_123 rfl ?_
  obtain ⟨q1, h⟩ := h
  refine z_isub dX9_joinValue_125 q1 ?_
  refine z_sipush dX9_joinValue_126 ks_m500 ?_
  refine z_icmplt (tgt := 181) dX9_joinValue_129 rfl (fun q => ?_) (fun q => ?_)
  · replace h := h.1 q
    exact h
  · replace h := h.2 q
    refine z_iloadn dX9_joinValue_132 rfl ?_
    refine z_iload dX9_joinValue_133 rfl ?_
    obtain ⟨q2, h⟩ := h
    refine z_isub dX9_joinValue_135 q2 ?_
    refine z_sipush dX9_joinValue_136 ks_500 ?_
    refine z_icmpgt (tgt := 181) dX9_joinValue_139 rfl (fun q => ?_) (fun q => ?_)
    · replace h := h.1 q
      exact h
    · replace h := h.2 q
      refine z_aloadn dX9_joinValue_142 rfl (Or.inl rfl) ?_
      refine y_getr (v := 171) hG dX9_joinValue_143 fX9_10 sh170 (by decide) rfl (by decide +kernel) (by decide) ?_
      refine z_iload dX9_joinValue_146 rfl ?_
      refine z_iloadn dX9_joinValue_148 rfl ?_
      obtain ⟨q3, h⟩ := h
      refine z_iadd dX9_joinValue_149 q3 ?_
      refine z_iload dX9_joinValue_150 rfl ?_
      obtain ⟨q4, h⟩ := h
      refine z_isub dX9_joinValue_152 q4 ?_
      refine z_dup2 dX9_joinValue_153 (show (0 : Nat) ≠ 1 by decide) (show (2 : Nat) ≠ 1 by decide) ?_
      obtain ⟨q5, h⟩ := h
      refine y_iald (x := (M 171 ((x5 + x1) - x8))) dX9_joinValue_154 sh171 q5 rfl ?_
      refine z_iload dX9_joinValue_155 rfl ?_
      obtain ⟨q6, h⟩ := h
      refine z_iadd dX9_joinValue_157 q6 ?_
      obtain ⟨q7, h⟩ := h
      refine y_iast hG dX9_joinValue_158 sh171 q7 ?_
      refine z_iload dX9_joinValue_159 rfl ?_
      refine z_ifeq (tgt := 181) dX9_joinValue_161 rfl (fun q => ?_) (fun q => ?_)
      · replace h := h.1 q
        exact h
      · replace h := h.2 q
        refine z_aloadn dX9_joinValue_164 rfl (Or.inl rfl) ?_
        refine y_getr (v := 171) hG dX9_joinValue_165 fX9_10 sh170 (by decide) rfl (by decide +kernel) (by decide) ?_
        refine z_iload dX9_joinValue_168 rfl ?_
        refine z_iload dX9_joinValue_170 rfl ?_
        obtain ⟨q8, h⟩ := h
        refine z_iadd dX9_joinValue_172 q8 ?_
        refine z_iloadn dX9_joinValue_173 rfl ?_
        obtain ⟨q9, h⟩ := h
        refine z_isub dX9_joinValue_174 q9 ?_
        refine z_dup2 dX9_joinValue_175 (show (0 : Nat) ≠ 1 by decide) (show (2 : Nat) ≠ 1 by decide) ?_
        obtain ⟨q10, h⟩ := h
        refine y_iald (x := ((zset M 171 ((x5 + x1) - x8) ((M 171 ((x5 + x1) - x8)) + x9)) 171 ((x5 + x8) - x1))) dX9_joinValue_176 sh171 q10 rfl ?_
        refine z_iload dX9_joinValue_177 rfl ?_
        obtain ⟨q11, h⟩ := h
        refine z_iadd dX9_joinValue_179 q11 ?_
        obtain ⟨q12, h⟩ := h
        refine y_iast hG dX9_joinValue_180 sh171 q12 ?_
        exact h
set_option maxRecDepth 20000 in
set_option maxHeartbeats 4000000 in
theorem bX9_joinValue_181 {G : zG} {d : Nat} {M : zM} {Q : zV → zM → Prop} (hG : zP G) {x1 x2 x3 x4 x5 x6 x7 x8 x9 x10 : Int}
    (h : (-2147483648 ≤ x7 + 1 ∧ x7 + 1 ≤ 2147483647) ∧ Y G d mX9_joinValue 3 [(2, 170), (0, x1), (0, x2), (0, x3), (0, x4), (0, x5), (0, x6), (0, (x7 + 1)), (9, 0), (9, 0), (9, 0)] [] M Q) :
    Y G d mX9_joinValue 181 [(2, 170), (0, x1), (0, x2), (0, x3), (0, x4), (0, x5), (0, x6), (0, x7), (0, x8), (0, x9), (0, x10)] [] M Q := by
  obtain ⟨q1, h⟩ := h
  refine y_iinc (ls' := [(2, 170), (0, x1), (0, x2), (0, x3), (0, x4), (0, x5), (0, x6), (0, (x7 + 1)), (0, x8), (0, x9), (0, x10)]) dX9_joinValue_181 rfl rfl q1 rfl ?_
  refine z_goto (tgt := 3) dX9_joinValue_184 rfl ?_
  refine z_sub (ls' := [(2, 170), (0, x1), (0, x2), (0, x3), (0, x4), (0, x5), (0, x6), (0, (x7 + 1)), (9, 0), (9, 0), (9, 0)]) ⟨Or.inl rfl, Or.inl rfl, Or.inl rfl, Or.inl rfl, Or.inl rfl, Or.inl rfl, Or.inl rfl, Or.inl rfl, Or.inr rfl, Or.inr rfl, Or.inr rfl, trivial⟩ ?_
  exact h
set_option maxRecDepth 20000 in
set_option maxHeartbeats 4000000 in
theorem bX9_countOf_0 {G : zG} {d : Nat} {M : zM} {Q : zV → zM → Prop} (hG : zP G) {x1 x2 x3 : Int}
    (h : ((0 ≤ x1 ∧ x1 ≤ 9 → ((1 ≤ x2 ∧ x2 ≤ 5 → (((-500) ≤ x3 ∧ x3 ≤ 500 → (zplr x1 x2 x3) ∧ (0 ≤ (zpl x1 x2 x3) ∧ (zpl x1 x2 x3) < 50050) ∧ Q (0, (M 171 (zpl x1 x2 x3))) M) ∧ (¬ ((-500) ≤ x3 ∧ x3 ≤ 500) → Q (0, 0) M))) ∧ (¬ (1 ≤ x2 ∧ x2 ≤ 5) → Q (0, 0) M))) ∧ (¬ (0 ≤ x1 ∧ x1 ≤ 9) → Q (0, 0) M))) :
    Y G (d + 1) mX9_countOf 0 [(2, 170), (0, x1), (0, x2), (0, x3), (9, 0)] [] M Q := by
  refine z_iloadn dX9_countOf_0 rfl ?_
  refine z_iconst dX9_countOf_1 ki_0 ?_
  refine z_bipush dX9_countOf_2 kb_9 ?_
  refine y_cs (mt2 := mX11_within) (en := [(0, x1), (0, 0), (0, 9)]) (st := []) (as := [(0, x1), (0, 0), (0, 9)]) dX9_countOf_4 lX9_54 kX11_within tX11_within rfl (Nat.le_of_ble_eq_true rfl) (Nat.le_of_ble_eq_true rfl) rfl (s_within hG (fun q => ?_) (fun q => ?_))
  · replace h := h.1 q
    show Y G (d + 1) mX9_countOf 7 [(2, 170), (0, x1), (0, x2), (0, x3), (9, 0)] [(0, 1)] M Q
    refine z_ifeq (tgt := 36) dX9_countOf_7 rfl (fun q => absurd q (by decide)) (fun _ => ?_)
    refine z_iloadn dX9_countOf_10 rfl ?_
    refine z_iconst dX9_countOf_11 ki_1 ?_
    refine z_iconst dX9_countOf_12 ki_5 ?_
    refine y_cs (mt2 := mX11_within) (en := [(0, x2), (0, 1), (0, 5)]) (st := []) (as := [(0, x2), (0, 1), (0, 5)]) dX9_countOf_13 lX9_54 kX11_within tX11_within rfl (Nat.le_of_ble_eq_true rfl) (Nat.le_of_ble_eq_true rfl) rfl (s_within hG (fun q => ?_) (fun q => ?_))
    · replace h := h.1 q
      show Y G (d + 1) mX9_countOf 16 [(2, 170), (0, x1), (0, x2), (0, x3), (9, 0)] [(0, 1)] M Q
      refine z_ifeq (tgt := 36) dX9_countOf_16 rfl (fun q => absurd q (by decide)) (fun _ => ?_)
      refine z_iloadn dX9_countOf_19 rfl ?_
      refine z_sipush dX9_countOf_20 ks_m500 ?_
      refine z_sipush dX9_countOf_23 ks_500 ?_
      refine y_cs (mt2 := mX11_within) (en := [(0, x3), (0, (-500)), (0, 500)]) (st := []) (as := [(0, x3), (0, (-500)), (0, 500)]) dX9_countOf_26 lX9_54 kX11_within tX11_within rfl (Nat.le_of_ble_eq_true rfl) (Nat.le_of_ble_eq_true rfl) rfl (s_within hG (fun q => ?_) (fun q => ?_))
      · replace h := h.1 q
        show Y G (d + 1) mX9_countOf 29 [(2, 170), (0, x1), (0, x2), (0, x3), (9, 0)] [(0, 1)] M Q
        refine z_ifeq (tgt := 36) dX9_countOf_29 rfl (fun q => absurd q (by decide)) (fun _ => ?_)
        refine z_iconst dX9_countOf_32 ki_1 ?_
        refine z_goto (tgt := 37) dX9_countOf_33 rfl ?_
        refine y_istore (ls' := [(2, 170), (0, x1), (0, x2), (0, x3), (0, 1)]) dX9_countOf_37 rfl rfl ?_
        refine z_iload dX9_countOf_39 rfl ?_
        refine z_ifeq (tgt := 58) dX9_countOf_41 rfl (fun q => absurd q (by decide)) (fun _ => ?_)
        refine z_aloadn dX9_countOf_44 rfl (Or.inl rfl) ?_
        refine y_getr (v := 171) hG dX9_countOf_45 fX9_10 sh170 (by decide) rfl (by decide +kernel) (by decide) ?_
        refine z_iloadn dX9_countOf_48 rfl ?_
        refine z_iloadn dX9_countOf_49 rfl ?_
        refine z_iloadn dX9_countOf_50 rfl ?_
        obtain ⟨q1, h⟩ := h
        refine y_cs (mt2 := mX9_placeOf) (en := [(0, x1), (0, x2), (0, x3)]) (st := [(2, 171)]) (as := [(0, x1), (0, x2), (0, x3)]) dX9_countOf_51 lX9_46 kX9_placeOf tX9_placeOf rfl (Nat.le_of_ble_eq_true rfl) (Nat.le_of_ble_eq_true rfl) rfl (s_placeOf hG q1 ?_)
        show Y G (d + 1) mX9_countOf 54 [(2, 170), (0, x1), (0, x2), (0, x3), (0, 1)] [(0, (zpl x1 x2 x3)), (2, 171)] M Q
        obtain ⟨q2, h⟩ := h
        refine y_iald (x := (M 171 (zpl x1 x2 x3))) dX9_countOf_54 sh171 q2 rfl ?_
        refine z_goto (tgt := 59) dX9_countOf_55 rfl ?_
        exact z_ireturn dX9_countOf_59 (Or.inl rfl) rfl h
      · replace h := h.2 q
        show Y G (d + 1) mX9_countOf 29 [(2, 170), (0, x1), (0, x2), (0, x3), (9, 0)] [(0, 0)] M Q
        refine z_ifeq (tgt := 36) dX9_countOf_29 rfl (fun _ => ?_) (fun q => absurd q (by decide))
        refine z_iconst dX9_countOf_36 ki_0 ?_
        refine y_istore (ls' := [(2, 170), (0, x1), (0, x2), (0, x3), (0, 0)]) dX9_countOf_37 rfl rfl ?_
        refine z_iload dX9_countOf_39 rfl ?_
        refine z_ifeq (tgt := 58) dX9_countOf_41 rfl (fun _ => ?_) (fun q => absurd q (by decide))
        refine z_iconst dX9_countOf_58 ki_0 ?_
        exact z_ireturn dX9_countOf_59 (Or.inl rfl) rfl h
    · replace h := h.2 q
      show Y G (d + 1) mX9_countOf 16 [(2, 170), (0, x1), (0, x2), (0, x3), (9, 0)] [(0, 0)] M Q
      refine z_ifeq (tgt := 36) dX9_countOf_16 rfl (fun _ => ?_) (fun q => absurd q (by decide))
      refine z_iconst dX9_countOf_36 ki_0 ?_
      refine y_istore (ls' := [(2, 170), (0, x1), (0, x2), (0, x3), (0, 0)]) dX9_countOf_37 rfl rfl ?_
      refine z_iload dX9_countOf_39 rfl ?_
      refine z_ifeq (tgt := 58) dX9_countOf_41 rfl (fun _ => ?_) (fun q => absurd q (by decide))
      refine z_iconst dX9_countOf_58 ki_0 ?_
      exact z_ireturn dX9_countOf_59 (Or.inl rfl) rfl h
  · replace h := h.2 q
    show Y G (d + 1) mX9_countOf 7 [(2, 170), (0, x1), (0, x2), (0, x3), (9, 0)] [(0, 0)] M Q
    refine z_ifeq (tgt := 36) dX9_countOf_7 rfl (fun _ => ?_) (fun q => absurd q (by decide))
    refine z_iconst dX9_countOf_36 ki_0 ?_
    refine y_istore (ls' := [(2, 170), (0, x1), (0, x2), (0, x3), (0, 0)]) dX9_countOf_37 rfl rfl ?_
    refine z_iload dX9_countOf_39 rfl ?_
    refine z_ifeq (tgt := 58) dX9_countOf_41 rfl (fun _ => ?_) (fun q => absurd q (by decide))
    refine z_iconst dX9_countOf_58 ki_0 ?_
    exact z_ireturn dX9_countOf_59 (Or.inl rfl) rfl h
set_option maxRecDepth 20000 in
set_option maxHeartbeats 4000000 in
theorem bX9_fewestLeaves_0 {G : zG} {d : Nat} {M : zM} {Q : zV → zM → Prop} (hG : zP G) {x1 x2 x3 r4 : Int} {nr4 : Nat} (hr4 : zsh r4.toNat = (100, nr4))
    (h : Y G (d + 1) mX9_fewestLeaves 3 [(2, 170), (0, x1), (0, x2), (0, x3), (2, r4), (0, 1)] [] M Q) :
    Y G (d + 1) mX9_fewestLeaves 0 [(2, 170), (0, x1), (0, x2), (0, x3), (2, r4), (9, 0)] [] M Q := by
  refine z_iconst dX9_fewestLeaves_0 ki_1 ?_
  refine y_istore (ls' := [(2, 170), (0, x1), (0, x2), (0, x3), (2, r4), (0, 1)]) dX9_fewestLeaves_1 rfl rfl ?_
  exact h
set_option maxRecDepth 20000 in
set_option maxHeartbeats 4000000 in
theorem bX9_fewestLeaves_3 {G : zG} {d : Nat} {M : zM} {Q : zV → zM → Prop} (hG : zP G) {x1 x2 x3 r4 x5 : Int} {nr4 : Nat} (hr4 : zsh r4.toNat = (100, nr4))
    (h : ((x3 < x5 → Q (0, (-1)) M) ∧ (x5 ≤ x3 → Y G d mX9_prepare 0 [(2, 170), (0, x1), (0, x5), (2, r4), (9, 0), (9, 0)] [] M (fun r M' => Y G (d + 1) mX9_fewestLeaves 18 [(2, 170), (0, x1), (0, x2), (0, x3), (2, r4), (0, x5)] (zpush r []) M' Q)))) :
    Y G (d + 1) mX9_fewestLeaves 3 [(2, 170), (0, x1), (0, x2), (0, x3), (2, r4), (0, x5)] [] M Q := by
  refine z_iload dX9_fewestLeaves_3 rfl ?_
  refine z_iloadn dX9_fewestLeaves_5 rfl ?_
  refine z_icmpgt (tgt := 38) dX9_fewestLeaves_6 rfl (fun q => ?_) (fun q => ?_)
  · replace h := h.1 q
    refine z_iconst dX9_fewestLeaves_38 ki_m1 ?_
    exact z_ireturn dX9_fewestLeaves_39 (Or.inl rfl) rfl h
  · replace h := h.2 q
    refine z_aloadn dX9_fewestLeaves_9 rfl (Or.inl rfl) ?_
    refine z_iloadn dX9_fewestLeaves_10 rfl ?_
    refine z_iload dX9_fewestLeaves_11 rfl ?_
    refine z_aload dX9_fewestLeaves_13 rfl (Or.inl rfl) ?_
    refine y_cv (mt2 := mX9_prepare) (en := [(2, 170), (0, x1), (0, x5), (2, r4), (9, 0), (9, 0)]) (st := []) (as := [(0, x1), (0, x5), (2, r4)]) dX9_fewestLeaves_15 lX9_58 kX9_prepare iX9_prepare eX9_prepare rfl sh170 (by decide +kernel) (Nat.le_of_ble_eq_true rfl) (Nat.le_of_ble_eq_true rfl) rfl ?_
    exact h
set_option maxRecDepth 20000 in
set_option maxHeartbeats 4000000 in
theorem bX9_fewestLeaves_18 {G : zG} {d : Nat} {M : zM} {Q : zV → zM → Prop} (hG : zP G) {x1 x2 x3 r4 x5 : Int} {nr4 : Nat} (hr4 : zsh r4.toNat = (100, nr4))
    (h : Y G d mX9_countOf 0 [(2, 170), (0, x1), (0, x5), (0, x2), (9, 0)] [] M (fun r M' => Y G (d + 1) mX9_fewestLeaves 26 [(2, 170), (0, x1), (0, x2), (0, x3), (2, r4), (0, x5)] (zpush r []) M' Q)) :
    Y G (d + 1) mX9_fewestLeaves 18 [(2, 170), (0, x1), (0, x2), (0, x3), (2, r4), (0, x5)] [] M Q := by
  refine z_aloadn dX9_fewestLeaves_18 rfl (Or.inl rfl) ?_
  refine z_iloadn dX9_fewestLeaves_19 rfl ?_
  refine z_iload dX9_fewestLeaves_20 rfl ?_
  refine z_iloadn dX9_fewestLeaves_22 rfl ?_
  refine y_cv (mt2 := mX9_countOf) (en := [(2, 170), (0, x1), (0, x5), (0, x2), (9, 0)]) (st := []) (as := [(0, x1), (0, x5), (0, x2)]) dX9_fewestLeaves_23 lX9_62 kX9_countOf iX9_countOf eX9_countOf rfl sh170 (by decide +kernel) (Nat.le_of_ble_eq_true rfl) (Nat.le_of_ble_eq_true rfl) rfl ?_
  exact h
set_option maxRecDepth 20000 in
set_option maxHeartbeats 4000000 in
theorem bX9_fewestLeaves_26 {G : zG} {d : Nat} {M : zM} {Q : zV → zM → Prop} (hG : zP G) {x1 x2 x3 r4 x5 x49 : Int} {nr4 : Nat} (hr4 : zsh r4.toNat = (100, nr4))
    (h : ((x49 = 0 → (-2147483648 ≤ x5 + 1 ∧ x5 + 1 ≤ 2147483647) ∧ Y G (d + 1) mX9_fewestLeaves 3 [(2, 170), (0, x1), (0, x2), (0, x3), (2, r4), (0, (x5 + 1))] [] M Q) ∧ (¬ x49 = 0 → Q (0, x5) M))) :
    Y G (d + 1) mX9_fewestLeaves 26 [(2, 170), (0, x1), (0, x2), (0, x3), (2, r4), (0, x5)] [(0, x49)] M Q := by
  refine z_ifeq (tgt := 32) dX9_fewestLeaves_26 rfl (fun q => ?_) (fun q => ?_)
  · replace h := h.1 q
    obtain ⟨q1, h⟩ := h
    refine y_iinc (ls' := [(2, 170), (0, x1), (0, x2), (0, x3), (2, r4), (0, (x5 + 1))]) dX9_fewestLeaves_32 rfl rfl q1 rfl ?_
    refine z_goto (tgt := 3) dX9_fewestLeaves_35 rfl ?_
    exact h
  · replace h := h.2 q
    refine z_iload dX9_fewestLeaves_29 rfl ?_
    exact z_ireturn dX9_fewestLeaves_31 (Or.inl rfl) rfl h
