set_option maxRecDepth 20000 in
set_option maxHeartbeats 4000000 in
theorem bX6_whoHasNotAsked_0 {G : zG} {d : Nat} {M : zM} {Q : zV → zM → Prop} (hG : zP G)
    (h : Y G (d + 1) mX6_whoHasNotAsked 4 [(2, 157), (0, 0), (0, 0)] [] M Q) :
    Y G (d + 1) mX6_whoHasNotAsked 0 [(2, 157), (9, 0), (9, 0)] [] M Q := by
  refine z_iconst dX6_whoHasNotAsked_0 ki_0 ?_
  refine y_istoren (ls' := [(2, 157), (0, 0), (9, 0)]) dX6_whoHasNotAsked_1 rfl rfl ?_
  refine z_iconst dX6_whoHasNotAsked_2 ki_0 ?_
  refine y_istoren (ls' := [(2, 157), (0, 0), (0, 0)]) dX6_whoHasNotAsked_3 rfl rfl ?_
  exact h
set_option maxRecDepth 20000 in
set_option maxHeartbeats 4000000 in
theorem bX6_whoHasNotAsked_4 {G : zG} {d : Nat} {M : zM} {Q : zV → zM → Prop} (hG : zP G) {x1 x2 : Int}
    (h : (((M 157 5) ≤ x2 → Q (0, x1) M) ∧ (x2 < (M 157 5) → Y G d mX6_hasAsked 0 [(2, 157), (0, x2), (9, 0)] [] M (fun r M' => Y G (d + 1) mX6_whoHasNotAsked 17 [(2, 157), (0, x1), (0, x2)] (zpush r []) M' Q)))) :
    Y G (d + 1) mX6_whoHasNotAsked 4 [(2, 157), (0, x1), (0, x2)] [] M Q := by
  refine z_iloadn dX6_whoHasNotAsked_4 rfl ?_
  refine z_aloadn dX6_whoHasNotAsked_5 rfl (Or.inl rfl) ?_
  refine y_getf (x := (M 157 5)) dX6_whoHasNotAsked_6 fX6_33 sh157 (by decide) rfl rfl ?_
  refine z_icmpge (tgt := 32) dX6_whoHasNotAsked_9 rfl (fun q => ?_) (fun q => ?_)
  · replace h := h.1 q
    refine z_iloadn dX6_whoHasNotAsked_32 rfl ?_
    exact z_ireturn dX6_whoHasNotAsked_33 (Or.inl rfl) rfl h
  · replace h := h.2 q
    refine z_aloadn dX6_whoHasNotAsked_12 rfl (Or.inl rfl) ?_
    refine z_iloadn dX6_whoHasNotAsked_13 rfl ?_
    refine y_cv (mt2 := mX6_hasAsked) (en := [(2, 157), (0, x2), (9, 0)]) (st := []) (as := [(0, x2)]) dX6_whoHasNotAsked_14 lX6_55 kX6_hasAsked iX6_hasAsked eX6_hasAsked rfl sh157 (by decide +kernel) (Nat.le_of_ble_eq_true rfl) (Nat.le_of_ble_eq_true rfl) rfl ?_
    exact h
set_option maxRecDepth 20000 in
set_option maxHeartbeats 4000000 in
theorem bX6_whoHasNotAsked_17 {G : zG} {d : Nat} {M : zM} {Q : zV → zM → Prop} (hG : zP G) {x1 x2 x49 : Int}
    (h : ((¬ x49 = 0 → (-2147483648 ≤ x2 + 1 ∧ x2 + 1 ≤ 2147483647) ∧ Y G (d + 1) mX6_whoHasNotAsked 4 [(2, 157), (0, x1), (0, (x2 + 1))] [] M Q) ∧ (x49 = 0 → (-2147483648 ≤ x2 + 1 ∧ x2 + 1 ≤ 2147483647) ∧ Y G (d + 1) mX6_whoHasNotAsked 4 [(2, 157), (0, (zor x1 (zshl 1 x2))), (0, (x2 + 1))] [] M Q))) :
    Y G (d + 1) mX6_whoHasNotAsked 17 [(2, 157), (0, x1), (0, x2)] [(0, x49)] M Q := by
  refine z_ifne (tgt := 26) dX6_whoHasNotAsked_17 rfl (fun q => ?_) (fun q => ?_)
  · replace h := h.1 q
    obtain ⟨q1, h⟩ := h
    refine y_iinc (ls' := [(2, 157), (0, x1), (0, (x2 + 1))]) dX6_whoHasNotAsked_26 rfl rfl q1 rfl ?_
    refine z_goto (tgt := 4) dX6_whoHasNotAsked_29 rfl ?_
    exact h
  · replace h := h.2 q
    refine z_iloadn dX6_whoHasNotAsked_20 rfl ?_
    refine z_iconst dX6_whoHasNotAsked_21 ki_1 ?_
    refine z_iloadn dX6_whoHasNotAsked_22 rfl ?_
    refine z_ishl dX6_whoHasNotAsked_23 ?_
    refine z_ior dX6_whoHasNotAsked_24 ?_
    refine y_istoren (ls' := [(2, 157), (0, (zor x1 (zshl 1 x2))), (0, x2)]) dX6_whoHasNotAsked_25 rfl rfl ?_
    obtain ⟨q2, h⟩ := h
    refine y_iinc (ls' := [(2, 157), (0, (zor x1 (zshl 1 x2))), (0, (x2 + 1))]) dX6_whoHasNotAsked_26 rfl rfl q2 rfl ?_
    refine z_goto (tgt := 4) dX6_whoHasNotAsked_29 rfl ?_
    exact h
set_option maxRecDepth 20000 in
set_option maxHeartbeats 4000000 in
theorem bX6_youngest_0 {G : zG} {d : Nat} {M : zM} {Q : zV → zM → Prop} (hG : zP G) {x1 : Int}
    (h : Y G d mX6_youngest 4 [(2, 157), (0, x1), (0, (-1)), (0, 0)] [] M Q) :
    Y G d mX6_youngest 0 [(2, 157), (0, x1), (9, 0), (9, 0)] [] M Q := by
  refine z_iconst dX6_youngest_0 ki_m1 ?_
  refine y_istoren (ls' := [(2, 157), (0, x1), (0, (-1)), (9, 0)]) dX6_youngest_1 rfl rfl ?_
  refine z_iconst dX6_youngest_2 ki_0 ?_
  refine y_istoren (ls' := [(2, 157), (0, x1), (0, (-1)), (0, 0)]) dX6_youngest_3 rfl rfl ?_
  exact h
set_option maxRecDepth 20000 in
set_option maxHeartbeats 4000000 in
theorem bX6_youngest_4 {G : zG} {d : Nat} {M : zM} {Q : zV → zM → Prop} (hG : zP G) {x1 x2 x3 : Int}
    (h : (((M 157 5) ≤ x3 → Q (0, x2) M) ∧ (x3 < (M 157 5) → (((zand (zshr x1 x3) 1) = 0 → (-2147483648 ≤ x3 + 1 ∧ x3 + 1 ≤ 2147483647) ∧ Y G d mX6_youngest 4 [(2, 157), (0, x1), (0, x2), (0, (x3 + 1))] [] M Q) ∧ (¬ (zand (zshr x1 x3) 1) = 0 → ((x2 = (-1) → (-2147483648 ≤ x3 + 1 ∧ x3 + 1 ≤ 2147483647) ∧ Y G d mX6_youngest 4 [(2, 157), (0, x1), (0, x3), (0, (x3 + 1))] [] M Q) ∧ (¬ x2 = (-1) → (0 ≤ x3 ∧ x3 < 6) ∧ (0 ≤ x2 ∧ x2 < 6) ∧ (((M 158 x2) ≤ (M 158 x3) → (-2147483648 ≤ x3 + 1 ∧ x3 + 1 ≤ 2147483647) ∧ Y G d mX6_youngest 4 [(2, 157), (0, x1), (0, x2), (0, (x3 + 1))] [] M Q) ∧ ((M 158 x3) < (M 158 x2) → (-2147483648 ≤ x3 + 1 ∧ x3 + 1 ≤ 2147483647) ∧ Y G d mX6_youngest 4 [(2, 157), (0, x1), (0, x3), (0, (x3 + 1))] [] M Q))))))))) :
    Y G d mX6_youngest 4 [(2, 157), (0, x1), (0, x2), (0, x3)] [] M Q := by
  refine z_iloadn dX6_youngest_4 rfl ?_
  refine z_aloadn dX6_youngest_5 rfl (Or.inl rfl) ?_
  refine y_getf (x := (M 157 5)) dX6_youngest_6 fX6_33 sh157 (by decide) rfl rfl ?_
  refine z_icmpge (tgt := 48) dX6_youngest_9 rfl (fun q => ?_) (fun q => ?_)
  · replace h := h.1 q
    refine z_iloadn dX6_youngest_48 rfl ?_
    exact z_ireturn dX6_youngest_49 (Or.inl rfl) rfl h
  · replace h := h.2 q
    refine z_iloadn dX6_youngest_12 rfl ?_
    refine z_iloadn dX6_youngest_13 rfl ?_
    refine z_ishr dX6_youngest_14 ?_
    refine z_iconst dX6_youngest_15 ki_1 ?_
    refine z_iand dX6_youngest_16 ?_
    refine z_ifeq (tgt := 42) dX6_youngest_17 rfl (fun q => ?_) (fun q => ?_)
    · replace h := h.1 q
      obtain ⟨q1, h⟩ := h
      refine y_iinc (ls' := [(2, 157), (0, x1), (0, x2), (0, (x3 + 1))]) dX6_youngest_42 rfl rfl q1 rfl ?_
      refine z_goto (tgt := 4) dX6_youngest_45 rfl ?_
      exact h
    · replace h := h.2 q
      refine z_iloadn dX6_youngest_20 rfl ?_
      refine z_iconst dX6_youngest_21 ki_m1 ?_
      refine z_icmpeq (tgt := 40) dX6_youngest_22 rfl (fun q => ?_) (fun q => ?_)
      · replace h := h.1 q
        refine z_iloadn dX6_youngest_40 rfl ?_
        refine y_istoren (ls' := [(2, 157), (0, x1), (0, x3), (0, x3)]) dX6_youngest_41 rfl rfl ?_
        obtain ⟨q2, h⟩ := h
        refine y_iinc (ls' := [(2, 157), (0, x1), (0, x3), (0, (x3 + 1))]) dX6_youngest_42 rfl rfl q2 rfl ?_
        refine z_goto (tgt := 4) dX6_youngest_45 rfl ?_
        exact h
      · replace h := h.2 q
        refine z_aloadn dX6_youngest_25 rfl (Or.inl rfl) ?_
        refine y_getr (v := 158) hG dX6_youngest_26 fX6_9 sh157 (by decide) rfl (by decide +kernel) (by decide) ?_
        refine z_iloadn dX6_youngest_29 rfl ?_
        obtain ⟨q3, h⟩ := h
        refine y_iald (x := (M 158 x3)) dX6_youngest_30 sh158 q3 rfl ?_
        refine z_aloadn dX6_youngest_31 rfl (Or.inl rfl) ?_
        refine y_getr (v := 158) hG dX6_youngest_32 fX6_9 sh157 (by decide) rfl (by decide +kernel) (by decide) ?_
        refine z_iloadn dX6_youngest_35 rfl ?_
        obtain ⟨q4, h⟩ := h
        refine y_iald (x := (M 158 x2)) dX6_youngest_36 sh158 q4 rfl ?_
        refine z_icmpge (tgt := 42) dX6_youngest_37 rfl (fun q => ?_) (fun q => ?_)
        · replace h := h.1 q
          obtain ⟨q5, h⟩ := h
          refine y_iinc (ls' := [(2, 157), (0, x1), (0, x2), (0, (x3 + 1))]) dX6_youngest_42 rfl rfl q5 rfl ?_
          refine z_goto (tgt := 4) dX6_youngest_45 rfl ?_
          exact h
        · replace h := h.2 q
          refine z_iloadn dX6_youngest_40 rfl ?_
          refine y_istoren (ls' := [(2, 157), (0, x1), (0, x3), (0, x3)]) dX6_youngest_41 rfl rfl ?_
          obtain ⟨q6, h⟩ := h
          refine y_iinc (ls' := [(2, 157), (0, x1), (0, x3), (0, (x3 + 1))]) dX6_youngest_42 rfl rfl q6 rfl ?_
          refine z_goto (tgt := 4) dX6_youngest_45 rfl ?_
          exact h
set_option maxRecDepth 20000 in
set_option maxHeartbeats 4000000 in
theorem bX6_drawn_0 {G : zG} {d : Nat} {M : zM} {Q : zV → zM → Prop} (hG : zP G) {x1 x2 : Int}
    (h : Y G d mJ6_bitCount_0f7a4 0 [(0, x1)] [] M (fun r M' => Y G (d + 1) mX6_drawn 6 [(2, 157), (0, x1), (0, x2), (9, 0), (9, 0)] (zpush r [(0, 1), (0, x2)]) M' Q)) :
    Y G (d + 1) mX6_drawn 0 [(2, 157), (0, x1), (0, x2), (9, 0), (9, 0)] [] M Q := by
  refine z_iloadn dX6_drawn_0 rfl ?_
  refine z_iconst dX6_drawn_1 ki_1 ?_
  refine z_iloadn dX6_drawn_2 rfl ?_
  refine y_cs (mt2 := mJ6_bitCount_0f7a4) (en := [(0, x1)]) (st := [(0, 1), (0, x2)]) (as := [(0, x1)]) dX6_drawn_3 lX6_79 kJ6_bitCount_0f7a4 tJ6_bitCount_0f7a4 rfl (Nat.le_of_ble_eq_true rfl) (Nat.le_of_ble_eq_true rfl) rfl ?_
  exact h
set_option maxRecDepth 20000 in
set_option maxHeartbeats 4000000 in
theorem bX6_drawn_16 {G : zG} {d : Nat} {M : zM} {Q : zV → zM → Prop} (hG : zP G) {x1 x2 x3 x4 : Int}
    (h : (((M 157 5) ≤ x4 → Q (0, (-1)) M) ∧ (x4 < (M 157 5) → (((zand (zshr x1 x4) 1) = 0 → (-2147483648 ≤ x4 + 1 ∧ x4 + 1 ≤ 2147483647) ∧ Y G (d + 1) mX6_drawn 16 [(2, 157), (0, x1), (0, x2), (0, x3), (0, (x4 + 1))] [] M Q) ∧ (¬ (zand (zshr x1 x4) 1) = 0 → ((¬ x3 = 0 → (-2147483648 ≤ x3 + (-1) ∧ x3 + (-1) ≤ 2147483647) ∧ (-2147483648 ≤ x4 + 1 ∧ x4 + 1 ≤ 2147483647) ∧ Y G (d + 1) mX6_drawn 16 [(2, 157), (0, x1), (0, x2), (0, (x3 + (-1))), (0, (x4 + 1))] [] M Q) ∧ (x3 = 0 → Q (0, x4) M))))))) :
    Y G (d + 1) mX6_drawn 16 [(2, 157), (0, x1), (0, x2), (0, x3), (0, x4)] [] M Q := by
  refine z_iload dX6_drawn_16 rfl ?_
  refine z_aloadn dX6_drawn_18 rfl (Or.inl rfl) ?_
  refine y_getf (x := (M 157 5)) dX6_drawn_19 fX6_33 sh157 (by decide) rfl rfl ?_
  refine z_icmpge (tgt := 50) dX6_drawn_22 rfl (fun q => ?_) (fun q => ?_)
  · replace h := h.1 q
    refine z_iconst dX6_drawn_50 ki_m1 ?_
    exact z_ireturn dX6_drawn_51 (Or.inl rfl) rfl h
  · replace h := h.2 q
    refine z_iloadn dX6_drawn_25 rfl ?_
    refine z_iload dX6_drawn_26 rfl ?_
    refine z_ishr dX6_drawn_28 ?_
    refine z_iconst dX6_drawn_29 ki_1 ?_
    refine z_iand dX6_drawn_30 ?_
    refine z_ifeq (tgt := 44) dX6_drawn_31 rfl (fun q => ?_) (fun q => ?_)
    · replace h := h.1 q
      obtain ⟨q1, h⟩ := h
      refine y_iinc (ls' := [(2, 157), (0, x1), (0, x2), (0, x3), (0, (x4 + 1))]) dX6_drawn_44 rfl rfl q1 rfl ?_
      refine z_goto (tgt := 16) dX6_drawn_47 rfl ?_
      exact h
    · replace h := h.2 q
      refine z_iloadn dX6_drawn_34 rfl ?_
      refine z_ifne (tgt := 41) dX6_drawn_35 rfl (fun q => ?_) (fun q => ?_)
      · replace h := h.1 q
        obtain ⟨q2, h⟩ := h
        refine y_iinc (ls' := [(2, 157), (0, x1), (0, x2), (0, (x3 + (-1))), (0, x4)]) dX6_drawn_41 rfl rfl q2 rfl ?_
        obtain ⟨q3, h⟩ := h
        refine y_iinc (ls' := [(2, 157), (0, x1), (0, x2), (0, (x3 + (-1))), (0, (x4 + 1))]) dX6_drawn_44 rfl rfl q3 rfl ?_
        refine z_goto (tgt := 16) dX6_drawn_47 rfl ?_
        exact h
      · replace h := h.2 q
        refine z_iload dX6_drawn_38 rfl ?_
        exact z_ireturn dX6_drawn_40 (Or.inl rfl) rfl h
-- X6_drawn at 6: left to the hand
set_option maxRecDepth 20000 in
set_option maxHeartbeats 4000000 in
theorem bX6_holdMorning_0 {G : zG} {d : Nat} {M : zM} {Q : zV → zM → Prop} (hG : zP G) {x1 : Int}
    (h : Y G d mX6_whoHasNotAsked 0 [(2, 157), (9, 0), (9, 0)] [] M (fun r M' => Y G (d + 1) mX6_holdMorning 9 [(2, 157), (0, x1), (2, 19), (0, (M 157 9)), (9, 0), (9, 0), (9, 0), (9, 0), (9, 0)] (zpush r []) M' Q)) :
    Y G (d + 1) mX6_holdMorning 0 [(2, 157), (0, x1), (2, 19), (9, 0), (9, 0), (9, 0), (9, 0), (9, 0), (9, 0)] [] M Q := by
  refine z_aloadn dX6_holdMorning_0 rfl (Or.inl rfl) ?_
  refine y_getf (x := (M 157 9)) dX6_holdMorning_1 fX6_48 sh157 (by decide) rfl rfl ?_
  refine y_istoren (ls' := [(2, 157), (0, x1), (2, 19), (0, (M 157 9)), (9, 0), (9, 0), (9, 0), (9, 0), (9, 0)]) dX6_holdMorning_4 rfl rfl ?_
  refine z_aloadn dX6_holdMorning_5 rfl (Or.inl rfl) ?_
  refine y_cv (mt2 := mX6_whoHasNotAsked) (en := [(2, 157), (9, 0), (9, 0)]) (st := []) (as := []) dX6_holdMorning_6 lX6_94 kX6_whoHasNotAsked iX6_whoHasNotAsked eX6_whoHasNotAsked rfl sh157 (by decide +kernel) (Nat.le_of_ble_eq_true rfl) (Nat.le_of_ble_eq_true rfl) rfl ?_
  exact h
set_option maxRecDepth 20000 in
set_option maxHeartbeats 4000000 in
theorem bX6_holdMorning_22 {G : zG} {d : Nat} {M : zM} {Q : zV → zM → Prop} (hG : zP G) {x1 x3 x4 x5 x6 : Int}
    (h : (((M 157 5) ≤ x6 → (-2147483648 ≤ (M 157 9) - x3 ∧ (M 157 9) - x3 ≤ 2147483647) ∧ Q (0, ((M 157 9) - x3)) M) ∧ (x6 < (M 157 5) → ((x4 = 0 → (-2147483648 ≤ (M 157 9) - x3 ∧ (M 157 9) - x3 ≤ 2147483647) ∧ Q (0, ((M 157 9) - x3)) M) ∧ (¬ x4 = 0 → ((¬ x1 = (-1) → Y G d mX6_drawn 0 [(2, 157), (0, x4), (0, x5), (9, 0), (9, 0)] [] M (fun r M' => Y G (d + 1) mX6_holdMorning 58 [(2, 157), (0, x1), (2, 19), (0, x3), (0, x4), (0, x5), (0, x6), (9, 0), (9, 0)] (zpush r []) M' Q)) ∧ (x1 = (-1) → Y G d mX6_youngest 0 [(2, 157), (0, x4), (9, 0), (9, 0)] [] M (fun r M' => Y G (d + 1) mX6_holdMorning 47 [(2, 157), (0, x1), (2, 19), (0, x3), (0, x4), (0, x5), (0, x6), (9, 0), (9, 0)] (zpush r []) M' Q)))))))) :
    Y G (d + 1) mX6_holdMorning 22 [(2, 157), (0, x1), (2, 19), (0, x3), (0, x4), (0, x5), (0, x6), (9, 0), (9, 0)] [] M Q := by
  refine z_iload dX6_holdMorning_22 rfl ?_
  refine z_aloadn dX6_holdMorning_24 rfl (Or.inl rfl) ?_
  refine y_getf (x := (M 157 5)) dX6_holdMorning_25 fX6_33 sh157 (by decide) rfl rfl ?_
  refine z_icmpge (tgt := 124) dX6_holdMorning_28 rfl (fun q => ?_) (fun q => ?_)
  · replace h := h.1 q
    refine z_aloadn dX6_holdMorning_124 rfl (Or.inl rfl) ?_
    refine y_getf (x := (M 157 9)) dX6_holdMorning_125 fX6_48 sh157 (by decide) rfl rfl ?_
    refine z_iloadn dX6_holdMorning_128 rfl ?_
    obtain ⟨q1, h⟩ := h
    refine z_isub dX6_holdMorning_129 q1 ?_
    exact z_ireturn dX6_holdMorning_130 (Or.inl rfl) rfl h
  · replace h := h.2 q
    refine z_iload dX6_holdMorning_31 rfl ?_
    refine z_ifeq (tgt := 124) dX6_holdMorning_33 rfl (fun q => ?_) (fun q => ?_)
    · replace h := h.1 q
      refine z_aloadn dX6_holdMorning_124 rfl (Or.inl rfl) ?_
      refine y_getf (x := (M 157 9)) dX6_holdMorning_125 fX6_48 sh157 (by decide) rfl rfl ?_
      refine z_iloadn dX6_holdMorning_128 rfl ?_
      obtain ⟨q2, h⟩ := h
      refine z_isub dX6_holdMorning_129 q2 ?_
      exact z_ireturn dX6_holdMorning_130 (Or.inl rfl) rfl h
    · replace h := h.2 q
      refine z_iloadn dX6_holdMorning_36 rfl ?_
      refine z_iconst dX6_holdMorning_37 ki_m1 ?_
      refine z_icmpne (tgt := 50) dX6_holdMorning_38 rfl (fun q => ?_) (fun q => ?_)
      · replace h := h.1 q
        refine z_aloadn dX6_holdMorning_50 rfl (Or.inl rfl) ?_
        refine z_iload dX6_holdMorning_51 rfl ?_
        refine z_iload dX6_holdMorning_53 rfl ?_
        refine y_cv (mt2 := mX6_drawn) (en := [(2, 157), (0, x4), (0, x5), (9, 0), (9, 0)]) (st := []) (as := [(0, x4), (0, x5)]) dX6_holdMorning_55 lX6_101 kX6_drawn iX6_drawn eX6_drawn rfl sh157 (by decide +kernel) (Nat.le_of_ble_eq_true rfl) (Nat.le_of_ble_eq_true rfl) rfl ?_
        exact h
      · replace h := h.2 q
        refine z_aloadn dX6_holdMorning_41 rfl (Or.inl rfl) ?_
        refine z_iload dX6_holdMorning_42 rfl ?_
        refine y_cv (mt2 := mX6_youngest) (en := [(2, 157), (0, x4), (9, 0), (9, 0)]) (st := []) (as := [(0, x4)]) dX6_holdMorning_44 lX6_98 kX6_youngest iX6_youngest eX6_youngest rfl sh157 (by decide +kernel) (Nat.le_of_ble_eq_true rfl) (Nat.le_of_ble_eq_true rfl) rfl ?_
        exact h
set_option maxRecDepth 20000 in
set_option maxHeartbeats 4000000 in
theorem bX6_holdMorning_9 {G : zG} {d : Nat} {M : zM} {Q : zV → zM → Prop} (hG : zP G) {x1 x3 x49 : Int}
    (h : (-2147483648 ≤ x1 * 3 ∧ x1 * 3 ≤ 2147483647) ∧ (-2147483648 ≤ (x1 * 3) + 7 ∧ (x1 * 3) + 7 ≤ 2147483647) ∧ Y G (d + 1) mX6_holdMorning 22 [(2, 157), (0, x1), (2, 19), (0, x3), (0, x49), (0, ((x1 * 3) + 7)), (0, 0), (9, 0), (9, 0)] [] M Q) :
    Y G (d + 1) mX6_holdMorning 9 [(2, 157), (0, x1), (2, 19), (0, x3), (9, 0), (9, 0), (9, 0), (9, 0), (9, 0)] [(0, x49)] M Q := by
  refine y_istore (ls' := [(2, 157), (0, x1), (2, 19), (0, x3), (0, x49), (9, 0), (9, 0), (9, 0), (9, 0)]) dX6_holdMorning_9 rfl rfl ?_
  refine z_iloadn dX6_holdMorning_11 rfl ?_
  refine z_iconst dX6_holdMorning_12 ki_3 ?_
  obtain ⟨q1, h⟩ := h
  refine z_imul dX6_holdMorning_13 q1 ?_
  refine z_bipush dX6_holdMorning_14 kb_7 ?_
  obtain ⟨q2, h⟩ := h
  refine z_iadd dX6_holdMorning_16 q2 ?_
  refine y_istore (ls' := [(2, 157), (0, x1), (2, 19), (0, x3), (0, x49), (0, ((x1 * 3) + 7)), (9, 0), (9, 0), (9, 0)]) dX6_holdMorning_17 rfl rfl ?_
  refine z_iconst dX6_holdMorning_19 ki_0 ?_
  refine y_istore (ls' := [(2, 157), (0, x1), (2, 19), (0, x3), (0, x49), (0, ((x1 * 3) + 7)), (0, 0), (9, 0), (9, 0)]) dX6_holdMorning_20 rfl rfl ?_
  exact h
set_option maxRecDepth 20000 in
set_option maxHeartbeats 4000000 in
theorem bX6_holdMorning_58 {G : zG} {d : Nat} {M : zM} {Q : zV → zM → Prop} (hG : zP G) {x1 x3 x4 x5 x6 x49 : Int}
    (h : ((¬ x49 = (-1) → (-2147483648 ≤ x5 * 131 ∧ x5 * 131 ≤ 2147483647) ∧ (-2147483648 ≤ (x5 * 131) + 89 ∧ (x5 * 131) + 89 ≤ 2147483647) ∧ Y G d mX6_lowestNow 0 [(2, 157), (0, x49), (2, 19), (9, 0)] [] M (fun r M' => Y G (d + 1) mX6_holdMorning 102 [(2, 157), (0, x1), (2, 19), (0, x3), (0, (zand x4 (zxor (zshl 1 x49) (-1)))), (0, (zrem ((x5 * 131) + 89) 30011)), (0, x6), (0, x49), (9, 0)] (zpush r []) M' Q)) ∧ (x49 = (-1) → (-2147483648 ≤ (M 157 9) - x3 ∧ (M 157 9) - x3 ≤ 2147483647) ∧ Q (0, ((M 157 9) - x3)) M))) :
    Y G (d + 1) mX6_holdMorning 58 [(2, 157), (0, x1), (2, 19), (0, x3), (0, x4), (0, x5), (0, x6), (9, 0), (9, 0)] [(0, x49)] M Q := by
  refine y_istore (ls' := [(2, 157), (0, x1), (2, 19), (0, x3), (0, x4), (0, x5), (0, x6), (0, x49), (9, 0)]) dX6_holdMorning_58 rfl rfl ?_
  refine z_iload dX6_holdMorning_60 rfl ?_
  refine z_iconst dX6_holdMorning_62 ki_m1 ?_
  refine z_icmpne (tgt := 69) dX6_holdMorning_63 rfl (fun q => ?_) (fun q => ?_)
  · replace h := h.1 q
    refine z_iload dX6_holdMorning_69 rfl ?_
    refine z_sipush dX6_holdMorning_71 ks_131 ?_
    obtain ⟨q1, h⟩ := h
    refine z_imul dX6_holdMorning_74 q1 ?_
    refine z_bipush dX6_holdMorning_75 kb_89 ?_
    obtain ⟨q2, h⟩ := h
    refine z_iadd dX6_holdMorning_77 q2 ?_
    refine z_sipush dX6_holdMorning_78 ks_30011 ?_
    refine z_irem dX6_holdMorning_81 (by decide) ?_
    refine y_istore (ls' := [(2, 157), (0, x1), (2, 19), (0, x3), (0, x4), (0, (zrem ((x5 * 131) + 89) 30011)), (0, x6), (0, x49), (9, 0)]) dX6_holdMorning_82 rfl rfl ?_
    refine z_iload dX6_holdMorning_84 rfl ?_
    refine z_iconst dX6_holdMorning_86 ki_1 ?_
    refine z_iload dX6_holdMorning_87 rfl ?_
    refine z_ishl dX6_holdMorning_89 ?_
    refine z_iconst dX6_holdMorning_90 ki_m1 ?_
    refine z_ixor dX6_holdMorning_91 ?_
    refine z_iand dX6_holdMorning_92 ?_
    refine y_istore (ls' := [(2, 157), (0, x1), (2, 19), (0, x3), (0, (zand x4 (zxor (zshl 1 x49) (-1)))), (0, (zrem ((x5 * 131) + 89) 30011)), (0, x6), (0, x49), (9, 0)]) dX6_holdMorning_93 rfl rfl ?_
    refine z_aloadn dX6_holdMorning_95 rfl (Or.inl rfl) ?_
    refine z_iload dX6_holdMorning_96 rfl ?_
    refine z_aloadn dX6_holdMorning_98 rfl (Or.inl rfl) ?_
    refine y_cv (mt2 := mX6_lowestNow) (en := [(2, 157), (0, x49), (2, 19), (9, 0)]) (st := []) (as := [(0, x49), (2, 19)]) dX6_holdMorning_99 lX6_104 kX6_lowestNow iX6_lowestNow eX6_lowestNow rfl sh157 (by decide +kernel) (Nat.le_of_ble_eq_true rfl) (Nat.le_of_ble_eq_true rfl) rfl ?_
    exact h
  · replace h := h.2 q
    refine z_goto (tgt := 124) dX6_holdMorning_66 rfl ?_
    refine z_aloadn dX6_holdMorning_124 rfl (Or.inl rfl) ?_
    refine y_getf (x := (M 157 9)) dX6_holdMorning_125 fX6_48 sh157 (by decide) rfl rfl ?_
    refine z_iloadn dX6_holdMorning_128 rfl ?_
    obtain ⟨q3, h⟩ := h
    refine z_isub dX6_holdMorning_129 q3 ?_
    exact z_ireturn dX6_holdMorning_130 (Or.inl rfl) rfl h
set_option maxRecDepth 20000 in
set_option maxHeartbeats 4000000 in
theorem bX6_holdMorning_47 {G : zG} {d : Nat} {M : zM} {Q : zV → zM → Prop} (hG : zP G) {x1 x3 x4 x5 x6 x49 : Int}
    (h : ((¬ x49 = (-1) → (-2147483648 ≤ x5 * 131 ∧ x5 * 131 ≤ 2147483647) ∧ (-2147483648 ≤ (x5 * 131) + 89 ∧ (x5 * 131) + 89 ≤ 2147483647) ∧ Y G d mX6_lowestNow 0 [(2, 157), (0, x49), (2, 19), (9, 0)] [] M (fun r M' => Y G (d + 1) mX6_holdMorning 102 [(2, 157), (0, x1), (2, 19), (0, x3), (0, (zand x4 (zxor (zshl 1 x49) (-1)))), (0, (zrem ((x5 * 131) + 89) 30011)), (0, x6), (0, x49), (9, 0)] (zpush r []) M' Q)) ∧ (x49 = (-1) → (-2147483648 ≤ (M 157 9) - x3 ∧ (M 157 9) - x3 ≤ 2147483647) ∧ Q (0, ((M 157 9) - x3)) M))) :
    Y G (d + 1) mX6_holdMorning 47 [(2, 157), (0, x1), (2, 19), (0, x3), (0, x4), (0, x5), (0, x6), (9, 0), (9, 0)] [(0, x49)] M Q := by
  refine z_goto (tgt := 58) dX6_holdMorning_47 rfl ?_
  refine y_istore (ls' := [(2, 157), (0, x1), (2, 19), (0, x3), (0, x4), (0, x5), (0, x6), (0, x49), (9, 0)]) dX6_holdMorning_58 rfl rfl ?_
  refine z_iload dX6_holdMorning_60 rfl ?_
  refine z_iconst dX6_holdMorning_62 ki_m1 ?_
  refine z_icmpne (tgt := 69) dX6_holdMorning_63 rfl (fun q => ?_) (fun q => ?_)
  · replace h := h.1 q
    refine z_iload dX6_holdMorning_69 rfl ?_
    refine z_sipush dX6_holdMorning_71 ks_131 ?_
    obtain ⟨q1, h⟩ := h
    refine z_imul dX6_holdMorning_74 q1 ?_
    refine z_bipush dX6_holdMorning_75 kb_89 ?_
    obtain ⟨q2, h⟩ := h
    refine z_iadd dX6_holdMorning_77 q2 ?_
    refine z_sipush dX6_holdMorning_78 ks_30011 ?_
    refine z_irem dX6_holdMorning_81 (by decide) ?_
    refine y_istore (ls' := [(2, 157), (0, x1), (2, 19), (0, x3), (0, x4), (0, (zrem ((x5 * 131) + 89) 30011)), (0, x6), (0, x49), (9, 0)]) dX6_holdMorning_82 rfl rfl ?_
    refine z_iload dX6_holdMorning_84 rfl ?_
    refine z_iconst dX6_holdMorning_86 ki_1 ?_
    refine z_iload dX6_holdMorning_87 rfl ?_
    refine z_ishl dX6_holdMorning_89 ?_
    refine z_iconst dX6_holdMorning_90 ki_m1 ?_
    refine z_ixor dX6_holdMorning_91 ?_
    refine z_iand dX6_holdMorning_92 ?_
    refine y_istore (ls' := [(2, 157), (0, x1), (2, 19), (0, x3), (0, (zand x4 (zxor (zshl 1 x49) (-1)))), (0, (zrem ((x5 * 131) + 89) 30011)), (0, x6), (0, x49), (9, 0)]) dX6_holdMorning_93 rfl rfl ?_
    refine z_aloadn dX6_holdMorning_95 rfl (Or.inl rfl) ?_
    refine z_iload dX6_holdMorning_96 rfl ?_
    refine z_aloadn dX6_holdMorning_98 rfl (Or.inl rfl) ?_
    refine y_cv (mt2 := mX6_lowestNow) (en := [(2, 157), (0, x49), (2, 19), (9, 0)]) (st := []) (as := [(0, x49), (2, 19)]) dX6_holdMorning_99 lX6_104 kX6_lowestNow iX6_lowestNow eX6_lowestNow rfl sh157 (by decide +kernel) (Nat.le_of_ble_eq_true rfl) (Nat.le_of_ble_eq_true rfl) rfl ?_
    exact h
  · replace h := h.2 q
    refine z_goto (tgt := 124) dX6_holdMorning_66 rfl ?_
    refine z_aloadn dX6_holdMorning_124 rfl (Or.inl rfl) ?_
    refine y_getf (x := (M 157 9)) dX6_holdMorning_125 fX6_48 sh157 (by decide) rfl rfl ?_
    refine z_iloadn dX6_holdMorning_128 rfl ?_
    obtain ⟨q3, h⟩ := h
    refine z_isub dX6_holdMorning_129 q3 ?_
    exact z_ireturn dX6_holdMorning_130 (Or.inl rfl) rfl h
set_option maxRecDepth 20000 in
set_option maxHeartbeats 4000000 in
theorem bX6_holdMorning_102 {G : zG} {d : Nat} {M : zM} {Q : zV → zM → Prop} (hG : zP G) {x1 x3 x4 x5 x6 x7 x49 : Int}
    (h : ((x49 = (-1) → (-2147483648 ≤ x6 + 1 ∧ x6 + 1 ≤ 2147483647) ∧ Y G (d + 1) mX6_holdMorning 22 [(2, 157), (0, x1), (2, 19), (0, x3), (0, x4), (0, x5), (0, (x6 + 1)), (9, 0), (9, 0)] [] M Q) ∧ (¬ x49 = (-1) → Y G d mX6_addStep 0 [(2, 157), (0, x7), (0, x49)] [] M (fun r M' => Y G (d + 1) mX6_holdMorning 118 [(2, 157), (0, x1), (2, 19), (0, x3), (0, x4), (0, x5), (0, x6), (0, x7), (0, x49)] (zpush r []) M' Q)))) :
    Y G (d + 1) mX6_holdMorning 102 [(2, 157), (0, x1), (2, 19), (0, x3), (0, x4), (0, x5), (0, x6), (0, x7), (9, 0)] [(0, x49)] M Q := by
  refine y_istore (ls' := [(2, 157), (0, x1), (2, 19), (0, x3), (0, x4), (0, x5), (0, x6), (0, x7), (0, x49)]) dX6_holdMorning_102 rfl rfl ?_
  refine z_iload dX6_holdMorning_104 rfl ?_
  refine z_iconst dX6_holdMorning_106 ki_m1 ?_
  refine z_icmpeq (tgt := 118) dX6_holdMorning_107 rfl (fun q => ?_) (fun q => ?_)
  · replace h := h.1 q
    obtain ⟨q1, h⟩ := h
    refine y_iinc (ls' := [(2, 157), (0, x1), (2, 19), (0, x3), (0, x4), (0, x5), (0, (x6 + 1)), (0, x7), (0, x49)]) dX6_holdMorning_118 rfl rfl q1 rfl ?_
    refine z_goto (tgt := 22) dX6_holdMorning_121 rfl ?_
    refine z_sub (ls' := [(2, 157), (0, x1), (2, 19), (0, x3), (0, x4), (0, x5), (0, (x6 + 1)), (9, 0), (9, 0)]) ⟨Or.inl rfl, Or.inl rfl, Or.inl rfl, Or.inl rfl, Or.inl rfl, Or.inl rfl, Or.inl rfl, Or.inr rfl, Or.inr rfl, trivial⟩ ?_
    exact h
  · replace h := h.2 q
    refine z_aloadn dX6_holdMorning_110 rfl (Or.inl rfl) ?_
    refine z_iload dX6_holdMorning_111 rfl ?_
    refine z_iload dX6_holdMorning_113 rfl ?_
    refine y_cv (mt2 := mX6_addStep) (en := [(2, 157), (0, x7), (0, x49)]) (st := []) (as := [(0, x7), (0, x49)]) dX6_holdMorning_115 lX6_107 kX6_addStep iX6_addStep eX6_addStep rfl sh157 (by decide +kernel) (Nat.le_of_ble_eq_true rfl) (Nat.le_of_ble_eq_true rfl) rfl ?_
    exact h
set_option maxRecDepth 20000 in
set_option maxHeartbeats 4000000 in
theorem bX6_holdMorning_118 {G : zG} {d : Nat} {M : zM} {Q : zV → zM → Prop} (hG : zP G) {x1 x3 x4 x5 x6 x7 x8 : Int}
    (h : (-2147483648 ≤ x6 + 1 ∧ x6 + 1 ≤ 2147483647) ∧ Y G (d + 1) mX6_holdMorning 22 [(2, 157), (0, x1), (2, 19), (0, x3), (0, x4), (0, x5), (0, (x6 + 1)), (9, 0), (9, 0)] [] M Q) :
    Y G (d + 1) mX6_holdMorning 118 [(2, 157), (0, x1), (2, 19), (0, x3), (0, x4), (0, x5), (0, x6), (0, x7), (0, x8)] [] M Q := by
  obtain ⟨q1, h⟩ := h
  refine y_iinc (ls' := [(2, 157), (0, x1), (2, 19), (0, x3), (0, x4), (0, x5), (0, (x6 + 1)), (0, x7), (0, x8)]) dX6_holdMorning_118 rfl rfl q1 rfl ?_
  refine z_goto (tgt := 22) dX6_holdMorning_121 rfl ?_
  refine z_sub (ls' := [(2, 157), (0, x1), (2, 19), (0, x3), (0, x4), (0, x5), (0, (x6 + 1)), (9, 0), (9, 0)]) ⟨Or.inl rfl, Or.inl rfl, Or.inl rfl, Or.inl rfl, Or.inl rfl, Or.inl rfl, Or.inl rfl, Or.inr rfl, Or.inr rfl, trivial⟩ ?_
  exact h
set_option maxRecDepth 20000 in
set_option maxHeartbeats 4000000 in
theorem bX6_firstPassedOver_0 {G : zG} {d : Nat} {M : zM} {Q : zV → zM → Prop} (hG : zP G)
    (h : Y G d mX6_whoHasNotAsked 0 [(2, 157), (9, 0), (9, 0)] [] M (fun r M' => Y G (d + 1) mX6_firstPassedOver 9 [(2, 157), (2, 19), (0, (M 157 9)), (9, 0), (9, 0), (9, 0), (9, 0), (9, 0)] (zpush r []) M' Q)) :
    Y G (d + 1) mX6_firstPassedOver 0 [(2, 157), (2, 19), (9, 0), (9, 0), (9, 0), (9, 0), (9, 0), (9, 0)] [] M Q := by
  refine z_aloadn dX6_firstPassedOver_0 rfl (Or.inl rfl) ?_
  refine y_getf (x := (M 157 9)) dX6_firstPassedOver_1 fX6_48 sh157 (by decide) rfl rfl ?_
  refine y_istoren (ls' := [(2, 157), (2, 19), (0, (M 157 9)), (9, 0), (9, 0), (9, 0), (9, 0), (9, 0)]) dX6_firstPassedOver_4 rfl rfl ?_
  refine z_aloadn dX6_firstPassedOver_5 rfl (Or.inl rfl) ?_
  refine y_cv (mt2 := mX6_whoHasNotAsked) (en := [(2, 157), (9, 0), (9, 0)]) (st := []) (as := []) dX6_firstPassedOver_6 lX6_94 kX6_whoHasNotAsked iX6_whoHasNotAsked eX6_whoHasNotAsked rfl sh157 (by decide +kernel) (Nat.le_of_ble_eq_true rfl) (Nat.le_of_ble_eq_true rfl) rfl ?_
  exact h
set_option maxRecDepth 20000 in
set_option maxHeartbeats 4000000 in
theorem bX6_firstPassedOver_16 {G : zG} {d : Nat} {M : zM} {Q : zV → zM → Prop} (hG : zP G) {x2 x3 x4 x5 : Int}
    (h : (((M 157 5) ≤ x5 → Q (0, x4) (zset M 157 9 x2)) ∧ (x5 < (M 157 5) → ((x3 = 0 → Q (0, x4) (zset M 157 9 x2)) ∧ (¬ x3 = 0 → ((¬ x4 = (-1) → Q (0, x4) (zset M 157 9 x2)) ∧ (x4 = (-1) → Y G d mX6_youngest 0 [(2, 157), (0, x3), (9, 0), (9, 0)] [] M (fun r M' => Y G (d + 1) mX6_firstPassedOver 40 [(2, 157), (2, 19), (0, x2), (0, x3), (0, x4), (0, x5), (9, 0), (9, 0)] (zpush r []) M' Q)))))))) :
    Y G (d + 1) mX6_firstPassedOver 16 [(2, 157), (2, 19), (0, x2), (0, x3), (0, x4), (0, x5), (9, 0), (9, 0)] [] M Q := by
  refine z_iload dX6_firstPassedOver_16 rfl ?_
  refine z_aloadn dX6_firstPassedOver_18 rfl (Or.inl rfl) ?_
  refine y_getf (x := (M 157 5)) dX6_firstPassedOver_19 fX6_33 sh157 (by decide) rfl rfl ?_
  refine z_icmpge (tgt := 96) dX6_firstPassedOver_22 rfl (fun q => ?_) (fun q => ?_)
  · replace h := h.1 q
    refine z_aloadn dX6_firstPassedOver_96 rfl (Or.inl rfl) ?_
    refine z_iloadn dX6_firstPassedOver_97 rfl ?_
    refine y_putf (M' := zset M 157 9 x2) hG dX6_firstPassedOver_98 fX6_48 sh157 (by decide) ⟨rfl, rfl⟩ p6_9 (fun q => absurd q (by decide)) (by decide) rfl ?_
    refine z_iload dX6_firstPassedOver_101 rfl ?_
    exact z_ireturn dX6_firstPassedOver_103 (Or.inl rfl) rfl h
  · replace h := h.2 q
    refine z_iloadn dX6_firstPassedOver_25 rfl ?_
    refine z_ifeq (tgt := 96) dX6_firstPassedOver_26 rfl (fun q => ?_) (fun q => ?_)
    · replace h := h.1 q
      refine z_aloadn dX6_firstPassedOver_96 rfl (Or.inl rfl) ?_
      refine z_iloadn dX6_firstPassedOver_97 rfl ?_
      refine y_putf (M' := zset M 157 9 x2) hG dX6_firstPassedOver_98 fX6_48 sh157 (by decide) ⟨rfl, rfl⟩ p6_9 (fun q => absurd q (by decide)) (by decide) rfl ?_
      refine z_iload dX6_firstPassedOver_101 rfl ?_
      exact z_ireturn dX6_firstPassedOver_103 (Or.inl rfl) rfl h
    · replace h := h.2 q
      refine z_iload dX6_firstPassedOver_29 rfl ?_
      refine z_iconst dX6_firstPassedOver_31 ki_m1 ?_
      refine z_icmpne (tgt := 96) dX6_firstPassedOver_32 rfl (fun q => ?_) (fun q => ?_)
      · replace h := h.1 q
        refine z_aloadn dX6_firstPassedOver_96 rfl (Or.inl rfl) ?_
        refine z_iloadn dX6_firstPassedOver_97 rfl ?_
        refine y_putf (M' := zset M 157 9 x2) hG dX6_firstPassedOver_98 fX6_48 sh157 (by decide) ⟨rfl, rfl⟩ p6_9 (fun q => absurd q (by decide)) (by decide) rfl ?_
        refine z_iload dX6_firstPassedOver_101 rfl ?_
        exact z_ireturn dX6_firstPassedOver_103 (Or.inl rfl) rfl h
      · replace h := h.2 q
        refine z_aloadn dX6_firstPassedOver_35 rfl (Or.inl rfl) ?_
        refine z_iloadn dX6_firstPassedOver_36 rfl ?_
        refine y_cv (mt2 := mX6_youngest) (en := [(2, 157), (0, x3), (9, 0), (9, 0)]) (st := []) (as := [(0, x3)]) dX6_firstPassedOver_37 lX6_98 kX6_youngest iX6_youngest eX6_youngest rfl sh157 (by decide +kernel) (Nat.le_of_ble_eq_true rfl) (Nat.le_of_ble_eq_true rfl) rfl ?_
        exact h
set_option maxRecDepth 20000 in
set_option maxHeartbeats 4000000 in
theorem bX6_firstPassedOver_9 {G : zG} {d : Nat} {M : zM} {Q : zV → zM → Prop} (hG : zP G) {x2 x49 : Int}
    (h : Y G (d + 1) mX6_firstPassedOver 16 [(2, 157), (2, 19), (0, x2), (0, x49), (0, (-1)), (0, 0), (9, 0), (9, 0)] [] M Q) :
    Y G (d + 1) mX6_firstPassedOver 9 [(2, 157), (2, 19), (0, x2), (9, 0), (9, 0), (9, 0), (9, 0), (9, 0)] [(0, x49)] M Q := by
  refine y_istoren (ls' := [(2, 157), (2, 19), (0, x2), (0, x49), (9, 0), (9, 0), (9, 0), (9, 0)]) dX6_firstPassedOver_9 rfl rfl ?_
  refine z_iconst dX6_firstPassedOver_10 ki_m1 ?_
  refine y_istore (ls' := [(2, 157), (2, 19), (0, x2), (0, x49), (0, (-1)), (9, 0), (9, 0), (9, 0)]) dX6_firstPassedOver_11 rfl rfl ?_
  refine z_iconst dX6_firstPassedOver_13 ki_0 ?_
  refine y_istore (ls' := [(2, 157), (2, 19), (0, x2), (0, x49), (0, (-1)), (0, 0), (9, 0), (9, 0)]) dX6_firstPassedOver_14 rfl rfl ?_
  exact h
set_option maxRecDepth 20000 in
set_option maxHeartbeats 4000000 in
theorem bX6_firstPassedOver_40 {G : zG} {d : Nat} {M : zM} {Q : zV → zM → Prop} (hG : zP G) {x2 x3 x4 x5 x49 : Int}
    (h : ((¬ x49 = (-1) → Y G d mX6_lowestNow 0 [(2, 157), (0, x49), (2, 19), (9, 0)] [] M (fun r M' => Y G (d + 1) mX6_firstPassedOver 67 [(2, 157), (2, 19), (0, x2), (0, (zand x3 (zxor (zshl 1 x49) (-1)))), (0, x4), (0, x5), (0, x49), (9, 0)] (zpush r []) M' Q)) ∧ (x49 = (-1) → Q (0, x4) (zset M 157 9 x2)))) :
    Y G (d + 1) mX6_firstPassedOver 40 [(2, 157), (2, 19), (0, x2), (0, x3), (0, x4), (0, x5), (9, 0), (9, 0)] [(0, x49)] M Q := by
  refine y_istore (ls' := [(2, 157), (2, 19), (0, x2), (0, x3), (0, x4), (0, x5), (0, x49), (9, 0)]) dX6_firstPassedOver_40 rfl rfl ?_
  refine z_iload dX6_firstPassedOver_42 rfl ?_
  refine z_iconst dX6_firstPassedOver_44 ki_m1 ?_
  refine z_icmpne (tgt := 51) dX6_firstPassedOver_45 rfl (fun q => ?_) (fun q => ?_)
  · replace h := h.1 q
    refine z_iloadn dX6_firstPassedOver_51 rfl ?_
    refine z_iconst dX6_firstPassedOver_52 ki_1 ?_
    refine z_iload dX6_firstPassedOver_53 rfl ?_
    refine z_ishl dX6_firstPassedOver_55 ?_
    refine z_iconst dX6_firstPassedOver_56 ki_m1 ?_
    refine z_ixor dX6_firstPassedOver_57 ?_
    refine z_iand dX6_firstPassedOver_58 ?_
    refine y_istoren (ls' := [(2, 157), (2, 19), (0, x2), (0, (zand x3 (zxor (zshl 1 x49) (-1)))), (0, x4), (0, x5), (0, x49), (9, 0)]) dX6_firstPassedOver_59 rfl rfl ?_
    refine z_aloadn dX6_firstPassedOver_60 rfl (Or.inl rfl) ?_
    refine z_iload dX6_firstPassedOver_61 rfl ?_
    refine z_aloadn dX6_firstPassedOver_63 rfl (Or.inl rfl) ?_
    refine y_cv (mt2 := mX6_lowestNow) (en := [(2, 157), (0, x49), (2, 19), (9, 0)]) (st := []) (as := [(0, x49), (2, 19)]) dX6_firstPassedOver_64 lX6_104 kX6_lowestNow iX6_lowestNow eX6_lowestNow rfl sh157 (by decide +kernel) (Nat.le_of_ble_eq_true rfl) (Nat.le_of_ble_eq_true rfl) rfl ?_
    exact h
  · replace h := h.2 q
    refine z_goto (tgt := 96) dX6_firstPassedOver_48 rfl ?_
    refine z_aloadn dX6_firstPassedOver_96 rfl (Or.inl rfl) ?_
    refine z_iloadn dX6_firstPassedOver_97 rfl ?_
    refine y_putf (M' := zset M 157 9 x2) hG dX6_firstPassedOver_98 fX6_48 sh157 (by decide) ⟨rfl, rfl⟩ p6_9 (fun q => absurd q (by decide)) (by decide) rfl ?_
    refine z_iload dX6_firstPassedOver_101 rfl ?_
    exact z_ireturn dX6_firstPassedOver_103 (Or.inl rfl) rfl h
set_option maxRecDepth 20000 in
set_option maxHeartbeats 4000000 in
theorem bX6_firstPassedOver_67 {G : zG} {d : Nat} {M : zM} {Q : zV → zM → Prop} (hG : zP G) {x2 x3 x4 x5 x6 x49 : Int}
    (h : ((¬ x49 = (-1) → Y G d mX6_addStep 0 [(2, 157), (0, x6), (0, x49)] [] M (fun r M' => Y G (d + 1) mX6_firstPassedOver 90 [(2, 157), (2, 19), (0, x2), (0, x3), (0, x4), (0, x5), (0, x6), (0, x49)] (zpush r []) M' Q)) ∧ (x49 = (-1) → (-2147483648 ≤ x5 + 1 ∧ x5 + 1 ≤ 2147483647) ∧ Y G (d + 1) mX6_firstPassedOver 16 [(2, 157), (2, 19), (0, x2), (0, x3), (0, x6), (0, (x5 + 1)), (9, 0), (9, 0)] [] M Q))) :
    Y G (d + 1) mX6_firstPassedOver 67 [(2, 157), (2, 19), (0, x2), (0, x3), (0, x4), (0, x5), (0, x6), (9, 0)] [(0, x49)] M Q := by
  refine y_istore (ls' := [(2, 157), (2, 19), (0, x2), (0, x3), (0, x4), (0, x5), (0, x6), (0, x49)]) dX6_firstPassedOver_67 rfl rfl ?_
  refine z_iload dX6_firstPassedOver_69 rfl ?_
  refine z_iconst dX6_firstPassedOver_71 ki_m1 ?_
  refine z_icmpne (tgt := 82) dX6_firstPassedOver_72 rfl (fun q => ?_) (fun q => ?_)
  · replace h := h.1 q
    refine z_aloadn dX6_firstPassedOver_82 rfl (Or.inl rfl) ?_
    refine z_iload dX6_firstPassedOver_83 rfl ?_
    refine z_iload dX6_firstPassedOver_85 rfl ?_
    refine y_cv (mt2 := mX6_addStep) (en := [(2, 157), (0, x6), (0, x49)]) (st := []) (as := [(0, x6), (0, x49)]) dX6_firstPassedOver_87 lX6_107 kX6_addStep iX6_addStep eX6_addStep rfl sh157 (by decide +kernel) (Nat.le_of_ble_eq_true rfl) (Nat.le_of_ble_eq_true rfl) rfl ?_
    exact h
  · replace h := h.2 q
    refine z_iload dX6_firstPassedOver_75 rfl ?_
    refine y_istore (ls' := [(2, 157), (2, 19), (0, x2), (0, x3), (0, x6), (0, x5), (0, x6), (0, x49)]) dX6_firstPassedOver_77 rfl rfl ?_
    refine z_goto (tgt := 90) dX6_firstPassedOver_79 rfl ?_
    obtain ⟨q1, h⟩ := h
    refine y_iinc (ls' := [(2, 157), (2, 19), (0, x2), (0, x3), (0, x6), (0, (x5 + 1)), (0, x6), (0, x49)]) dX6_firstPassedOver_90 rfl rfl q1 rfl ?_
    refine z_goto (tgt := 16) dX6_firstPassedOver_93 rfl ?_
    refine z_sub (ls' := [(2, 157), (2, 19), (0, x2), (0, x3), (0, x6), (0, (x5 + 1)), (9, 0), (9, 0)]) ⟨Or.inl rfl, Or.inl rfl, Or.inl rfl, Or.inl rfl, Or.inl rfl, Or.inl rfl, Or.inr rfl, Or.inr rfl, trivial⟩ ?_
    exact h
set_option maxRecDepth 20000 in
set_option maxHeartbeats 4000000 in
theorem bX6_firstPassedOver_90 {G : zG} {d : Nat} {M : zM} {Q : zV → zM → Prop} (hG : zP G) {x2 x3 x4 x5 x6 x7 : Int}
    (h : (-2147483648 ≤ x5 + 1 ∧ x5 + 1 ≤ 2147483647) ∧ Y G (d + 1) mX6_firstPassedOver 16 [(2, 157), (2, 19), (0, x2), (0, x3), (0, x4), (0, (x5 + 1)), (9, 0), (9, 0)] [] M Q) :
    Y G (d + 1) mX6_firstPassedOver 90 [(2, 157), (2, 19), (0, x2), (0, x3), (0, x4), (0, x5), (0, x6), (0, x7)] [] M Q := by
  obtain ⟨q1, h⟩ := h
  refine y_iinc (ls' := [(2, 157), (2, 19), (0, x2), (0, x3), (0, x4), (0, (x5 + 1)), (0, x6), (0, x7)]) dX6_firstPassedOver_90 rfl rfl q1 rfl ?_
  refine z_goto (tgt := 16) dX6_firstPassedOver_93 rfl ?_
  refine z_sub (ls' := [(2, 157), (2, 19), (0, x2), (0, x3), (0, x4), (0, (x5 + 1)), (9, 0), (9, 0)]) ⟨Or.inl rfl, Or.inl rfl, Or.inl rfl, Or.inl rfl, Or.inl rfl, Or.inl rfl, Or.inr rfl, Or.inr rfl, trivial⟩ ?_
  exact h
set_option maxRecDepth 20000 in
set_option maxHeartbeats 4000000 in
theorem bX6_save_0 {G : zG} {d : Nat} {M : zM} {Q : zV → zM → Prop} (hG : zP G)
    (h : Y G d mX5_put 0 [(2, 184), (0, (M 157 5))] [] M (fun r M' => Y G (d + 1) mX6_save 8 [(2, 157), (2, 184)] (zpush r []) M' Q)) :
    Y G (d + 1) mX6_save 0 [(2, 157), (2, 184)] [] M Q := by
  refine z_aloadn dX6_save_0 rfl (Or.inl rfl) ?_
  refine z_aloadn dX6_save_1 rfl (Or.inl rfl) ?_
  refine y_getf (x := (M 157 5)) dX6_save_2 fX6_33 sh157 (by decide) rfl rfl ?_
  refine y_cv (mt2 := mX5_put) (en := [(2, 184), (0, (M 157 5))]) (st := []) (as := [(0, (M 157 5))]) dX6_save_5 lX6_111 kX5_put iX5_put eX5_put rfl sh184 (by decide +kernel) (Nat.le_of_ble_eq_true rfl) (Nat.le_of_ble_eq_true rfl) rfl ?_
  exact h
set_option maxRecDepth 20000 in
set_option maxHeartbeats 4000000 in
theorem bX6_save_8 {G : zG} {d : Nat} {M : zM} {Q : zV → zM → Prop} (hG : zP G)
    (h : Y G d mX5_put 0 [(2, 184), (0, (M 157 6))] [] M (fun r M' => Y G (d + 1) mX6_save 16 [(2, 157), (2, 184)] (zpush r []) M' Q)) :
    Y G (d + 1) mX6_save 8 [(2, 157), (2, 184)] [] M Q := by
  refine z_aloadn dX6_save_8 rfl (Or.inl rfl) ?_
  refine z_aloadn dX6_save_9 rfl (Or.inl rfl) ?_
  refine y_getf (x := (M 157 6)) dX6_save_10 fX6_66 sh157 (by decide) rfl rfl ?_
  refine y_cv (mt2 := mX5_put) (en := [(2, 184), (0, (M 157 6))]) (st := []) (as := [(0, (M 157 6))]) dX6_save_13 lX6_111 kX5_put iX5_put eX5_put rfl sh184 (by decide +kernel) (Nat.le_of_ble_eq_true rfl) (Nat.le_of_ble_eq_true rfl) rfl ?_
  exact h
set_option maxRecDepth 20000 in
set_option maxHeartbeats 4000000 in
theorem bX6_save_16 {G : zG} {d : Nat} {M : zM} {Q : zV → zM → Prop} (hG : zP G)
    (h : Y G d mX5_put 0 [(2, 184), (0, (M 157 9))] [] M (fun r M' => Y G (d + 1) mX6_save 24 [(2, 157), (2, 184)] (zpush r []) M' Q)) :
    Y G (d + 1) mX6_save 16 [(2, 157), (2, 184)] [] M Q := by
  refine z_aloadn dX6_save_16 rfl (Or.inl rfl) ?_
  refine z_aloadn dX6_save_17 rfl (Or.inl rfl) ?_
  refine y_getf (x := (M 157 9)) dX6_save_18 fX6_48 sh157 (by decide) rfl rfl ?_
  refine y_cv (mt2 := mX5_put) (en := [(2, 184), (0, (M 157 9))]) (st := []) (as := [(0, (M 157 9))]) dX6_save_21 lX6_111 kX5_put iX5_put eX5_put rfl sh184 (by decide +kernel) (Nat.le_of_ble_eq_true rfl) (Nat.le_of_ble_eq_true rfl) rfl ?_
  exact h
set_option maxRecDepth 20000 in
set_option maxHeartbeats 4000000 in
theorem bX6_save_24 {G : zG} {d : Nat} {M : zM} {Q : zV → zM → Prop} (hG : zP G)
    (h : Y G d mX5_putAll 0 [(2, 184), (2, 163), (9, 0)] [] M (fun r M' => Y G (d + 1) mX6_save 32 [(2, 157), (2, 184)] (zpush r []) M' Q)) :
    Y G (d + 1) mX6_save 24 [(2, 157), (2, 184)] [] M Q := by
  refine z_aloadn dX6_save_24 rfl (Or.inl rfl) ?_
  refine z_aloadn dX6_save_25 rfl (Or.inl rfl) ?_
  refine y_getr (v := 163) hG dX6_save_26 fX6_27 sh157 (by decide) rfl (by decide +kernel) (by decide) ?_
  refine y_cv (mt2 := mX5_putAll) (en := [(2, 184), (2, 163), (9, 0)]) (st := []) (as := [(2, 163)]) dX6_save_29 lX6_117 kX5_putAll iX5_putAll eX5_putAll rfl sh184 (by decide +kernel) (Nat.le_of_ble_eq_true rfl) (Nat.le_of_ble_eq_true rfl) rfl ?_
  exact h
set_option maxRecDepth 20000 in
set_option maxHeartbeats 4000000 in
theorem bX6_save_32 {G : zG} {d : Nat} {M : zM} {Q : zV → zM → Prop} (hG : zP G)
    (h : Y G d mX5_putAll 0 [(2, 184), (2, 164), (9, 0)] [] M (fun r M' => Y G (d + 1) mX6_save 40 [(2, 157), (2, 184)] (zpush r []) M' Q)) :
    Y G (d + 1) mX6_save 32 [(2, 157), (2, 184)] [] M Q := by
  refine z_aloadn dX6_save_32 rfl (Or.inl rfl) ?_
  refine z_aloadn dX6_save_33 rfl (Or.inl rfl) ?_
  refine y_getr (v := 164) hG dX6_save_34 fX6_30 sh157 (by decide) rfl (by decide +kernel) (by decide) ?_
  refine y_cv (mt2 := mX5_putAll) (en := [(2, 184), (2, 164), (9, 0)]) (st := []) (as := [(2, 164)]) dX6_save_37 lX6_117 kX5_putAll iX5_putAll eX5_putAll rfl sh184 (by decide +kernel) (Nat.le_of_ble_eq_true rfl) (Nat.le_of_ble_eq_true rfl) rfl ?_
  exact h
set_option maxRecDepth 20000 in
set_option maxHeartbeats 4000000 in
theorem bX6_save_40 {G : zG} {d : Nat} {M : zM} {Q : zV → zM → Prop} (hG : zP G)
    (h : Q (9, 0) M) :
    Y G (d + 1) mX6_save 40 [(2, 157), (2, 184)] [] M Q := by
  exact z_return dX6_save_40 rfl rfl h
set_option maxRecDepth 20000 in
set_option maxHeartbeats 4000000 in
theorem bX6_restore_0 {G : zG} {d : Nat} {M : zM} {Q : zV → zM → Prop} (hG : zP G)
    (h : Y G d mX5_take 0 [(2, 184)] [] M (fun r M' => Y G (d + 1) mX6_restore 6 [(2, 157), (2, 184)] (zpush r [(0, 0), (2, 157)]) M' Q)) :
    Y G (d + 1) mX6_restore 0 [(2, 157), (2, 184)] [] M Q := by
  refine z_aloadn dX6_restore_0 rfl (Or.inl rfl) ?_
  refine z_iconst dX6_restore_1 ki_0 ?_
  refine z_aloadn dX6_restore_2 rfl (Or.inl rfl) ?_
  refine y_cv (mt2 := mX5_take) (en := [(2, 184)]) (st := [(0, 0), (2, 157)]) (as := []) dX6_restore_3 lX6_121 kX5_take iX5_take eX5_take rfl sh184 (by decide +kernel) (Nat.le_of_ble_eq_true rfl) (Nat.le_of_ble_eq_true rfl) rfl ?_
  exact h
set_option maxRecDepth 20000 in
set_option maxHeartbeats 4000000 in
theorem bX6_restore_6 {G : zG} {d : Nat} {M : zM} {Q : zV → zM → Prop} (hG : zP G) {x49 : Int}
    (h : Y G d mX5_take 0 [(2, 184)] [] (zset M 157 5 (max 0 (min x49 6))) (fun r M' => Y G (d + 1) mX6_restore 22 [(2, 157), (2, 184)] (zpush r [(2, 157)]) M' Q)) :
    Y G (d + 1) mX6_restore 6 [(2, 157), (2, 184)] [(0, x49), (0, 0), (2, 157)] M Q := by
  refine z_bipush dX6_restore_6 kb_6 ?_
  refine z_min dX6_restore_8 mwX6_124 (Nat.le_of_ble_eq_true rfl) ?_
  refine z_max dX6_restore_11 mwX6_85 (Nat.le_of_ble_eq_true rfl) ?_
  refine y_putf (M' := zset M 157 5 (max 0 (min x49 6))) hG dX6_restore_14 fX6_33 sh157 (by decide) ⟨rfl, rfl⟩ p6_5 (fun q => absurd q (by decide)) (by decide) rfl ?_
  refine z_aloadn dX6_restore_17 rfl (Or.inl rfl) ?_
  refine z_aloadn dX6_restore_18 rfl (Or.inl rfl) ?_
  refine y_cv (mt2 := mX5_take) (en := [(2, 184)]) (st := [(2, 157)]) (as := []) dX6_restore_19 lX6_121 kX5_take iX5_take eX5_take rfl sh184 (by decide +kernel) (Nat.le_of_ble_eq_true rfl) (Nat.le_of_ble_eq_true rfl) rfl ?_
  exact h
set_option maxRecDepth 20000 in
set_option maxHeartbeats 4000000 in
theorem bX6_restore_22 {G : zG} {d : Nat} {M : zM} {Q : zV → zM → Prop} (hG : zP G) {x49 : Int}
    (h : Y G d mX5_take 0 [(2, 184)] [] (zset M 157 6 x49) (fun r M' => Y G (d + 1) mX6_restore 31 [(2, 157), (2, 184)] (zpush r [(0, 0), (2, 157)]) M' Q)) :
    Y G (d + 1) mX6_restore 22 [(2, 157), (2, 184)] [(0, x49), (2, 157)] M Q := by
  refine y_putf (M' := zset M 157 6 x49) hG dX6_restore_22 fX6_66 sh157 (by decide) ⟨rfl, rfl⟩ p6_6 (fun q => absurd q (by decide)) (by decide) rfl ?_
  refine z_aloadn dX6_restore_25 rfl (Or.inl rfl) ?_
  refine z_iconst dX6_restore_26 ki_0 ?_
  refine z_aloadn dX6_restore_27 rfl (Or.inl rfl) ?_
  refine y_cv (mt2 := mX5_take) (en := [(2, 184)]) (st := [(0, 0), (2, 157)]) (as := []) dX6_restore_28 lX6_121 kX5_take iX5_take eX5_take rfl sh184 (by decide +kernel) (Nat.le_of_ble_eq_true rfl) (Nat.le_of_ble_eq_true rfl) rfl ?_
  exact h
set_option maxRecDepth 20000 in
set_option maxHeartbeats 4000000 in
theorem bX6_restore_31 {G : zG} {d : Nat} {M : zM} {Q : zV → zM → Prop} (hG : zP G) {x49 : Int}
    (h : Y G d mX5_takeAll 0 [(2, 184), (2, 163), (9, 0)] [] (zset M 157 9 (max 0 (min x49 6))) (fun r M' => Y G (d + 1) mX6_restore 50 [(2, 157), (2, 184)] (zpush r []) M' Q)) :
    Y G (d + 1) mX6_restore 31 [(2, 157), (2, 184)] [(0, x49), (0, 0), (2, 157)] M Q := by
  refine z_bipush dX6_restore_31 kb_6 ?_
  refine z_min dX6_restore_33 mwX6_124 (Nat.le_of_ble_eq_true rfl) ?_
  refine z_max dX6_restore_36 mwX6_85 (Nat.le_of_ble_eq_true rfl) ?_
  refine y_putf (M' := zset M 157 9 (max 0 (min x49 6))) hG dX6_restore_39 fX6_48 sh157 (by decide) ⟨rfl, rfl⟩ p6_9 (fun q => absurd q (by decide)) (by decide) rfl ?_
  refine z_aloadn dX6_restore_42 rfl (Or.inl rfl) ?_
  refine z_aloadn dX6_restore_43 rfl (Or.inl rfl) ?_
  refine y_getr (v := 163) hG dX6_restore_44 fX6_27 sh157 (by decide) rfl (by decide +kernel) (by decide) ?_
  refine y_cv (mt2 := mX5_takeAll) (en := [(2, 184), (2, 163), (9, 0)]) (st := []) (as := [(2, 163)]) dX6_restore_47 lX6_127 kX5_takeAll iX5_takeAll eX5_takeAll rfl sh184 (by decide +kernel) (Nat.le_of_ble_eq_true rfl) (Nat.le_of_ble_eq_true rfl) rfl ?_
  exact h
set_option maxRecDepth 20000 in
set_option maxHeartbeats 4000000 in
theorem bX6_restore_50 {G : zG} {d : Nat} {M : zM} {Q : zV → zM → Prop} (hG : zP G)
    (h : Y G d mX5_takeAll 0 [(2, 184), (2, 164), (9, 0)] [] M (fun r M' => Y G (d + 1) mX6_restore 58 [(2, 157), (2, 184)] (zpush r []) M' Q)) :
    Y G (d + 1) mX6_restore 50 [(2, 157), (2, 184)] [] M Q := by
  refine z_aloadn dX6_restore_50 rfl (Or.inl rfl) ?_
  refine z_aloadn dX6_restore_51 rfl (Or.inl rfl) ?_
  refine y_getr (v := 164) hG dX6_restore_52 fX6_30 sh157 (by decide) rfl (by decide +kernel) (by decide) ?_
  refine y_cv (mt2 := mX5_takeAll) (en := [(2, 184), (2, 164), (9, 0)]) (st := []) (as := [(2, 164)]) dX6_restore_55 lX6_127 kX5_takeAll iX5_takeAll eX5_takeAll rfl sh184 (by decide +kernel) (Nat.le_of_ble_eq_true rfl) (Nat.le_of_ble_eq_true rfl) rfl ?_
  exact h
set_option maxRecDepth 20000 in
set_option maxHeartbeats 4000000 in
theorem bX6_restore_58 {G : zG} {d : Nat} {M : zM} {Q : zV → zM → Prop} (hG : zP G)
    (h : Q (9, 0) M) :
    Y G (d + 1) mX6_restore 58 [(2, 157), (2, 184)] [] M Q := by
  exact z_return dX6_restore_58 rfl rfl h
set_option maxRecDepth 20000 in
set_option maxHeartbeats 4000000 in
theorem bX6_addPupil_0 {G : zG} {d : Nat} {M : zM} {Q : zV → zM → Prop} (hG : zP G) {x1 x2 x3 x4 x5 : Int}
    (h : (((M 157 5) < 6 → (0 ≤ (M 157 5) ∧ (M 157 5) < 6) ∧ (0 ≤ (M 157 5) ∧ (M 157 5) < 6) ∧ (0 ≤ (M 157 5) ∧ (M 157 5) < 6) ∧ (0 ≤ (M 157 5) ∧ (M 157 5) < 6) ∧ (0 ≤ (M 157 5) ∧ (M 157 5) < 6) ∧ (-2147483648 ≤ (M 157 5) + 1 ∧ (M 157 5) + 1 ≤ 2147483647) ∧ (-2147483648 ≤ ((M 157 5) + 1) - 1 ∧ ((M 157 5) + 1) - 1 ≤ 2147483647) ∧ Q (0, (((M 157 5) + 1) - 1)) (zset (zset (zset (zset (zset (zset M 158 (M 157 5) x1) 159 (M 157 5) x2) 160 (M 157 5) x3) 161 (M 157 5) x4) 162 (M 157 5) x5) 157 5 ((M 157 5) + 1))) ∧ (6 ≤ (M 157 5) → Q (0, (-1)) M))) :
    Y G d mX6_addPupil 0 [(2, 157), (0, x1), (0, x2), (0, x3), (0, x4), (0, x5)] [] M Q := by
  refine z_aloadn dX6_addPupil_0 rfl (Or.inl rfl) ?_
  refine y_getf (x := (M 157 5)) dX6_addPupil_1 fX6_33 sh157 (by decide) rfl rfl ?_
  refine z_bipush dX6_addPupil_4 kb_6 ?_
  refine z_icmplt (tgt := 11) dX6_addPupil_6 rfl (fun q => ?_) (fun q => ?_)
  · replace h := h.1 q
    refine z_aloadn dX6_addPupil_11 rfl (Or.inl rfl) ?_
    refine y_getr (v := 158) hG dX6_addPupil_12 fX6_9 sh157 (by decide) rfl (by decide +kernel) (by decide) ?_
    refine z_aloadn dX6_addPupil_15 rfl (Or.inl rfl) ?_
    refine y_getf (x := (M 157 5)) dX6_addPupil_16 fX6_33 sh157 (by decide) rfl rfl ?_
    refine z_iloadn dX6_addPupil_19 rfl ?_
    obtain ⟨q1, h⟩ := h
    refine y_iast hG dX6_addPupil_20 sh158 q1 ?_
    refine z_aloadn dX6_addPupil_21 rfl (Or.inl rfl) ?_
    refine y_getr (v := 159) hG dX6_addPupil_22 fX6_15 sh157 (by decide) rfl (by decide +kernel) (by decide) ?_
    refine z_aloadn dX6_addPupil_25 rfl (Or.inl rfl) ?_
    refine y_getf (x := (M 157 5)) dX6_addPupil_26 fX6_33 sh157 (by decide) rfl (zset_ne (fun q => absurd q.1 (by decide))) ?_
    refine z_iloadn dX6_addPupil_29 rfl ?_
    obtain ⟨q2, h⟩ := h
    refine y_iast hG dX6_addPupil_30 sh159 q2 ?_
    refine z_aloadn dX6_addPupil_31 rfl (Or.inl rfl) ?_
    refine y_getr (v := 160) hG dX6_addPupil_32 fX6_18 sh157 (by decide) rfl (by decide +kernel) (by decide) ?_
    refine z_aloadn dX6_addPupil_35 rfl (Or.inl rfl) ?_
    refine y_getf (x := (M 157 5)) dX6_addPupil_36 fX6_33 sh157 (by decide) rfl (((zset_ne (fun q => absurd q.1 (by decide))).trans (zset_ne (fun q => absurd q.1 (by decide))))) ?_
    refine z_iloadn dX6_addPupil_39 rfl ?_
    obtain ⟨q3, h⟩ := h
    refine y_iast hG dX6_addPupil_40 sh160 q3 ?_
    refine z_aloadn dX6_addPupil_41 rfl (Or.inl rfl) ?_
    refine y_getr (v := 161) hG dX6_addPupil_42 fX6_21 sh157 (by decide) rfl (by decide +kernel) (by decide) ?_
    refine z_aloadn dX6_addPupil_45 rfl (Or.inl rfl) ?_
    refine y_getf (x := (M 157 5)) dX6_addPupil_46 fX6_33 sh157 (by decide) rfl (((zset_ne (fun q => absurd q.1 (by decide))).trans (((zset_ne (fun q => absurd q.1 (by decide))).trans (zset_ne (fun q => absurd q.1 (by decide))))))) ?_
    refine z_iload dX6_addPupil_49 rfl ?_
    obtain ⟨q4, h⟩ := h
    refine y_iast hG dX6_addPupil_51 sh161 q4 ?_
    refine z_aloadn dX6_addPupil_52 rfl (Or.inl rfl) ?_
    refine y_getr (v := 162) hG dX6_addPupil_53 fX6_24 sh157 (by decide) rfl (by decide +kernel) (by decide) ?_
    refine z_aloadn dX6_addPupil_56 rfl (Or.inl rfl) ?_
    refine y_getf (x := (M 157 5)) dX6_addPupil_57 fX6_33 sh157 (by decide) rfl (((zset_ne (fun q => absurd q.1 (by decide))).trans (((zset_ne (fun q => absurd q.1 (by decide))).trans (((zset_ne (fun q => absurd q.1 (by decide))).trans (zset_ne (fun q => absurd q.1 (by decide))))))))) ?_
    refine z_iload dX6_addPupil_60 rfl ?_
    obtain ⟨q5, h⟩ := h
    refine y_iast hG dX6_addPupil_62 sh162 q5 ?_
    refine z_aloadn dX6_addPupil_63 rfl (Or.inl rfl) ?_
    refine z_dup dX6_addPupil_64 (show (2 : Nat) ≠ 1 by decide) ?_
    refine y_getf (x := (M 157 5)) dX6_addPupil_65 fX6_33 sh157 (by decide) rfl (((zset_ne (fun q => absurd q.1 (by decide))).trans (((zset_ne (fun q => absurd q.1 (by decide))).trans (((zset_ne (fun q => absurd q.1 (by decide))).trans (((zset_ne (fun q => absurd q.1 (by decide))).trans (zset_ne (fun q => absurd q.1 (by decide))))))))))) ?_
    refine z_iconst dX6_addPupil_68 ki_1 ?_
    obtain ⟨q6, h⟩ := h
    refine z_iadd dX6_addPupil_69 q6 ?_
    refine y_putf (M' := zset (zset (zset (zset (zset (zset M 158 (M 157 5) x1) 159 (M 157 5) x2) 160 (M 157 5) x3) 161 (M 157 5) x4) 162 (M 157 5) x5) 157 5 ((M 157 5) + 1)) hG dX6_addPupil_70 fX6_33 sh157 (by decide) ⟨rfl, rfl⟩ p6_5 (fun q => absurd q (by decide)) (by decide) rfl ?_
    refine z_aloadn dX6_addPupil_73 rfl (Or.inl rfl) ?_
    refine y_getf (x := ((M 157 5) + 1)) dX6_addPupil_74 fX6_33 sh157 (by decide) rfl zset_same ?_
    refine z_iconst dX6_addPupil_77 ki_1 ?_
    obtain ⟨q7, h⟩ := h
    refine z_isub dX6_addPupil_78 q7 ?_
    exact z_ireturn dX6_addPupil_79 (Or.inl rfl) rfl h
  · replace h := h.2 q
    refine z_iconst dX6_addPupil_9 ki_m1 ?_
    exact z_ireturn dX6_addPupil_10 (Or.inl rfl) rfl h
set_option maxRecDepth 20000 in
set_option maxHeartbeats 4000000 in
theorem bX6_lacking_0 {G : zG} {d : Nat} {M : zM} {Q : zV → zM → Prop} (hG : zP G) {x1 x2 : Int}
    (h : (0 ≤ x2 ∧ x2 < 12) ∧ (0 ≤ x1 ∧ x1 < 6) ∧ (0 ≤ x2 ∧ x2 < 12) ∧ (0 ≤ x1 ∧ x1 < 6) ∧ (((M 26 x2) ≤ (M 160 x1) → (0 ≤ x2 ∧ x2 < 12) ∧ (0 ≤ x1 ∧ x1 < 6) ∧ (((M 24 x2) ≤ (M 161 x1) → (0 ≤ x2 ∧ x2 < 12) ∧ (0 ≤ x1 ∧ x1 < 6) ∧ (((M 23 x2) ≤ (M 162 x1) → Q (0, (zand (M 25 x2) (zxor (M 159 x1) (-1)))) M) ∧ ((M 162 x1) < (M 23 x2) → Q (0, (zor (zand (M 25 x2) (zxor (M 159 x1) (-1))) 131072)) M))) ∧ ((M 161 x1) < (M 24 x2) → (0 ≤ x2 ∧ x2 < 12) ∧ (0 ≤ x1 ∧ x1 < 6) ∧ (((M 23 x2) ≤ (M 162 x1) → Q (0, (zor (zand (M 25 x2) (zxor (M 159 x1) (-1))) 65536)) M) ∧ ((M 162 x1) < (M 23 x2) → Q (0, (zor (zor (zand (M 25 x2) (zxor (M 159 x1) (-1))) 65536) 131072)) M))))) ∧ ((M 160 x1) < (M 26 x2) → (0 ≤ x2 ∧ x2 < 12) ∧ (0 ≤ x1 ∧ x1 < 6) ∧ (((M 24 x2) ≤ (M 161 x1) → (0 ≤ x2 ∧ x2 < 12) ∧ (0 ≤ x1 ∧ x1 < 6) ∧ (((M 23 x2) ≤ (M 162 x1) → Q (0, (zor (zand (M 25 x2) (zxor (M 159 x1) (-1))) 32768)) M) ∧ ((M 162 x1) < (M 23 x2) → Q (0, (zor (zor (zand (M 25 x2) (zxor (M 159 x1) (-1))) 32768) 131072)) M))) ∧ ((M 161 x1) < (M 24 x2) → (0 ≤ x2 ∧ x2 < 12) ∧ (0 ≤ x1 ∧ x1 < 6) ∧ (((M 23 x2) ≤ (M 162 x1) → Q (0, (zor (zor (zand (M 25 x2) (zxor (M 159 x1) (-1))) 32768) 65536)) M) ∧ ((M 162 x1) < (M 23 x2) → Q (0, (zor (zor (zor (zand (M 25 x2) (zxor (M 159 x1) (-1))) 32768) 65536) 131072)) M))))))) :
    Y G d mX6_lacking 0 [(2, 157), (0, x1), (0, x2), (2, 19), (9, 0)] [] M Q := by
  refine z_aloadn dX6_lacking_0 rfl (Or.inl rfl) ?_
  refine y_getr (v := 25) hG dX6_lacking_1 fX6_37 sh19 (by decide) rfl (by decide +kernel) (by decide) ?_
  refine z_iloadn dX6_lacking_4 rfl ?_
  obtain ⟨q1, h⟩ := h
  refine y_iald (x := (M 25 x2)) dX6_lacking_5 sh25 q1 rfl ?_
  refine z_aloadn dX6_lacking_6 rfl (Or.inl rfl) ?_
  refine y_getr (v := 159) hG dX6_lacking_7 fX6_15 sh157 (by decide) rfl (by decide +kernel) (by decide) ?_
  refine z_iloadn dX6_lacking_10 rfl ?_
  obtain ⟨q2, h⟩ := h
  refine y_iald (x := (M 159 x1)) dX6_lacking_11 sh159 q2 rfl ?_
  refine z_iconst dX6_lacking_12 ki_m1 ?_
  refine z_ixor dX6_lacking_13 ?_
  refine z_iand dX6_lacking_14 ?_
  refine y_istore (ls' := [(2, 157), (0, x1), (0, x2), (2, 19), (0, (zand (M 25 x2) (zxor (M 159 x1) (-1))))]) dX6_lacking_15 rfl rfl ?_
  refine z_aloadn dX6_lacking_17 rfl (Or.inl rfl) ?_
  refine y_getr (v := 26) hG dX6_lacking_18 fX6_40 sh19 (by decide) rfl (by decide +kernel) (by decide) ?_
  refine z_iloadn dX6_lacking_21 rfl ?_
  obtain ⟨q3, h⟩ := h
  refine y_iald (x := (M 26 x2)) dX6_lacking_22 sh26 q3 rfl ?_
  refine z_aloadn dX6_lacking_23 rfl (Or.inl rfl) ?_
  refine y_getr (v := 160) hG dX6_lacking_24 fX6_18 sh157 (by decide) rfl (by decide +kernel) (by decide) ?_
  refine z_iloadn dX6_lacking_27 rfl ?_
  obtain ⟨q4, h⟩ := h
  refine y_iald (x := (M 160 x1)) dX6_lacking_28 sh160 q4 rfl ?_
  refine z_icmple (tgt := 39) dX6_lacking_29 rfl (fun q => ?_) (fun q => ?_)
  · replace h := h.1 q
    refine z_aloadn dX6_lacking_39 rfl (Or.inl rfl) ?_
    refine y_getr (v := 24) hG dX6_lacking_40 fX6_44 sh19 (by decide) rfl (by decide +kernel) (by decide) ?_
    refine z_iloadn dX6_lacking_43 rfl ?_
    obtain ⟨q5, h⟩ := h
    refine y_iald (x := (M 24 x2)) dX6_lacking_44 sh24 q5 rfl ?_
    refine z_aloadn dX6_lacking_45 rfl (Or.inl rfl) ?_
    refine y_getr (v := 161) hG dX6_lacking_46 fX6_21 sh157 (by decide) rfl (by decide +kernel) (by decide) ?_
    refine z_iloadn dX6_lacking_49 rfl ?_
    obtain ⟨q6, h⟩ := h
    refine y_iald (x := (M 161 x1)) dX6_lacking_50 sh161 q6 rfl ?_
    refine z_icmple (tgt := 61) dX6_lacking_51 rfl (fun q => ?_) (fun q => ?_)
    · replace h := h.1 q
      refine z_aloadn dX6_lacking_61 rfl (Or.inl rfl) ?_
      refine y_getr (v := 23) hG dX6_lacking_62 fX6_46 sh19 (by decide) rfl (by decide +kernel) (by decide) ?_
      refine z_iloadn dX6_lacking_65 rfl ?_
      obtain ⟨q7, h⟩ := h
      refine y_iald (x := (M 23 x2)) dX6_lacking_66 sh23 q7 rfl ?_
      refine z_aloadn dX6_lacking_67 rfl (Or.inl rfl) ?_
      refine y_getr (v := 162) hG dX6_lacking_68 fX6_24 sh157 (by decide) rfl (by decide +kernel) (by decide) ?_
      refine z_iloadn dX6_lacking_71 rfl ?_
      obtain ⟨q8, h⟩ := h
      refine y_iald (x := (M 162 x1)) dX6_lacking_72 sh162 q8 rfl ?_
      refine z_icmple (tgt := 83) dX6_lacking_73 rfl (fun q => ?_) (fun q => ?_)
      · replace h := h.1 q
        refine z_iload dX6_lacking_83 rfl ?_
        exact z_ireturn dX6_lacking_85 (Or.inl rfl) rfl h
      · replace h := h.2 q
        refine z_iload dX6_lacking_76 rfl ?_
        refine z_ldc (k := 131072) (v := 131072) dX6_lacking_78 ⟨by decide, ⟨by decide, by decide⟩⟩ qX6_47 ?_
        refine z_ior dX6_lacking_80 ?_
        refine y_istore (ls' := [(2, 157), (0, x1), (0, x2), (2, 19), (0, (zor (zand (M 25 x2) (zxor (M 159 x1) (-1))) 131072))]) dX6_lacking_81 rfl rfl ?_
        refine z_iload dX6_lacking_83 rfl ?_
        exact z_ireturn dX6_lacking_85 (Or.inl rfl) rfl h
    · replace h := h.2 q
      refine z_iload dX6_lacking_54 rfl ?_
      refine z_ldc (k := 65536) (v := 65536) dX6_lacking_56 ⟨by decide, ⟨by decide, by decide⟩⟩ qX6_45 ?_
      refine z_ior dX6_lacking_58 ?_
      refine y_istore (ls' := [(2, 157), (0, x1), (0, x2), (2, 19), (0, (zor (zand (M 25 x2) (zxor (M 159 x1) (-1))) 65536))]) dX6_lacking_59 rfl rfl ?_
      refine z_aloadn dX6_lacking_61 rfl (Or.inl rfl) ?_
      refine y_getr (v := 23) hG dX6_lacking_62 fX6_46 sh19 (by decide) rfl (by decide +kernel) (by decide) ?_
      refine z_iloadn dX6_lacking_65 rfl ?_
      obtain ⟨q9, h⟩ := h
      refine y_iald (x := (M 23 x2)) dX6_lacking_66 sh23 q9 rfl ?_
      refine z_aloadn dX6_lacking_67 rfl (Or.inl rfl) ?_
      refine y_getr (v := 162) hG dX6_lacking_68 fX6_24 sh157 (by decide) rfl (by decide +kernel) (by decide) ?_
      refine z_iloadn dX6_lacking_71 rfl ?_
      obtain ⟨q10, h⟩ := h
      refine y_iald (x := (M 162 x1)) dX6_lacking_72 sh162 q10 rfl ?_
      refine z_icmple (tgt := 83) dX6_lacking_73 rfl (fun q => ?_) (fun q => ?_)
      · replace h := h.1 q
        refine z_iload dX6_lacking_83 rfl ?_
        exact z_ireturn dX6_lacking_85 (Or.inl rfl) rfl h
      · replace h := h.2 q
        refine z_iload dX6_lacking_76 rfl ?_
        refine z_ldc (k := 131072) (v := 131072) dX6_lacking_78 ⟨by decide, ⟨by decide, by decide⟩⟩ qX6_47 ?_
        refine z_ior dX6_lacking_80 ?_
        refine y_istore (ls' := [(2, 157), (0, x1), (0, x2), (2, 19), (0, (zor (zor (zand (M 25 x2) (zxor (M 159 x1) (-1))) 65536) 131072))]) dX6_lacking_81 rfl rfl ?_
        refine z_iload dX6_lacking_83 rfl ?_
        exact z_ireturn dX6_lacking_85 (Or.inl rfl) rfl h
  · replace h := h.2 q
    refine z_iload dX6_lacking_32 rfl ?_
    refine z_ldc (k := 32768) (v := 32768) dX6_lacking_34 ⟨by decide, ⟨by decide, by decide⟩⟩ qX6_43 ?_
    refine z_ior dX6_lacking_36 ?_
    refine y_istore (ls' := [(2, 157), (0, x1), (0, x2), (2, 19), (0, (zor (zand (M 25 x2) (zxor (M 159 x1) (-1))) 32768))]) dX6_lacking_37 rfl rfl ?_
    refine z_aloadn dX6_lacking_39 rfl (Or.inl rfl) ?_
    refine y_getr (v := 24) hG dX6_lacking_40 fX6_44 sh19 (by decide) rfl (by decide +kernel) (by decide) ?_
    refine z_iloadn dX6_lacking_43 rfl ?_
    obtain ⟨q11, h⟩ := h
    refine y_iald (x := (M 24 x2)) dX6_lacking_44 sh24 q11 rfl ?_
    refine z_aloadn dX6_lacking_45 rfl (Or.inl rfl) ?_
    refine y_getr (v := 161) hG dX6_lacking_46 fX6_21 sh157 (by decide) rfl (by decide +kernel) (by decide) ?_
    refine z_iloadn dX6_lacking_49 rfl ?_
    obtain ⟨q12, h⟩ := h
    refine y_iald (x := (M 161 x1)) dX6_lacking_50 sh161 q12 rfl ?_
    refine z_icmple (tgt := 61) dX6_lacking_51 rfl (fun q => ?_) (fun q => ?_)
    · replace h := h.1 q
      refine z_aloadn dX6_lacking_61 rfl (Or.inl rfl) ?_
      refine y_getr (v := 23) hG dX6_lacking_62 fX6_46 sh19 (by decide) rfl (by decide +kernel) (by decide) ?_
      refine z_iloadn dX6_lacking_65 rfl ?_
      obtain ⟨q13, h⟩ := h
      refine y_iald (x := (M 23 x2)) dX6_lacking_66 sh23 q13 rfl ?_
      refine z_aloadn dX6_lacking_67 rfl (Or.inl rfl) ?_
      refine y_getr (v := 162) hG dX6_lacking_68 fX6_24 sh157 (by decide) rfl (by decide +kernel) (by decide) ?_
      refine z_iloadn dX6_lacking_71 rfl ?_
      obtain ⟨q14, h⟩ := h
      refine y_iald (x := (M 162 x1)) dX6_lacking_72 sh162 q14 rfl ?_
      refine z_icmple (tgt := 83) dX6_lacking_73 rfl (fun q => ?_) (fun q => ?_)
      · replace h := h.1 q
        refine z_iload dX6_lacking_83 rfl ?_
        exact z_ireturn dX6_lacking_85 (Or.inl rfl) rfl h
      · replace h := h.2 q
        refine z_iload dX6_lacking_76 rfl ?_
        refine z_ldc (k := 131072) (v := 131072) dX6_lacking_78 ⟨by decide, ⟨by decide, by decide⟩⟩ qX6_47 ?_
        refine z_ior dX6_lacking_80 ?_
        refine y_istore (ls' := [(2, 157), (0, x1), (0, x2), (2, 19), (0, (zor (zor (zand (M 25 x2) (zxor (M 159 x1) (-1))) 32768) 131072))]) dX6_lacking_81 rfl rfl ?_
        refine z_iload dX6_lacking_83 rfl ?_
        exact z_ireturn dX6_lacking_85 (Or.inl rfl) rfl h
    · replace h := h.2 q
      refine z_iload dX6_lacking_54 rfl ?_
      refine z_ldc (k := 65536) (v := 65536) dX6_lacking_56 ⟨by decide, ⟨by decide, by decide⟩⟩ qX6_45 ?_
      refine z_ior dX6_lacking_58 ?_
      refine y_istore (ls' := [(2, 157), (0, x1), (0, x2), (2, 19), (0, (zor (zor (zand (M 25 x2) (zxor (M 159 x1) (-1))) 32768) 65536))]) dX6_lacking_59 rfl rfl ?_
      refine z_aloadn dX6_lacking_61 rfl (Or.inl rfl) ?_
      refine y_getr (v := 23) hG dX6_lacking_62 fX6_46 sh19 (by decide) rfl (by decide +kernel) (by decide) ?_
      refine z_iloadn dX6_lacking_65 rfl ?_
      obtain ⟨q15, h⟩ := h
      refine y_iald (x := (M 23 x2)) dX6_lacking_66 sh23 q15 rfl ?_
      refine z_aloadn dX6_lacking_67 rfl (Or.inl rfl) ?_
      refine y_getr (v := 162) hG dX6_lacking_68 fX6_24 sh157 (by decide) rfl (by decide +kernel) (by decide) ?_
      refine z_iloadn dX6_lacking_71 rfl ?_
      obtain ⟨q16, h⟩ := h
      refine y_iald (x := (M 162 x1)) dX6_lacking_72 sh162 q16 rfl ?_
      refine z_icmple (tgt := 83) dX6_lacking_73 rfl (fun q => ?_) (fun q => ?_)
      · replace h := h.1 q
        refine z_iload dX6_lacking_83 rfl ?_
        exact z_ireturn dX6_lacking_85 (Or.inl rfl) rfl h
      · replace h := h.2 q
        refine z_iload dX6_lacking_76 rfl ?_
        refine z_ldc (k := 131072) (v := 131072) dX6_lacking_78 ⟨by decide, ⟨by decide, by decide⟩⟩ qX6_47 ?_
        refine z_ior dX6_lacking_80 ?_
        refine y_istore (ls' := [(2, 157), (0, x1), (0, x2), (2, 19), (0, (zor (zor (zor (zand (M 25 x2) (zxor (M 159 x1) (-1))) 32768) 65536) 131072))]) dX6_lacking_81 rfl rfl ?_
        refine z_iload dX6_lacking_83 rfl ?_
        exact z_ireturn dX6_lacking_85 (Or.inl rfl) rfl h
set_option maxRecDepth 20000 in
set_option maxHeartbeats 4000000 in
theorem bX6_hasAsked_0 {G : zG} {d : Nat} {M : zM} {Q : zV → zM → Prop} (hG : zP G) {x1 : Int}
    (h : Y G d mX6_hasAsked 2 [(2, 157), (0, x1), (0, 0)] [] M Q) :
    Y G d mX6_hasAsked 0 [(2, 157), (0, x1), (9, 0)] [] M Q := by
  refine z_iconst dX6_hasAsked_0 ki_0 ?_
  refine y_istoren (ls' := [(2, 157), (0, x1), (0, 0)]) dX6_hasAsked_1 rfl rfl ?_
  exact h
set_option maxRecDepth 20000 in
set_option maxHeartbeats 4000000 in
theorem bX6_hasAsked_2 {G : zG} {d : Nat} {M : zM} {Q : zV → zM → Prop} (hG : zP G) {x1 x2 : Int}
    (h : (((M 157 9) ≤ x2 → Q (0, 0) M) ∧ (x2 < (M 157 9) → (0 ≤ x2 ∧ x2 < 6) ∧ ((¬ (M 163 x2) = x1 → (-2147483648 ≤ x2 + 1 ∧ x2 + 1 ≤ 2147483647) ∧ Y G d mX6_hasAsked 2 [(2, 157), (0, x1), (0, (x2 + 1))] [] M Q) ∧ ((M 163 x2) = x1 → Q (0, 1) M))))) :
    Y G d mX6_hasAsked 2 [(2, 157), (0, x1), (0, x2)] [] M Q := by
  refine z_iloadn dX6_hasAsked_2 rfl ?_
  refine z_aloadn dX6_hasAsked_3 rfl (Or.inl rfl) ?_
  refine y_getf (x := (M 157 9)) dX6_hasAsked_4 fX6_48 sh157 (by decide) rfl rfl ?_
  refine z_icmpge (tgt := 28) dX6_hasAsked_7 rfl (fun q => ?_) (fun q => ?_)
  · replace h := h.1 q
    refine z_iconst dX6_hasAsked_28 ki_0 ?_
    exact z_ireturn dX6_hasAsked_29 (Or.inr ⟨rfl, ⟨by decide, by decide⟩⟩) rfl h
  · replace h := h.2 q
    refine z_aloadn dX6_hasAsked_10 rfl (Or.inl rfl) ?_
    refine y_getr (v := 163) hG dX6_hasAsked_11 fX6_27 sh157 (by decide) rfl (by decide +kernel) (by decide) ?_
    refine z_iloadn dX6_hasAsked_14 rfl ?_
    obtain ⟨q1, h⟩ := h
    refine y_iald (x := (M 163 x2)) dX6_hasAsked_15 sh163 q1 rfl ?_
    refine z_iloadn dX6_hasAsked_16 rfl ?_
    refine z_icmpne (tgt := 22) dX6_hasAsked_17 rfl (fun q => ?_) (fun q => ?_)
    · replace h := h.1 q
      obtain ⟨q2, h⟩ := h
      refine y_iinc (ls' := [(2, 157), (0, x1), (0, (x2 + 1))]) dX6_hasAsked_22 rfl rfl q2 rfl ?_
      refine z_goto (tgt := 2) dX6_hasAsked_25 rfl ?_
      exact h
    · replace h := h.2 q
      refine z_iconst dX6_hasAsked_20 ki_1 ?_
      exact z_ireturn dX6_hasAsked_21 (Or.inr ⟨rfl, ⟨by decide, by decide⟩⟩) rfl h
set_option maxRecDepth 20000 in
set_option maxHeartbeats 4000000 in
theorem bX6_barring_0 {G : zG} {d : Nat} {M : zM} {Q : zV → zM → Prop} (hG : zP G) {x1 : Int}
    (h : Y G (d + 1) mX6_barring 5 [(2, 157), (0, x1), (2, 19), (0, (-1)), (0, 0), (9, 0)] [] M Q) :
    Y G (d + 1) mX6_barring 0 [(2, 157), (0, x1), (2, 19), (9, 0), (9, 0), (9, 0)] [] M Q := by
  refine z_iconst dX6_barring_0 ki_m1 ?_
  refine y_istoren (ls' := [(2, 157), (0, x1), (2, 19), (0, (-1)), (9, 0), (9, 0)]) dX6_barring_1 rfl rfl ?_
  refine z_iconst dX6_barring_2 ki_0 ?_
  refine y_istore (ls' := [(2, 157), (0, x1), (2, 19), (0, (-1)), (0, 0), (9, 0)]) dX6_barring_3 rfl rfl ?_
  exact h
set_option maxRecDepth 20000 in
set_option maxHeartbeats 4000000 in
theorem bX6_barring_5 {G : zG} {d : Nat} {M : zM} {Q : zV → zM → Prop} (hG : zP G) {x1 x3 x4 : Int}
    (h : (((M 157 9) ≤ x4 → Q (0, x3) M) ∧ (x4 < (M 157 9) → (0 ≤ x4 ∧ x4 < 6) ∧ ((x3 = (-1) → Y G d mX3_areAlike 0 [(2, 19), (0, (M 164 x4)), (0, x1)] [] M (fun r M' => Y G (d + 1) mX6_barring 41 [(2, 157), (0, x1), (2, 19), (0, x3), (0, x4), (0, (M 164 x4))] (zpush r []) M' Q)) ∧ (¬ x3 = (-1) → ((x3 ≤ (M 164 x4) → (-2147483648 ≤ x4 + 1 ∧ x4 + 1 ≤ 2147483647) ∧ Y G (d + 1) mX6_barring 5 [(2, 157), (0, x1), (2, 19), (0, x3), (0, (x4 + 1)), (9, 0)] [] M Q) ∧ ((M 164 x4) < x3 → Y G d mX3_areAlike 0 [(2, 19), (0, (M 164 x4)), (0, x1)] [] M (fun r M' => Y G (d + 1) mX6_barring 41 [(2, 157), (0, x1), (2, 19), (0, x3), (0, x4), (0, (M 164 x4))] (zpush r []) M' Q)))))))) :
    Y G (d + 1) mX6_barring 5 [(2, 157), (0, x1), (2, 19), (0, x3), (0, x4), (9, 0)] [] M Q := by
  refine z_iload dX6_barring_5 rfl ?_
  refine z_aloadn dX6_barring_7 rfl (Or.inl rfl) ?_
  refine y_getf (x := (M 157 9)) dX6_barring_8 fX6_48 sh157 (by decide) rfl rfl ?_
  refine z_icmpge (tgt := 53) dX6_barring_11 rfl (fun q => ?_) (fun q => ?_)
  · replace h := h.1 q
    refine z_iloadn dX6_barring_53 rfl ?_
    exact z_ireturn dX6_barring_54 (Or.inl rfl) rfl h
  · replace h := h.2 q
    refine z_aloadn dX6_barring_14 rfl (Or.inl rfl) ?_
    refine y_getr (v := 164) hG dX6_barring_15 fX6_30 sh157 (by decide) rfl (by decide +kernel) (by decide) ?_
    refine z_iload dX6_barring_18 rfl ?_
    obtain ⟨q1, h⟩ := h
    refine y_iald (x := (M 164 x4)) dX6_barring_20 sh164 q1 rfl ?_
    refine y_istore (ls' := [(2, 157), (0, x1), (2, 19), (0, x3), (0, x4), (0, (M 164 x4))]) dX6_barring_21 rfl rfl ?_
    refine z_iloadn dX6_barring_23 rfl ?_
    refine z_iconst dX6_barring_24 ki_m1 ?_
    refine z_icmpeq (tgt := 34) dX6_barring_25 rfl (fun q => ?_) (fun q => ?_)
    · replace h := h.1 q
      refine z_aloadn dX6_barring_34 rfl (Or.inl rfl) ?_
      refine z_iload dX6_barring_35 rfl ?_
      refine z_iloadn dX6_barring_37 rfl ?_
      refine y_cv (mt2 := mX3_areAlike) (en := [(2, 19), (0, (M 164 x4)), (0, x1)]) (st := []) (as := [(0, (M 164 x4)), (0, x1)]) dX6_barring_38 lX6_51 kX3_areAlike iX3_areAlike eX3_areAlike rfl sh19 (by decide +kernel) (Nat.le_of_ble_eq_true rfl) (Nat.le_of_ble_eq_true rfl) rfl ?_
      exact h
    · replace h := h.2 q
      refine z_iload dX6_barring_28 rfl ?_
      refine z_iloadn dX6_barring_30 rfl ?_
      refine z_icmpge (tgt := 47) dX6_barring_31 rfl (fun q => ?_) (fun q => ?_)
      · replace h := h.1 q
        obtain ⟨q2, h⟩ := h
        refine y_iinc (ls' := [(2, 157), (0, x1), (2, 19), (0, x3), (0, (x4 + 1)), (0, (M 164 x4))]) dX6_barring_47 rfl rfl q2 rfl ?_
        refine z_goto (tgt := 5) dX6_barring_50 rfl ?_
        refine z_sub (ls' := [(2, 157), (0, x1), (2, 19), (0, x3), (0, (x4 + 1)), (9, 0)]) ⟨Or.inl rfl, Or.inl rfl, Or.inl rfl, Or.inl rfl, Or.inl rfl, Or.inr rfl, trivial⟩ ?_
        exact h
      · replace h := h.2 q
        refine z_aloadn dX6_barring_34 rfl (Or.inl rfl) ?_
        refine z_iload dX6_barring_35 rfl ?_
        refine z_iloadn dX6_barring_37 rfl ?_
        refine y_cv (mt2 := mX3_areAlike) (en := [(2, 19), (0, (M 164 x4)), (0, x1)]) (st := []) (as := [(0, (M 164 x4)), (0, x1)]) dX6_barring_38 lX6_51 kX3_areAlike iX3_areAlike eX3_areAlike rfl sh19 (by decide +kernel) (Nat.le_of_ble_eq_true rfl) (Nat.le_of_ble_eq_true rfl) rfl ?_
        exact h
set_option maxRecDepth 20000 in
set_option maxHeartbeats 4000000 in
theorem bX6_barring_41 {G : zG} {d : Nat} {M : zM} {Q : zV → zM → Prop} (hG : zP G) {x1 x3 x4 x5 x49 : Int}
    (h : ((x49 = 0 → (-2147483648 ≤ x4 + 1 ∧ x4 + 1 ≤ 2147483647) ∧ Y G (d + 1) mX6_barring 5 [(2, 157), (0, x1), (2, 19), (0, x3), (0, (x4 + 1)), (9, 0)] [] M Q) ∧ (¬ x49 = 0 → (-2147483648 ≤ x4 + 1 ∧ x4 + 1 ≤ 2147483647) ∧ Y G (d + 1) mX6_barring 5 [(2, 157), (0, x1), (2, 19), (0, x5), (0, (x4 + 1)), (9, 0)] [] M Q))) :
    Y G (d + 1) mX6_barring 41 [(2, 157), (0, x1), (2, 19), (0, x3), (0, x4), (0, x5)] [(0, x49)] M Q := by
  refine z_ifeq (tgt := 47) dX6_barring_41 rfl (fun q => ?_) (fun q => ?_)
  · replace h := h.1 q
    obtain ⟨q1, h⟩ := h
    refine y_iinc (ls' := [(2, 157), (0, x1), (2, 19), (0, x3), (0, (x4 + 1)), (0, x5)]) dX6_barring_47 rfl rfl q1 rfl ?_
    refine z_goto (tgt := 5) dX6_barring_50 rfl ?_
    refine z_sub (ls' := [(2, 157), (0, x1), (2, 19), (0, x3), (0, (x4 + 1)), (9, 0)]) ⟨Or.inl rfl, Or.inl rfl, Or.inl rfl, Or.inl rfl, Or.inl rfl, Or.inr rfl, trivial⟩ ?_
    exact h
  · replace h := h.2 q
    refine z_iload dX6_barring_44 rfl ?_
    refine y_istoren (ls' := [(2, 157), (0, x1), (2, 19), (0, x5), (0, x4), (0, x5)]) dX6_barring_46 rfl rfl ?_
    obtain ⟨q2, h⟩ := h
    refine y_iinc (ls' := [(2, 157), (0, x1), (2, 19), (0, x5), (0, (x4 + 1)), (0, x5)]) dX6_barring_47 rfl rfl q2 rfl ?_
    refine z_goto (tgt := 5) dX6_barring_50 rfl ?_
    refine z_sub (ls' := [(2, 157), (0, x1), (2, 19), (0, x5), (0, (x4 + 1)), (9, 0)]) ⟨Or.inl rfl, Or.inl rfl, Or.inl rfl, Or.inl rfl, Or.inl rfl, Or.inr rfl, trivial⟩ ?_
    exact h
set_option maxRecDepth 20000 in
set_option maxHeartbeats 4000000 in
theorem bX6_hindrance_0 {G : zG} {d : Nat} {M : zM} {Q : zV → zM → Prop} (hG : zP G) {x1 x2 : Int}
    (h : Y G d mX6_hasAsked 0 [(2, 157), (0, x1), (9, 0)] [] M (fun r M' => Y G (d + 1) mX6_hindrance 5 [(2, 157), (0, x1), (0, x2), (2, 19)] (zpush r []) M' Q)) :
    Y G (d + 1) mX6_hindrance 0 [(2, 157), (0, x1), (0, x2), (2, 19)] [] M Q := by
  refine z_aloadn dX6_hindrance_0 rfl (Or.inl rfl) ?_
  refine z_iloadn dX6_hindrance_1 rfl ?_
  refine y_cv (mt2 := mX6_hasAsked) (en := [(2, 157), (0, x1), (9, 0)]) (st := []) (as := [(0, x1)]) dX6_hindrance_2 lX6_55 kX6_hasAsked iX6_hasAsked eX6_hasAsked rfl sh157 (by decide +kernel) (Nat.le_of_ble_eq_true rfl) (Nat.le_of_ble_eq_true rfl) rfl ?_
  exact h
set_option maxRecDepth 20000 in
set_option maxHeartbeats 4000000 in
theorem bX6_hindrance_5 {G : zG} {d : Nat} {M : zM} {Q : zV → zM → Prop} (hG : zP G) {x1 x2 x49 : Int}
    (h : ((x49 = 0 → Y G d mX6_lacking 0 [(2, 157), (0, x1), (0, x2), (2, 19), (9, 0)] [] M (fun r M' => Y G (d + 1) mX6_hindrance 17 [(2, 157), (0, x1), (0, x2), (2, 19)] (zpush r []) M' Q)) ∧ (¬ x49 = 0 → Q (0, 1) M))) :
    Y G (d + 1) mX6_hindrance 5 [(2, 157), (0, x1), (0, x2), (2, 19)] [(0, x49)] M Q := by
  refine z_ifeq (tgt := 10) dX6_hindrance_5 rfl (fun q => ?_) (fun q => ?_)
  · replace h := h.1 q
    refine z_aloadn dX6_hindrance_10 rfl (Or.inl rfl) ?_
    refine z_iloadn dX6_hindrance_11 rfl ?_
    refine z_iloadn dX6_hindrance_12 rfl ?_
    refine z_aloadn dX6_hindrance_13 rfl (Or.inl rfl) ?_
    refine y_cv (mt2 := mX6_lacking) (en := [(2, 157), (0, x1), (0, x2), (2, 19), (9, 0)]) (st := []) (as := [(0, x1), (0, x2), (2, 19)]) dX6_hindrance_14 lX6_59 kX6_lacking iX6_lacking eX6_lacking rfl sh157 (by decide +kernel) (Nat.le_of_ble_eq_true rfl) (Nat.le_of_ble_eq_true rfl) rfl ?_
    exact h
  · replace h := h.2 q
    refine z_iconst dX6_hindrance_8 ki_1 ?_
    exact z_ireturn dX6_hindrance_9 (Or.inl rfl) rfl h
set_option maxRecDepth 20000 in
set_option maxHeartbeats 4000000 in
theorem bX6_hindrance_17 {G : zG} {d : Nat} {M : zM} {Q : zV → zM → Prop} (hG : zP G) {x1 x2 x49 : Int}
    (h : ((x49 = 0 → (0 ≤ x2 ∧ x2 < 12) ∧ (((M 27 x2) = (M 157 6) → Y G d mX6_barring 0 [(2, 157), (0, x2), (2, 19), (9, 0), (9, 0), (9, 0)] [] M (fun r M' => Y G (d + 1) mX6_hindrance 43 [(2, 157), (0, x1), (0, x2), (2, 19)] (zpush r []) M' Q)) ∧ (¬ (M 27 x2) = (M 157 6) → Q (0, 3) M))) ∧ (¬ x49 = 0 → Q (0, 2) M))) :
    Y G (d + 1) mX6_hindrance 17 [(2, 157), (0, x1), (0, x2), (2, 19)] [(0, x49)] M Q := by
  refine z_ifeq (tgt := 22) dX6_hindrance_17 rfl (fun q => ?_) (fun q => ?_)
  · replace h := h.1 q
    refine z_aloadn dX6_hindrance_22 rfl (Or.inl rfl) ?_
    refine y_getr (v := 27) hG dX6_hindrance_23 fX6_63 sh19 (by decide) rfl (by decide +kernel) (by decide) ?_
    refine z_iloadn dX6_hindrance_26 rfl ?_
    obtain ⟨q1, h⟩ := h
    refine y_iald (x := (M 27 x2)) dX6_hindrance_27 sh27 q1 rfl ?_
    refine z_aloadn dX6_hindrance_28 rfl (Or.inl rfl) ?_
    refine y_getf (x := (M 157 6)) dX6_hindrance_29 fX6_66 sh157 (by decide) rfl rfl ?_
    refine z_icmpeq (tgt := 37) dX6_hindrance_32 rfl (fun q => ?_) (fun q => ?_)
    · replace h := h.1 q
      refine z_aloadn dX6_hindrance_37 rfl (Or.inl rfl) ?_
      refine z_iloadn dX6_hindrance_38 rfl ?_
      refine z_aloadn dX6_hindrance_39 rfl (Or.inl rfl) ?_
      refine y_cv (mt2 := mX6_barring) (en := [(2, 157), (0, x2), (2, 19), (9, 0), (9, 0), (9, 0)]) (st := []) (as := [(0, x2), (2, 19)]) dX6_hindrance_40 lX6_69 kX6_barring iX6_barring eX6_barring rfl sh157 (by decide +kernel) (Nat.le_of_ble_eq_true rfl) (Nat.le_of_ble_eq_true rfl) rfl ?_
      exact h
    · replace h := h.2 q
      refine z_iconst dX6_hindrance_35 ki_3 ?_
      exact z_ireturn dX6_hindrance_36 (Or.inl rfl) rfl h
  · replace h := h.2 q
    refine z_iconst dX6_hindrance_20 ki_2 ?_
    exact z_ireturn dX6_hindrance_21 (Or.inl rfl) rfl h
set_option maxRecDepth 20000 in
set_option maxHeartbeats 4000000 in
theorem bX6_hindrance_43 {G : zG} {d : Nat} {M : zM} {Q : zV → zM → Prop} (hG : zP G) {x1 x2 x49 : Int}
    (h : ((x49 = (-1) → Q (0, 0) M) ∧ (¬ x49 = (-1) → Q (0, 4) M))) :
    Y G (d + 1) mX6_hindrance 43 [(2, 157), (0, x1), (0, x2), (2, 19)] [(0, x49)] M Q := by
  refine z_iconst dX6_hindrance_43 ki_m1 ?_
  refine z_icmpeq (tgt := 51) dX6_hindrance_44 rfl (fun q => ?_) (fun q => ?_)
  · replace h := h.1 q
    refine z_iconst dX6_hindrance_51 ki_0 ?_
    exact z_ireturn dX6_hindrance_52 (Or.inl rfl) rfl h
  · replace h := h.2 q
    refine z_iconst dX6_hindrance_47 ki_4 ?_
    refine z_goto (tgt := 52) dX6_hindrance_48 rfl ?_
    exact z_ireturn dX6_hindrance_52 (Or.inl rfl) rfl h
set_option maxRecDepth 20000 in
set_option maxHeartbeats 4000000 in
theorem bX6_addStep_0 {G : zG} {d : Nat} {M : zM} {Q : zV → zM → Prop} (hG : zP G) {x1 x2 : Int}
    (h : ((6 ≤ (M 157 9) → Q (9, 0) M) ∧ ((M 157 9) < 6 → (0 ≤ (M 157 9) ∧ (M 157 9) < 6) ∧ (0 ≤ (M 157 9) ∧ (M 157 9) < 6) ∧ (-2147483648 ≤ (M 157 9) + 1 ∧ (M 157 9) + 1 ≤ 2147483647) ∧ Q (9, 0) (zset (zset (zset M 163 (M 157 9) x1) 164 (M 157 9) x2) 157 9 ((M 157 9) + 1))))) :
    Y G d mX6_addStep 0 [(2, 157), (0, x1), (0, x2)] [] M Q := by
  refine z_aloadn dX6_addStep_0 rfl (Or.inl rfl) ?_
  refine y_getf (x := (M 157 9)) dX6_addStep_1 fX6_48 sh157 (by decide) rfl rfl ?_
  refine z_bipush dX6_addStep_4 kb_6 ?_
  refine z_icmpge (tgt := 39) dX6_addStep_6 rfl (fun q => ?_) (fun q => ?_)
  · replace h := h.1 q
    exact z_return dX6_addStep_39 rfl rfl h
  · replace h := h.2 q
    refine z_aloadn dX6_addStep_9 rfl (Or.inl rfl) ?_
    refine y_getr (v := 163) hG dX6_addStep_10 fX6_27 sh157 (by decide) rfl (by decide +kernel) (by decide) ?_
    refine z_aloadn dX6_addStep_13 rfl (Or.inl rfl) ?_
    refine y_getf (x := (M 157 9)) dX6_addStep_14 fX6_48 sh157 (by decide) rfl rfl ?_
    refine z_iloadn dX6_addStep_17 rfl ?_
    obtain ⟨q1, h⟩ := h
    refine y_iast hG dX6_addStep_18 sh163 q1 ?_
    refine z_aloadn dX6_addStep_19 rfl (Or.inl rfl) ?_
    refine y_getr (v := 164) hG dX6_addStep_20 fX6_30 sh157 (by decide) rfl (by decide +kernel) (by decide) ?_
    refine z_aloadn dX6_addStep_23 rfl (Or.inl rfl) ?_
    refine y_getf (x := (M 157 9)) dX6_addStep_24 fX6_48 sh157 (by decide) rfl (zset_ne (fun q => absurd q.1 (by decide))) ?_
    refine z_iloadn dX6_addStep_27 rfl ?_
    obtain ⟨q2, h⟩ := h
    refine y_iast hG dX6_addStep_28 sh164 q2 ?_
    refine z_aloadn dX6_addStep_29 rfl (Or.inl rfl) ?_
    refine z_dup dX6_addStep_30 (show (2 : Nat) ≠ 1 by decide) ?_
    refine y_getf (x := (M 157 9)) dX6_addStep_31 fX6_48 sh157 (by decide) rfl (((zset_ne (fun q => absurd q.1 (by decide))).trans (zset_ne (fun q => absurd q.1 (by decide))))) ?_
    refine z_iconst dX6_addStep_34 ki_1 ?_
    obtain ⟨q3, h⟩ := h
    refine z_iadd dX6_addStep_35 q3 ?_
    refine y_putf (M' := zset (zset (zset M 163 (M 157 9) x1) 164 (M 157 9) x2) 157 9 ((M 157 9) + 1)) hG dX6_addStep_36 fX6_48 sh157 (by decide) ⟨rfl, rfl⟩ p6_9 (fun q => absurd q (by decide)) (by decide) rfl ?_
    exact z_return dX6_addStep_39 rfl rfl h
set_option maxRecDepth 20000 in
set_option maxHeartbeats 4000000 in
theorem bX6_lowestNow_0 {G : zG} {d : Nat} {M : zM} {Q : zV → zM → Prop} (hG : zP G) {x1 : Int}
    (h : Y G (d + 1) mX6_lowestNow 2 [(2, 157), (0, x1), (2, 19), (0, 0)] [] M Q) :
    Y G (d + 1) mX6_lowestNow 0 [(2, 157), (0, x1), (2, 19), (9, 0)] [] M Q := by
  refine z_iconst dX6_lowestNow_0 ki_0 ?_
  refine y_istoren (ls' := [(2, 157), (0, x1), (2, 19), (0, 0)]) dX6_lowestNow_1 rfl rfl ?_
  exact h
set_option maxRecDepth 20000 in
set_option maxHeartbeats 4000000 in
theorem bX6_lowestNow_2 {G : zG} {d : Nat} {M : zM} {Q : zV → zM → Prop} (hG : zP G) {x1 x3 : Int}
    (h : (((M 19 8) ≤ x3 → Q (0, (-1)) M) ∧ (x3 < (M 19 8) → Y G d mX6_hindrance 0 [(2, 157), (0, x1), (0, x3), (2, 19)] [] M (fun r M' => Y G (d + 1) mX6_lowestNow 17 [(2, 157), (0, x1), (2, 19), (0, x3)] (zpush r []) M' Q)))) :
    Y G (d + 1) mX6_lowestNow 2 [(2, 157), (0, x1), (2, 19), (0, x3)] [] M Q := by
  refine z_iloadn dX6_lowestNow_2 rfl ?_
  refine z_aloadn dX6_lowestNow_3 rfl (Or.inl rfl) ?_
  refine y_getf (x := (M 19 8)) dX6_lowestNow_4 fX6_73 sh19 (by decide) rfl rfl ?_
  refine z_icmpge (tgt := 28) dX6_lowestNow_7 rfl (fun q => ?_) (fun q => ?_)
  · replace h := h.1 q
    refine z_iconst dX6_lowestNow_28 ki_m1 ?_
    exact z_ireturn dX6_lowestNow_29 (Or.inl rfl) rfl h
  · replace h := h.2 q
    refine z_aloadn dX6_lowestNow_10 rfl (Or.inl rfl) ?_
    refine z_iloadn dX6_lowestNow_11 rfl ?_
    refine z_iloadn dX6_lowestNow_12 rfl ?_
    refine z_aloadn dX6_lowestNow_13 rfl (Or.inl rfl) ?_
    refine y_cv (mt2 := mX6_hindrance) (en := [(2, 157), (0, x1), (0, x3), (2, 19)]) (st := []) (as := [(0, x1), (0, x3), (2, 19)]) dX6_lowestNow_14 lX6_76 kX6_hindrance iX6_hindrance eX6_hindrance rfl sh157 (by decide +kernel) (Nat.le_of_ble_eq_true rfl) (Nat.le_of_ble_eq_true rfl) rfl ?_
    exact h
set_option maxRecDepth 20000 in
set_option maxHeartbeats 4000000 in
theorem bX6_lowestNow_17 {G : zG} {d : Nat} {M : zM} {Q : zV → zM → Prop} (hG : zP G) {x1 x3 x49 : Int}
    (h : ((¬ x49 = 0 → (-2147483648 ≤ x3 + 1 ∧ x3 + 1 ≤ 2147483647) ∧ Y G (d + 1) mX6_lowestNow 2 [(2, 157), (0, x1), (2, 19), (0, (x3 + 1))] [] M Q) ∧ (x49 = 0 → Q (0, x3) M))) :
    Y G (d + 1) mX6_lowestNow 17 [(2, 157), (0, x1), (2, 19), (0, x3)] [(0, x49)] M Q := by
  refine z_ifne (tgt := 22) dX6_lowestNow_17 rfl (fun q => ?_) (fun q => ?_)
  · replace h := h.1 q
    obtain ⟨q1, h⟩ := h
    refine y_iinc (ls' := [(2, 157), (0, x1), (2, 19), (0, (x3 + 1))]) dX6_lowestNow_22 rfl rfl q1 rfl ?_
    refine z_goto (tgt := 2) dX6_lowestNow_25 rfl ?_
    exact h
  · replace h := h.2 q
    refine z_iloadn dX6_lowestNow_20 rfl ?_
    exact z_ireturn dX6_lowestNow_21 (Or.inl rfl) rfl h
set_option maxRecDepth 20000 in
set_option maxHeartbeats 4000000 in
theorem bX6_shortestNow_0 {G : zG} {d : Nat} {M : zM} {Q : zV → zM → Prop} (hG : zP G) {x1 : Int}
    (h : Y G (d + 1) mX6_shortestNow 5 [(2, 157), (0, x1), (2, 19), (0, (-1)), (0, 0), (9, 0)] [] M Q) :
    Y G (d + 1) mX6_shortestNow 0 [(2, 157), (0, x1), (2, 19), (9, 0), (9, 0), (9, 0)] [] M Q := by
  refine z_iconst dX6_shortestNow_0 ki_m1 ?_
  refine y_istoren (ls' := [(2, 157), (0, x1), (2, 19), (0, (-1)), (9, 0), (9, 0)]) dX6_shortestNow_1 rfl rfl ?_
  refine z_iconst dX6_shortestNow_2 ki_0 ?_
  refine y_istore (ls' := [(2, 157), (0, x1), (2, 19), (0, (-1)), (0, 0), (9, 0)]) dX6_shortestNow_3 rfl rfl ?_
  exact h
set_option maxRecDepth 20000 in
set_option maxHeartbeats 4000000 in
theorem bX6_shortestNow_5 {G : zG} {d : Nat} {M : zM} {Q : zV → zM → Prop} (hG : zP G) {x1 x3 x4 : Int}
    (h : (((M 19 8) ≤ x4 → Q (0, x3) M) ∧ (x4 < (M 19 8) → ((x3 = (-1) → Y G d mX6_hindrance 0 [(2, 157), (0, x1), (0, x4), (2, 19)] [] M (fun r M' => Y G (d + 1) mX6_shortestNow 55 [(2, 157), (0, x1), (2, 19), (0, x3), (0, x4), (0, 1)] (zpush r []) M' Q)) ∧ (¬ x3 = (-1) → (0 ≤ x4 ∧ x4 < 12) ∧ (0 ≤ x3 ∧ x3 < 12) ∧ (((M 23 x3) ≤ (M 23 x4) → (-2147483648 ≤ x4 + 1 ∧ x4 + 1 ≤ 2147483647) ∧ Y G (d + 1) mX6_shortestNow 5 [(2, 157), (0, x1), (2, 19), (0, x3), (0, (x4 + 1)), (9, 0)] [] M Q) ∧ ((M 23 x4) < (M 23 x3) → Y G d mX6_hindrance 0 [(2, 157), (0, x1), (0, x4), (2, 19)] [] M (fun r M' => Y G (d + 1) mX6_shortestNow 55 [(2, 157), (0, x1), (2, 19), (0, x3), (0, x4), (0, 1)] (zpush r []) M' Q)))))))) :
    Y G (d + 1) mX6_shortestNow 5 [(2, 157), (0, x1), (2, 19), (0, x3), (0, x4), (9, 0)] [] M Q := by
  refine z_iload dX6_shortestNow_5 rfl ?_
  refine z_aloadn dX6_shortestNow_7 rfl (Or.inl rfl) ?_
  refine y_getf (x := (M 19 8)) dX6_shortestNow_8 fX6_73 sh19 (by decide) rfl rfl ?_
  refine z_icmpge (tgt := 67) dX6_shortestNow_11 rfl (fun q => ?_) (fun q => ?_)
  · replace h := h.1 q
    refine z_iloadn dX6_shortestNow_67 rfl ?_
    exact z_ireturn dX6_shortestNow_68 (Or.inl rfl) rfl h
  · replace h := h.2 q
    refine z_iloadn dX6_shortestNow_14 rfl ?_
    refine z_iconst dX6_shortestNow_15 ki_m1 ?_
    refine z_icmpeq (tgt := 35) dX6_shortestNow_16 rfl (fun q => ?_) (fun q => ?_)
    · replace h := h.1 q
      refine z_iconst dX6_shortestNow_35 ki_1 ?_
      refine z_goto (tgt := 40) dX6_shortestNow_36 rfl ?_
      refine y_istore (ls' := [(2, 157), (0, x1), (2, 19), (0, x3), (0, x4), (0, 1)]) dX6_shortestNow_40 rfl rfl ?_
      refine z_iload dX6_shortestNow_42 rfl ?_
      refine z_ifeq (tgt := 61) dX6_shortestNow_44 rfl (fun q => absurd q (by decide)) (fun _ => ?_)
      refine z_aloadn dX6_shortestNow_47 rfl (Or.inl rfl) ?_
      refine z_iloadn dX6_shortestNow_48 rfl ?_
      refine z_iload dX6_shortestNow_49 rfl ?_
      refine z_aloadn dX6_shortestNow_51 rfl (Or.inl rfl) ?_
      refine y_cv (mt2 := mX6_hindrance) (en := [(2, 157), (0, x1), (0, x4), (2, 19)]) (st := []) (as := [(0, x1), (0, x4), (2, 19)]) dX6_shortestNow_52 lX6_76 kX6_hindrance iX6_hindrance eX6_hindrance rfl sh157 (by decide +kernel) (Nat.le_of_ble_eq_true rfl) (Nat.le_of_ble_eq_true rfl) rfl ?_
      exact h
    · replace h := h.2 q
      refine z_aloadn dX6_shortestNow_19 rfl (Or.inl rfl) ?_
      refine y_getr (v := 23) hG dX6_shortestNow_20 fX6_46 sh19 (by decide) rfl (by decide +kernel) (by decide) ?_
      refine z_iload dX6_shortestNow_23 rfl ?_
      obtain ⟨q1, h⟩ := h
      refine y_iald (x := (M 23 x4)) dX6_shortestNow_25 sh23 q1 rfl ?_
      refine z_aloadn dX6_shortestNow_26 rfl (Or.inl rfl) ?_
      refine y_getr (v := 23) hG dX6_shortestNow_27 fX6_46 sh19 (by decide) rfl (by decide +kernel) (by decide) ?_
      refine z_iloadn dX6_shortestNow_30 rfl ?_
      obtain ⟨q2, h⟩ := h
      refine y_iald (x := (M 23 x3)) dX6_shortestNow_31 sh23 q2 rfl ?_
      refine z_icmpge (tgt := 39) dX6_shortestNow_32 rfl (fun q => ?_) (fun q => ?_)
      · replace h := h.1 q
        refine z_iconst dX6_shortestNow_39 ki_0 ?_
        refine y_istore (ls' := [(2, 157), (0, x1), (2, 19), (0, x3), (0, x4), (0, 0)]) dX6_shortestNow_40 rfl rfl ?_
        refine z_iload dX6_shortestNow_42 rfl ?_
        refine z_ifeq (tgt := 61) dX6_shortestNow_44 rfl (fun _ => ?_) (fun q => absurd q (by decide))
        obtain ⟨q3, h⟩ := h
        refine y_iinc (ls' := [(2, 157), (0, x1), (2, 19), (0, x3), (0, (x4 + 1)), (0, 0)]) dX6_shortestNow_61 rfl rfl q3 rfl ?_
        refine z_goto (tgt := 5) dX6_shortestNow_64 rfl ?_
        refine z_sub (ls' := [(2, 157), (0, x1), (2, 19), (0, x3), (0, (x4 + 1)), (9, 0)]) ⟨Or.inl rfl, Or.inl rfl, Or.inl rfl, Or.inl rfl, Or.inl rfl, Or.inr rfl, trivial⟩ ?_
        exact h
      · replace h := h.2 q
        refine z_iconst dX6_shortestNow_35 ki_1 ?_
        refine z_goto (tgt := 40) dX6_shortestNow_36 rfl ?_
        refine y_istore (ls' := [(2, 157), (0, x1), (2, 19), (0, x3), (0, x4), (0, 1)]) dX6_shortestNow_40 rfl rfl ?_
        refine z_iload dX6_shortestNow_42 rfl ?_
        refine z_ifeq (tgt := 61) dX6_shortestNow_44 rfl (fun q => absurd q (by decide)) (fun _ => ?_)
        refine z_aloadn dX6_shortestNow_47 rfl (Or.inl rfl) ?_
        refine z_iloadn dX6_shortestNow_48 rfl ?_
        refine z_iload dX6_shortestNow_49 rfl ?_
        refine z_aloadn dX6_shortestNow_51 rfl (Or.inl rfl) ?_
        refine y_cv (mt2 := mX6_hindrance) (en := [(2, 157), (0, x1), (0, x4), (2, 19)]) (st := []) (as := [(0, x1), (0, x4), (2, 19)]) dX6_shortestNow_52 lX6_76 kX6_hindrance iX6_hindrance eX6_hindrance rfl sh157 (by decide +kernel) (Nat.le_of_ble_eq_true rfl) (Nat.le_of_ble_eq_true rfl) rfl ?_
        exact h
set_option maxRecDepth 20000 in
set_option maxHeartbeats 4000000 in
theorem bX6_shortestNow_55 {G : zG} {d : Nat} {M : zM} {Q : zV → zM → Prop} (hG : zP G) {x1 x3 x4 x5 x49 : Int}
    (h : ((¬ x49 = 0 → (-2147483648 ≤ x4 + 1 ∧ x4 + 1 ≤ 2147483647) ∧ Y G (d + 1) mX6_shortestNow 5 [(2, 157), (0, x1), (2, 19), (0, x3), (0, (x4 + 1)), (9, 0)] [] M Q) ∧ (x49 = 0 → (-2147483648 ≤ x4 + 1 ∧ x4 + 1 ≤ 2147483647) ∧ Y G (d + 1) mX6_shortestNow 5 [(2, 157), (0, x1), (2, 19), (0, x4), (0, (x4 + 1)), (9, 0)] [] M Q))) :
    Y G (d + 1) mX6_shortestNow 55 [(2, 157), (0, x1), (2, 19), (0, x3), (0, x4), (0, x5)] [(0, x49)] M Q := by
  refine z_ifne (tgt := 61) dX6_shortestNow_55 rfl (fun q => ?_) (fun q => ?_)
  · replace h := h.1 q
    obtain ⟨q1, h⟩ := h
    refine y_iinc (ls' := [(2, 157), (0, x1), (2, 19), (0, x3), (0, (x4 + 1)), (0, x5)]) dX6_shortestNow_61 rfl rfl q1 rfl ?_
    refine z_goto (tgt := 5) dX6_shortestNow_64 rfl ?_
    refine z_sub (ls' := [(2, 157), (0, x1), (2, 19), (0, x3), (0, (x4 + 1)), (9, 0)]) ⟨Or.inl rfl, Or.inl rfl, Or.inl rfl, Or.inl rfl, Or.inl rfl, Or.inr rfl, trivial⟩ ?_
    exact h
  · replace h := h.2 q
    refine z_iload dX6_shortestNow_58 rfl ?_
    refine y_istoren (ls' := [(2, 157), (0, x1), (2, 19), (0, x4), (0, x4), (0, x5)]) dX6_shortestNow_60 rfl rfl ?_
    obtain ⟨q2, h⟩ := h
    refine y_iinc (ls' := [(2, 157), (0, x1), (2, 19), (0, x4), (0, (x4 + 1)), (0, x5)]) dX6_shortestNow_61 rfl rfl q2 rfl ?_
    refine z_goto (tgt := 5) dX6_shortestNow_64 rfl ?_
    refine z_sub (ls' := [(2, 157), (0, x1), (2, 19), (0, x4), (0, (x4 + 1)), (9, 0)]) ⟨Or.inl rfl, Or.inl rfl, Or.inl rfl, Or.inl rfl, Or.inl rfl, Or.inr rfl, trivial⟩ ?_
    exact h
