set_option maxRecDepth 20000 in
set_option maxHeartbeats 4000000 in
theorem bX11_fault_0 {G : zG} {d : Nat} {M : zM} {Q : zV → zM → Prop} (hG : zP G) {x1 : Int}
    (h : ((¬ (M 12 1) = 0 → ((¬ x1 = 0 → ((¬ x1 = 1 → Q (0, (-1)) M) ∧ (x1 = 1 → (((M 12 2) = 0 → Q (0, (-1)) M) ∧ (¬ (M 12 2) = 0 → Q (0, (M 12 3)) M))))) ∧ (x1 = 0 → Q (0, (M 12 2)) M))) ∧ ((M 12 1) = 0 → Q (0, (-1)) M))) :
    Y G d mX11_fault 0 [(2, 1), (0, x1)] [] M Q := by
  refine z_aloadn dX11_fault_0 rfl (Or.inl rfl) ?_
  refine y_getr (v := 12) hG dX11_fault_1 fX11_19 sh1 (by decide) rfl (by decide +kernel) (by decide) ?_
  refine y_getf (x := (M 12 1)) dX11_fault_4 fX11_118 sh12 (by decide) rfl rfl ?_
  refine z_ifne (tgt := 12) dX11_fault_7 rfl (fun q => ?_) (fun q => ?_)
  · replace h := h.1 q
    refine z_iloadn dX11_fault_12 rfl ?_
    refine z_ifne (tgt := 24) dX11_fault_13 rfl (fun q => ?_) (fun q => ?_)
    · replace h := h.1 q
      refine z_iloadn dX11_fault_24 rfl ?_
      refine z_iconst dX11_fault_25 ki_1 ?_
      refine z_icmpne (tgt := 49) dX11_fault_26 rfl (fun q => ?_) (fun q => ?_)
      · replace h := h.1 q
        refine z_iconst dX11_fault_49 ki_m1 ?_
        exact z_ireturn dX11_fault_50 (Or.inl rfl) rfl h
      · replace h := h.2 q
        refine z_aloadn dX11_fault_29 rfl (Or.inl rfl) ?_
        refine y_getr (v := 12) hG dX11_fault_30 fX11_19 sh1 (by decide) rfl (by decide +kernel) (by decide) ?_
        refine y_getf (x := (M 12 2)) dX11_fault_33 fX11_122 sh12 (by decide) rfl rfl ?_
        refine z_ifeq (tgt := 49) dX11_fault_36 rfl (fun q => ?_) (fun q => ?_)
        · replace h := h.1 q
          refine z_iconst dX11_fault_49 ki_m1 ?_
          exact z_ireturn dX11_fault_50 (Or.inl rfl) rfl h
        · replace h := h.2 q
          refine z_aloadn dX11_fault_39 rfl (Or.inl rfl) ?_
          refine y_getr (v := 12) hG dX11_fault_40 fX11_19 sh1 (by decide) rfl (by decide +kernel) (by decide) ?_
          refine y_getf (x := (M 12 3)) dX11_fault_43 fX11_125 sh12 (by decide) rfl rfl ?_
          refine z_goto (tgt := 50) dX11_fault_46 rfl ?_
          exact z_ireturn dX11_fault_50 (Or.inl rfl) rfl h
    · replace h := h.2 q
      refine z_aloadn dX11_fault_16 rfl (Or.inl rfl) ?_
      refine y_getr (v := 12) hG dX11_fault_17 fX11_19 sh1 (by decide) rfl (by decide +kernel) (by decide) ?_
      refine y_getf (x := (M 12 2)) dX11_fault_20 fX11_122 sh12 (by decide) rfl rfl ?_
      exact z_ireturn dX11_fault_23 (Or.inl rfl) rfl h
  · replace h := h.2 q
    refine z_iconst dX11_fault_10 ki_m1 ?_
    exact z_ireturn dX11_fault_11 (Or.inl rfl) rfl h
set_option maxRecDepth 20000 in
set_option maxHeartbeats 4000000 in
theorem bX11_played_0 {G : zG} {d : Nat} {M : zM} {Q : zV → zM → Prop} (hG : zP G) {x1 : Int}
    (h : (-2147483648 ≤ (M 1 3) - 1 ∧ (M 1 3) - 1 ≤ 2147483647) ∧ ((0 ≤ x1 ∧ x1 ≤ ((M 1 3) - 1) → (0 ≤ x1 ∧ x1 < 4) ∧ Y G (d + 1) mX11_played 33 [(2, 1), (0, x1), (2, (186 + 12 * x1)), (0, 0)] [] M Q) ∧ (¬ (0 ≤ x1 ∧ x1 ≤ ((M 1 3) - 1)) → Q (0, (-2)) M))) :
    Y G (d + 1) mX11_played 0 [(2, 1), (0, x1), (9, 0), (9, 0)] [] M Q := by
  refine z_iloadn dX11_played_0 rfl ?_
  refine z_iconst dX11_played_1 ki_0 ?_
  refine z_aloadn dX11_played_2 rfl (Or.inl rfl) ?_
  refine y_getf (x := (M 1 3)) dX11_played_3 fX11_111 sh1 (by decide) rfl rfl ?_
  refine z_iconst dX11_played_6 ki_1 ?_
  obtain ⟨q1, h⟩ := h
  refine z_isub dX11_played_7 q1 ?_
  refine y_cs (mt2 := mX11_within) (en := [(0, x1), (0, 0), (0, ((M 1 3) - 1))]) (st := []) (as := [(0, x1), (0, 0), (0, ((M 1 3) - 1))]) dX11_played_8 lX11_72 kX11_within tX11_within rfl (Nat.le_of_ble_eq_true rfl) (Nat.le_of_ble_eq_true rfl) rfl (s_within hG (fun q => ?_) (fun q => ?_))
  · replace h := h.1 q
    show Y G (d + 1) mX11_played 11 [(2, 1), (0, x1), (9, 0), (9, 0)] [(0, 1)] M Q
    refine z_ifne (tgt := 17) dX11_played_11 rfl (fun _ => ?_) (fun q => absurd q (by decide))
    refine z_aloadn dX11_played_17 rfl (Or.inl rfl) ?_
    refine y_getr (v := 18) hG dX11_played_18 fX11_25 sh1 (by decide) rfl (by decide +kernel) (by decide) ?_
    refine z_iloadn dX11_played_21 rfl ?_
    obtain ⟨q2, h⟩ := h
    refine y_aalds (v := (186 + 12 * x1)) hG dX11_played_22 sh18 q2 (sc_at q2).1 (sc_at q2).2.1 ?_
    refine y_astoren (ls' := [(2, 1), (0, x1), (2, (186 + 12 * x1)), (9, 0)]) dX11_played_23 rfl (Or.inl rfl) rfl ?_
    refine z_aloadn dX11_played_24 rfl (Or.inl rfl) ?_
    refine z_ifnonnull (tgt := 31) dX11_played_25 rfl (fun _ => ?_) (fun q => absurd q (by have := sc_pos (sc_at q2).2.2; omega))
    refine z_iconst dX11_played_31 ki_0 ?_
    refine y_istoren (ls' := [(2, 1), (0, x1), (2, (186 + 12 * x1)), (0, 0)]) dX11_played_32 rfl rfl ?_
    exact h
  · replace h := h.2 q
    show Y G (d + 1) mX11_played 11 [(2, 1), (0, x1), (9, 0), (9, 0)] [(0, 0)] M Q
    refine z_ifne (tgt := 17) dX11_played_11 rfl (fun q => absurd q (by decide)) (fun _ => ?_)
    refine z_bipush dX11_played_14 kb_m2 ?_
    exact z_ireturn dX11_played_16 (Or.inl rfl) rfl h
set_option maxRecDepth 20000 in
set_option maxHeartbeats 4000000 in
theorem bX11_played_33 {G : zG} {d : Nat} {M : zM} {Q : zV → zM → Prop} (hG : zP G) {x1 x2 x3 : Int}
    (h : (zSC x2) ∧ (((M x2 3) ≤ x3 → Q (0, (-1)) M) ∧ (x3 < (M x2 3) → Y G d mX7_sortOf 0 [(2, x2), (0, x3)] [] M (fun r M' => Y G (d + 1) mX11_played 46 [(2, 1), (0, x1), (2, x2), (0, x3)] (zpush r []) M' Q)))) :
    Y G (d + 1) mX11_played 33 [(2, 1), (0, x1), (2, x2), (0, x3)] [] M Q := by
  refine z_iloadn dX11_played_33 rfl ?_
  refine z_aloadn dX11_played_34 rfl (Or.inl rfl) ?_
  obtain ⟨q1, h⟩ := h
  refine y_getf (x := (M x2 3)) dX11_played_35 fX11_128 (sc_0 q1) (by decide) rfl rfl ?_
  refine z_icmpge (tgt := 82) dX11_played_38 rfl (fun q => ?_) (fun q => ?_)
  · replace h := h.1 q
    refine z_iconst dX11_played_82 ki_m1 ?_
    exact z_ireturn dX11_played_83 (Or.inl rfl) rfl h
  · replace h := h.2 q
    refine z_aloadn dX11_played_41 rfl (Or.inl rfl) ?_
    refine z_iloadn dX11_played_42 rfl ?_
    refine y_cv (mt2 := mX7_sortOf) (en := [(2, x2), (0, x3)]) (st := []) (as := [(0, x3)]) dX11_played_43 lX11_131 kX7_sortOf iX7_sortOf eX7_sortOf rfl (sc_0 q1) (by decide +kernel) (Nat.le_of_ble_eq_true rfl) (Nat.le_of_ble_eq_true rfl) rfl ?_
    exact h
set_option maxRecDepth 20000 in
set_option maxHeartbeats 4000000 in
theorem bX11_played_46 {G : zG} {d : Nat} {M : zM} {Q : zV → zM → Prop} (hG : zP G) {x1 x2 x3 x49 : Int}
    (h : ((x49 = 27 → Y G d mX11_takeStock 0 [(2, 1)] [] M (fun r M' => Y G (d + 1) mX11_played 65 [(2, 1), (0, x1), (2, x2), (0, x3)] (zpush r []) M' Q)) ∧ (¬ x49 = 27 → (zSC x2) ∧ Y G d mX7_sortOf 0 [(2, x2), (0, x3)] [] M (fun r M' => Y G (d + 1) mX11_played 56 [(2, 1), (0, x1), (2, x2), (0, x3)] (zpush r []) M' Q)))) :
    Y G (d + 1) mX11_played 46 [(2, 1), (0, x1), (2, x2), (0, x3)] [(0, x49)] M Q := by
  refine z_bipush dX11_played_46 kb_27 ?_
  refine z_icmpeq (tgt := 61) dX11_played_48 rfl (fun q => ?_) (fun q => ?_)
  · replace h := h.1 q
    refine z_aloadn dX11_played_61 rfl (Or.inl rfl) ?_
    refine y_cv (mt2 := mX11_takeStock) (en := [(2, 1)]) (st := []) (as := []) dX11_played_62 lX11_135 kX11_takeStock iX11_takeStock eX11_takeStock rfl sh1 (by decide +kernel) (Nat.le_of_ble_eq_true rfl) (Nat.le_of_ble_eq_true rfl) rfl ?_
    exact h
  · replace h := h.2 q
    refine z_aloadn dX11_played_51 rfl (Or.inl rfl) ?_
    refine z_iloadn dX11_played_52 rfl ?_
    obtain ⟨q1, h⟩ := h
    refine y_cv (mt2 := mX7_sortOf) (en := [(2, x2), (0, x3)]) (st := []) (as := [(0, x3)]) dX11_played_53 lX11_131 kX7_sortOf iX7_sortOf eX7_sortOf rfl (sc_0 q1) (by decide +kernel) (Nat.le_of_ble_eq_true rfl) (Nat.le_of_ble_eq_true rfl) rfl ?_
    exact h
set_option maxRecDepth 20000 in
set_option maxHeartbeats 4000000 in
theorem bX11_played_65 {G : zG} {d : Nat} {M : zM} {Q : zV → zM → Prop} (hG : zP G) {x1 x2 x3 : Int}
    (h : Y G d mX11_perform 0 [(2, 1), (2, x2), (0, x3), (9, 0), (9, 0), (9, 0)] [] M (fun r M' => Y G (d + 1) mX11_played 71 [(2, 1), (0, x1), (2, x2), (0, x3)] (zpush r []) M' Q)) :
    Y G (d + 1) mX11_played 65 [(2, 1), (0, x1), (2, x2), (0, x3)] [] M Q := by
  refine z_aloadn dX11_played_65 rfl (Or.inl rfl) ?_
  refine z_aloadn dX11_played_66 rfl (Or.inl rfl) ?_
  refine z_iloadn dX11_played_67 rfl ?_
  refine y_cv (mt2 := mX11_perform) (en := [(2, 1), (2, x2), (0, x3), (9, 0), (9, 0), (9, 0)]) (st := []) (as := [(2, x2), (0, x3)]) dX11_played_68 lX11_138 kX11_perform iX11_perform eX11_perform rfl sh1 (by decide +kernel) (Nat.le_of_ble_eq_true rfl) (Nat.le_of_ble_eq_true rfl) rfl ?_
  exact h
set_option maxRecDepth 20000 in
set_option maxHeartbeats 4000000 in
theorem bX11_played_56 {G : zG} {d : Nat} {M : zM} {Q : zV → zM → Prop} (hG : zP G) {x1 x2 x3 x49 : Int}
    (h : ((¬ x49 = 28 → Y G d mX11_perform 0 [(2, 1), (2, x2), (0, x3), (9, 0), (9, 0), (9, 0)] [] M (fun r M' => Y G (d + 1) mX11_played 71 [(2, 1), (0, x1), (2, x2), (0, x3)] (zpush r []) M' Q)) ∧ (x49 = 28 → Y G d mX11_takeStock 0 [(2, 1)] [] M (fun r M' => Y G (d + 1) mX11_played 65 [(2, 1), (0, x1), (2, x2), (0, x3)] (zpush r []) M' Q)))) :
    Y G (d + 1) mX11_played 56 [(2, 1), (0, x1), (2, x2), (0, x3)] [(0, x49)] M Q := by
  refine z_bipush dX11_played_56 kb_28 ?_
  refine z_icmpne (tgt := 65) dX11_played_58 rfl (fun q => ?_) (fun q => ?_)
  · replace h := h.1 q
    refine z_aloadn dX11_played_65 rfl (Or.inl rfl) ?_
    refine z_aloadn dX11_played_66 rfl (Or.inl rfl) ?_
    refine z_iloadn dX11_played_67 rfl ?_
    refine y_cv (mt2 := mX11_perform) (en := [(2, 1), (2, x2), (0, x3), (9, 0), (9, 0), (9, 0)]) (st := []) (as := [(2, x2), (0, x3)]) dX11_played_68 lX11_138 kX11_perform iX11_perform eX11_perform rfl sh1 (by decide +kernel) (Nat.le_of_ble_eq_true rfl) (Nat.le_of_ble_eq_true rfl) rfl ?_
    exact h
  · replace h := h.2 q
    refine z_aloadn dX11_played_61 rfl (Or.inl rfl) ?_
    refine y_cv (mt2 := mX11_takeStock) (en := [(2, 1)]) (st := []) (as := []) dX11_played_62 lX11_135 kX11_takeStock iX11_takeStock eX11_takeStock rfl sh1 (by decide +kernel) (Nat.le_of_ble_eq_true rfl) (Nat.le_of_ble_eq_true rfl) rfl ?_
    exact h
set_option maxRecDepth 20000 in
set_option maxHeartbeats 4000000 in
theorem bX11_played_71 {G : zG} {d : Nat} {M : zM} {Q : zV → zM → Prop} (hG : zP G) {x1 x2 x3 x49 : Int}
    (h : ((¬ x49 = 0 → (-2147483648 ≤ x3 + 1 ∧ x3 + 1 ≤ 2147483647) ∧ Y G (d + 1) mX11_played 33 [(2, 1), (0, x1), (2, x2), (0, (x3 + 1))] [] M Q) ∧ (x49 = 0 → Q (0, x3) M))) :
    Y G (d + 1) mX11_played 71 [(2, 1), (0, x1), (2, x2), (0, x3)] [(0, x49)] M Q := by
  refine z_ifne (tgt := 76) dX11_played_71 rfl (fun q => ?_) (fun q => ?_)
  · replace h := h.1 q
    obtain ⟨q1, h⟩ := h
    refine y_iinc (ls' := [(2, 1), (0, x1), (2, x2), (0, (x3 + 1))]) dX11_played_76 rfl rfl q1 rfl ?_
    refine z_goto (tgt := 33) dX11_played_79 rfl ?_
    exact h
  · replace h := h.2 q
    refine z_iloadn dX11_played_74 rfl ?_
    exact z_ireturn dX11_played_75 (Or.inl rfl) rfl h
set_option maxRecDepth 20000 in
set_option maxHeartbeats 4000000 in
theorem bX11_perform_0 {G : zG} {d : Nat} {M : zM} {Q : zV → zM → Prop} (hG : zP G) {r1 x2 : Int} (hr1 : zSC r1)
    (h : Y G d mX7_partOf 0 [(2, r1), (0, x2), (0, 0), (9, 0)] [] M (fun r M' => Y G (d + 1) mX11_perform 6 [(2, 1), (2, r1), (0, x2), (9, 0), (9, 0), (9, 0)] (zpush r []) M' Q)) :
    Y G (d + 1) mX11_perform 0 [(2, 1), (2, r1), (0, x2), (9, 0), (9, 0), (9, 0)] [] M Q := by
  refine z_aloadn dX11_perform_0 rfl (Or.inl rfl) ?_
  refine z_iloadn dX11_perform_1 rfl ?_
  refine z_iconst dX11_perform_2 ki_0 ?_
  refine y_cv (mt2 := mX7_partOf) (en := [(2, r1), (0, x2), (0, 0), (9, 0)]) (st := []) (as := [(0, x2), (0, 0)]) dX11_perform_3 lX11_142 kX7_partOf iX7_partOf eX7_partOf rfl (sc_0 hr1) (by decide +kernel) (Nat.le_of_ble_eq_true rfl) (Nat.le_of_ble_eq_true rfl) rfl ?_
  exact h
set_option maxRecDepth 20000 in
set_option maxHeartbeats 4000000 in
theorem bX11_perform_6 {G : zG} {d : Nat} {M : zM} {Q : zV → zM → Prop} (hG : zP G) {r1 x2 x49 : Int} (hr1 : zSC r1)
    (h : Y G d mX7_partOf 0 [(2, r1), (0, x2), (0, 1), (9, 0)] [] M (fun r M' => Y G (d + 1) mX11_perform 13 [(2, 1), (2, r1), (0, x2), (0, x49), (9, 0), (9, 0)] (zpush r []) M' Q)) :
    Y G (d + 1) mX11_perform 6 [(2, 1), (2, r1), (0, x2), (9, 0), (9, 0), (9, 0)] [(0, x49)] M Q := by
  refine y_istoren (ls' := [(2, 1), (2, r1), (0, x2), (0, x49), (9, 0), (9, 0)]) dX11_perform_6 rfl rfl ?_
  refine z_aloadn dX11_perform_7 rfl (Or.inl rfl) ?_
  refine z_iloadn dX11_perform_8 rfl ?_
  refine z_iconst dX11_perform_9 ki_1 ?_
  refine y_cv (mt2 := mX7_partOf) (en := [(2, r1), (0, x2), (0, 1), (9, 0)]) (st := []) (as := [(0, x2), (0, 1)]) dX11_perform_10 lX11_142 kX7_partOf iX7_partOf eX7_partOf rfl (sc_0 hr1) (by decide +kernel) (Nat.le_of_ble_eq_true rfl) (Nat.le_of_ble_eq_true rfl) rfl ?_
  exact h
set_option maxRecDepth 20000 in
set_option maxHeartbeats 4000000 in
theorem bX11_perform_13 {G : zG} {d : Nat} {M : zM} {Q : zV → zM → Prop} (hG : zP G) {r1 x2 x3 x49 : Int} (hr1 : zSC r1)
    (h : Y G d mX7_partOf 0 [(2, r1), (0, x2), (0, 2), (9, 0)] [] M (fun r M' => Y G (d + 1) mX11_perform 21 [(2, 1), (2, r1), (0, x2), (0, x3), (0, x49), (9, 0)] (zpush r []) M' Q)) :
    Y G (d + 1) mX11_perform 13 [(2, 1), (2, r1), (0, x2), (0, x3), (9, 0), (9, 0)] [(0, x49)] M Q := by
  refine y_istore (ls' := [(2, 1), (2, r1), (0, x2), (0, x3), (0, x49), (9, 0)]) dX11_perform_13 rfl rfl ?_
  refine z_aloadn dX11_perform_15 rfl (Or.inl rfl) ?_
  refine z_iloadn dX11_perform_16 rfl ?_
  refine z_iconst dX11_perform_17 ki_2 ?_
  refine y_cv (mt2 := mX7_partOf) (en := [(2, r1), (0, x2), (0, 2), (9, 0)]) (st := []) (as := [(0, x2), (0, 2)]) dX11_perform_18 lX11_142 kX7_partOf iX7_partOf eX7_partOf rfl (sc_0 hr1) (by decide +kernel) (Nat.le_of_ble_eq_true rfl) (Nat.le_of_ble_eq_true rfl) rfl ?_
  exact h
set_option maxRecDepth 20000 in
set_option maxHeartbeats 4000000 in
theorem bX11_perform_21 {G : zG} {d : Nat} {M : zM} {Q : zV → zM → Prop} (hG : zP G) {r1 x2 x3 x4 x49 : Int} (hr1 : zSC r1)
    (h : Y G d mX7_sortOf 0 [(2, r1), (0, x2)] [] M (fun r M' => Y G (d + 1) mX11_perform 28 [(2, 1), (2, r1), (0, x2), (0, x3), (0, x4), (0, x49)] (zpush r []) M' Q)) :
    Y G (d + 1) mX11_perform 21 [(2, 1), (2, r1), (0, x2), (0, x3), (0, x4), (9, 0)] [(0, x49)] M Q := by
  refine y_istore (ls' := [(2, 1), (2, r1), (0, x2), (0, x3), (0, x4), (0, x49)]) dX11_perform_21 rfl rfl ?_
  refine z_aloadn dX11_perform_23 rfl (Or.inl rfl) ?_
  refine z_iloadn dX11_perform_24 rfl ?_
  refine y_cv (mt2 := mX7_sortOf) (en := [(2, r1), (0, x2)]) (st := []) (as := [(0, x2)]) dX11_perform_25 lX11_131 kX7_sortOf iX7_sortOf eX7_sortOf rfl (sc_0 hr1) (by decide +kernel) (Nat.le_of_ble_eq_true rfl) (Nat.le_of_ble_eq_true rfl) rfl ?_
  exact h
set_option maxRecDepth 20000 in
set_option maxHeartbeats 4000000 in
theorem bX11_perform_28 {G : zG} {d : Nat} {M : zM} {Q : zV → zM → Prop} (hG : zP G) {r1 x2 x3 x4 x5 x49 : Int} (hr1 : zSC r1)
    (h : (((x49 = 20) → Y G d mX3_add 0 [(2, 19), (2, r1), (0, x2)] [] M (fun r M' => Y G (d + 1) mX11_perform 85 [(2, 1), (2, r1), (0, x2), (0, x3), (0, x4), (0, x5)] (zpush r []) M' Q)) ∧ ((x49 = 21) → Y G d mX11_thing 0 [(2, 1), (0, x3), (0, x4)] [] M (fun r M' => Y G (d + 1) mX11_perform 93 [(2, 1), (2, r1), (0, x2), (0, x3), (0, x4), (0, x5)] (zpush r []) M' Q)) ∧ ((x49 = 22) → Y G d mX11_person 0 [(2, 1), (0, x3), (0, x4), (0, x5)] [] M (fun r M' => Y G (d + 1) mX11_perform 103 [(2, 1), (2, r1), (0, x2), (0, x3), (0, x4), (0, x5)] (zpush r []) M' Q)) ∧ ((x49 = 23) → Y G d mX11_road 0 [(2, 1), (0, x3), (0, x4), (0, x5)] [] M (fun r M' => Y G (d + 1) mX11_perform 122 [(2, 1), (2, r1), (0, x2), (0, x3), (0, x4), (0, x5)] (zpush r []) M' Q)) ∧ ((x49 = 24) → Y G d mX11_equalities 0 [(2, 1), (0, x3)] [] M (fun r M' => Y G (d + 1) mX11_perform 128 [(2, 1), (2, r1), (0, x2), (0, x3), (0, x4), (0, x5)] (zpush r []) M' Q)) ∧ ((x49 = 25) → Y G d mX7_partOf 0 [(2, r1), (0, x2), (0, 3), (9, 0)] [] M (fun r M' => Y G (d + 1) mX11_perform 141 [(2, 1), (2, r1), (0, x2), (0, x3), (0, x4), (0, x5)] (zpush r [(0, x5), (0, x4), (0, x3), (2, 1)]) M' Q)) ∧ ((x49 = 26) → Y G d mX11_answer 0 [(2, 1), (0, x3)] [] M (fun r M' => Y G (d + 1) mX11_perform 165 [(2, 1), (2, r1), (0, x2), (0, x3), (0, x4), (0, x5)] (zpush r []) M' Q)) ∧ ((x49 = 27) → Y G d mX11_askNow 0 [(2, 1), (0, x3), (0, x4)] [] M (fun r M' => Y G (d + 1) mX11_perform 173 [(2, 1), (2, r1), (0, x2), (0, x3), (0, x4), (0, x5)] (zpush r []) M' Q)) ∧ ((x49 < 20 ∨ 27 < x49) → Y G d mX6_holdMorning 0 [(2, 157), (0, (-1)), (2, 19), (9, 0), (9, 0), (9, 0), (9, 0), (9, 0), (9, 0)] [] M (fun r M' => Y G (d + 1) mX11_perform 195 [(2, 1), (2, r1), (0, x2), (0, x3), (0, x4), (0, x5)] (zpush r []) M' Q)))) :
    Y G (d + 1) mX11_perform 28 [(2, 1), (2, r1), (0, x2), (0, x3), (0, x4), (0, x5)] [(0, x49)] M Q := by
  rcases (show x49 < 20 ∨ 27 < x49 ∨ x49 = 20 ∨ x49 = 21 ∨ x49 = 22 ∨ x49 = 23 ∨ x49 = 24 ∨ x49 = 25 ∨ x49 = 26 ∨ x49 = 27 by omega) with q | q | q | q | q | q | q | q | q | q
  · replace h := h.2.2.2.2.2.2.2.2 (Or.inl q)
    refine z_tswOut (tgt := 183) dX11_perform_28 (Or.inl q) rfl ?_
    refine z_aloadn dX11_perform_183 rfl (Or.inl rfl) ?_
    refine y_getr (v := 157) hG dX11_perform_184 fX11_39 sh1 (by decide) rfl (by decide +kernel) (by decide) ?_
    refine z_iconst dX11_perform_187 ki_m1 ?_
    refine z_aloadn dX11_perform_188 rfl (Or.inl rfl) ?_
    refine y_getr (v := 19) hG dX11_perform_189 fX11_32 sh1 (by decide) rfl (by decide +kernel) (by decide) ?_
    refine y_cv (mt2 := mX6_holdMorning) (en := [(2, 157), (0, (-1)), (2, 19), (9, 0), (9, 0), (9, 0), (9, 0), (9, 0), (9, 0)]) (st := []) (as := [(0, (-1)), (2, 19)]) dX11_perform_192 lX11_172 kX6_holdMorning iX6_holdMorning eX6_holdMorning rfl sh157 (by decide +kernel) (Nat.le_of_ble_eq_true rfl) (Nat.le_of_ble_eq_true rfl) rfl ?_
    exact h
  · replace h := h.2.2.2.2.2.2.2.2 (Or.inr q)
    refine z_tswOut (tgt := 183) dX11_perform_28 (Or.inr q) rfl ?_
    refine z_aloadn dX11_perform_183 rfl (Or.inl rfl) ?_
    refine y_getr (v := 157) hG dX11_perform_184 fX11_39 sh1 (by decide) rfl (by decide +kernel) (by decide) ?_
    refine z_iconst dX11_perform_187 ki_m1 ?_
    refine z_aloadn dX11_perform_188 rfl (Or.inl rfl) ?_
    refine y_getr (v := 19) hG dX11_perform_189 fX11_32 sh1 (by decide) rfl (by decide +kernel) (by decide) ?_
    refine y_cv (mt2 := mX6_holdMorning) (en := [(2, 157), (0, (-1)), (2, 19), (9, 0), (9, 0), (9, 0), (9, 0), (9, 0), (9, 0)]) (st := []) (as := [(0, (-1)), (2, 19)]) dX11_perform_192 lX11_172 kX6_holdMorning iX6_holdMorning eX6_holdMorning rfl sh157 (by decide +kernel) (Nat.le_of_ble_eq_true rfl) (Nat.le_of_ble_eq_true rfl) rfl ?_
    exact h
  · replace h := h.1 q
    refine y_tsw (tgt := 76) (k := 20) dX11_perform_28 q (by decide) rfl rfl ?_
    refine z_aloadn dX11_perform_76 rfl (Or.inl rfl) ?_
    refine y_getr (v := 19) hG dX11_perform_77 fX11_32 sh1 (by decide) rfl (by decide +kernel) (by decide) ?_
    refine z_aloadn dX11_perform_80 rfl (Or.inl rfl) ?_
    refine z_iloadn dX11_perform_81 rfl ?_
    refine y_cv (mt2 := mX3_add) (en := [(2, 19), (2, r1), (0, x2)]) (st := []) (as := [(2, r1), (0, x2)]) dX11_perform_82 lX11_145 kX3_add iX3_add eX3_add rfl sh19 (by decide +kernel) (Nat.le_of_ble_eq_true rfl) (Nat.le_of_ble_eq_true rfl) rfl ?_
    exact h
  · replace h := h.2.1 q
    refine y_tsw (tgt := 86) (k := 21) dX11_perform_28 q (by decide) rfl rfl ?_
    refine z_aloadn dX11_perform_86 rfl (Or.inl rfl) ?_
    refine z_iloadn dX11_perform_87 rfl ?_
    refine z_iload dX11_perform_88 rfl ?_
    refine y_cv (mt2 := mX11_thing) (en := [(2, 1), (0, x3), (0, x4)]) (st := []) (as := [(0, x3), (0, x4)]) dX11_perform_90 lX11_148 kX11_thing iX11_thing eX11_thing rfl sh1 (by decide +kernel) (Nat.le_of_ble_eq_true rfl) (Nat.le_of_ble_eq_true rfl) rfl ?_
    exact h
  · replace h := h.2.2.1 q
    refine y_tsw (tgt := 94) (k := 22) dX11_perform_28 q (by decide) rfl rfl ?_
    refine z_aloadn dX11_perform_94 rfl (Or.inl rfl) ?_
    refine z_iloadn dX11_perform_95 rfl ?_
    refine z_iload dX11_perform_96 rfl ?_
    refine z_iload dX11_perform_98 rfl ?_
    refine y_cv (mt2 := mX11_person) (en := [(2, 1), (0, x3), (0, x4), (0, x5)]) (st := []) (as := [(0, x3), (0, x4), (0, x5)]) dX11_perform_100 lX11_152 kX11_person iX11_person eX11_person rfl sh1 (by decide +kernel) (Nat.le_of_ble_eq_true rfl) (Nat.le_of_ble_eq_true rfl) rfl ?_
    exact h
  · replace h := h.2.2.2.1 q
    refine y_tsw (tgt := 113) (k := 23) dX11_perform_28 q (by decide) rfl rfl ?_
    refine z_aloadn dX11_perform_113 rfl (Or.inl rfl) ?_
    refine z_iloadn dX11_perform_114 rfl ?_
    refine z_iload dX11_perform_115 rfl ?_
    refine z_iload dX11_perform_117 rfl ?_
    refine y_cv (mt2 := mX11_road) (en := [(2, 1), (0, x3), (0, x4), (0, x5)]) (st := []) (as := [(0, x3), (0, x4), (0, x5)]) dX11_perform_119 lX11_155 kX11_road iX11_road eX11_road rfl sh1 (by decide +kernel) (Nat.le_of_ble_eq_true rfl) (Nat.le_of_ble_eq_true rfl) rfl ?_
    exact h
  · replace h := h.2.2.2.2.1 q
    refine y_tsw (tgt := 123) (k := 24) dX11_perform_28 q (by decide) rfl rfl ?_
    refine z_aloadn dX11_perform_123 rfl (Or.inl rfl) ?_
    refine z_iloadn dX11_perform_124 rfl ?_
    refine y_cv (mt2 := mX11_equalities) (en := [(2, 1), (0, x3)]) (st := []) (as := [(0, x3)]) dX11_perform_125 lX11_158 kX11_equalities iX11_equalities eX11_equalities rfl sh1 (by decide +kernel) (Nat.le_of_ble_eq_true rfl) (Nat.le_of_ble_eq_true rfl) rfl ?_
    exact h
  · replace h := h.2.2.2.2.2.1 q
    refine y_tsw (tgt := 129) (k := 25) dX11_perform_28 q (by decide) rfl rfl ?_
    refine z_aloadn dX11_perform_129 rfl (Or.inl rfl) ?_
    refine z_iloadn dX11_perform_130 rfl ?_
    refine z_iload dX11_perform_131 rfl ?_
    refine z_iload dX11_perform_133 rfl ?_
    refine z_aloadn dX11_perform_135 rfl (Or.inl rfl) ?_
    refine z_iloadn dX11_perform_136 rfl ?_
    refine z_iconst dX11_perform_137 ki_3 ?_
    refine y_cv (mt2 := mX7_partOf) (en := [(2, r1), (0, x2), (0, 3), (9, 0)]) (st := [(0, x5), (0, x4), (0, x3), (2, 1)]) (as := [(0, x2), (0, 3)]) dX11_perform_138 lX11_142 kX7_partOf iX7_partOf eX7_partOf rfl (sc_0 hr1) (by decide +kernel) (Nat.le_of_ble_eq_true rfl) (Nat.le_of_ble_eq_true rfl) rfl ?_
    exact h
  · replace h := h.2.2.2.2.2.2.1 q
    refine y_tsw (tgt := 160) (k := 26) dX11_perform_28 q (by decide) rfl rfl ?_
    refine z_aloadn dX11_perform_160 rfl (Or.inl rfl) ?_
    refine z_iloadn dX11_perform_161 rfl ?_
    refine y_cv (mt2 := mX11_answer) (en := [(2, 1), (0, x3)]) (st := []) (as := [(0, x3)]) dX11_perform_162 lX11_166 kX11_answer iX11_answer eX11_answer rfl sh1 (by decide +kernel) (Nat.le_of_ble_eq_true rfl) (Nat.le_of_ble_eq_true rfl) rfl ?_
    exact h
  · replace h := h.2.2.2.2.2.2.2.1 q
    refine y_tsw (tgt := 166) (k := 27) dX11_perform_28 q (by decide) rfl rfl ?_
    refine z_aloadn dX11_perform_166 rfl (Or.inl rfl) ?_
    refine z_iloadn dX11_perform_167 rfl ?_
    refine z_iload dX11_perform_168 rfl ?_
    refine y_cv (mt2 := mX11_askNow) (en := [(2, 1), (0, x3), (0, x4)]) (st := []) (as := [(0, x3), (0, x4)]) dX11_perform_170 lX11_169 kX11_askNow iX11_askNow eX11_askNow rfl sh1 (by decide +kernel) (Nat.le_of_ble_eq_true rfl) (Nat.le_of_ble_eq_true rfl) rfl ?_
    exact h
set_option maxRecDepth 20000 in
set_option maxHeartbeats 4000000 in
theorem bX11_perform_85 {G : zG} {d : Nat} {M : zM} {Q : zV → zM → Prop} (hG : zP G) {r1 x2 x3 x4 x5 x49 : Int} (hr1 : zSC r1)
    (h : (0 ≤ x49 ∧ x49 ≤ 1) ∧ Q (0, x49) M) :
    Y G (d + 1) mX11_perform 85 [(2, 1), (2, r1), (0, x2), (0, x3), (0, x4), (0, x5)] [(0, x49)] M Q := by
  obtain ⟨q1, h⟩ := h
  exact z_ireturn dX11_perform_85 (Or.inr ⟨rfl, q1⟩) rfl h
set_option maxRecDepth 20000 in
set_option maxHeartbeats 4000000 in
theorem bX11_perform_93 {G : zG} {d : Nat} {M : zM} {Q : zV → zM → Prop} (hG : zP G) {r1 x2 x3 x4 x5 x49 : Int} (hr1 : zSC r1)
    (h : (0 ≤ x49 ∧ x49 ≤ 1) ∧ Q (0, x49) M) :
    Y G (d + 1) mX11_perform 93 [(2, 1), (2, r1), (0, x2), (0, x3), (0, x4), (0, x5)] [(0, x49)] M Q := by
  obtain ⟨q1, h⟩ := h
  exact z_ireturn dX11_perform_93 (Or.inr ⟨rfl, q1⟩) rfl h
set_option maxRecDepth 20000 in
set_option maxHeartbeats 4000000 in
theorem bX11_perform_103 {G : zG} {d : Nat} {M : zM} {Q : zV → zM → Prop} (hG : zP G) {r1 x2 x3 x4 x5 x49 : Int} (hr1 : zSC r1)
    (h : ((x49 = (-1) → Q (0, 0) M) ∧ (¬ x49 = (-1) → Q (0, 1) M))) :
    Y G (d + 1) mX11_perform 103 [(2, 1), (2, r1), (0, x2), (0, x3), (0, x4), (0, x5)] [(0, x49)] M Q := by
  refine z_iconst dX11_perform_103 ki_m1 ?_
  refine z_icmpeq (tgt := 111) dX11_perform_104 rfl (fun q => ?_) (fun q => ?_)
  · replace h := h.1 q
    refine z_iconst dX11_perform_111 ki_0 ?_
    exact z_ireturn dX11_perform_112 (Or.inr ⟨rfl, ⟨by decide, by decide⟩⟩) rfl h
  · replace h := h.2 q
    refine z_iconst dX11_perform_107 ki_1 ?_
    refine z_goto (tgt := 112) dX11_perform_108 rfl ?_
    exact z_ireturn dX11_perform_112 (Or.inr ⟨rfl, ⟨by decide, by decide⟩⟩) rfl h
set_option maxRecDepth 20000 in
set_option maxHeartbeats 4000000 in
theorem bX11_perform_122 {G : zG} {d : Nat} {M : zM} {Q : zV → zM → Prop} (hG : zP G) {r1 x2 x3 x4 x5 x49 : Int} (hr1 : zSC r1)
    (h : (0 ≤ x49 ∧ x49 ≤ 1) ∧ Q (0, x49) M) :
    Y G (d + 1) mX11_perform 122 [(2, 1), (2, r1), (0, x2), (0, x3), (0, x4), (0, x5)] [(0, x49)] M Q := by
  obtain ⟨q1, h⟩ := h
  exact z_ireturn dX11_perform_122 (Or.inr ⟨rfl, q1⟩) rfl h
set_option maxRecDepth 20000 in
set_option maxHeartbeats 4000000 in
theorem bX11_perform_128 {G : zG} {d : Nat} {M : zM} {Q : zV → zM → Prop} (hG : zP G) {r1 x2 x3 x4 x5 x49 : Int} (hr1 : zSC r1)
    (h : (0 ≤ x49 ∧ x49 ≤ 1) ∧ Q (0, x49) M) :
    Y G (d + 1) mX11_perform 128 [(2, 1), (2, r1), (0, x2), (0, x3), (0, x4), (0, x5)] [(0, x49)] M Q := by
  obtain ⟨q1, h⟩ := h
  exact z_ireturn dX11_perform_128 (Or.inr ⟨rfl, q1⟩) rfl h
set_option maxRecDepth 20000 in
set_option maxHeartbeats 4000000 in
theorem bX11_perform_141 {G : zG} {d : Nat} {M : zM} {Q : zV → zM → Prop} (hG : zP G) {r1 x2 x3 x4 x5 x49 x50 x51 x52 : Int} (hr1 : zSC r1)
    (h : Y G d mX7_partOf 0 [(2, r1), (0, x2), (0, 4), (9, 0)] [] M (fun r M' => Y G (d + 1) mX11_perform 147 [(2, 1), (2, r1), (0, x2), (0, x3), (0, x4), (0, x5)] (zpush r [(0, x49), (0, x50), (0, x51), (0, x52), (2, 1)]) M' Q)) :
    Y G (d + 1) mX11_perform 141 [(2, 1), (2, r1), (0, x2), (0, x3), (0, x4), (0, x5)] [(0, x49), (0, x50), (0, x51), (0, x52), (2, 1)] M Q := by
  refine z_aloadn dX11_perform_141 rfl (Or.inl rfl) ?_
  refine z_iloadn dX11_perform_142 rfl ?_
  refine z_iconst dX11_perform_143 ki_4 ?_
  refine y_cv (mt2 := mX7_partOf) (en := [(2, r1), (0, x2), (0, 4), (9, 0)]) (st := [(0, x49), (0, x50), (0, x51), (0, x52), (2, 1)]) (as := [(0, x2), (0, 4)]) dX11_perform_144 lX11_142 kX7_partOf iX7_partOf eX7_partOf rfl (sc_0 hr1) (by decide +kernel) (Nat.le_of_ble_eq_true rfl) (Nat.le_of_ble_eq_true rfl) rfl ?_
  exact h
set_option maxRecDepth 20000 in
set_option maxHeartbeats 4000000 in
theorem bX11_perform_165 {G : zG} {d : Nat} {M : zM} {Q : zV → zM → Prop} (hG : zP G) {r1 x2 x3 x4 x5 x49 : Int} (hr1 : zSC r1)
    (h : (0 ≤ x49 ∧ x49 ≤ 1) ∧ Q (0, x49) M) :
    Y G (d + 1) mX11_perform 165 [(2, 1), (2, r1), (0, x2), (0, x3), (0, x4), (0, x5)] [(0, x49)] M Q := by
  obtain ⟨q1, h⟩ := h
  exact z_ireturn dX11_perform_165 (Or.inr ⟨rfl, q1⟩) rfl h
set_option maxRecDepth 20000 in
set_option maxHeartbeats 4000000 in
theorem bX11_perform_173 {G : zG} {d : Nat} {M : zM} {Q : zV → zM → Prop} (hG : zP G) {r1 x2 x3 x4 x5 x49 : Int} (hr1 : zSC r1)
    (h : ((x49 = (-1) → Q (0, 0) M) ∧ (¬ x49 = (-1) → Q (0, 1) M))) :
    Y G (d + 1) mX11_perform 173 [(2, 1), (2, r1), (0, x2), (0, x3), (0, x4), (0, x5)] [(0, x49)] M Q := by
  refine z_iconst dX11_perform_173 ki_m1 ?_
  refine z_icmpeq (tgt := 181) dX11_perform_174 rfl (fun q => ?_) (fun q => ?_)
  · replace h := h.1 q
    refine z_iconst dX11_perform_181 ki_0 ?_
    exact z_ireturn dX11_perform_182 (Or.inr ⟨rfl, ⟨by decide, by decide⟩⟩) rfl h
  · replace h := h.2 q
    refine z_iconst dX11_perform_177 ki_1 ?_
    refine z_goto (tgt := 182) dX11_perform_178 rfl ?_
    exact z_ireturn dX11_perform_182 (Or.inr ⟨rfl, ⟨by decide, by decide⟩⟩) rfl h
set_option maxRecDepth 20000 in
set_option maxHeartbeats 4000000 in
theorem bX11_perform_195 {G : zG} {d : Nat} {M : zM} {Q : zV → zM → Prop} (hG : zP G) {r1 x2 x3 x4 x5 x49 : Int} (hr1 : zSC r1)
    (h : ((x49 < 0 → Q (0, 0) M) ∧ (0 ≤ x49 → Q (0, 1) M))) :
    Y G (d + 1) mX11_perform 195 [(2, 1), (2, r1), (0, x2), (0, x3), (0, x4), (0, x5)] [(0, x49)] M Q := by
  refine z_iflt (tgt := 202) dX11_perform_195 rfl (fun q => ?_) (fun q => ?_)
  · replace h := h.1 q
    refine z_iconst dX11_perform_202 ki_0 ?_
    exact z_ireturn dX11_perform_203 (Or.inr ⟨rfl, ⟨by decide, by decide⟩⟩) rfl h
  · replace h := h.2 q
    refine z_iconst dX11_perform_198 ki_1 ?_
    refine z_goto (tgt := 203) dX11_perform_199 rfl ?_
    exact z_ireturn dX11_perform_203 (Or.inr ⟨rfl, ⟨by decide, by decide⟩⟩) rfl h
set_option maxRecDepth 20000 in
set_option maxHeartbeats 4000000 in
theorem bX11_perform_147 {G : zG} {d : Nat} {M : zM} {Q : zV → zM → Prop} (hG : zP G) {r1 x2 x3 x4 x5 x49 x50 x51 x52 x53 : Int} (hr1 : zSC r1)
    (h : Y G d mX11_pupil 0 [(2, 1), (0, x53), (0, x52), (0, x51), (0, x50), (0, x49), (9, 0)] [] M (fun r M' => Y G (d + 1) mX11_perform 150 [(2, 1), (2, r1), (0, x2), (0, x3), (0, x4), (0, x5)] (zpush r []) M' Q)) :
    Y G (d + 1) mX11_perform 147 [(2, 1), (2, r1), (0, x2), (0, x3), (0, x4), (0, x5)] [(0, x49), (0, x50), (0, x51), (0, x52), (0, x53), (2, 1)] M Q := by
  refine y_cv (mt2 := mX11_pupil) (en := [(2, 1), (0, x53), (0, x52), (0, x51), (0, x50), (0, x49), (9, 0)]) (st := []) (as := [(0, x53), (0, x52), (0, x51), (0, x50), (0, x49)]) dX11_perform_147 lX11_162 kX11_pupil iX11_pupil eX11_pupil rfl sh1 (by decide +kernel) (Nat.le_of_ble_eq_true rfl) (Nat.le_of_ble_eq_true rfl) rfl ?_
  exact h
set_option maxRecDepth 20000 in
set_option maxHeartbeats 4000000 in
theorem bX11_perform_150 {G : zG} {d : Nat} {M : zM} {Q : zV → zM → Prop} (hG : zP G) {r1 x2 x3 x4 x5 x49 : Int} (hr1 : zSC r1)
    (h : ((x49 = (-1) → Q (0, 0) M) ∧ (¬ x49 = (-1) → Q (0, 1) M))) :
    Y G (d + 1) mX11_perform 150 [(2, 1), (2, r1), (0, x2), (0, x3), (0, x4), (0, x5)] [(0, x49)] M Q := by
  refine z_iconst dX11_perform_150 ki_m1 ?_
  refine z_icmpeq (tgt := 158) dX11_perform_151 rfl (fun q => ?_) (fun q => ?_)
  · replace h := h.1 q
    refine z_iconst dX11_perform_158 ki_0 ?_
    exact z_ireturn dX11_perform_159 (Or.inr ⟨rfl, ⟨by decide, by decide⟩⟩) rfl h
  · replace h := h.2 q
    refine z_iconst dX11_perform_154 ki_1 ?_
    refine z_goto (tgt := 159) dX11_perform_155 rfl ?_
    exact z_ireturn dX11_perform_159 (Or.inr ⟨rfl, ⟨by decide, by decide⟩⟩) rfl h
set_option maxRecDepth 20000 in
set_option maxHeartbeats 4000000 in
theorem bX11_equalities_0 {G : zG} {d : Nat} {M : zM} {Q : zV → zM → Prop} (hG : zP G) {x1 : Int}
    (h : ((0 ≤ x1 ∧ x1 ≤ 255 → Q (0, 1) (zset (zset M 19 9 x1) 19 13 0)) ∧ (¬ (0 ≤ x1 ∧ x1 ≤ 255) → Q (0, 0) M))) :
    Y G (d + 1) mX11_equalities 0 [(2, 1), (0, x1)] [] M Q := by
  refine z_iloadn dX11_equalities_0 rfl ?_
  refine z_iconst dX11_equalities_1 ki_0 ?_
  refine z_sipush dX11_equalities_2 ks_255 ?_
  refine y_cs (mt2 := mX11_within) (en := [(0, x1), (0, 0), (0, 255)]) (st := []) (as := [(0, x1), (0, 0), (0, 255)]) dX11_equalities_5 lX11_72 kX11_within tX11_within rfl (Nat.le_of_ble_eq_true rfl) (Nat.le_of_ble_eq_true rfl) rfl (s_within hG (fun q => ?_) (fun q => ?_))
  · replace h := h.1 q
    show Y G (d + 1) mX11_equalities 8 [(2, 1), (0, x1)] [(0, 1)] M Q
    refine z_ifne (tgt := 13) dX11_equalities_8 rfl (fun _ => ?_) (fun q => absurd q (by decide))
    refine z_aloadn dX11_equalities_13 rfl (Or.inl rfl) ?_
    refine y_getr (v := 19) hG dX11_equalities_14 fX11_32 sh1 (by decide) rfl (by decide +kernel) (by decide) ?_
    refine z_iloadn dX11_equalities_17 rfl ?_
    refine y_cv (mt2 := mX3_setEqualities) (en := [(2, 19), (0, x1)]) (st := []) (as := [(0, x1)]) dX11_equalities_18 lX11_176 kX3_setEqualities iX3_setEqualities eX3_setEqualities rfl sh19 (by decide +kernel) (Nat.le_of_ble_eq_true rfl) (Nat.le_of_ble_eq_true rfl) rfl (s_setEqualities hG ?_)
    show Y G (d + 1) mX11_equalities 21 [(2, 1), (0, x1)] [] (zset (zset M 19 9 x1) 19 13 0) Q
    refine z_iconst dX11_equalities_21 ki_1 ?_
    exact z_ireturn dX11_equalities_22 (Or.inr ⟨rfl, ⟨by decide, by decide⟩⟩) rfl h
  · replace h := h.2 q
    show Y G (d + 1) mX11_equalities 8 [(2, 1), (0, x1)] [(0, 0)] M Q
    refine z_ifne (tgt := 13) dX11_equalities_8 rfl (fun q => absurd q (by decide)) (fun _ => ?_)
    refine z_iconst dX11_equalities_11 ki_0 ?_
    exact z_ireturn dX11_equalities_12 (Or.inr ⟨rfl, ⟨by decide, by decide⟩⟩) rfl h
set_option maxRecDepth 20000 in
set_option maxHeartbeats 4000000 in
theorem bX11_of_0 {G : zG} {d : Nat} {M : zM} {Q : zV → zM → Prop} (hG : zP G) {x1 x2 : Int}
    (h : (-1000 ≤ (M 19 8) ∧ (M 19 8) ≤ 1000) ∧ ((0 ≤ x1 ∧ x1 < (M 19 8) → (((x2 = 0) → Y G (d + 1) mX3_answerIn 0 [(2, 19), (0, x1), (2, 2), (2, 3), (9, 0)] [] M (fun r M' => Y G (d + 2) mX11_of 67 [(2, 1), (0, x1), (0, x2)] (zpush r []) M' Q)) ∧ ((x2 = 1) → (0 ≤ x1 ∧ x1 < 12) ∧ Q (0, (M 23 x1)) M) ∧ ((x2 = 2) → (0 ≤ x1 ∧ x1 < 12) ∧ Q (0, (M 24 x1)) M) ∧ ((x2 = 3) → (0 ≤ x1 ∧ x1 < 12) ∧ Q (0, (M 25 x1)) M) ∧ ((x2 = 4) → (0 ≤ x1 ∧ x1 < 12) ∧ Q (0, (M 26 x1)) M) ∧ ((x2 < 0 ∨ 4 < x2) → Q (0, (-2000000)) M))) ∧ (¬ (0 ≤ x1 ∧ x1 < (M 19 8)) → Q (0, (-2000000)) M))) :
    Y G (d + 2) mX11_of 0 [(2, 1), (0, x1), (0, x2)] [] M Q := by
  refine z_aloadn dX11_of_0 rfl (Or.inl rfl) ?_
  refine z_iloadn dX11_of_1 rfl ?_
  obtain ⟨q1, h⟩ := h
  refine y_cv (mt2 := mX11_isQuestion) (en := [(2, 1), (0, x1)]) (st := []) (as := [(0, x1)]) dX11_of_2 lX11_179 kX11_isQuestion iX11_isQuestion eX11_isQuestion rfl sh1 (by decide +kernel) (Nat.le_of_ble_eq_true rfl) (Nat.le_of_ble_eq_true rfl) rfl (s_isQuestion hG rfl q1 (fun q => ?_) (fun q => ?_))
  · replace h := h.1 q
    show Y G (d + 2) mX11_of 5 [(2, 1), (0, x1), (0, x2)] [(0, 1)] M Q
    refine z_ifne (tgt := 11) dX11_of_5 rfl (fun _ => ?_) (fun q => absurd q (by decide))
    refine z_iloadn dX11_of_11 rfl ?_
    rcases (show x2 < 0 ∨ 4 < x2 ∨ x2 = 0 ∨ x2 = 1 ∨ x2 = 2 ∨ x2 = 3 ∨ x2 = 4 by omega) with q | q | q | q | q | q | q
    · replace h := h.2.2.2.2.2 (Or.inl q)
      refine z_tswOut (tgt := 108) dX11_of_12 (Or.inl q) rfl ?_
      refine z_ldc (k := (-2000000)) (v := (-2000000)) dX11_of_108 ⟨by decide, ⟨by decide, by decide⟩⟩ qX11_182 ?_
      exact z_ireturn dX11_of_110 (Or.inl rfl) rfl h
    · replace h := h.2.2.2.2.2 (Or.inr q)
      refine z_tswOut (tgt := 108) dX11_of_12 (Or.inr q) rfl ?_
      refine z_ldc (k := (-2000000)) (v := (-2000000)) dX11_of_108 ⟨by decide, ⟨by decide, by decide⟩⟩ qX11_182 ?_
      exact z_ireturn dX11_of_110 (Or.inl rfl) rfl h
    · replace h := h.1 q
      refine y_tsw (tgt := 48) (k := 0) dX11_of_12 q (by decide) rfl rfl ?_
      refine z_aloadn dX11_of_48 rfl (Or.inl rfl) ?_
      refine y_getr (v := 19) hG dX11_of_49 fX11_32 sh1 (by decide) rfl (by decide +kernel) (by decide) ?_
      refine z_iloadn dX11_of_52 rfl ?_
      refine z_aloadn dX11_of_53 rfl (Or.inl rfl) ?_
      refine y_getr (v := 2) hG dX11_of_54 fX11_10 sh1 (by decide) rfl (by decide +kernel) (by decide) ?_
      refine z_aloadn dX11_of_57 rfl (Or.inl rfl) ?_
      refine y_getr (v := 2) hG dX11_of_58 fX11_10 sh1 (by decide) rfl (by decide +kernel) (by decide) ?_
      refine y_getr (v := 3) hG dX11_of_61 fX11_76 sh2 (by decide) rfl (by decide +kernel) (by decide) ?_
      refine y_cv (mt2 := mX3_answerIn) (en := [(2, 19), (0, x1), (2, 2), (2, 3), (9, 0)]) (st := []) (as := [(0, x1), (2, 2), (2, 3)]) dX11_of_64 lX11_183 kX3_answerIn iX3_answerIn eX3_answerIn rfl sh19 (by decide +kernel) (Nat.le_of_ble_eq_true rfl) (Nat.le_of_ble_eq_true rfl) rfl ?_
      exact h
    · replace h := h.2.1 q
      refine y_tsw (tgt := 68) (k := 1) dX11_of_12 q (by decide) rfl rfl ?_
      refine z_aloadn dX11_of_68 rfl (Or.inl rfl) ?_
      refine y_getr (v := 19) hG dX11_of_69 fX11_32 sh1 (by decide) rfl (by decide +kernel) (by decide) ?_
      refine y_getr (v := 23) hG dX11_of_72 fX11_187 sh19 (by decide) rfl (by decide +kernel) (by decide) ?_
      refine z_iloadn dX11_of_75 rfl ?_
      obtain ⟨q2, h⟩ := h
      refine y_iald (x := (M 23 x1)) dX11_of_76 sh23 q2 rfl ?_
      exact z_ireturn dX11_of_77 (Or.inl rfl) rfl h
    · replace h := h.2.2.1 q
      refine y_tsw (tgt := 78) (k := 2) dX11_of_12 q (by decide) rfl rfl ?_
      refine z_aloadn dX11_of_78 rfl (Or.inl rfl) ?_
      refine y_getr (v := 19) hG dX11_of_79 fX11_32 sh1 (by decide) rfl (by decide +kernel) (by decide) ?_
      refine y_getr (v := 24) hG dX11_of_82 fX11_190 sh19 (by decide) rfl (by decide +kernel) (by decide) ?_
      refine z_iloadn dX11_of_85 rfl ?_
      obtain ⟨q3, h⟩ := h
      refine y_iald (x := (M 24 x1)) dX11_of_86 sh24 q3 rfl ?_
      exact z_ireturn dX11_of_87 (Or.inl rfl) rfl h
    · replace h := h.2.2.2.1 q
      refine y_tsw (tgt := 88) (k := 3) dX11_of_12 q (by decide) rfl rfl ?_
      refine z_aloadn dX11_of_88 rfl (Or.inl rfl) ?_
      refine y_getr (v := 19) hG dX11_of_89 fX11_32 sh1 (by decide) rfl (by decide +kernel) (by decide) ?_
      refine y_getr (v := 25) hG dX11_of_92 fX11_193 sh19 (by decide) rfl (by decide +kernel) (by decide) ?_
      refine z_iloadn dX11_of_95 rfl ?_
      obtain ⟨q4, h⟩ := h
      refine y_iald (x := (M 25 x1)) dX11_of_96 sh25 q4 rfl ?_
      exact z_ireturn dX11_of_97 (Or.inl rfl) rfl h
    · replace h := h.2.2.2.2.1 q
      refine y_tsw (tgt := 98) (k := 4) dX11_of_12 q (by decide) rfl rfl ?_
      refine z_aloadn dX11_of_98 rfl (Or.inl rfl) ?_
      refine y_getr (v := 19) hG dX11_of_99 fX11_32 sh1 (by decide) rfl (by decide +kernel) (by decide) ?_
      refine y_getr (v := 26) hG dX11_of_102 fX11_196 sh19 (by decide) rfl (by decide +kernel) (by decide) ?_
      refine z_iloadn dX11_of_105 rfl ?_
      obtain ⟨q5, h⟩ := h
      refine y_iald (x := (M 26 x1)) dX11_of_106 sh26 q5 rfl ?_
      exact z_ireturn dX11_of_107 (Or.inl rfl) rfl h
  · replace h := h.2 q
    show Y G (d + 2) mX11_of 5 [(2, 1), (0, x1), (0, x2)] [(0, 0)] M Q
    refine z_ifne (tgt := 11) dX11_of_5 rfl (fun q => absurd q (by decide)) (fun _ => ?_)
    refine z_ldc (k := (-2000000)) (v := (-2000000)) dX11_of_8 ⟨by decide, ⟨by decide, by decide⟩⟩ qX11_182 ?_
    exact z_ireturn dX11_of_10 (Or.inl rfl) rfl h
set_option maxRecDepth 20000 in
set_option maxHeartbeats 4000000 in
theorem bX11_of_67 {G : zG} {d : Nat} {M : zM} {Q : zV → zM → Prop} (hG : zP G) {x1 x2 x49 : Int}
    (h : Q (0, x49) M) :
    Y G (d + 2) mX11_of 67 [(2, 1), (0, x1), (0, x2)] [(0, x49)] M Q := by
  exact z_ireturn dX11_of_67 (Or.inl rfl) rfl h
set_option maxRecDepth 20000 in
set_option maxHeartbeats 4000000 in
theorem bX11_alike_0 {G : zG} {d : Nat} {M : zM} {Q : zV → zM → Prop} (hG : zP G) {x1 x2 : Int}
    (h : (-1000 ≤ (M 19 8) ∧ (M 19 8) ≤ 1000) ∧ ((0 ≤ x1 ∧ x1 < (M 19 8) → (-1000 ≤ (M 19 8) ∧ (M 19 8) ≤ 1000) ∧ ((0 ≤ x2 ∧ x2 < (M 19 8) → Y G (d + 1) mX11_takeStock 0 [(2, 1)] [] M (fun r M' => Y G (d + 2) mX11_alike 22 [(2, 1), (0, x1), (0, x2)] (zpush r []) M' Q)) ∧ (¬ (0 ≤ x2 ∧ x2 < (M 19 8)) → Q (0, (-1)) M))) ∧ (¬ (0 ≤ x1 ∧ x1 < (M 19 8)) → Q (0, (-1)) M))) :
    Y G (d + 2) mX11_alike 0 [(2, 1), (0, x1), (0, x2)] [] M Q := by
  refine z_aloadn dX11_alike_0 rfl (Or.inl rfl) ?_
  refine z_iloadn dX11_alike_1 rfl ?_
  obtain ⟨q1, h⟩ := h
  refine y_cv (mt2 := mX11_isQuestion) (en := [(2, 1), (0, x1)]) (st := []) (as := [(0, x1)]) dX11_alike_2 lX11_179 kX11_isQuestion iX11_isQuestion eX11_isQuestion rfl sh1 (by decide +kernel) (Nat.le_of_ble_eq_true rfl) (Nat.le_of_ble_eq_true rfl) rfl (s_isQuestion hG rfl q1 (fun q => ?_) (fun q => ?_))
  · replace h := h.1 q
    show Y G (d + 2) mX11_alike 5 [(2, 1), (0, x1), (0, x2)] [(0, 1)] M Q
    refine z_ifeq (tgt := 16) dX11_alike_5 rfl (fun q => absurd q (by decide)) (fun _ => ?_)
    refine z_aloadn dX11_alike_8 rfl (Or.inl rfl) ?_
    refine z_iloadn dX11_alike_9 rfl ?_
    obtain ⟨q2, h⟩ := h
    refine y_cv (mt2 := mX11_isQuestion) (en := [(2, 1), (0, x2)]) (st := []) (as := [(0, x2)]) dX11_alike_10 lX11_179 kX11_isQuestion iX11_isQuestion eX11_isQuestion rfl sh1 (by decide +kernel) (Nat.le_of_ble_eq_true rfl) (Nat.le_of_ble_eq_true rfl) rfl (s_isQuestion hG rfl q2 (fun q => ?_) (fun q => ?_))
    · replace h := h.1 q
      show Y G (d + 2) mX11_alike 13 [(2, 1), (0, x1), (0, x2)] [(0, 1)] M Q
      refine z_ifne (tgt := 18) dX11_alike_13 rfl (fun _ => ?_) (fun q => absurd q (by decide))
      refine z_aloadn dX11_alike_18 rfl (Or.inl rfl) ?_
      refine y_cv (mt2 := mX11_takeStock) (en := [(2, 1)]) (st := []) (as := []) dX11_alike_19 lX11_135 kX11_takeStock iX11_takeStock eX11_takeStock rfl sh1 (by decide +kernel) (Nat.le_of_ble_eq_true rfl) (Nat.le_of_ble_eq_true rfl) rfl ?_
      exact h
    · replace h := h.2 q
      show Y G (d + 2) mX11_alike 13 [(2, 1), (0, x1), (0, x2)] [(0, 0)] M Q
      refine z_ifne (tgt := 18) dX11_alike_13 rfl (fun q => absurd q (by decide)) (fun _ => ?_)
      refine z_iconst dX11_alike_16 ki_m1 ?_
      exact z_ireturn dX11_alike_17 (Or.inl rfl) rfl h
  · replace h := h.2 q
    show Y G (d + 2) mX11_alike 5 [(2, 1), (0, x1), (0, x2)] [(0, 0)] M Q
    refine z_ifeq (tgt := 16) dX11_alike_5 rfl (fun _ => ?_) (fun q => absurd q (by decide))
    refine z_iconst dX11_alike_16 ki_m1 ?_
    exact z_ireturn dX11_alike_17 (Or.inl rfl) rfl h
set_option maxRecDepth 20000 in
set_option maxHeartbeats 4000000 in
theorem bX11_alike_22 {G : zG} {d : Nat} {M : zM} {Q : zV → zM → Prop} (hG : zP G) {x1 x2 : Int}
    (h : Y G (d + 1) mX3_areAlike 0 [(2, 19), (0, x1), (0, x2)] [] M (fun r M' => Y G (d + 2) mX11_alike 31 [(2, 1), (0, x1), (0, x2)] (zpush r []) M' Q)) :
    Y G (d + 2) mX11_alike 22 [(2, 1), (0, x1), (0, x2)] [] M Q := by
  refine z_aloadn dX11_alike_22 rfl (Or.inl rfl) ?_
  refine y_getr (v := 19) hG dX11_alike_23 fX11_32 sh1 (by decide) rfl (by decide +kernel) (by decide) ?_
  refine z_iloadn dX11_alike_26 rfl ?_
  refine z_iloadn dX11_alike_27 rfl ?_
  refine y_cv (mt2 := mX3_areAlike) (en := [(2, 19), (0, x1), (0, x2)]) (st := []) (as := [(0, x1), (0, x2)]) dX11_alike_28 lX11_199 kX3_areAlike iX3_areAlike eX3_areAlike rfl sh19 (by decide +kernel) (Nat.le_of_ble_eq_true rfl) (Nat.le_of_ble_eq_true rfl) rfl ?_
  exact h
set_option maxRecDepth 20000 in
set_option maxHeartbeats 4000000 in
theorem bX11_alike_31 {G : zG} {d : Nat} {M : zM} {Q : zV → zM → Prop} (hG : zP G) {x1 x2 x49 : Int}
    (h : ((x49 = 0 → Q (0, 0) M) ∧ (¬ x49 = 0 → Q (0, 1) M))) :
    Y G (d + 2) mX11_alike 31 [(2, 1), (0, x1), (0, x2)] [(0, x49)] M Q := by
  refine z_ifeq (tgt := 38) dX11_alike_31 rfl (fun q => ?_) (fun q => ?_)
  · replace h := h.1 q
    refine z_iconst dX11_alike_38 ki_0 ?_
    exact z_ireturn dX11_alike_39 (Or.inl rfl) rfl h
  · replace h := h.2 q
    refine z_iconst dX11_alike_34 ki_1 ?_
    refine z_goto (tgt := 39) dX11_alike_35 rfl ?_
    exact z_ireturn dX11_alike_39 (Or.inl rfl) rfl h
set_option maxRecDepth 20000 in
set_option maxHeartbeats 4000000 in
theorem bX11_nearly_0 {G : zG} {d : Nat} {M : zM} {Q : zV → zM → Prop} (hG : zP G) {x1 x2 : Int}
    (h : (-1000 ≤ (M 19 8) ∧ (M 19 8) ≤ 1000) ∧ ((0 ≤ x1 ∧ x1 < (M 19 8) → (-1000 ≤ (M 19 8) ∧ (M 19 8) ≤ 1000) ∧ ((0 ≤ x2 ∧ x2 < (M 19 8) → Y G (d + 1) mX11_takeStock 0 [(2, 1)] [] M (fun r M' => Y G (d + 2) mX11_nearly 22 [(2, 1), (0, x1), (0, x2)] (zpush r []) M' Q)) ∧ (¬ (0 ≤ x2 ∧ x2 < (M 19 8)) → Q (0, (-1)) M))) ∧ (¬ (0 ≤ x1 ∧ x1 < (M 19 8)) → Q (0, (-1)) M))) :
    Y G (d + 2) mX11_nearly 0 [(2, 1), (0, x1), (0, x2)] [] M Q := by
  refine z_aloadn dX11_nearly_0 rfl (Or.inl rfl) ?_
  refine z_iloadn dX11_nearly_1 rfl ?_
  obtain ⟨q1, h⟩ := h
  refine y_cv (mt2 := mX11_isQuestion) (en := [(2, 1), (0, x1)]) (st := []) (as := [(0, x1)]) dX11_nearly_2 lX11_179 kX11_isQuestion iX11_isQuestion eX11_isQuestion rfl sh1 (by decide +kernel) (Nat.le_of_ble_eq_true rfl) (Nat.le_of_ble_eq_true rfl) rfl (s_isQuestion hG rfl q1 (fun q => ?_) (fun q => ?_))
  · replace h := h.1 q
    show Y G (d + 2) mX11_nearly 5 [(2, 1), (0, x1), (0, x2)] [(0, 1)] M Q
    refine z_ifeq (tgt := 16) dX11_nearly_5 rfl (fun q => absurd q (by decide)) (fun _ => ?_)
    refine z_aloadn dX11_nearly_8 rfl (Or.inl rfl) ?_
    refine z_iloadn dX11_nearly_9 rfl ?_
    obtain ⟨q2, h⟩ := h
    refine y_cv (mt2 := mX11_isQuestion) (en := [(2, 1), (0, x2)]) (st := []) (as := [(0, x2)]) dX11_nearly_10 lX11_179 kX11_isQuestion iX11_isQuestion eX11_isQuestion rfl sh1 (by decide +kernel) (Nat.le_of_ble_eq_true rfl) (Nat.le_of_ble_eq_true rfl) rfl (s_isQuestion hG rfl q2 (fun q => ?_) (fun q => ?_))
    · replace h := h.1 q
      show Y G (d + 2) mX11_nearly 13 [(2, 1), (0, x1), (0, x2)] [(0, 1)] M Q
      refine z_ifne (tgt := 18) dX11_nearly_13 rfl (fun _ => ?_) (fun q => absurd q (by decide))
      refine z_aloadn dX11_nearly_18 rfl (Or.inl rfl) ?_
      refine y_cv (mt2 := mX11_takeStock) (en := [(2, 1)]) (st := []) (as := []) dX11_nearly_19 lX11_135 kX11_takeStock iX11_takeStock eX11_takeStock rfl sh1 (by decide +kernel) (Nat.le_of_ble_eq_true rfl) (Nat.le_of_ble_eq_true rfl) rfl ?_
      exact h
    · replace h := h.2 q
      show Y G (d + 2) mX11_nearly 13 [(2, 1), (0, x1), (0, x2)] [(0, 0)] M Q
      refine z_ifne (tgt := 18) dX11_nearly_13 rfl (fun q => absurd q (by decide)) (fun _ => ?_)
      refine z_iconst dX11_nearly_16 ki_m1 ?_
      exact z_ireturn dX11_nearly_17 (Or.inl rfl) rfl h
  · replace h := h.2 q
    show Y G (d + 2) mX11_nearly 5 [(2, 1), (0, x1), (0, x2)] [(0, 0)] M Q
    refine z_ifeq (tgt := 16) dX11_nearly_5 rfl (fun _ => ?_) (fun q => absurd q (by decide))
    refine z_iconst dX11_nearly_16 ki_m1 ?_
    exact z_ireturn dX11_nearly_17 (Or.inl rfl) rfl h
set_option maxRecDepth 20000 in
set_option maxHeartbeats 4000000 in
theorem bX11_nearly_22 {G : zG} {d : Nat} {M : zM} {Q : zV → zM → Prop} (hG : zP G) {x1 x2 : Int}
    (h : Y G (d + 1) mX3_areAlike 0 [(2, 19), (0, x1), (0, x2)] [] M (fun r M' => Y G (d + 2) mX11_nearly 31 [(2, 1), (0, x1), (0, x2)] (zpush r []) M' Q)) :
    Y G (d + 2) mX11_nearly 22 [(2, 1), (0, x1), (0, x2)] [] M Q := by
  refine z_aloadn dX11_nearly_22 rfl (Or.inl rfl) ?_
  refine y_getr (v := 19) hG dX11_nearly_23 fX11_32 sh1 (by decide) rfl (by decide +kernel) (by decide) ?_
  refine z_iloadn dX11_nearly_26 rfl ?_
  refine z_iloadn dX11_nearly_27 rfl ?_
  refine y_cv (mt2 := mX3_areAlike) (en := [(2, 19), (0, x1), (0, x2)]) (st := []) (as := [(0, x1), (0, x2)]) dX11_nearly_28 lX11_199 kX3_areAlike iX3_areAlike eX3_areAlike rfl sh19 (by decide +kernel) (Nat.le_of_ble_eq_true rfl) (Nat.le_of_ble_eq_true rfl) rfl ?_
  exact h
set_option maxRecDepth 20000 in
set_option maxHeartbeats 4000000 in
theorem bX11_nearly_31 {G : zG} {d : Nat} {M : zM} {Q : zV → zM → Prop} (hG : zP G) {x1 x2 x49 : Int}
    (h : ((¬ x49 = 0 → Q (0, 0) M) ∧ (x49 = 0 → Y G (d + 1) mX3_areAlikeByAll 0 [(2, 19), (0, x1), (0, x2), (9, 0), (9, 0)] [] M (fun r M' => Y G (d + 2) mX11_nearly 43 [(2, 1), (0, x1), (0, x2)] (zpush r []) M' Q)))) :
    Y G (d + 2) mX11_nearly 31 [(2, 1), (0, x1), (0, x2)] [(0, x49)] M Q := by
  refine z_ifne (tgt := 50) dX11_nearly_31 rfl (fun q => ?_) (fun q => ?_)
  · replace h := h.1 q
    refine z_iconst dX11_nearly_50 ki_0 ?_
    exact z_ireturn dX11_nearly_51 (Or.inl rfl) rfl h
  · replace h := h.2 q
    refine z_aloadn dX11_nearly_34 rfl (Or.inl rfl) ?_
    refine y_getr (v := 19) hG dX11_nearly_35 fX11_32 sh1 (by decide) rfl (by decide +kernel) (by decide) ?_
    refine z_iloadn dX11_nearly_38 rfl ?_
    refine z_iloadn dX11_nearly_39 rfl ?_
    refine y_cv (mt2 := mX3_areAlikeByAll) (en := [(2, 19), (0, x1), (0, x2), (9, 0), (9, 0)]) (st := []) (as := [(0, x1), (0, x2)]) dX11_nearly_40 lX11_202 kX3_areAlikeByAll iX3_areAlikeByAll eX3_areAlikeByAll rfl sh19 (by decide +kernel) (Nat.le_of_ble_eq_true rfl) (Nat.le_of_ble_eq_true rfl) rfl ?_
    exact h
set_option maxRecDepth 20000 in
set_option maxHeartbeats 4000000 in
theorem bX11_nearly_43 {G : zG} {d : Nat} {M : zM} {Q : zV → zM → Prop} (hG : zP G) {x1 x2 x49 : Int}
    (h : ((x49 = 0 → Q (0, 0) M) ∧ (¬ x49 = 0 → Q (0, 1) M))) :
    Y G (d + 2) mX11_nearly 43 [(2, 1), (0, x1), (0, x2)] [(0, x49)] M Q := by
  refine z_ifeq (tgt := 50) dX11_nearly_43 rfl (fun q => ?_) (fun q => ?_)
  · replace h := h.1 q
    refine z_iconst dX11_nearly_50 ki_0 ?_
    exact z_ireturn dX11_nearly_51 (Or.inl rfl) rfl h
  · replace h := h.2 q
    refine z_iconst dX11_nearly_46 ki_1 ?_
    refine z_goto (tgt := 51) dX11_nearly_47 rfl ?_
    exact z_ireturn dX11_nearly_51 (Or.inl rfl) rfl h
set_option maxRecDepth 20000 in
set_option maxHeartbeats 4000000 in
theorem bX11_parted_0 {G : zG} {d : Nat} {M : zM} {Q : zV → zM → Prop} (hG : zP G) {x1 x2 x3 : Int}
    (h : (-1000 ≤ (M 19 8) ∧ (M 19 8) ≤ 1000) ∧ ((0 ≤ x1 ∧ x1 < (M 19 8) → (-1000 ≤ (M 19 8) ∧ (M 19 8) ≤ 1000) ∧ ((0 ≤ x2 ∧ x2 < (M 19 8) → ((0 ≤ x3 ∧ x3 ≤ 3 → Y G (d + 1) mX0_findParting 0 [(2, 176), (0, x1), (0, x2), (2, 19), (2, 2), (9, 0), (9, 0)] [] M (fun r M' => Y G (d + 2) mX11_parted 44 [(2, 1), (0, x1), (0, x2), (0, x3)] (zpush r []) M' Q)) ∧ (¬ (0 ≤ x3 ∧ x3 ≤ 3) → Q (0, (-1)) M))) ∧ (¬ (0 ≤ x2 ∧ x2 < (M 19 8)) → Q (0, (-1)) M))) ∧ (¬ (0 ≤ x1 ∧ x1 < (M 19 8)) → Q (0, (-1)) M))) :
    Y G (d + 2) mX11_parted 0 [(2, 1), (0, x1), (0, x2), (0, x3)] [] M Q := by
  refine z_aloadn dX11_parted_0 rfl (Or.inl rfl) ?_
  refine z_iloadn dX11_parted_1 rfl ?_
  obtain ⟨q1, h⟩ := h
  refine y_cv (mt2 := mX11_isQuestion) (en := [(2, 1), (0, x1)]) (st := []) (as := [(0, x1)]) dX11_parted_2 lX11_179 kX11_isQuestion iX11_isQuestion eX11_isQuestion rfl sh1 (by decide +kernel) (Nat.le_of_ble_eq_true rfl) (Nat.le_of_ble_eq_true rfl) rfl (s_isQuestion hG rfl q1 (fun q => ?_) (fun q => ?_))
  · replace h := h.1 q
    show Y G (d + 2) mX11_parted 5 [(2, 1), (0, x1), (0, x2), (0, x3)] [(0, 1)] M Q
    refine z_ifeq (tgt := 25) dX11_parted_5 rfl (fun q => absurd q (by decide)) (fun _ => ?_)
    refine z_aloadn dX11_parted_8 rfl (Or.inl rfl) ?_
    refine z_iloadn dX11_parted_9 rfl ?_
    obtain ⟨q2, h⟩ := h
    refine y_cv (mt2 := mX11_isQuestion) (en := [(2, 1), (0, x2)]) (st := []) (as := [(0, x2)]) dX11_parted_10 lX11_179 kX11_isQuestion iX11_isQuestion eX11_isQuestion rfl sh1 (by decide +kernel) (Nat.le_of_ble_eq_true rfl) (Nat.le_of_ble_eq_true rfl) rfl (s_isQuestion hG rfl q2 (fun q => ?_) (fun q => ?_))
    · replace h := h.1 q
      show Y G (d + 2) mX11_parted 13 [(2, 1), (0, x1), (0, x2), (0, x3)] [(0, 1)] M Q
      refine z_ifeq (tgt := 25) dX11_parted_13 rfl (fun q => absurd q (by decide)) (fun _ => ?_)
      refine z_iloadn dX11_parted_16 rfl ?_
      refine z_iconst dX11_parted_17 ki_0 ?_
      refine z_iconst dX11_parted_18 ki_3 ?_
      refine y_cs (mt2 := mX11_within) (en := [(0, x3), (0, 0), (0, 3)]) (st := []) (as := [(0, x3), (0, 0), (0, 3)]) dX11_parted_19 lX11_72 kX11_within tX11_within rfl (Nat.le_of_ble_eq_true rfl) (Nat.le_of_ble_eq_true rfl) rfl (s_within hG (fun q => ?_) (fun q => ?_))
      · replace h := h.1 q
        show Y G (d + 2) mX11_parted 22 [(2, 1), (0, x1), (0, x2), (0, x3)] [(0, 1)] M Q
        refine z_ifne (tgt := 27) dX11_parted_22 rfl (fun _ => ?_) (fun q => absurd q (by decide))
        refine z_aloadn dX11_parted_27 rfl (Or.inl rfl) ?_
        refine y_getr (v := 176) hG dX11_parted_28 fX11_60 sh1 (by decide) rfl (by decide +kernel) (by decide) ?_
        refine z_iloadn dX11_parted_31 rfl ?_
        refine z_iloadn dX11_parted_32 rfl ?_
        refine z_aloadn dX11_parted_33 rfl (Or.inl rfl) ?_
        refine y_getr (v := 19) hG dX11_parted_34 fX11_32 sh1 (by decide) rfl (by decide +kernel) (by decide) ?_
        refine z_aloadn dX11_parted_37 rfl (Or.inl rfl) ?_
        refine y_getr (v := 2) hG dX11_parted_38 fX11_10 sh1 (by decide) rfl (by decide +kernel) (by decide) ?_
        refine y_cv (mt2 := mX0_findParting) (en := [(2, 176), (0, x1), (0, x2), (2, 19), (2, 2), (9, 0), (9, 0)]) (st := []) (as := [(0, x1), (0, x2), (2, 19), (2, 2)]) dX11_parted_41 lX11_205 kX0_findParting iX0_findParting eX0_findParting rfl sh176 (by decide +kernel) (Nat.le_of_ble_eq_true rfl) (Nat.le_of_ble_eq_true rfl) rfl ?_
        exact h
      · replace h := h.2 q
        show Y G (d + 2) mX11_parted 22 [(2, 1), (0, x1), (0, x2), (0, x3)] [(0, 0)] M Q
        refine z_ifne (tgt := 27) dX11_parted_22 rfl (fun q => absurd q (by decide)) (fun _ => ?_)
        refine z_iconst dX11_parted_25 ki_m1 ?_
        exact z_ireturn dX11_parted_26 (Or.inl rfl) rfl h
    · replace h := h.2 q
      show Y G (d + 2) mX11_parted 13 [(2, 1), (0, x1), (0, x2), (0, x3)] [(0, 0)] M Q
      refine z_ifeq (tgt := 25) dX11_parted_13 rfl (fun _ => ?_) (fun q => absurd q (by decide))
      refine z_iconst dX11_parted_25 ki_m1 ?_
      exact z_ireturn dX11_parted_26 (Or.inl rfl) rfl h
  · replace h := h.2 q
    show Y G (d + 2) mX11_parted 5 [(2, 1), (0, x1), (0, x2), (0, x3)] [(0, 0)] M Q
    refine z_ifeq (tgt := 25) dX11_parted_5 rfl (fun _ => ?_) (fun q => absurd q (by decide))
    refine z_iconst dX11_parted_25 ki_m1 ?_
    exact z_ireturn dX11_parted_26 (Or.inl rfl) rfl h
set_option maxRecDepth 20000 in
set_option maxHeartbeats 4000000 in
theorem bX11_parted_44 {G : zG} {d : Nat} {M : zM} {Q : zV → zM → Prop} (hG : zP G) {x1 x2 x3 x49 : Int}
    (h : ((x49 = 0 → Q (0, (-1)) M) ∧ (¬ x49 = 0 → (0 ≤ x3 ∧ x3 < 4) ∧ Q (0, (M 182 x3)) M))) :
    Y G (d + 2) mX11_parted 44 [(2, 1), (0, x1), (0, x2), (0, x3)] [(0, x49)] M Q := by
  refine z_ifeq (tgt := 59) dX11_parted_44 rfl (fun q => ?_) (fun q => ?_)
  · replace h := h.1 q
    refine z_iconst dX11_parted_59 ki_m1 ?_
    exact z_ireturn dX11_parted_60 (Or.inl rfl) rfl h
  · replace h := h.2 q
    refine z_aloadn dX11_parted_47 rfl (Or.inl rfl) ?_
    refine y_getr (v := 176) hG dX11_parted_48 fX11_60 sh1 (by decide) rfl (by decide +kernel) (by decide) ?_
    refine y_getr (v := 182) hG dX11_parted_51 fX11_209 sh176 (by decide) rfl (by decide +kernel) (by decide) ?_
    refine z_iloadn dX11_parted_54 rfl ?_
    obtain ⟨q1, h⟩ := h
    refine y_iald (x := (M 182 x3)) dX11_parted_55 sh182 q1 rfl ?_
    refine z_goto (tgt := 60) dX11_parted_56 rfl ?_
    exact z_ireturn dX11_parted_60 (Or.inl rfl) rfl h
set_option maxRecDepth 20000 in
set_option maxHeartbeats 4000000 in
theorem bX11_pupil_0 {G : zG} {d : Nat} {M : zM} {Q : zV → zM → Prop} (hG : zP G) {x1 x2 x3 x4 x5 : Int}
    (h : ((1 ≤ x1 ∧ x1 ≤ 99 → ((0 ≤ x2 ∧ x2 ≤ 32767 → ((0 ≤ x3 ∧ x3 ≤ 99 → ((0 ≤ x4 ∧ x4 ≤ 8 → ((1 ≤ x5 ∧ x5 ≤ 16 → Y G d mX6_addPupil 0 [(2, 157), (0, x1), (0, x2), (0, x3), (0, x4), (0, x5)] [] M (fun r M' => Y G (d + 1) mX11_pupil 79 [(2, 1), (0, x1), (0, x2), (0, x3), (0, x4), (0, x5), (0, 1)] (zpush r []) M' Q)) ∧ (¬ (1 ≤ x5 ∧ x5 ≤ 16) → Y G (d + 1) mX11_pupil 57 [(2, 1), (0, x1), (0, x2), (0, x3), (0, x4), (0, x5), (9, 0)] [] M Q))) ∧ (¬ (0 ≤ x4 ∧ x4 ≤ 8) → Y G (d + 1) mX11_pupil 57 [(2, 1), (0, x1), (0, x2), (0, x3), (0, x4), (0, x5), (9, 0)] [] M Q))) ∧ (¬ (0 ≤ x3 ∧ x3 ≤ 99) → Y G (d + 1) mX11_pupil 57 [(2, 1), (0, x1), (0, x2), (0, x3), (0, x4), (0, x5), (9, 0)] [] M Q))) ∧ (¬ (0 ≤ x2 ∧ x2 ≤ 32767) → Y G (d + 1) mX11_pupil 57 [(2, 1), (0, x1), (0, x2), (0, x3), (0, x4), (0, x5), (9, 0)] [] M Q))) ∧ (¬ (1 ≤ x1 ∧ x1 ≤ 99) → Y G (d + 1) mX11_pupil 57 [(2, 1), (0, x1), (0, x2), (0, x3), (0, x4), (0, x5), (9, 0)] [] M Q))) :
    Y G (d + 1) mX11_pupil 0 [(2, 1), (0, x1), (0, x2), (0, x3), (0, x4), (0, x5), (9, 0)] [] M Q := by
  refine z_iloadn dX11_pupil_0 rfl ?_
  refine z_iconst dX11_pupil_1 ki_1 ?_
  refine z_bipush dX11_pupil_2 kb_99 ?_
  refine y_cs (mt2 := mX11_within) (en := [(0, x1), (0, 1), (0, 99)]) (st := []) (as := [(0, x1), (0, 1), (0, 99)]) dX11_pupil_4 lX11_72 kX11_within tX11_within rfl (Nat.le_of_ble_eq_true rfl) (Nat.le_of_ble_eq_true rfl) rfl (s_within hG (fun q => ?_) (fun q => ?_))
  · replace h := h.1 q
    show Y G (d + 1) mX11_pupil 7 [(2, 1), (0, x1), (0, x2), (0, x3), (0, x4), (0, x5), (9, 0)] [(0, 1)] M Q
    refine z_ifeq (tgt := 57) dX11_pupil_7 rfl (fun q => absurd q (by decide)) (fun _ => ?_)
    refine z_iloadn dX11_pupil_10 rfl ?_
    refine z_iconst dX11_pupil_11 ki_0 ?_
    refine z_sipush dX11_pupil_12 ks_32767 ?_
    refine y_cs (mt2 := mX11_within) (en := [(0, x2), (0, 0), (0, 32767)]) (st := []) (as := [(0, x2), (0, 0), (0, 32767)]) dX11_pupil_15 lX11_72 kX11_within tX11_within rfl (Nat.le_of_ble_eq_true rfl) (Nat.le_of_ble_eq_true rfl) rfl (s_within hG (fun q => ?_) (fun q => ?_))
    · replace h := h.1 q
      show Y G (d + 1) mX11_pupil 18 [(2, 1), (0, x1), (0, x2), (0, x3), (0, x4), (0, x5), (9, 0)] [(0, 1)] M Q
      refine z_ifeq (tgt := 57) dX11_pupil_18 rfl (fun q => absurd q (by decide)) (fun _ => ?_)
      refine z_iloadn dX11_pupil_21 rfl ?_
      refine z_iconst dX11_pupil_22 ki_0 ?_
      refine z_bipush dX11_pupil_23 kb_99 ?_
      refine y_cs (mt2 := mX11_within) (en := [(0, x3), (0, 0), (0, 99)]) (st := []) (as := [(0, x3), (0, 0), (0, 99)]) dX11_pupil_25 lX11_72 kX11_within tX11_within rfl (Nat.le_of_ble_eq_true rfl) (Nat.le_of_ble_eq_true rfl) rfl (s_within hG (fun q => ?_) (fun q => ?_))
      · replace h := h.1 q
        show Y G (d + 1) mX11_pupil 28 [(2, 1), (0, x1), (0, x2), (0, x3), (0, x4), (0, x5), (9, 0)] [(0, 1)] M Q
        refine z_ifeq (tgt := 57) dX11_pupil_28 rfl (fun q => absurd q (by decide)) (fun _ => ?_)
        refine z_iload dX11_pupil_31 rfl ?_
        refine z_iconst dX11_pupil_33 ki_0 ?_
        refine z_bipush dX11_pupil_34 kb_8 ?_
        refine y_cs (mt2 := mX11_within) (en := [(0, x4), (0, 0), (0, 8)]) (st := []) (as := [(0, x4), (0, 0), (0, 8)]) dX11_pupil_36 lX11_72 kX11_within tX11_within rfl (Nat.le_of_ble_eq_true rfl) (Nat.le_of_ble_eq_true rfl) rfl (s_within hG (fun q => ?_) (fun q => ?_))
        · replace h := h.1 q
          show Y G (d + 1) mX11_pupil 39 [(2, 1), (0, x1), (0, x2), (0, x3), (0, x4), (0, x5), (9, 0)] [(0, 1)] M Q
          refine z_ifeq (tgt := 57) dX11_pupil_39 rfl (fun q => absurd q (by decide)) (fun _ => ?_)
          refine z_iload dX11_pupil_42 rfl ?_
          refine z_iconst dX11_pupil_44 ki_1 ?_
          refine z_bipush dX11_pupil_45 kb_16 ?_
          refine y_cs (mt2 := mX11_within) (en := [(0, x5), (0, 1), (0, 16)]) (st := []) (as := [(0, x5), (0, 1), (0, 16)]) dX11_pupil_47 lX11_72 kX11_within tX11_within rfl (Nat.le_of_ble_eq_true rfl) (Nat.le_of_ble_eq_true rfl) rfl (s_within hG (fun q => ?_) (fun q => ?_))
          · replace h := h.1 q
            show Y G (d + 1) mX11_pupil 50 [(2, 1), (0, x1), (0, x2), (0, x3), (0, x4), (0, x5), (9, 0)] [(0, 1)] M Q
            refine z_ifeq (tgt := 57) dX11_pupil_50 rfl (fun q => absurd q (by decide)) (fun _ => ?_)
            refine z_iconst dX11_pupil_53 ki_1 ?_
            refine z_goto (tgt := 58) dX11_pupil_54 rfl ?_
            refine y_istore (ls' := [(2, 1), (0, x1), (0, x2), (0, x3), (0, x4), (0, x5), (0, 1)]) dX11_pupil_58 rfl rfl ?_
            refine z_iload dX11_pupil_60 rfl ?_
            refine z_ifeq (tgt := 82) dX11_pupil_62 rfl (fun q => absurd q (by decide)) (fun _ => ?_)
            refine z_aloadn dX11_pupil_65 rfl (Or.inl rfl) ?_
            refine y_getr (v := 157) hG dX11_pupil_66 fX11_39 sh1 (by decide) rfl (by decide +kernel) (by decide) ?_
            refine z_iloadn dX11_pupil_69 rfl ?_
            refine z_iloadn dX11_pupil_70 rfl ?_
            refine z_iloadn dX11_pupil_71 rfl ?_
            refine z_iload dX11_pupil_72 rfl ?_
            refine z_iload dX11_pupil_74 rfl ?_
            refine y_cv (mt2 := mX6_addPupil) (en := [(2, 157), (0, x1), (0, x2), (0, x3), (0, x4), (0, x5)]) (st := []) (as := [(0, x1), (0, x2), (0, x3), (0, x4), (0, x5)]) dX11_pupil_76 lX11_210 kX6_addPupil iX6_addPupil eX6_addPupil rfl sh157 (by decide +kernel) (Nat.le_of_ble_eq_true rfl) (Nat.le_of_ble_eq_true rfl) rfl ?_
            exact h
          · replace h := h.2 q
            show Y G (d + 1) mX11_pupil 50 [(2, 1), (0, x1), (0, x2), (0, x3), (0, x4), (0, x5), (9, 0)] [(0, 0)] M Q
            refine z_ifeq (tgt := 57) dX11_pupil_50 rfl (fun _ => ?_) (fun q => absurd q (by decide))
            exact h
        · replace h := h.2 q
          show Y G (d + 1) mX11_pupil 39 [(2, 1), (0, x1), (0, x2), (0, x3), (0, x4), (0, x5), (9, 0)] [(0, 0)] M Q
          refine z_ifeq (tgt := 57) dX11_pupil_39 rfl (fun _ => ?_) (fun q => absurd q (by decide))
          exact h
      · replace h := h.2 q
        show Y G (d + 1) mX11_pupil 28 [(2, 1), (0, x1), (0, x2), (0, x3), (0, x4), (0, x5), (9, 0)] [(0, 0)] M Q
        refine z_ifeq (tgt := 57) dX11_pupil_28 rfl (fun _ => ?_) (fun q => absurd q (by decide))
        exact h
    · replace h := h.2 q
      show Y G (d + 1) mX11_pupil 18 [(2, 1), (0, x1), (0, x2), (0, x3), (0, x4), (0, x5), (9, 0)] [(0, 0)] M Q
      refine z_ifeq (tgt := 57) dX11_pupil_18 rfl (fun _ => ?_) (fun q => absurd q (by decide))
      exact h
  · replace h := h.2 q
    show Y G (d + 1) mX11_pupil 7 [(2, 1), (0, x1), (0, x2), (0, x3), (0, x4), (0, x5), (9, 0)] [(0, 0)] M Q
    refine z_ifeq (tgt := 57) dX11_pupil_7 rfl (fun _ => ?_) (fun q => absurd q (by decide))
    exact h
set_option maxRecDepth 20000 in
set_option maxHeartbeats 4000000 in
theorem bX11_pupil_57 {G : zG} {d : Nat} {M : zM} {Q : zV → zM → Prop} (hG : zP G) {x1 x2 x3 x4 x5 : Int}
    (h : Q (0, (-1)) M) :
    Y G (d + 1) mX11_pupil 57 [(2, 1), (0, x1), (0, x2), (0, x3), (0, x4), (0, x5), (9, 0)] [] M Q := by
  refine z_iconst dX11_pupil_57 ki_0 ?_
  refine y_istore (ls' := [(2, 1), (0, x1), (0, x2), (0, x3), (0, x4), (0, x5), (0, 0)]) dX11_pupil_58 rfl rfl ?_
  refine z_iload dX11_pupil_60 rfl ?_
  refine z_ifeq (tgt := 82) dX11_pupil_62 rfl (fun _ => ?_) (fun q => absurd q (by decide))
  refine z_iconst dX11_pupil_82 ki_m1 ?_
  exact z_ireturn dX11_pupil_83 (Or.inl rfl) rfl h
set_option maxRecDepth 20000 in
set_option maxHeartbeats 4000000 in
theorem bX11_pupil_79 {G : zG} {d : Nat} {M : zM} {Q : zV → zM → Prop} (hG : zP G) {x1 x2 x3 x4 x5 x6 x49 : Int}
    (h : Q (0, x49) M) :
    Y G (d + 1) mX11_pupil 79 [(2, 1), (0, x1), (0, x2), (0, x3), (0, x4), (0, x5), (0, x6)] [(0, x49)] M Q := by
  refine z_goto (tgt := 83) dX11_pupil_79 rfl ?_
  exact z_ireturn dX11_pupil_83 (Or.inl rfl) rfl h
set_option maxRecDepth 20000 in
set_option maxHeartbeats 4000000 in
theorem bX11_answer_0 {G : zG} {d : Nat} {M : zM} {Q : zV → zM → Prop} (hG : zP G) {x1 : Int}
    (h : (((-1000000) ≤ x1 ∧ x1 ≤ 1000000 → Q (0, 1) (zset M 157 6 x1)) ∧ (¬ ((-1000000) ≤ x1 ∧ x1 ≤ 1000000) → Q (0, 0) M))) :
    Y G (d + 1) mX11_answer 0 [(2, 1), (0, x1)] [] M Q := by
  refine z_iloadn dX11_answer_0 rfl ?_
  refine z_ldc (k := (-1000000)) (v := (-1000000)) dX11_answer_1 ⟨by decide, ⟨by decide, by decide⟩⟩ qX11_213 ?_
  refine z_ldc (k := 1000000) (v := 1000000) dX11_answer_3 ⟨by decide, ⟨by decide, by decide⟩⟩ qX11_214 ?_
  refine y_cs (mt2 := mX11_within) (en := [(0, x1), (0, (-1000000)), (0, 1000000)]) (st := []) (as := [(0, x1), (0, (-1000000)), (0, 1000000)]) dX11_answer_5 lX11_72 kX11_within tX11_within rfl (Nat.le_of_ble_eq_true rfl) (Nat.le_of_ble_eq_true rfl) rfl (s_within hG (fun q => ?_) (fun q => ?_))
  · replace h := h.1 q
    show Y G (d + 1) mX11_answer 8 [(2, 1), (0, x1)] [(0, 1)] M Q
    refine z_ifne (tgt := 13) dX11_answer_8 rfl (fun _ => ?_) (fun q => absurd q (by decide))
    refine z_aloadn dX11_answer_13 rfl (Or.inl rfl) ?_
    refine y_getr (v := 157) hG dX11_answer_14 fX11_39 sh1 (by decide) rfl (by decide +kernel) (by decide) ?_
    refine z_iloadn dX11_answer_17 rfl ?_
    refine y_putf (M' := zset M 157 6 x1) hG dX11_answer_18 fX11_215 sh157 (by decide) ⟨rfl, rfl⟩ p6_6 (fun q => absurd q (by decide)) (by decide) rfl ?_
    refine z_iconst dX11_answer_21 ki_1 ?_
    exact z_ireturn dX11_answer_22 (Or.inr ⟨rfl, ⟨by decide, by decide⟩⟩) rfl h
  · replace h := h.2 q
    show Y G (d + 1) mX11_answer 8 [(2, 1), (0, x1)] [(0, 0)] M Q
    refine z_ifne (tgt := 13) dX11_answer_8 rfl (fun q => absurd q (by decide)) (fun _ => ?_)
    refine z_iconst dX11_answer_11 ki_0 ?_
    exact z_ireturn dX11_answer_12 (Or.inr ⟨rfl, ⟨by decide, by decide⟩⟩) rfl h
set_option maxRecDepth 20000 in
set_option maxHeartbeats 4000000 in
theorem bX11_can_0 {G : zG} {d : Nat} {M : zM} {Q : zV → zM → Prop} (hG : zP G) {x1 x2 : Int}
    (h : Y G d mX11_lacks 0 [(2, 1), (0, x1), (0, x2)] [] M (fun r M' => Y G (d + 1) mX11_can 6 [(2, 1), (0, x1), (0, x2)] (zpush r []) M' Q)) :
    Y G (d + 1) mX11_can 0 [(2, 1), (0, x1), (0, x2)] [] M Q := by
  refine z_aloadn dX11_can_0 rfl (Or.inl rfl) ?_
  refine z_iloadn dX11_can_1 rfl ?_
  refine z_iloadn dX11_can_2 rfl ?_
  refine y_cv (mt2 := mX11_lacks) (en := [(2, 1), (0, x1), (0, x2)]) (st := []) (as := [(0, x1), (0, x2)]) dX11_can_3 lX11_218 kX11_lacks iX11_lacks eX11_lacks rfl sh1 (by decide +kernel) (Nat.le_of_ble_eq_true rfl) (Nat.le_of_ble_eq_true rfl) rfl ?_
  exact h
set_option maxRecDepth 20000 in
set_option maxHeartbeats 4000000 in
theorem bX11_can_6 {G : zG} {d : Nat} {M : zM} {Q : zV → zM → Prop} (hG : zP G) {x1 x2 x49 : Int}
    (h : ((¬ x49 = 0 → Q (0, 0) M) ∧ (x49 = 0 → Q (0, 1) M))) :
    Y G (d + 1) mX11_can 6 [(2, 1), (0, x1), (0, x2)] [(0, x49)] M Q := by
  refine z_ifne (tgt := 13) dX11_can_6 rfl (fun q => ?_) (fun q => ?_)
  · replace h := h.1 q
    refine z_iconst dX11_can_13 ki_0 ?_
    exact z_ireturn dX11_can_14 (Or.inr ⟨rfl, ⟨by decide, by decide⟩⟩) rfl h
  · replace h := h.2 q
    refine z_iconst dX11_can_9 ki_1 ?_
    refine z_goto (tgt := 14) dX11_can_10 rfl ?_
    exact z_ireturn dX11_can_14 (Or.inr ⟨rfl, ⟨by decide, by decide⟩⟩) rfl h
set_option maxRecDepth 20000 in
set_option maxHeartbeats 4000000 in
theorem bX11_lacks_0 {G : zG} {d : Nat} {M : zM} {Q : zV → zM → Prop} (hG : zP G) {x1 x2 : Int}
    (h : (-1000 ≤ (M 157 5) ∧ (M 157 5) ≤ 1000) ∧ ((0 ≤ x1 ∧ x1 < (M 157 5) → (-1000 ≤ (M 19 8) ∧ (M 19 8) ≤ 1000) ∧ ((0 ≤ x2 ∧ x2 < (M 19 8) → Y G (d + 1) mX6_lacking 0 [(2, 157), (0, x1), (0, x2), (2, 19), (9, 0)] [] M (fun r M' => Y G (d + 2) mX11_lacks 29 [(2, 1), (0, x1), (0, x2)] (zpush r []) M' Q)) ∧ (¬ (0 ≤ x2 ∧ x2 < (M 19 8)) → Q (0, (-1)) M))) ∧ (¬ (0 ≤ x1 ∧ x1 < (M 157 5)) → Q (0, (-1)) M))) :
    Y G (d + 2) mX11_lacks 0 [(2, 1), (0, x1), (0, x2)] [] M Q := by
  refine z_aloadn dX11_lacks_0 rfl (Or.inl rfl) ?_
  refine z_iloadn dX11_lacks_1 rfl ?_
  obtain ⟨q1, h⟩ := h
  refine y_cv (mt2 := mX11_isPupil) (en := [(2, 1), (0, x1)]) (st := []) (as := [(0, x1)]) dX11_lacks_2 lX11_221 kX11_isPupil iX11_isPupil eX11_isPupil rfl sh1 (by decide +kernel) (Nat.le_of_ble_eq_true rfl) (Nat.le_of_ble_eq_true rfl) rfl (s_isPupil hG rfl q1 (fun q => ?_) (fun q => ?_))
  · replace h := h.1 q
    show Y G (d + 2) mX11_lacks 5 [(2, 1), (0, x1), (0, x2)] [(0, 1)] M Q
    refine z_ifeq (tgt := 32) dX11_lacks_5 rfl (fun q => absurd q (by decide)) (fun _ => ?_)
    refine z_aloadn dX11_lacks_8 rfl (Or.inl rfl) ?_
    refine z_iloadn dX11_lacks_9 rfl ?_
    obtain ⟨q2, h⟩ := h
    refine y_cv (mt2 := mX11_isQuestion) (en := [(2, 1), (0, x2)]) (st := []) (as := [(0, x2)]) dX11_lacks_10 lX11_179 kX11_isQuestion iX11_isQuestion eX11_isQuestion rfl sh1 (by decide +kernel) (Nat.le_of_ble_eq_true rfl) (Nat.le_of_ble_eq_true rfl) rfl (s_isQuestion hG rfl q2 (fun q => ?_) (fun q => ?_))
    · replace h := h.1 q
      show Y G (d + 2) mX11_lacks 13 [(2, 1), (0, x1), (0, x2)] [(0, 1)] M Q
      refine z_ifeq (tgt := 32) dX11_lacks_13 rfl (fun q => absurd q (by decide)) (fun _ => ?_)
      refine z_aloadn dX11_lacks_16 rfl (Or.inl rfl) ?_
      refine y_getr (v := 157) hG dX11_lacks_17 fX11_39 sh1 (by decide) rfl (by decide +kernel) (by decide) ?_
      refine z_iloadn dX11_lacks_20 rfl ?_
      refine z_iloadn dX11_lacks_21 rfl ?_
      refine z_aloadn dX11_lacks_22 rfl (Or.inl rfl) ?_
      refine y_getr (v := 19) hG dX11_lacks_23 fX11_32 sh1 (by decide) rfl (by decide +kernel) (by decide) ?_
      refine y_cv (mt2 := mX6_lacking) (en := [(2, 157), (0, x1), (0, x2), (2, 19), (9, 0)]) (st := []) (as := [(0, x1), (0, x2), (2, 19)]) dX11_lacks_26 lX11_224 kX6_lacking iX6_lacking eX6_lacking rfl sh157 (by decide +kernel) (Nat.le_of_ble_eq_true rfl) (Nat.le_of_ble_eq_true rfl) rfl ?_
      exact h
    · replace h := h.2 q
      show Y G (d + 2) mX11_lacks 13 [(2, 1), (0, x1), (0, x2)] [(0, 0)] M Q
      refine z_ifeq (tgt := 32) dX11_lacks_13 rfl (fun _ => ?_) (fun q => absurd q (by decide))
      refine z_iconst dX11_lacks_32 ki_m1 ?_
      exact z_ireturn dX11_lacks_33 (Or.inl rfl) rfl h
  · replace h := h.2 q
    show Y G (d + 2) mX11_lacks 5 [(2, 1), (0, x1), (0, x2)] [(0, 0)] M Q
    refine z_ifeq (tgt := 32) dX11_lacks_5 rfl (fun _ => ?_) (fun q => absurd q (by decide))
    refine z_iconst dX11_lacks_32 ki_m1 ?_
    exact z_ireturn dX11_lacks_33 (Or.inl rfl) rfl h
set_option maxRecDepth 20000 in
set_option maxHeartbeats 4000000 in
theorem bX11_lacks_29 {G : zG} {d : Nat} {M : zM} {Q : zV → zM → Prop} (hG : zP G) {x1 x2 x49 : Int}
    (h : Q (0, x49) M) :
    Y G (d + 2) mX11_lacks 29 [(2, 1), (0, x1), (0, x2)] [(0, x49)] M Q := by
  refine z_goto (tgt := 33) dX11_lacks_29 rfl ?_
  exact z_ireturn dX11_lacks_33 (Or.inl rfl) rfl h
set_option maxRecDepth 20000 in
set_option maxHeartbeats 4000000 in
theorem bX11_ask_0 {G : zG} {d : Nat} {M : zM} {Q : zV → zM → Prop} (hG : zP G) {x1 x2 : Int}
    (h : Y G d mX11_takeStock 0 [(2, 1)] [] M (fun r M' => Y G (d + 1) mX11_ask 4 [(2, 1), (0, x1), (0, x2)] (zpush r []) M' Q)) :
    Y G (d + 1) mX11_ask 0 [(2, 1), (0, x1), (0, x2)] [] M Q := by
  refine z_aloadn dX11_ask_0 rfl (Or.inl rfl) ?_
  refine y_cv (mt2 := mX11_takeStock) (en := [(2, 1)]) (st := []) (as := []) dX11_ask_1 lX11_135 kX11_takeStock iX11_takeStock eX11_takeStock rfl sh1 (by decide +kernel) (Nat.le_of_ble_eq_true rfl) (Nat.le_of_ble_eq_true rfl) rfl ?_
  exact h
set_option maxRecDepth 20000 in
set_option maxHeartbeats 4000000 in
theorem bX11_ask_4 {G : zG} {d : Nat} {M : zM} {Q : zV → zM → Prop} (hG : zP G) {x1 x2 : Int}
    (h : Y G d mX11_askNow 0 [(2, 1), (0, x1), (0, x2)] [] M (fun r M' => Y G (d + 1) mX11_ask 10 [(2, 1), (0, x1), (0, x2)] (zpush r []) M' Q)) :
    Y G (d + 1) mX11_ask 4 [(2, 1), (0, x1), (0, x2)] [] M Q := by
  refine z_aloadn dX11_ask_4 rfl (Or.inl rfl) ?_
  refine z_iloadn dX11_ask_5 rfl ?_
  refine z_iloadn dX11_ask_6 rfl ?_
  refine y_cv (mt2 := mX11_askNow) (en := [(2, 1), (0, x1), (0, x2)]) (st := []) (as := [(0, x1), (0, x2)]) dX11_ask_7 lX11_169 kX11_askNow iX11_askNow eX11_askNow rfl sh1 (by decide +kernel) (Nat.le_of_ble_eq_true rfl) (Nat.le_of_ble_eq_true rfl) rfl ?_
  exact h
set_option maxRecDepth 20000 in
set_option maxHeartbeats 4000000 in
theorem bX11_ask_10 {G : zG} {d : Nat} {M : zM} {Q : zV → zM → Prop} (hG : zP G) {x1 x2 x49 : Int}
    (h : Q (0, x49) M) :
    Y G (d + 1) mX11_ask 10 [(2, 1), (0, x1), (0, x2)] [(0, x49)] M Q := by
  exact z_ireturn dX11_ask_10 (Or.inl rfl) rfl h
set_option maxRecDepth 20000 in
set_option maxHeartbeats 4000000 in
theorem bX11_askNow_0 {G : zG} {d : Nat} {M : zM} {Q : zV → zM → Prop} (hG : zP G) {x1 x2 : Int}
    (h : (-1000 ≤ (M 157 5) ∧ (M 157 5) ≤ 1000) ∧ ((0 ≤ x1 ∧ x1 < (M 157 5) → (-1000 ≤ (M 19 8) ∧ (M 19 8) ≤ 1000) ∧ ((0 ≤ x2 ∧ x2 < (M 19 8) → Y G (d + 1) mX6_hindrance 0 [(2, 157), (0, x1), (0, x2), (2, 19)] [] M (fun r M' => Y G (d + 2) mX11_askNow 29 [(2, 1), (0, x1), (0, x2)] (zpush r []) M' Q)) ∧ (¬ (0 ≤ x2 ∧ x2 < (M 19 8)) → Q (0, (-1)) M))) ∧ (¬ (0 ≤ x1 ∧ x1 < (M 157 5)) → Q (0, (-1)) M))) :
    Y G (d + 2) mX11_askNow 0 [(2, 1), (0, x1), (0, x2)] [] M Q := by
  refine z_aloadn dX11_askNow_0 rfl (Or.inl rfl) ?_
  refine z_iloadn dX11_askNow_1 rfl ?_
  obtain ⟨q1, h⟩ := h
  refine y_cv (mt2 := mX11_isPupil) (en := [(2, 1), (0, x1)]) (st := []) (as := [(0, x1)]) dX11_askNow_2 lX11_221 kX11_isPupil iX11_isPupil eX11_isPupil rfl sh1 (by decide +kernel) (Nat.le_of_ble_eq_true rfl) (Nat.le_of_ble_eq_true rfl) rfl (s_isPupil hG rfl q1 (fun q => ?_) (fun q => ?_))
  · replace h := h.1 q
    show Y G (d + 2) mX11_askNow 5 [(2, 1), (0, x1), (0, x2)] [(0, 1)] M Q
    refine z_ifeq (tgt := 32) dX11_askNow_5 rfl (fun q => absurd q (by decide)) (fun _ => ?_)
    refine z_aloadn dX11_askNow_8 rfl (Or.inl rfl) ?_
    refine z_iloadn dX11_askNow_9 rfl ?_
    obtain ⟨q2, h⟩ := h
    refine y_cv (mt2 := mX11_isQuestion) (en := [(2, 1), (0, x2)]) (st := []) (as := [(0, x2)]) dX11_askNow_10 lX11_179 kX11_isQuestion iX11_isQuestion eX11_isQuestion rfl sh1 (by decide +kernel) (Nat.le_of_ble_eq_true rfl) (Nat.le_of_ble_eq_true rfl) rfl (s_isQuestion hG rfl q2 (fun q => ?_) (fun q => ?_))
    · replace h := h.1 q
      show Y G (d + 2) mX11_askNow 13 [(2, 1), (0, x1), (0, x2)] [(0, 1)] M Q
      refine z_ifeq (tgt := 32) dX11_askNow_13 rfl (fun q => absurd q (by decide)) (fun _ => ?_)
      refine z_aloadn dX11_askNow_16 rfl (Or.inl rfl) ?_
      refine y_getr (v := 157) hG dX11_askNow_17 fX11_39 sh1 (by decide) rfl (by decide +kernel) (by decide) ?_
      refine z_iloadn dX11_askNow_20 rfl ?_
      refine z_iloadn dX11_askNow_21 rfl ?_
      refine z_aloadn dX11_askNow_22 rfl (Or.inl rfl) ?_
      refine y_getr (v := 19) hG dX11_askNow_23 fX11_32 sh1 (by decide) rfl (by decide +kernel) (by decide) ?_
      refine y_cv (mt2 := mX6_hindrance) (en := [(2, 157), (0, x1), (0, x2), (2, 19)]) (st := []) (as := [(0, x1), (0, x2), (2, 19)]) dX11_askNow_26 lX11_228 kX6_hindrance iX6_hindrance eX6_hindrance rfl sh157 (by decide +kernel) (Nat.le_of_ble_eq_true rfl) (Nat.le_of_ble_eq_true rfl) rfl ?_
      exact h
    · replace h := h.2 q
      show Y G (d + 2) mX11_askNow 13 [(2, 1), (0, x1), (0, x2)] [(0, 0)] M Q
      refine z_ifeq (tgt := 32) dX11_askNow_13 rfl (fun _ => ?_) (fun q => absurd q (by decide))
      refine z_iconst dX11_askNow_32 ki_m1 ?_
      exact z_ireturn dX11_askNow_33 (Or.inl rfl) rfl h
  · replace h := h.2 q
    show Y G (d + 2) mX11_askNow 5 [(2, 1), (0, x1), (0, x2)] [(0, 0)] M Q
    refine z_ifeq (tgt := 32) dX11_askNow_5 rfl (fun _ => ?_) (fun q => absurd q (by decide))
    refine z_iconst dX11_askNow_32 ki_m1 ?_
    exact z_ireturn dX11_askNow_33 (Or.inl rfl) rfl h
set_option maxRecDepth 20000 in
set_option maxHeartbeats 4000000 in
theorem bX11_askNow_29 {G : zG} {d : Nat} {M : zM} {Q : zV → zM → Prop} (hG : zP G) {x1 x2 x49 : Int}
    (h : ((x49 = 0 → Y G (d + 1) mX6_addStep 0 [(2, 157), (0, x1), (0, x2)] [] M (fun r M' => Y G (d + 2) mX11_askNow 43 [(2, 1), (0, x1), (0, x2)] (zpush r []) M' Q)) ∧ (¬ x49 = 0 → Q (0, (-1)) M))) :
    Y G (d + 2) mX11_askNow 29 [(2, 1), (0, x1), (0, x2)] [(0, x49)] M Q := by
  refine z_ifeq (tgt := 34) dX11_askNow_29 rfl (fun q => ?_) (fun q => ?_)
  · replace h := h.1 q
    refine z_aloadn dX11_askNow_34 rfl (Or.inl rfl) ?_
    refine y_getr (v := 157) hG dX11_askNow_35 fX11_39 sh1 (by decide) rfl (by decide +kernel) (by decide) ?_
    refine z_iloadn dX11_askNow_38 rfl ?_
    refine z_iloadn dX11_askNow_39 rfl ?_
    refine y_cv (mt2 := mX6_addStep) (en := [(2, 157), (0, x1), (0, x2)]) (st := []) (as := [(0, x1), (0, x2)]) dX11_askNow_40 lX11_231 kX6_addStep iX6_addStep eX6_addStep rfl sh157 (by decide +kernel) (Nat.le_of_ble_eq_true rfl) (Nat.le_of_ble_eq_true rfl) rfl ?_
    exact h
  · replace h := h.2 q
    refine z_iconst dX11_askNow_32 ki_m1 ?_
    exact z_ireturn dX11_askNow_33 (Or.inl rfl) rfl h
set_option maxRecDepth 20000 in
set_option maxHeartbeats 4000000 in
theorem bX11_askNow_43 {G : zG} {d : Nat} {M : zM} {Q : zV → zM → Prop} (hG : zP G) {x1 x2 : Int}
    (h : Q (0, (M 157 9)) M) :
    Y G (d + 2) mX11_askNow 43 [(2, 1), (0, x1), (0, x2)] [] M Q := by
  refine z_aloadn dX11_askNow_43 rfl (Or.inl rfl) ?_
  refine y_getr (v := 157) hG dX11_askNow_44 fX11_39 sh1 (by decide) rfl (by decide +kernel) (by decide) ?_
  refine y_getf (x := (M 157 9)) dX11_askNow_47 fX11_235 sh157 (by decide) rfl rfl ?_
  exact z_ireturn dX11_askNow_50 (Or.inl rfl) rfl h
set_option maxRecDepth 20000 in
set_option maxHeartbeats 4000000 in
theorem bX11_why_0 {G : zG} {d : Nat} {M : zM} {Q : zV → zM → Prop} (hG : zP G) {x1 x2 : Int}
    (h : (-1000 ≤ (M 157 5) ∧ (M 157 5) ≤ 1000) ∧ ((0 ≤ x1 ∧ x1 < (M 157 5) → (-1000 ≤ (M 19 8) ∧ (M 19 8) ≤ 1000) ∧ ((0 ≤ x2 ∧ x2 < (M 19 8) → Y G (d + 1) mX11_takeStock 0 [(2, 1)] [] M (fun r M' => Y G (d + 2) mX11_why 22 [(2, 1), (0, x1), (0, x2)] (zpush r []) M' Q)) ∧ (¬ (0 ≤ x2 ∧ x2 < (M 19 8)) → Q (0, (-1)) M))) ∧ (¬ (0 ≤ x1 ∧ x1 < (M 157 5)) → Q (0, (-1)) M))) :
    Y G (d + 2) mX11_why 0 [(2, 1), (0, x1), (0, x2)] [] M Q := by
  refine z_aloadn dX11_why_0 rfl (Or.inl rfl) ?_
  refine z_iloadn dX11_why_1 rfl ?_
  obtain ⟨q1, h⟩ := h
  refine y_cv (mt2 := mX11_isPupil) (en := [(2, 1), (0, x1)]) (st := []) (as := [(0, x1)]) dX11_why_2 lX11_221 kX11_isPupil iX11_isPupil eX11_isPupil rfl sh1 (by decide +kernel) (Nat.le_of_ble_eq_true rfl) (Nat.le_of_ble_eq_true rfl) rfl (s_isPupil hG rfl q1 (fun q => ?_) (fun q => ?_))
  · replace h := h.1 q
    show Y G (d + 2) mX11_why 5 [(2, 1), (0, x1), (0, x2)] [(0, 1)] M Q
    refine z_ifeq (tgt := 16) dX11_why_5 rfl (fun q => absurd q (by decide)) (fun _ => ?_)
    refine z_aloadn dX11_why_8 rfl (Or.inl rfl) ?_
    refine z_iloadn dX11_why_9 rfl ?_
    obtain ⟨q2, h⟩ := h
    refine y_cv (mt2 := mX11_isQuestion) (en := [(2, 1), (0, x2)]) (st := []) (as := [(0, x2)]) dX11_why_10 lX11_179 kX11_isQuestion iX11_isQuestion eX11_isQuestion rfl sh1 (by decide +kernel) (Nat.le_of_ble_eq_true rfl) (Nat.le_of_ble_eq_true rfl) rfl (s_isQuestion hG rfl q2 (fun q => ?_) (fun q => ?_))
    · replace h := h.1 q
      show Y G (d + 2) mX11_why 13 [(2, 1), (0, x1), (0, x2)] [(0, 1)] M Q
      refine z_ifne (tgt := 18) dX11_why_13 rfl (fun _ => ?_) (fun q => absurd q (by decide))
      refine z_aloadn dX11_why_18 rfl (Or.inl rfl) ?_
      refine y_cv (mt2 := mX11_takeStock) (en := [(2, 1)]) (st := []) (as := []) dX11_why_19 lX11_135 kX11_takeStock iX11_takeStock eX11_takeStock rfl sh1 (by decide +kernel) (Nat.le_of_ble_eq_true rfl) (Nat.le_of_ble_eq_true rfl) rfl ?_
      exact h
    · replace h := h.2 q
      show Y G (d + 2) mX11_why 13 [(2, 1), (0, x1), (0, x2)] [(0, 0)] M Q
      refine z_ifne (tgt := 18) dX11_why_13 rfl (fun q => absurd q (by decide)) (fun _ => ?_)
      refine z_iconst dX11_why_16 ki_m1 ?_
      exact z_ireturn dX11_why_17 (Or.inl rfl) rfl h
  · replace h := h.2 q
    show Y G (d + 2) mX11_why 5 [(2, 1), (0, x1), (0, x2)] [(0, 0)] M Q
    refine z_ifeq (tgt := 16) dX11_why_5 rfl (fun _ => ?_) (fun q => absurd q (by decide))
    refine z_iconst dX11_why_16 ki_m1 ?_
    exact z_ireturn dX11_why_17 (Or.inl rfl) rfl h
set_option maxRecDepth 20000 in
set_option maxHeartbeats 4000000 in
theorem bX11_why_22 {G : zG} {d : Nat} {M : zM} {Q : zV → zM → Prop} (hG : zP G) {x1 x2 : Int}
    (h : Y G (d + 1) mX6_hindrance 0 [(2, 157), (0, x1), (0, x2), (2, 19)] [] M (fun r M' => Y G (d + 2) mX11_why 35 [(2, 1), (0, x1), (0, x2)] (zpush r []) M' Q)) :
    Y G (d + 2) mX11_why 22 [(2, 1), (0, x1), (0, x2)] [] M Q := by
  refine z_aloadn dX11_why_22 rfl (Or.inl rfl) ?_
  refine y_getr (v := 157) hG dX11_why_23 fX11_39 sh1 (by decide) rfl (by decide +kernel) (by decide) ?_
  refine z_iloadn dX11_why_26 rfl ?_
  refine z_iloadn dX11_why_27 rfl ?_
  refine z_aloadn dX11_why_28 rfl (Or.inl rfl) ?_
  refine y_getr (v := 19) hG dX11_why_29 fX11_32 sh1 (by decide) rfl (by decide +kernel) (by decide) ?_
  refine y_cv (mt2 := mX6_hindrance) (en := [(2, 157), (0, x1), (0, x2), (2, 19)]) (st := []) (as := [(0, x1), (0, x2), (2, 19)]) dX11_why_32 lX11_228 kX6_hindrance iX6_hindrance eX6_hindrance rfl sh157 (by decide +kernel) (Nat.le_of_ble_eq_true rfl) (Nat.le_of_ble_eq_true rfl) rfl ?_
  exact h
set_option maxRecDepth 20000 in
set_option maxHeartbeats 4000000 in
theorem bX11_why_35 {G : zG} {d : Nat} {M : zM} {Q : zV → zM → Prop} (hG : zP G) {x1 x2 x49 : Int}
    (h : Q (0, x49) M) :
    Y G (d + 2) mX11_why 35 [(2, 1), (0, x1), (0, x2)] [(0, x49)] M Q := by
  exact z_ireturn dX11_why_35 (Or.inl rfl) rfl h
set_option maxRecDepth 20000 in
set_option maxHeartbeats 4000000 in
theorem bX11_barred_0 {G : zG} {d : Nat} {M : zM} {Q : zV → zM → Prop} (hG : zP G) {x1 : Int}
    (h : (-1000 ≤ (M 19 8) ∧ (M 19 8) ≤ 1000) ∧ ((0 ≤ x1 ∧ x1 < (M 19 8) → Y G (d + 1) mX11_takeStock 0 [(2, 1)] [] M (fun r M' => Y G (d + 2) mX11_barred 14 [(2, 1), (0, x1)] (zpush r []) M' Q)) ∧ (¬ (0 ≤ x1 ∧ x1 < (M 19 8)) → Q (0, (-1)) M))) :
    Y G (d + 2) mX11_barred 0 [(2, 1), (0, x1)] [] M Q := by
  refine z_aloadn dX11_barred_0 rfl (Or.inl rfl) ?_
  refine z_iloadn dX11_barred_1 rfl ?_
  obtain ⟨q1, h⟩ := h
  refine y_cv (mt2 := mX11_isQuestion) (en := [(2, 1), (0, x1)]) (st := []) (as := [(0, x1)]) dX11_barred_2 lX11_179 kX11_isQuestion iX11_isQuestion eX11_isQuestion rfl sh1 (by decide +kernel) (Nat.le_of_ble_eq_true rfl) (Nat.le_of_ble_eq_true rfl) rfl (s_isQuestion hG rfl q1 (fun q => ?_) (fun q => ?_))
  · replace h := h.1 q
    show Y G (d + 2) mX11_barred 5 [(2, 1), (0, x1)] [(0, 1)] M Q
    refine z_ifne (tgt := 10) dX11_barred_5 rfl (fun _ => ?_) (fun q => absurd q (by decide))
    refine z_aloadn dX11_barred_10 rfl (Or.inl rfl) ?_
    refine y_cv (mt2 := mX11_takeStock) (en := [(2, 1)]) (st := []) (as := []) dX11_barred_11 lX11_135 kX11_takeStock iX11_takeStock eX11_takeStock rfl sh1 (by decide +kernel) (Nat.le_of_ble_eq_true rfl) (Nat.le_of_ble_eq_true rfl) rfl ?_
    exact h
  · replace h := h.2 q
    show Y G (d + 2) mX11_barred 5 [(2, 1), (0, x1)] [(0, 0)] M Q
    refine z_ifne (tgt := 10) dX11_barred_5 rfl (fun q => absurd q (by decide)) (fun _ => ?_)
    refine z_iconst dX11_barred_8 ki_m1 ?_
    exact z_ireturn dX11_barred_9 (Or.inl rfl) rfl h
set_option maxRecDepth 20000 in
set_option maxHeartbeats 4000000 in
theorem bX11_barred_14 {G : zG} {d : Nat} {M : zM} {Q : zV → zM → Prop} (hG : zP G) {x1 : Int}
    (h : Y G (d + 1) mX6_barring 0 [(2, 157), (0, x1), (2, 19), (9, 0), (9, 0), (9, 0)] [] M (fun r M' => Y G (d + 2) mX11_barred 26 [(2, 1), (0, x1)] (zpush r []) M' Q)) :
    Y G (d + 2) mX11_barred 14 [(2, 1), (0, x1)] [] M Q := by
  refine z_aloadn dX11_barred_14 rfl (Or.inl rfl) ?_
  refine y_getr (v := 157) hG dX11_barred_15 fX11_39 sh1 (by decide) rfl (by decide +kernel) (by decide) ?_
  refine z_iloadn dX11_barred_18 rfl ?_
  refine z_aloadn dX11_barred_19 rfl (Or.inl rfl) ?_
  refine y_getr (v := 19) hG dX11_barred_20 fX11_32 sh1 (by decide) rfl (by decide +kernel) (by decide) ?_
  refine y_cv (mt2 := mX6_barring) (en := [(2, 157), (0, x1), (2, 19), (9, 0), (9, 0), (9, 0)]) (st := []) (as := [(0, x1), (2, 19)]) dX11_barred_23 lX11_238 kX6_barring iX6_barring eX6_barring rfl sh157 (by decide +kernel) (Nat.le_of_ble_eq_true rfl) (Nat.le_of_ble_eq_true rfl) rfl ?_
  exact h
set_option maxRecDepth 20000 in
set_option maxHeartbeats 4000000 in
theorem bX11_barred_26 {G : zG} {d : Nat} {M : zM} {Q : zV → zM → Prop} (hG : zP G) {x1 x49 : Int}
    (h : Q (0, x49) M) :
    Y G (d + 2) mX11_barred 26 [(2, 1), (0, x1)] [(0, x49)] M Q := by
  exact z_ireturn dX11_barred_26 (Or.inl rfl) rfl h
set_option maxRecDepth 20000 in
set_option maxHeartbeats 4000000 in
theorem bX11_morning_0 {G : zG} {d : Nat} {M : zM} {Q : zV → zM → Prop} (hG : zP G) {x1 : Int}
    (h : (((-1) ≤ x1 ∧ x1 ≤ 9999 → Y G d mX11_takeStock 0 [(2, 1)] [] M (fun r M' => Y G (d + 1) mX11_morning 18 [(2, 1), (0, x1)] (zpush r []) M' Q)) ∧ (¬ ((-1) ≤ x1 ∧ x1 ≤ 9999) → Q (0, (-2)) M))) :
    Y G (d + 1) mX11_morning 0 [(2, 1), (0, x1)] [] M Q := by
  refine z_iloadn dX11_morning_0 rfl ?_
  refine z_iconst dX11_morning_1 ki_m1 ?_
  refine z_sipush dX11_morning_2 ks_9999 ?_
  refine y_cs (mt2 := mX11_within) (en := [(0, x1), (0, (-1)), (0, 9999)]) (st := []) (as := [(0, x1), (0, (-1)), (0, 9999)]) dX11_morning_5 lX11_72 kX11_within tX11_within rfl (Nat.le_of_ble_eq_true rfl) (Nat.le_of_ble_eq_true rfl) rfl (s_within hG (fun q => ?_) (fun q => ?_))
  · replace h := h.1 q
    show Y G (d + 1) mX11_morning 8 [(2, 1), (0, x1)] [(0, 1)] M Q
    refine z_ifne (tgt := 14) dX11_morning_8 rfl (fun _ => ?_) (fun q => absurd q (by decide))
    refine z_aloadn dX11_morning_14 rfl (Or.inl rfl) ?_
    refine y_cv (mt2 := mX11_takeStock) (en := [(2, 1)]) (st := []) (as := []) dX11_morning_15 lX11_135 kX11_takeStock iX11_takeStock eX11_takeStock rfl sh1 (by decide +kernel) (Nat.le_of_ble_eq_true rfl) (Nat.le_of_ble_eq_true rfl) rfl ?_
    exact h
  · replace h := h.2 q
    show Y G (d + 1) mX11_morning 8 [(2, 1), (0, x1)] [(0, 0)] M Q
    refine z_ifne (tgt := 14) dX11_morning_8 rfl (fun q => absurd q (by decide)) (fun _ => ?_)
    refine z_bipush dX11_morning_11 kb_m2 ?_
    exact z_ireturn dX11_morning_13 (Or.inl rfl) rfl h
set_option maxRecDepth 20000 in
set_option maxHeartbeats 4000000 in
theorem bX11_morning_18 {G : zG} {d : Nat} {M : zM} {Q : zV → zM → Prop} (hG : zP G) {x1 : Int}
    (h : Y G d mX6_holdMorning 0 [(2, 157), (0, x1), (2, 19), (9, 0), (9, 0), (9, 0), (9, 0), (9, 0), (9, 0)] [] M (fun r M' => Y G (d + 1) mX11_morning 30 [(2, 1), (0, x1)] (zpush r []) M' Q)) :
    Y G (d + 1) mX11_morning 18 [(2, 1), (0, x1)] [] M Q := by
  refine z_aloadn dX11_morning_18 rfl (Or.inl rfl) ?_
  refine y_getr (v := 157) hG dX11_morning_19 fX11_39 sh1 (by decide) rfl (by decide +kernel) (by decide) ?_
  refine z_iloadn dX11_morning_22 rfl ?_
  refine z_aloadn dX11_morning_23 rfl (Or.inl rfl) ?_
  refine y_getr (v := 19) hG dX11_morning_24 fX11_32 sh1 (by decide) rfl (by decide +kernel) (by decide) ?_
  refine y_cv (mt2 := mX6_holdMorning) (en := [(2, 157), (0, x1), (2, 19), (9, 0), (9, 0), (9, 0), (9, 0), (9, 0), (9, 0)]) (st := []) (as := [(0, x1), (2, 19)]) dX11_morning_27 lX11_172 kX6_holdMorning iX6_holdMorning eX6_holdMorning rfl sh157 (by decide +kernel) (Nat.le_of_ble_eq_true rfl) (Nat.le_of_ble_eq_true rfl) rfl ?_
  exact h
set_option maxRecDepth 20000 in
set_option maxHeartbeats 4000000 in
theorem bX11_morning_30 {G : zG} {d : Nat} {M : zM} {Q : zV → zM → Prop} (hG : zP G) {x1 x49 : Int}
    (h : Q (0, x49) M) :
    Y G (d + 1) mX11_morning 30 [(2, 1), (0, x1)] [(0, x49)] M Q := by
  exact z_ireturn dX11_morning_30 (Or.inl rfl) rfl h
set_option maxRecDepth 20000 in
set_option maxHeartbeats 4000000 in
theorem bX11_stuck_0 {G : zG} {d : Nat} {M : zM} {Q : zV → zM → Prop} (hG : zP G)
    (h : Y G d mX11_takeStock 0 [(2, 1)] [] M (fun r M' => Y G (d + 1) mX11_stuck 4 [(2, 1)] (zpush r []) M' Q)) :
    Y G (d + 1) mX11_stuck 0 [(2, 1)] [] M Q := by
  refine z_aloadn dX11_stuck_0 rfl (Or.inl rfl) ?_
  refine y_cv (mt2 := mX11_takeStock) (en := [(2, 1)]) (st := []) (as := []) dX11_stuck_1 lX11_135 kX11_takeStock iX11_takeStock eX11_takeStock rfl sh1 (by decide +kernel) (Nat.le_of_ble_eq_true rfl) (Nat.le_of_ble_eq_true rfl) rfl ?_
  exact h
set_option maxRecDepth 20000 in
set_option maxHeartbeats 4000000 in
theorem bX11_stuck_4 {G : zG} {d : Nat} {M : zM} {Q : zV → zM → Prop} (hG : zP G)
    (h : Y G d mX6_firstPassedOver 0 [(2, 157), (2, 19), (9, 0), (9, 0), (9, 0), (9, 0), (9, 0), (9, 0)] [] M (fun r M' => Y G (d + 1) mX11_stuck 15 [(2, 1)] (zpush r []) M' Q)) :
    Y G (d + 1) mX11_stuck 4 [(2, 1)] [] M Q := by
  refine z_aloadn dX11_stuck_4 rfl (Or.inl rfl) ?_
  refine y_getr (v := 157) hG dX11_stuck_5 fX11_39 sh1 (by decide) rfl (by decide +kernel) (by decide) ?_
  refine z_aloadn dX11_stuck_8 rfl (Or.inl rfl) ?_
  refine y_getr (v := 19) hG dX11_stuck_9 fX11_32 sh1 (by decide) rfl (by decide +kernel) (by decide) ?_
  refine y_cv (mt2 := mX6_firstPassedOver) (en := [(2, 157), (2, 19), (9, 0), (9, 0), (9, 0), (9, 0), (9, 0), (9, 0)]) (st := []) (as := [(2, 19)]) dX11_stuck_12 lX11_241 kX6_firstPassedOver iX6_firstPassedOver eX6_firstPassedOver rfl sh157 (by decide +kernel) (Nat.le_of_ble_eq_true rfl) (Nat.le_of_ble_eq_true rfl) rfl ?_
  exact h
set_option maxRecDepth 20000 in
set_option maxHeartbeats 4000000 in
theorem bX11_stuck_15 {G : zG} {d : Nat} {M : zM} {Q : zV → zM → Prop} (hG : zP G) {x49 : Int}
    (h : Q (0, x49) M) :
    Y G (d + 1) mX11_stuck 15 [(2, 1)] [(0, x49)] M Q := by
  exact z_ireturn dX11_stuck_15 (Or.inl rfl) rfl h
set_option maxRecDepth 20000 in
set_option maxHeartbeats 4000000 in
theorem bX11_takeStock_0 {G : zG} {d : Nat} {M : zM} {Q : zV → zM → Prop} (hG : zP G)
    (h : Y G d mX3_sayAll 0 [(2, 19), (9, 0), (9, 0)] [] M (fun r M' => Y G (d + 1) mX11_takeStock 7 [(2, 1)] (zpush r []) M' Q)) :
    Y G (d + 1) mX11_takeStock 0 [(2, 1)] [] M Q := by
  refine z_aloadn dX11_takeStock_0 rfl (Or.inl rfl) ?_
  refine y_getr (v := 19) hG dX11_takeStock_1 fX11_32 sh1 (by decide) rfl (by decide +kernel) (by decide) ?_
  refine y_cv (mt2 := mX3_sayAll) (en := [(2, 19), (9, 0), (9, 0)]) (st := []) (as := []) dX11_takeStock_4 lX11_245 kX3_sayAll iX3_sayAll eX3_sayAll rfl sh19 (by decide +kernel) (Nat.le_of_ble_eq_true rfl) (Nat.le_of_ble_eq_true rfl) rfl ?_
  exact h
set_option maxRecDepth 20000 in
set_option maxHeartbeats 4000000 in
theorem bX11_takeStock_7 {G : zG} {d : Nat} {M : zM} {Q : zV → zM → Prop} (hG : zP G)
    (h : Y G d mX3_workAll 0 [(2, 19), (2, 2), (9, 0)] [] M (fun r M' => Y G (d + 1) mX11_takeStock 18 [(2, 1)] (zpush r []) M' Q)) :
    Y G (d + 1) mX11_takeStock 7 [(2, 1)] [] M Q := by
  refine z_aloadn dX11_takeStock_7 rfl (Or.inl rfl) ?_
  refine y_getr (v := 19) hG dX11_takeStock_8 fX11_32 sh1 (by decide) rfl (by decide +kernel) (by decide) ?_
  refine z_aloadn dX11_takeStock_11 rfl (Or.inl rfl) ?_
  refine y_getr (v := 2) hG dX11_takeStock_12 fX11_10 sh1 (by decide) rfl (by decide +kernel) (by decide) ?_
  refine y_cv (mt2 := mX3_workAll) (en := [(2, 19), (2, 2), (9, 0)]) (st := []) (as := [(2, 2)]) dX11_takeStock_15 lX11_248 kX3_workAll iX3_workAll eX3_workAll rfl sh19 (by decide +kernel) (Nat.le_of_ble_eq_true rfl) (Nat.le_of_ble_eq_true rfl) rfl ?_
  exact h
set_option maxRecDepth 20000 in
set_option maxHeartbeats 4000000 in
theorem bX11_takeStock_18 {G : zG} {d : Nat} {M : zM} {Q : zV → zM → Prop} (hG : zP G)
    (h : Q (9, 0) M) :
    Y G (d + 1) mX11_takeStock 18 [(2, 1)] [] M Q := by
  exact z_return dX11_takeStock_18 rfl rfl h
set_option maxRecDepth 20000 in
set_option maxHeartbeats 4000000 in
theorem bX11_undo_0 {G : zG} {d : Nat} {M : zM} {Q : zV → zM → Prop} (hG : zP G)
    (h : ((0 < (M 157 9) → (-2147483648 ≤ (M 157 9) - 1 ∧ (M 157 9) - 1 ≤ 2147483647) ∧ Q (0, ((M 157 9) - 1)) (zset M 157 9 ((M 157 9) - 1))) ∧ ((M 157 9) ≤ 0 → Q (0, (-1)) M))) :
    Y G d mX11_undo 0 [(2, 1)] [] M Q := by
  refine z_aloadn dX11_undo_0 rfl (Or.inl rfl) ?_
  refine y_getr (v := 157) hG dX11_undo_1 fX11_39 sh1 (by decide) rfl (by decide +kernel) (by decide) ?_
  refine y_getf (x := (M 157 9)) dX11_undo_4 fX11_235 sh157 (by decide) rfl rfl ?_
  refine z_ifgt (tgt := 12) dX11_undo_7 rfl (fun q => ?_) (fun q => ?_)
  · replace h := h.1 q
    refine z_aloadn dX11_undo_12 rfl (Or.inl rfl) ?_
    refine y_getr (v := 157) hG dX11_undo_13 fX11_39 sh1 (by decide) rfl (by decide +kernel) (by decide) ?_
    refine z_dup dX11_undo_16 (show (2 : Nat) ≠ 1 by decide) ?_
    refine y_getf (x := (M 157 9)) dX11_undo_17 fX11_235 sh157 (by decide) rfl rfl ?_
    refine z_iconst dX11_undo_20 ki_1 ?_
    obtain ⟨q1, h⟩ := h
    refine z_isub dX11_undo_21 q1 ?_
    refine y_putf (M' := zset M 157 9 ((M 157 9) - 1)) hG dX11_undo_22 fX11_235 sh157 (by decide) ⟨rfl, rfl⟩ p6_9 (fun q => absurd q (by decide)) (by decide) rfl ?_
    refine z_aloadn dX11_undo_25 rfl (Or.inl rfl) ?_
    refine y_getr (v := 157) hG dX11_undo_26 fX11_39 sh1 (by decide) rfl (by decide +kernel) (by decide) ?_
    refine y_getf (x := ((M 157 9) - 1)) dX11_undo_29 fX11_235 sh157 (by decide) rfl zset_same ?_
    exact z_ireturn dX11_undo_32 (Or.inl rfl) rfl h
  · replace h := h.2 q
    refine z_iconst dX11_undo_10 ki_m1 ?_
    exact z_ireturn dX11_undo_11 (Or.inl rfl) rfl h
set_option maxRecDepth 20000 in
set_option maxHeartbeats 4000000 in
theorem bX11_thing_0 {G : zG} {d : Nat} {M : zM} {Q : zV → zM → Prop} (hG : zP G) {x1 x2 : Int}
    (h : ((0 ≤ x1 ∧ x1 ≤ 3 → ((0 ≤ x2 ∧ x2 ≤ 99 → (0 ≤ x1 ∧ x1 < 4) ∧ Q (0, 1) (zset M 3 x1 x2)) ∧ (¬ (0 ≤ x2 ∧ x2 ≤ 99) → Q (0, 0) M))) ∧ (¬ (0 ≤ x1 ∧ x1 ≤ 3) → Q (0, 0) M))) :
    Y G (d + 1) mX11_thing 0 [(2, 1), (0, x1), (0, x2)] [] M Q := by
  refine z_iloadn dX11_thing_0 rfl ?_
  refine z_iconst dX11_thing_1 ki_0 ?_
  refine z_iconst dX11_thing_2 ki_3 ?_
  refine y_cs (mt2 := mX11_within) (en := [(0, x1), (0, 0), (0, 3)]) (st := []) (as := [(0, x1), (0, 0), (0, 3)]) dX11_thing_3 lX11_72 kX11_within tX11_within rfl (Nat.le_of_ble_eq_true rfl) (Nat.le_of_ble_eq_true rfl) rfl (s_within hG (fun q => ?_) (fun q => ?_))
  · replace h := h.1 q
    show Y G (d + 1) mX11_thing 6 [(2, 1), (0, x1), (0, x2)] [(0, 1)] M Q
    refine z_ifeq (tgt := 19) dX11_thing_6 rfl (fun q => absurd q (by decide)) (fun _ => ?_)
    refine z_iloadn dX11_thing_9 rfl ?_
    refine z_iconst dX11_thing_10 ki_0 ?_
    refine z_bipush dX11_thing_11 kb_99 ?_
    refine y_cs (mt2 := mX11_within) (en := [(0, x2), (0, 0), (0, 99)]) (st := []) (as := [(0, x2), (0, 0), (0, 99)]) dX11_thing_13 lX11_72 kX11_within tX11_within rfl (Nat.le_of_ble_eq_true rfl) (Nat.le_of_ble_eq_true rfl) rfl (s_within hG (fun q => ?_) (fun q => ?_))
    · replace h := h.1 q
      show Y G (d + 1) mX11_thing 16 [(2, 1), (0, x1), (0, x2)] [(0, 1)] M Q
      refine z_ifne (tgt := 21) dX11_thing_16 rfl (fun _ => ?_) (fun q => absurd q (by decide))
      refine z_aloadn dX11_thing_21 rfl (Or.inl rfl) ?_
      refine y_getr (v := 2) hG dX11_thing_22 fX11_10 sh1 (by decide) rfl (by decide +kernel) (by decide) ?_
      refine y_getr (v := 3) hG dX11_thing_25 fX11_76 sh2 (by decide) rfl (by decide +kernel) (by decide) ?_
      refine z_iloadn dX11_thing_28 rfl ?_
      refine z_iloadn dX11_thing_29 rfl ?_
      obtain ⟨q1, h⟩ := h
      refine y_iast hG dX11_thing_30 sh3 q1 ?_
      refine z_iconst dX11_thing_31 ki_1 ?_
      exact z_ireturn dX11_thing_32 (Or.inr ⟨rfl, ⟨by decide, by decide⟩⟩) rfl h
    · replace h := h.2 q
      show Y G (d + 1) mX11_thing 16 [(2, 1), (0, x1), (0, x2)] [(0, 0)] M Q
      refine z_ifne (tgt := 21) dX11_thing_16 rfl (fun q => absurd q (by decide)) (fun _ => ?_)
      refine z_iconst dX11_thing_19 ki_0 ?_
      exact z_ireturn dX11_thing_20 (Or.inr ⟨rfl, ⟨by decide, by decide⟩⟩) rfl h
  · replace h := h.2 q
    show Y G (d + 1) mX11_thing 6 [(2, 1), (0, x1), (0, x2)] [(0, 0)] M Q
    refine z_ifeq (tgt := 19) dX11_thing_6 rfl (fun _ => ?_) (fun q => absurd q (by decide))
    refine z_iconst dX11_thing_19 ki_0 ?_
    exact z_ireturn dX11_thing_20 (Or.inr ⟨rfl, ⟨by decide, by decide⟩⟩) rfl h
set_option maxRecDepth 20000 in
set_option maxHeartbeats 4000000 in
theorem bX11_asked_0 {G : zG} {d : Nat} {M : zM} {Q : zV → zM → Prop} (hG : zP G) {x1 x2 : Int}
    (h : ((¬ x1 = (-1) → (-2147483648 ≤ (M 157 9) - 1 ∧ (M 157 9) - 1 ≤ 2147483647) ∧ ((0 ≤ x1 ∧ x1 ≤ ((M 157 9) - 1) → ((x2 = 0 → (0 ≤ x1 ∧ x1 < 6) ∧ Q (0, (M 163 x1)) M) ∧ (¬ x2 = 0 → (0 ≤ x1 ∧ x1 < 6) ∧ Q (0, (M 164 x1)) M))) ∧ (¬ (0 ≤ x1 ∧ x1 ≤ ((M 157 9) - 1)) → Q (0, (-1)) M))) ∧ (x1 = (-1) → Q (0, (M 157 9)) M))) :
    Y G (d + 1) mX11_asked 0 [(2, 1), (0, x1), (0, x2)] [] M Q := by
  refine z_iloadn dX11_asked_0 rfl ?_
  refine z_iconst dX11_asked_1 ki_m1 ?_
  refine z_icmpne (tgt := 13) dX11_asked_2 rfl (fun q => ?_) (fun q => ?_)
  · replace h := h.1 q
    refine z_iloadn dX11_asked_13 rfl ?_
    refine z_iconst dX11_asked_14 ki_0 ?_
    refine z_aloadn dX11_asked_15 rfl (Or.inl rfl) ?_
    refine y_getr (v := 157) hG dX11_asked_16 fX11_39 sh1 (by decide) rfl (by decide +kernel) (by decide) ?_
    refine y_getf (x := (M 157 9)) dX11_asked_19 fX11_235 sh157 (by decide) rfl rfl ?_
    refine z_iconst dX11_asked_22 ki_1 ?_
    obtain ⟨q1, h⟩ := h
    refine z_isub dX11_asked_23 q1 ?_
    refine y_cs (mt2 := mX11_within) (en := [(0, x1), (0, 0), (0, ((M 157 9) - 1))]) (st := []) (as := [(0, x1), (0, 0), (0, ((M 157 9) - 1))]) dX11_asked_24 lX11_72 kX11_within tX11_within rfl (Nat.le_of_ble_eq_true rfl) (Nat.le_of_ble_eq_true rfl) rfl (s_within hG (fun q => ?_) (fun q => ?_))
    · replace h := h.1 q
      show Y G (d + 1) mX11_asked 27 [(2, 1), (0, x1), (0, x2)] [(0, 1)] M Q
      refine z_ifne (tgt := 32) dX11_asked_27 rfl (fun _ => ?_) (fun q => absurd q (by decide))
      refine z_iloadn dX11_asked_32 rfl ?_
      refine z_ifeq (tgt := 48) dX11_asked_33 rfl (fun q => ?_) (fun q => ?_)
      · replace h := h.1 q
        refine z_aloadn dX11_asked_48 rfl (Or.inl rfl) ?_
        refine y_getr (v := 157) hG dX11_asked_49 fX11_39 sh1 (by decide) rfl (by decide +kernel) (by decide) ?_
        refine y_getr (v := 163) hG dX11_asked_52 fX11_255 sh157 (by decide) rfl (by decide +kernel) (by decide) ?_
        refine z_iloadn dX11_asked_55 rfl ?_
        obtain ⟨q2, h⟩ := h
        refine y_iald (x := (M 163 x1)) dX11_asked_56 sh163 q2 rfl ?_
        exact z_ireturn dX11_asked_57 (Or.inl rfl) rfl h
      · replace h := h.2 q
        refine z_aloadn dX11_asked_36 rfl (Or.inl rfl) ?_
        refine y_getr (v := 157) hG dX11_asked_37 fX11_39 sh1 (by decide) rfl (by decide +kernel) (by decide) ?_
        refine y_getr (v := 164) hG dX11_asked_40 fX11_252 sh157 (by decide) rfl (by decide +kernel) (by decide) ?_
        refine z_iloadn dX11_asked_43 rfl ?_
        obtain ⟨q3, h⟩ := h
        refine y_iald (x := (M 164 x1)) dX11_asked_44 sh164 q3 rfl ?_
        refine z_goto (tgt := 57) dX11_asked_45 rfl ?_
        exact z_ireturn dX11_asked_57 (Or.inl rfl) rfl h
    · replace h := h.2 q
      show Y G (d + 1) mX11_asked 27 [(2, 1), (0, x1), (0, x2)] [(0, 0)] M Q
      refine z_ifne (tgt := 32) dX11_asked_27 rfl (fun q => absurd q (by decide)) (fun _ => ?_)
      refine z_iconst dX11_asked_30 ki_m1 ?_
      exact z_ireturn dX11_asked_31 (Or.inl rfl) rfl h
  · replace h := h.2 q
    refine z_aloadn dX11_asked_5 rfl (Or.inl rfl) ?_
    refine y_getr (v := 157) hG dX11_asked_6 fX11_39 sh1 (by decide) rfl (by decide +kernel) (by decide) ?_
    refine y_getf (x := (M 157 9)) dX11_asked_9 fX11_235 sh157 (by decide) rfl rfl ?_
    exact z_ireturn dX11_asked_12 (Or.inl rfl) rfl h
set_option maxRecDepth 20000 in
set_option maxHeartbeats 4000000 in
theorem bX11_left_0 {G : zG} {d : Nat} {M : zM} {Q : zV → zM → Prop} (hG : zP G) {x1 : Int}
    (h : (-1000 ≤ (M 157 5) ∧ (M 157 5) ≤ 1000) ∧ ((0 ≤ x1 ∧ x1 < (M 157 5) → Y G (d + 1) mX11_takeStock 0 [(2, 1)] [] M (fun r M' => Y G (d + 2) mX11_left 14 [(2, 1), (0, x1)] (zpush r []) M' Q)) ∧ (¬ (0 ≤ x1 ∧ x1 < (M 157 5)) → Q (0, (-1)) M))) :
    Y G (d + 2) mX11_left 0 [(2, 1), (0, x1)] [] M Q := by
  refine z_aloadn dX11_left_0 rfl (Or.inl rfl) ?_
  refine z_iloadn dX11_left_1 rfl ?_
  obtain ⟨q1, h⟩ := h
  refine y_cv (mt2 := mX11_isPupil) (en := [(2, 1), (0, x1)]) (st := []) (as := [(0, x1)]) dX11_left_2 lX11_221 kX11_isPupil iX11_isPupil eX11_isPupil rfl sh1 (by decide +kernel) (Nat.le_of_ble_eq_true rfl) (Nat.le_of_ble_eq_true rfl) rfl (s_isPupil hG rfl q1 (fun q => ?_) (fun q => ?_))
  · replace h := h.1 q
    show Y G (d + 2) mX11_left 5 [(2, 1), (0, x1)] [(0, 1)] M Q
    refine z_ifne (tgt := 10) dX11_left_5 rfl (fun _ => ?_) (fun q => absurd q (by decide))
    refine z_aloadn dX11_left_10 rfl (Or.inl rfl) ?_
    refine y_cv (mt2 := mX11_takeStock) (en := [(2, 1)]) (st := []) (as := []) dX11_left_11 lX11_135 kX11_takeStock iX11_takeStock eX11_takeStock rfl sh1 (by decide +kernel) (Nat.le_of_ble_eq_true rfl) (Nat.le_of_ble_eq_true rfl) rfl ?_
    exact h
  · replace h := h.2 q
    show Y G (d + 2) mX11_left 5 [(2, 1), (0, x1)] [(0, 0)] M Q
    refine z_ifne (tgt := 10) dX11_left_5 rfl (fun q => absurd q (by decide)) (fun _ => ?_)
    refine z_iconst dX11_left_8 ki_m1 ?_
    exact z_ireturn dX11_left_9 (Or.inl rfl) rfl h
set_option maxRecDepth 20000 in
set_option maxHeartbeats 4000000 in
theorem bX11_left_14 {G : zG} {d : Nat} {M : zM} {Q : zV → zM → Prop} (hG : zP G) {x1 : Int}
    (h : Y G (d + 1) mX6_shortestNow 0 [(2, 157), (0, x1), (2, 19), (9, 0), (9, 0), (9, 0)] [] M (fun r M' => Y G (d + 2) mX11_left 26 [(2, 1), (0, x1)] (zpush r []) M' Q)) :
    Y G (d + 2) mX11_left 14 [(2, 1), (0, x1)] [] M Q := by
  refine z_aloadn dX11_left_14 rfl (Or.inl rfl) ?_
  refine y_getr (v := 157) hG dX11_left_15 fX11_39 sh1 (by decide) rfl (by decide +kernel) (by decide) ?_
  refine z_iloadn dX11_left_18 rfl ?_
  refine z_aloadn dX11_left_19 rfl (Or.inl rfl) ?_
  refine y_getr (v := 19) hG dX11_left_20 fX11_32 sh1 (by decide) rfl (by decide +kernel) (by decide) ?_
  refine y_cv (mt2 := mX6_shortestNow) (en := [(2, 157), (0, x1), (2, 19), (9, 0), (9, 0), (9, 0)]) (st := []) (as := [(0, x1), (2, 19)]) dX11_left_23 lX11_258 kX6_shortestNow iX6_shortestNow eX6_shortestNow rfl sh157 (by decide +kernel) (Nat.le_of_ble_eq_true rfl) (Nat.le_of_ble_eq_true rfl) rfl ?_
  exact h
set_option maxRecDepth 20000 in
set_option maxHeartbeats 4000000 in
theorem bX11_left_26 {G : zG} {d : Nat} {M : zM} {Q : zV → zM → Prop} (hG : zP G) {x1 x49 : Int}
    (h : Q (0, x49) M) :
    Y G (d + 2) mX11_left 26 [(2, 1), (0, x1)] [(0, x49)] M Q := by
  exact z_ireturn dX11_left_26 (Or.inl rfl) rfl h
set_option maxRecDepth 20000 in
set_option maxHeartbeats 4000000 in
theorem bX11_order_0 {G : zG} {d : Nat} {M : zM} {Q : zV → zM → Prop} (hG : zP G) {x1 : Int}
    (h : (-2147483648 ≤ (M 157 5) - 1 ∧ (M 157 5) - 1 ≤ 2147483647) ∧ (((-1) ≤ x1 ∧ x1 ≤ ((M 157 5) - 1) → Y G d mX11_takeStock 0 [(2, 1)] [] M (fun r M' => Y G (d + 1) mX11_order 24 [(2, 1), (0, x1)] (zpush r []) M' Q)) ∧ (¬ ((-1) ≤ x1 ∧ x1 ≤ ((M 157 5) - 1)) → Q (0, (-2)) M))) :
    Y G (d + 1) mX11_order 0 [(2, 1), (0, x1)] [] M Q := by
  refine z_iloadn dX11_order_0 rfl ?_
  refine z_iconst dX11_order_1 ki_m1 ?_
  refine z_aloadn dX11_order_2 rfl (Or.inl rfl) ?_
  refine y_getr (v := 157) hG dX11_order_3 fX11_39 sh1 (by decide) rfl (by decide +kernel) (by decide) ?_
  refine y_getf (x := (M 157 5)) dX11_order_6 fX11_261 sh157 (by decide) rfl rfl ?_
  refine z_iconst dX11_order_9 ki_1 ?_
  obtain ⟨q1, h⟩ := h
  refine z_isub dX11_order_10 q1 ?_
  refine y_cs (mt2 := mX11_within) (en := [(0, x1), (0, (-1)), (0, ((M 157 5) - 1))]) (st := []) (as := [(0, x1), (0, (-1)), (0, ((M 157 5) - 1))]) dX11_order_11 lX11_72 kX11_within tX11_within rfl (Nat.le_of_ble_eq_true rfl) (Nat.le_of_ble_eq_true rfl) rfl (s_within hG (fun q => ?_) (fun q => ?_))
  · replace h := h.1 q
    show Y G (d + 1) mX11_order 14 [(2, 1), (0, x1)] [(0, 1)] M Q
    refine z_ifne (tgt := 20) dX11_order_14 rfl (fun _ => ?_) (fun q => absurd q (by decide))
    refine z_aloadn dX11_order_20 rfl (Or.inl rfl) ?_
    refine y_cv (mt2 := mX11_takeStock) (en := [(2, 1)]) (st := []) (as := []) dX11_order_21 lX11_135 kX11_takeStock iX11_takeStock eX11_takeStock rfl sh1 (by decide +kernel) (Nat.le_of_ble_eq_true rfl) (Nat.le_of_ble_eq_true rfl) rfl ?_
    exact h
  · replace h := h.2 q
    show Y G (d + 1) mX11_order 14 [(2, 1), (0, x1)] [(0, 0)] M Q
    refine z_ifne (tgt := 20) dX11_order_14 rfl (fun q => absurd q (by decide)) (fun _ => ?_)
    refine z_bipush dX11_order_17 kb_m2 ?_
    exact z_ireturn dX11_order_19 (Or.inl rfl) rfl h
set_option maxRecDepth 20000 in
set_option maxHeartbeats 4000000 in
theorem bX11_order_24 {G : zG} {d : Nat} {M : zM} {Q : zV → zM → Prop} (hG : zP G) {x1 : Int}
    (h : Y G d mX2_look 0 [(2, 165), (2, 157), (2, 19), (9, 0)] [] M (fun r M' => Y G (d + 1) mX11_order 39 [(2, 1), (0, x1)] (zpush r []) M' Q)) :
    Y G (d + 1) mX11_order 24 [(2, 1), (0, x1)] [] M Q := by
  refine z_aloadn dX11_order_24 rfl (Or.inl rfl) ?_
  refine y_getr (v := 165) hG dX11_order_25 fX11_46 sh1 (by decide) rfl (by decide +kernel) (by decide) ?_
  refine z_aloadn dX11_order_28 rfl (Or.inl rfl) ?_
  refine y_getr (v := 157) hG dX11_order_29 fX11_39 sh1 (by decide) rfl (by decide +kernel) (by decide) ?_
  refine z_aloadn dX11_order_32 rfl (Or.inl rfl) ?_
  refine y_getr (v := 19) hG dX11_order_33 fX11_32 sh1 (by decide) rfl (by decide +kernel) (by decide) ?_
  refine y_cv (mt2 := mX2_look) (en := [(2, 165), (2, 157), (2, 19), (9, 0)]) (st := []) (as := [(2, 157), (2, 19)]) dX11_order_36 lX11_264 kX2_look iX2_look eX2_look rfl sh165 (by decide +kernel) (Nat.le_of_ble_eq_true rfl) (Nat.le_of_ble_eq_true rfl) rfl ?_
  exact h
set_option maxRecDepth 20000 in
set_option maxHeartbeats 4000000 in
theorem bX11_order_39 {G : zG} {d : Nat} {M : zM} {Q : zV → zM → Prop} (hG : zP G) {x1 : Int}
    (h : ((¬ x1 = (-1) → Y G d mX2_findOrder 0 [(2, 165)] [] M (fun r M' => Y G (d + 1) mX11_order 59 [(2, 1), (0, x1)] (zpush r []) M' Q)) ∧ (x1 = (-1) → Y G d mX2_mostWhoCan 0 [(2, 165), (9, 0), (9, 0)] [] M (fun r M' => Y G (d + 1) mX11_order 51 [(2, 1), (0, x1)] (zpush r []) M' Q)))) :
    Y G (d + 1) mX11_order 39 [(2, 1), (0, x1)] [] M Q := by
  refine z_iloadn dX11_order_39 rfl ?_
  refine z_iconst dX11_order_40 ki_m1 ?_
  refine z_icmpne (tgt := 52) dX11_order_41 rfl (fun q => ?_) (fun q => ?_)
  · replace h := h.1 q
    refine z_aloadn dX11_order_52 rfl (Or.inl rfl) ?_
    refine y_getr (v := 165) hG dX11_order_53 fX11_46 sh1 (by decide) rfl (by decide +kernel) (by decide) ?_
    refine y_cv (mt2 := mX2_findOrder) (en := [(2, 165)]) (st := []) (as := []) dX11_order_56 lX11_272 kX2_findOrder iX2_findOrder eX2_findOrder rfl sh165 (by decide +kernel) (Nat.le_of_ble_eq_true rfl) (Nat.le_of_ble_eq_true rfl) rfl ?_
    exact h
  · replace h := h.2 q
    refine z_aloadn dX11_order_44 rfl (Or.inl rfl) ?_
    refine y_getr (v := 165) hG dX11_order_45 fX11_46 sh1 (by decide) rfl (by decide +kernel) (by decide) ?_
    refine y_cv (mt2 := mX2_mostWhoCan) (en := [(2, 165), (9, 0), (9, 0)]) (st := []) (as := []) dX11_order_48 lX11_268 kX2_mostWhoCan iX2_mostWhoCan eX2_mostWhoCan rfl sh165 (by decide +kernel) (Nat.le_of_ble_eq_true rfl) (Nat.le_of_ble_eq_true rfl) rfl ?_
    exact h
set_option maxRecDepth 20000 in
set_option maxHeartbeats 4000000 in
theorem bX11_order_59 {G : zG} {d : Nat} {M : zM} {Q : zV → zM → Prop} (hG : zP G) {x1 x49 : Int}
    (h : ((x49 = 0 → Q (0, (-2)) M) ∧ (¬ x49 = 0 → (0 ≤ x1 ∧ x1 < 6) ∧ Q (0, (M 169 x1)) M))) :
    Y G (d + 1) mX11_order 59 [(2, 1), (0, x1)] [(0, x49)] M Q := by
  refine z_ifeq (tgt := 74) dX11_order_59 rfl (fun q => ?_) (fun q => ?_)
  · replace h := h.1 q
    refine z_bipush dX11_order_74 kb_m2 ?_
    exact z_ireturn dX11_order_76 (Or.inl rfl) rfl h
  · replace h := h.2 q
    refine z_aloadn dX11_order_62 rfl (Or.inl rfl) ?_
    refine y_getr (v := 165) hG dX11_order_63 fX11_46 sh1 (by decide) rfl (by decide +kernel) (by decide) ?_
    refine y_getr (v := 169) hG dX11_order_66 fX11_276 sh165 (by decide) rfl (by decide +kernel) (by decide) ?_
    refine z_iloadn dX11_order_69 rfl ?_
    obtain ⟨q1, h⟩ := h
    refine y_iald (x := (M 169 x1)) dX11_order_70 sh169 q1 rfl ?_
    refine z_goto (tgt := 76) dX11_order_71 rfl ?_
    exact z_ireturn dX11_order_76 (Or.inl rfl) rfl h
set_option maxRecDepth 20000 in
set_option maxHeartbeats 4000000 in
theorem bX11_order_51 {G : zG} {d : Nat} {M : zM} {Q : zV → zM → Prop} (hG : zP G) {x1 x49 : Int}
    (h : Q (0, x49) M) :
    Y G (d + 1) mX11_order 51 [(2, 1), (0, x1)] [(0, x49)] M Q := by
  exact z_ireturn dX11_order_51 (Or.inl rfl) rfl h
set_option maxRecDepth 20000 in
set_option maxHeartbeats 4000000 in
theorem bX11_shut_0 {G : zG} {d : Nat} {M : zM} {Q : zV → zM → Prop} (hG : zP G)
    (h : Y G d mX11_takeStock 0 [(2, 1)] [] M (fun r M' => Y G (d + 1) mX11_shut 4 [(2, 1)] (zpush r []) M' Q)) :
    Y G (d + 1) mX11_shut 0 [(2, 1)] [] M Q := by
  refine z_aloadn dX11_shut_0 rfl (Or.inl rfl) ?_
  refine y_cv (mt2 := mX11_takeStock) (en := [(2, 1)]) (st := []) (as := []) dX11_shut_1 lX11_135 kX11_takeStock iX11_takeStock eX11_takeStock rfl sh1 (by decide +kernel) (Nat.le_of_ble_eq_true rfl) (Nat.le_of_ble_eq_true rfl) rfl ?_
  exact h
set_option maxRecDepth 20000 in
set_option maxHeartbeats 4000000 in
theorem bX11_shut_4 {G : zG} {d : Nat} {M : zM} {Q : zV → zM → Prop} (hG : zP G)
    (h : Y G d mX2_look 0 [(2, 165), (2, 157), (2, 19), (9, 0)] [] M (fun r M' => Y G (d + 1) mX11_shut 19 [(2, 1)] (zpush r []) M' Q)) :
    Y G (d + 1) mX11_shut 4 [(2, 1)] [] M Q := by
  refine z_aloadn dX11_shut_4 rfl (Or.inl rfl) ?_
  refine y_getr (v := 165) hG dX11_shut_5 fX11_46 sh1 (by decide) rfl (by decide +kernel) (by decide) ?_
  refine z_aloadn dX11_shut_8 rfl (Or.inl rfl) ?_
  refine y_getr (v := 157) hG dX11_shut_9 fX11_39 sh1 (by decide) rfl (by decide +kernel) (by decide) ?_
  refine z_aloadn dX11_shut_12 rfl (Or.inl rfl) ?_
  refine y_getr (v := 19) hG dX11_shut_13 fX11_32 sh1 (by decide) rfl (by decide +kernel) (by decide) ?_
  refine y_cv (mt2 := mX2_look) (en := [(2, 165), (2, 157), (2, 19), (9, 0)]) (st := []) (as := [(2, 157), (2, 19)]) dX11_shut_16 lX11_264 kX2_look iX2_look eX2_look rfl sh165 (by decide +kernel) (Nat.le_of_ble_eq_true rfl) (Nat.le_of_ble_eq_true rfl) rfl ?_
  exact h
set_option maxRecDepth 20000 in
set_option maxHeartbeats 4000000 in
theorem bX11_shut_19 {G : zG} {d : Nat} {M : zM} {Q : zV → zM → Prop} (hG : zP G)
    (h : Y G d mX2_fewestToShut 0 [(2, 165), (9, 0), (9, 0), (9, 0)] [] M (fun r M' => Y G (d + 1) mX11_shut 26 [(2, 1)] (zpush r []) M' Q)) :
    Y G (d + 1) mX11_shut 19 [(2, 1)] [] M Q := by
  refine z_aloadn dX11_shut_19 rfl (Or.inl rfl) ?_
  refine y_getr (v := 165) hG dX11_shut_20 fX11_46 sh1 (by decide) rfl (by decide +kernel) (by decide) ?_
  refine y_cv (mt2 := mX2_fewestToShut) (en := [(2, 165), (9, 0), (9, 0), (9, 0)]) (st := []) (as := []) dX11_shut_23 lX11_279 kX2_fewestToShut iX2_fewestToShut eX2_fewestToShut rfl sh165 (by decide +kernel) (Nat.le_of_ble_eq_true rfl) (Nat.le_of_ble_eq_true rfl) rfl ?_
  exact h
set_option maxRecDepth 20000 in
set_option maxHeartbeats 4000000 in
theorem bX11_shut_26 {G : zG} {d : Nat} {M : zM} {Q : zV → zM → Prop} (hG : zP G) {x49 : Int}
    (h : Q (0, x49) M) :
    Y G (d + 1) mX11_shut 26 [(2, 1)] [(0, x49)] M Q := by
  exact z_ireturn dX11_shut_26 (Or.inl rfl) rfl h
set_option maxRecDepth 20000 in
set_option maxHeartbeats 4000000 in
theorem bX11_game_0 {G : zG} {d : Nat} {M : zM} {Q : zV → zM → Prop} (hG : zP G) {x1 x2 x3 : Int}
    (h : (-1000 ≤ (M 157 5) ∧ (M 157 5) ≤ 1000) ∧ ((0 ≤ x1 ∧ x1 < (M 157 5) → (-1000 ≤ (M 157 5) ∧ (M 157 5) ≤ 1000) ∧ ((0 ≤ x2 ∧ x2 < (M 157 5) → ((¬ x1 = x2 → Y G (d + 1) mX11_takeStock 0 [(2, 1)] [] M (fun r M' => Y G (d + 2) mX11_game 28 [(2, 1), (0, x1), (0, x2), (0, x3), (9, 0)] (zpush r []) M' Q)) ∧ (x1 = x2 → Q (0, (-2)) M))) ∧ (¬ (0 ≤ x2 ∧ x2 < (M 157 5)) → Q (0, (-2)) M))) ∧ (¬ (0 ≤ x1 ∧ x1 < (M 157 5)) → Q (0, (-2)) M))) :
    Y G (d + 2) mX11_game 0 [(2, 1), (0, x1), (0, x2), (0, x3), (9, 0)] [] M Q := by
  refine z_aloadn dX11_game_0 rfl (Or.inl rfl) ?_
  refine z_iloadn dX11_game_1 rfl ?_
  obtain ⟨q1, h⟩ := h
  refine y_cv (mt2 := mX11_isPupil) (en := [(2, 1), (0, x1)]) (st := []) (as := [(0, x1)]) dX11_game_2 lX11_221 kX11_isPupil iX11_isPupil eX11_isPupil rfl sh1 (by decide +kernel) (Nat.le_of_ble_eq_true rfl) (Nat.le_of_ble_eq_true rfl) rfl (s_isPupil hG rfl q1 (fun q => ?_) (fun q => ?_))
  · replace h := h.1 q
    show Y G (d + 2) mX11_game 5 [(2, 1), (0, x1), (0, x2), (0, x3), (9, 0)] [(0, 1)] M Q
    refine z_ifeq (tgt := 21) dX11_game_5 rfl (fun q => absurd q (by decide)) (fun _ => ?_)
    refine z_aloadn dX11_game_8 rfl (Or.inl rfl) ?_
    refine z_iloadn dX11_game_9 rfl ?_
    obtain ⟨q2, h⟩ := h
    refine y_cv (mt2 := mX11_isPupil) (en := [(2, 1), (0, x2)]) (st := []) (as := [(0, x2)]) dX11_game_10 lX11_221 kX11_isPupil iX11_isPupil eX11_isPupil rfl sh1 (by decide +kernel) (Nat.le_of_ble_eq_true rfl) (Nat.le_of_ble_eq_true rfl) rfl (s_isPupil hG rfl q2 (fun q => ?_) (fun q => ?_))
    · replace h := h.1 q
      show Y G (d + 2) mX11_game 13 [(2, 1), (0, x1), (0, x2), (0, x3), (9, 0)] [(0, 1)] M Q
      refine z_ifeq (tgt := 21) dX11_game_13 rfl (fun q => absurd q (by decide)) (fun _ => ?_)
      refine z_iloadn dX11_game_16 rfl ?_
      refine z_iloadn dX11_game_17 rfl ?_
      refine z_icmpne (tgt := 24) dX11_game_18 rfl (fun q => ?_) (fun q => ?_)
      · replace h := h.1 q
        refine z_aloadn dX11_game_24 rfl (Or.inl rfl) ?_
        refine y_cv (mt2 := mX11_takeStock) (en := [(2, 1)]) (st := []) (as := []) dX11_game_25 lX11_135 kX11_takeStock iX11_takeStock eX11_takeStock rfl sh1 (by decide +kernel) (Nat.le_of_ble_eq_true rfl) (Nat.le_of_ble_eq_true rfl) rfl ?_
        exact h
      · replace h := h.2 q
        refine z_bipush dX11_game_21 kb_m2 ?_
        exact z_ireturn dX11_game_23 (Or.inl rfl) rfl h
    · replace h := h.2 q
      show Y G (d + 2) mX11_game 13 [(2, 1), (0, x1), (0, x2), (0, x3), (9, 0)] [(0, 0)] M Q
      refine z_ifeq (tgt := 21) dX11_game_13 rfl (fun _ => ?_) (fun q => absurd q (by decide))
      refine z_bipush dX11_game_21 kb_m2 ?_
      exact z_ireturn dX11_game_23 (Or.inl rfl) rfl h
  · replace h := h.2 q
    show Y G (d + 2) mX11_game 5 [(2, 1), (0, x1), (0, x2), (0, x3), (9, 0)] [(0, 0)] M Q
    refine z_ifeq (tgt := 21) dX11_game_5 rfl (fun _ => ?_) (fun q => absurd q (by decide))
    refine z_bipush dX11_game_21 kb_m2 ?_
    exact z_ireturn dX11_game_23 (Or.inl rfl) rfl h
set_option maxRecDepth 20000 in
set_option maxHeartbeats 4000000 in
theorem bX11_game_28 {G : zG} {d : Nat} {M : zM} {Q : zV → zM → Prop} (hG : zP G) {x1 x2 x3 : Int}
    (h : Y G (d + 1) mX2_look 0 [(2, 165), (2, 157), (2, 19), (9, 0)] [] M (fun r M' => Y G (d + 2) mX11_game 43 [(2, 1), (0, x1), (0, x2), (0, x3), (9, 0)] (zpush r []) M' Q)) :
    Y G (d + 2) mX11_game 28 [(2, 1), (0, x1), (0, x2), (0, x3), (9, 0)] [] M Q := by
  refine z_aloadn dX11_game_28 rfl (Or.inl rfl) ?_
  refine y_getr (v := 165) hG dX11_game_29 fX11_46 sh1 (by decide) rfl (by decide +kernel) (by decide) ?_
  refine z_aloadn dX11_game_32 rfl (Or.inl rfl) ?_
  refine y_getr (v := 157) hG dX11_game_33 fX11_39 sh1 (by decide) rfl (by decide +kernel) (by decide) ?_
  refine z_aloadn dX11_game_36 rfl (Or.inl rfl) ?_
  refine y_getr (v := 19) hG dX11_game_37 fX11_32 sh1 (by decide) rfl (by decide +kernel) (by decide) ?_
  refine y_cv (mt2 := mX2_look) (en := [(2, 165), (2, 157), (2, 19), (9, 0)]) (st := []) (as := [(2, 157), (2, 19)]) dX11_game_40 lX11_264 kX2_look iX2_look eX2_look rfl sh165 (by decide +kernel) (Nat.le_of_ble_eq_true rfl) (Nat.le_of_ble_eq_true rfl) rfl ?_
  exact h
set_option maxRecDepth 20000 in
set_option maxHeartbeats 4000000 in
theorem bX11_game_43 {G : zG} {d : Nat} {M : zM} {Q : zV → zM → Prop} (hG : zP G) {x1 x2 x3 : Int}
    (h : Y G (d + 1) mX2_winningStart 0 [(2, 165), (0, x1), (0, x2), (9, 0)] [] M (fun r M' => Y G (d + 2) mX11_game 52 [(2, 1), (0, x1), (0, x2), (0, x3), (9, 0)] (zpush r []) M' Q)) :
    Y G (d + 2) mX11_game 43 [(2, 1), (0, x1), (0, x2), (0, x3), (9, 0)] [] M Q := by
  refine z_aloadn dX11_game_43 rfl (Or.inl rfl) ?_
  refine y_getr (v := 165) hG dX11_game_44 fX11_46 sh1 (by decide) rfl (by decide +kernel) (by decide) ?_
  refine z_iloadn dX11_game_47 rfl ?_
  refine z_iloadn dX11_game_48 rfl ?_
  refine y_cv (mt2 := mX2_winningStart) (en := [(2, 165), (0, x1), (0, x2), (9, 0)]) (st := []) (as := [(0, x1), (0, x2)]) dX11_game_49 lX11_282 kX2_winningStart iX2_winningStart eX2_winningStart rfl sh165 (by decide +kernel) (Nat.le_of_ble_eq_true rfl) (Nat.le_of_ble_eq_true rfl) rfl ?_
  exact h
set_option maxRecDepth 20000 in
set_option maxHeartbeats 4000000 in
theorem bX11_game_52 {G : zG} {d : Nat} {M : zM} {Q : zV → zM → Prop} (hG : zP G) {x1 x2 x3 x49 : Int}
    (h : ((x3 = 0 → ((¬ x49 = (-1) → Q (0, x1) M) ∧ (x49 = (-1) → Q (0, x2) M))) ∧ (¬ x3 = 0 → Q (0, x49) M))) :
    Y G (d + 2) mX11_game 52 [(2, 1), (0, x1), (0, x2), (0, x3), (9, 0)] [(0, x49)] M Q := by
  refine y_istore (ls' := [(2, 1), (0, x1), (0, x2), (0, x3), (0, x49)]) dX11_game_52 rfl rfl ?_
  refine z_iloadn dX11_game_54 rfl ?_
  refine z_ifeq (tgt := 61) dX11_game_55 rfl (fun q => ?_) (fun q => ?_)
  · replace h := h.1 q
    refine z_iload dX11_game_61 rfl ?_
    refine z_iconst dX11_game_63 ki_m1 ?_
    refine z_icmpne (tgt := 71) dX11_game_64 rfl (fun q => ?_) (fun q => ?_)
    · replace h := h.1 q
      refine z_iloadn dX11_game_71 rfl ?_
      exact z_ireturn dX11_game_72 (Or.inl rfl) rfl h
    · replace h := h.2 q
      refine z_iloadn dX11_game_67 rfl ?_
      refine z_goto (tgt := 72) dX11_game_68 rfl ?_
      exact z_ireturn dX11_game_72 (Or.inl rfl) rfl h
  · replace h := h.2 q
    refine z_iload dX11_game_58 rfl ?_
    exact z_ireturn dX11_game_60 (Or.inl rfl) rfl h
set_option maxRecDepth 20000 in
set_option maxHeartbeats 4000000 in
theorem bX11_kinds_0 {G : zG} {d : Nat} {M : zM} {Q : zV → zM → Prop} (hG : zP G) {x1 x2 x3 : Int}
    (h : ((1 ≤ x1 ∧ x1 ≤ 5 → ((0 ≤ x2 ∧ x2 ≤ 9 → (((-500) ≤ x3 ∧ x3 ≤ 500 → Y G d mX9_prepare 0 [(2, 170), (0, x2), (0, x1), (2, 3), (9, 0), (9, 0)] [] M (fun r M' => Y G (d + 1) mX11_kinds 52 [(2, 1), (0, x1), (0, x2), (0, x3)] (zpush r []) M' Q)) ∧ (¬ ((-500) ≤ x3 ∧ x3 ≤ 500) → Q (1, (-1)) M))) ∧ (¬ (0 ≤ x2 ∧ x2 ≤ 9) → Q (1, (-1)) M))) ∧ (¬ (1 ≤ x1 ∧ x1 ≤ 5) → Q (1, (-1)) M))) :
    Y G (d + 1) mX11_kinds 0 [(2, 1), (0, x1), (0, x2), (0, x3)] [] M Q := by
  refine z_iloadn dX11_kinds_0 rfl ?_
  refine z_iconst dX11_kinds_1 ki_1 ?_
  refine z_iconst dX11_kinds_2 ki_5 ?_
  refine y_cs (mt2 := mX11_within) (en := [(0, x1), (0, 1), (0, 5)]) (st := []) (as := [(0, x1), (0, 1), (0, 5)]) dX11_kinds_3 lX11_72 kX11_within tX11_within rfl (Nat.le_of_ble_eq_true rfl) (Nat.le_of_ble_eq_true rfl) rfl (s_within hG (fun q => ?_) (fun q => ?_))
  · replace h := h.1 q
    show Y G (d + 1) mX11_kinds 6 [(2, 1), (0, x1), (0, x2), (0, x3)] [(0, 1)] M Q
    refine z_ifeq (tgt := 32) dX11_kinds_6 rfl (fun q => absurd q (by decide)) (fun _ => ?_)
    refine z_iloadn dX11_kinds_9 rfl ?_
    refine z_iconst dX11_kinds_10 ki_0 ?_
    refine z_bipush dX11_kinds_11 kb_9 ?_
    refine y_cs (mt2 := mX11_within) (en := [(0, x2), (0, 0), (0, 9)]) (st := []) (as := [(0, x2), (0, 0), (0, 9)]) dX11_kinds_13 lX11_72 kX11_within tX11_within rfl (Nat.le_of_ble_eq_true rfl) (Nat.le_of_ble_eq_true rfl) rfl (s_within hG (fun q => ?_) (fun q => ?_))
    · replace h := h.1 q
      show Y G (d + 1) mX11_kinds 16 [(2, 1), (0, x1), (0, x2), (0, x3)] [(0, 1)] M Q
      refine z_ifeq (tgt := 32) dX11_kinds_16 rfl (fun q => absurd q (by decide)) (fun _ => ?_)
      refine z_iloadn dX11_kinds_19 rfl ?_
      refine z_sipush dX11_kinds_20 ks_m500 ?_
      refine z_sipush dX11_kinds_23 ks_500 ?_
      refine y_cs (mt2 := mX11_within) (en := [(0, x3), (0, (-500)), (0, 500)]) (st := []) (as := [(0, x3), (0, (-500)), (0, 500)]) dX11_kinds_26 lX11_72 kX11_within tX11_within rfl (Nat.le_of_ble_eq_true rfl) (Nat.le_of_ble_eq_true rfl) rfl (s_within hG (fun q => ?_) (fun q => ?_))
      · replace h := h.1 q
        show Y G (d + 1) mX11_kinds 29 [(2, 1), (0, x1), (0, x2), (0, x3)] [(0, 1)] M Q
        refine z_ifne (tgt := 36) dX11_kinds_29 rfl (fun _ => ?_) (fun q => absurd q (by decide))
        refine z_aloadn dX11_kinds_36 rfl (Or.inl rfl) ?_
        refine y_getr (v := 170) hG dX11_kinds_37 fX11_53 sh1 (by decide) rfl (by decide +kernel) (by decide) ?_
        refine z_iloadn dX11_kinds_40 rfl ?_
        refine z_iloadn dX11_kinds_41 rfl ?_
        refine z_aloadn dX11_kinds_42 rfl (Or.inl rfl) ?_
        refine y_getr (v := 2) hG dX11_kinds_43 fX11_10 sh1 (by decide) rfl (by decide +kernel) (by decide) ?_
        refine y_getr (v := 3) hG dX11_kinds_46 fX11_76 sh2 (by decide) rfl (by decide +kernel) (by decide) ?_
        refine y_cv (mt2 := mX9_prepare) (en := [(2, 170), (0, x2), (0, x1), (2, 3), (9, 0), (9, 0)]) (st := []) (as := [(0, x2), (0, x1), (2, 3)]) dX11_kinds_49 lX11_287 kX9_prepare iX9_prepare eX9_prepare rfl sh170 (by decide +kernel) (Nat.le_of_ble_eq_true rfl) (Nat.le_of_ble_eq_true rfl) rfl ?_
        exact h
      · replace h := h.2 q
        show Y G (d + 1) mX11_kinds 29 [(2, 1), (0, x1), (0, x2), (0, x3)] [(0, 0)] M Q
        refine z_ifne (tgt := 36) dX11_kinds_29 rfl (fun q => absurd q (by decide)) (fun _ => ?_)
        refine z_ldc2 (k := (-1)) (v := (-1)) dX11_kinds_32 ⟨by decide, ⟨by decide, by decide⟩⟩ qlX11_285 ?_
        exact z_lreturn dX11_kinds_35 rfl rfl h
    · replace h := h.2 q
      show Y G (d + 1) mX11_kinds 16 [(2, 1), (0, x1), (0, x2), (0, x3)] [(0, 0)] M Q
      refine z_ifeq (tgt := 32) dX11_kinds_16 rfl (fun _ => ?_) (fun q => absurd q (by decide))
      refine z_ldc2 (k := (-1)) (v := (-1)) dX11_kinds_32 ⟨by decide, ⟨by decide, by decide⟩⟩ qlX11_285 ?_
      exact z_lreturn dX11_kinds_35 rfl rfl h
  · replace h := h.2 q
    show Y G (d + 1) mX11_kinds 6 [(2, 1), (0, x1), (0, x2), (0, x3)] [(0, 0)] M Q
    refine z_ifeq (tgt := 32) dX11_kinds_6 rfl (fun _ => ?_) (fun q => absurd q (by decide))
    refine z_ldc2 (k := (-1)) (v := (-1)) dX11_kinds_32 ⟨by decide, ⟨by decide, by decide⟩⟩ qlX11_285 ?_
    exact z_lreturn dX11_kinds_35 rfl rfl h
set_option maxRecDepth 20000 in
set_option maxHeartbeats 4000000 in
theorem bX11_kinds_52 {G : zG} {d : Nat} {M : zM} {Q : zV → zM → Prop} (hG : zP G) {x1 x2 x3 : Int}
    (h : Y G d mX9_countOf 0 [(2, 170), (0, x2), (0, x1), (0, x3), (9, 0)] [] M (fun r M' => Y G (d + 1) mX11_kinds 62 [(2, 1), (0, x1), (0, x2), (0, x3)] (zpush r []) M' Q)) :
    Y G (d + 1) mX11_kinds 52 [(2, 1), (0, x1), (0, x2), (0, x3)] [] M Q := by
  refine z_aloadn dX11_kinds_52 rfl (Or.inl rfl) ?_
  refine y_getr (v := 170) hG dX11_kinds_53 fX11_53 sh1 (by decide) rfl (by decide +kernel) (by decide) ?_
  refine z_iloadn dX11_kinds_56 rfl ?_
  refine z_iloadn dX11_kinds_57 rfl ?_
  refine z_iloadn dX11_kinds_58 rfl ?_
  refine y_cv (mt2 := mX9_countOf) (en := [(2, 170), (0, x2), (0, x1), (0, x3), (9, 0)]) (st := []) (as := [(0, x2), (0, x1), (0, x3)]) dX11_kinds_59 lX11_291 kX9_countOf iX9_countOf eX9_countOf rfl sh170 (by decide +kernel) (Nat.le_of_ble_eq_true rfl) (Nat.le_of_ble_eq_true rfl) rfl ?_
  exact h
set_option maxRecDepth 20000 in
set_option maxHeartbeats 4000000 in
theorem bX11_kinds_62 {G : zG} {d : Nat} {M : zM} {Q : zV → zM → Prop} (hG : zP G) {x1 x2 x3 x49 : Int}
    (h : Q (1, x49) M) :
    Y G (d + 1) mX11_kinds 62 [(2, 1), (0, x1), (0, x2), (0, x3)] [(0, x49)] M Q := by
  refine z_i2l dX11_kinds_62 ?_
  exact z_lreturn dX11_kinds_63 rfl rfl h
set_option maxRecDepth 20000 in
set_option maxHeartbeats 4000000 in
theorem bX11_fewest_0 {G : zG} {d : Nat} {M : zM} {Q : zV → zM → Prop} (hG : zP G) {x1 x2 : Int}
    (h : ((0 ≤ x1 ∧ x1 ≤ 9 → (((-500) ≤ x2 ∧ x2 ≤ 500 → Y G d mX9_fewestLeaves 0 [(2, 170), (0, x1), (0, x2), (0, 5), (2, 3), (9, 0)] [] M (fun r M' => Y G (d + 1) mX11_fewest 42 [(2, 1), (0, x1), (0, x2)] (zpush r []) M' Q)) ∧ (¬ ((-500) ≤ x2 ∧ x2 ≤ 500) → Q (0, (-1)) M))) ∧ (¬ (0 ≤ x1 ∧ x1 ≤ 9) → Q (0, (-1)) M))) :
    Y G (d + 1) mX11_fewest 0 [(2, 1), (0, x1), (0, x2)] [] M Q := by
  refine z_iloadn dX11_fewest_0 rfl ?_
  refine z_iconst dX11_fewest_1 ki_0 ?_
  refine z_bipush dX11_fewest_2 kb_9 ?_
  refine y_cs (mt2 := mX11_within) (en := [(0, x1), (0, 0), (0, 9)]) (st := []) (as := [(0, x1), (0, 0), (0, 9)]) dX11_fewest_4 lX11_72 kX11_within tX11_within rfl (Nat.le_of_ble_eq_true rfl) (Nat.le_of_ble_eq_true rfl) rfl (s_within hG (fun q => ?_) (fun q => ?_))
  · replace h := h.1 q
    show Y G (d + 1) mX11_fewest 7 [(2, 1), (0, x1), (0, x2)] [(0, 1)] M Q
    refine z_ifeq (tgt := 23) dX11_fewest_7 rfl (fun q => absurd q (by decide)) (fun _ => ?_)
    refine z_iloadn dX11_fewest_10 rfl ?_
    refine z_sipush dX11_fewest_11 ks_m500 ?_
    refine z_sipush dX11_fewest_14 ks_500 ?_
    refine y_cs (mt2 := mX11_within) (en := [(0, x2), (0, (-500)), (0, 500)]) (st := []) (as := [(0, x2), (0, (-500)), (0, 500)]) dX11_fewest_17 lX11_72 kX11_within tX11_within rfl (Nat.le_of_ble_eq_true rfl) (Nat.le_of_ble_eq_true rfl) rfl (s_within hG (fun q => ?_) (fun q => ?_))
    · replace h := h.1 q
      show Y G (d + 1) mX11_fewest 20 [(2, 1), (0, x1), (0, x2)] [(0, 1)] M Q
      refine z_ifne (tgt := 25) dX11_fewest_20 rfl (fun _ => ?_) (fun q => absurd q (by decide))
      refine z_aloadn dX11_fewest_25 rfl (Or.inl rfl) ?_
      refine y_getr (v := 170) hG dX11_fewest_26 fX11_53 sh1 (by decide) rfl (by decide +kernel) (by decide) ?_
      refine z_iloadn dX11_fewest_29 rfl ?_
      refine z_iloadn dX11_fewest_30 rfl ?_
      refine z_iconst dX11_fewest_31 ki_5 ?_
      refine z_aloadn dX11_fewest_32 rfl (Or.inl rfl) ?_
      refine y_getr (v := 2) hG dX11_fewest_33 fX11_10 sh1 (by decide) rfl (by decide +kernel) (by decide) ?_
      refine y_getr (v := 3) hG dX11_fewest_36 fX11_76 sh2 (by decide) rfl (by decide +kernel) (by decide) ?_
      refine y_cv (mt2 := mX9_fewestLeaves) (en := [(2, 170), (0, x1), (0, x2), (0, 5), (2, 3), (9, 0)]) (st := []) (as := [(0, x1), (0, x2), (0, 5), (2, 3)]) dX11_fewest_39 lX11_294 kX9_fewestLeaves iX9_fewestLeaves eX9_fewestLeaves rfl sh170 (by decide +kernel) (Nat.le_of_ble_eq_true rfl) (Nat.le_of_ble_eq_true rfl) rfl ?_
      exact h
    · replace h := h.2 q
      show Y G (d + 1) mX11_fewest 20 [(2, 1), (0, x1), (0, x2)] [(0, 0)] M Q
      refine z_ifne (tgt := 25) dX11_fewest_20 rfl (fun q => absurd q (by decide)) (fun _ => ?_)
      refine z_iconst dX11_fewest_23 ki_m1 ?_
      exact z_ireturn dX11_fewest_24 (Or.inl rfl) rfl h
  · replace h := h.2 q
    show Y G (d + 1) mX11_fewest 7 [(2, 1), (0, x1), (0, x2)] [(0, 0)] M Q
    refine z_ifeq (tgt := 23) dX11_fewest_7 rfl (fun _ => ?_) (fun q => absurd q (by decide))
    refine z_iconst dX11_fewest_23 ki_m1 ?_
    exact z_ireturn dX11_fewest_24 (Or.inl rfl) rfl h
set_option maxRecDepth 20000 in
set_option maxHeartbeats 4000000 in
theorem bX11_fewest_42 {G : zG} {d : Nat} {M : zM} {Q : zV → zM → Prop} (hG : zP G) {x1 x2 x49 : Int}
    (h : Q (0, x49) M) :
    Y G (d + 1) mX11_fewest 42 [(2, 1), (0, x1), (0, x2)] [(0, x49)] M Q := by
  exact z_ireturn dX11_fewest_42 (Or.inl rfl) rfl h
set_option maxRecDepth 20000 in
set_option maxHeartbeats 4000000 in
theorem bX11_shortest_0 {G : zG} {d : Nat} {M : zM} {Q : zV → zM → Prop} (hG : zP G) {x1 x2 x3 : Int}
    (h : Y G d mX11_fewest 0 [(2, 1), (0, x1), (0, x2)] [] M (fun r M' => Y G (d + 1) mX11_shortest 6 [(2, 1), (0, x1), (0, x2), (0, x3), (9, 0)] (zpush r []) M' Q)) :
    Y G (d + 1) mX11_shortest 0 [(2, 1), (0, x1), (0, x2), (0, x3), (9, 0)] [] M Q := by
  refine z_aloadn dX11_shortest_0 rfl (Or.inl rfl) ?_
  refine z_iloadn dX11_shortest_1 rfl ?_
  refine z_iloadn dX11_shortest_2 rfl ?_
  refine y_cv (mt2 := mX11_fewest) (en := [(2, 1), (0, x1), (0, x2)]) (st := []) (as := [(0, x1), (0, x2)]) dX11_shortest_3 lX11_298 kX11_fewest iX11_fewest eX11_fewest rfl sh1 (by decide +kernel) (Nat.le_of_ble_eq_true rfl) (Nat.le_of_ble_eq_true rfl) rfl ?_
  exact h
set_option maxRecDepth 20000 in
set_option maxHeartbeats 4000000 in
theorem bX11_shortest_6 {G : zG} {d : Nat} {M : zM} {Q : zV → zM → Prop} (hG : zP G) {x1 x2 x3 x49 : Int}
    (h : ((x49 = (-1) → Q (0, (-1)) M) ∧ (¬ x49 = (-1) → (-2147483648 ≤ 2 * x49 ∧ 2 * x49 ≤ 2147483647) ∧ (-2147483648 ≤ (2 * x49) - 2 ∧ (2 * x49) - 2 ≤ 2147483647) ∧ (((-1) ≤ x3 ∧ x3 ≤ ((2 * x49) - 2) → ((¬ x3 = (-1) → Y G d mX9_signAt 0 [(2, 170), (0, x1), (0, x49), (0, x2), (0, x3)] [] M (fun r M' => Y G (d + 1) mX11_shortest 56 [(2, 1), (0, x1), (0, x2), (0, x3), (0, x49)] (zpush r []) M' Q)) ∧ (x3 = (-1) → (-2147483648 ≤ 2 * x49 ∧ 2 * x49 ≤ 2147483647) ∧ (-2147483648 ≤ (2 * x49) - 1 ∧ (2 * x49) - 1 ≤ 2147483647) ∧ Q (0, ((2 * x49) - 1)) M))) ∧ (¬ ((-1) ≤ x3 ∧ x3 ≤ ((2 * x49) - 2)) → Q (0, (-1)) M))))) :
    Y G (d + 1) mX11_shortest 6 [(2, 1), (0, x1), (0, x2), (0, x3), (9, 0)] [(0, x49)] M Q := by
  refine y_istore (ls' := [(2, 1), (0, x1), (0, x2), (0, x3), (0, x49)]) dX11_shortest_6 rfl rfl ?_
  refine z_iload dX11_shortest_8 rfl ?_
  refine z_iconst dX11_shortest_10 ki_m1 ?_
  refine z_icmpeq (tgt := 28) dX11_shortest_11 rfl (fun q => ?_) (fun q => ?_)
  · replace h := h.1 q
    refine z_iconst dX11_shortest_28 ki_m1 ?_
    exact z_ireturn dX11_shortest_29 (Or.inl rfl) rfl h
  · replace h := h.2 q
    refine z_iloadn dX11_shortest_14 rfl ?_
    refine z_iconst dX11_shortest_15 ki_m1 ?_
    refine z_iconst dX11_shortest_16 ki_2 ?_
    refine z_iload dX11_shortest_17 rfl ?_
    obtain ⟨q1, h⟩ := h
    refine z_imul dX11_shortest_19 q1 ?_
    refine z_iconst dX11_shortest_20 ki_2 ?_
    obtain ⟨q2, h⟩ := h
    refine z_isub dX11_shortest_21 q2 ?_
    refine y_cs (mt2 := mX11_within) (en := [(0, x3), (0, (-1)), (0, ((2 * x49) - 2))]) (st := []) (as := [(0, x3), (0, (-1)), (0, ((2 * x49) - 2))]) dX11_shortest_22 lX11_72 kX11_within tX11_within rfl (Nat.le_of_ble_eq_true rfl) (Nat.le_of_ble_eq_true rfl) rfl (s_within hG (fun q => ?_) (fun q => ?_))
    · replace h := h.1 q
      show Y G (d + 1) mX11_shortest 25 [(2, 1), (0, x1), (0, x2), (0, x3), (0, x49)] [(0, 1)] M Q
      refine z_ifne (tgt := 30) dX11_shortest_25 rfl (fun _ => ?_) (fun q => absurd q (by decide))
      refine z_iloadn dX11_shortest_30 rfl ?_
      refine z_iconst dX11_shortest_31 ki_m1 ?_
      refine z_icmpne (tgt := 44) dX11_shortest_32 rfl (fun q => ?_) (fun q => ?_)
      · replace h := h.1 q
        refine z_aloadn dX11_shortest_44 rfl (Or.inl rfl) ?_
        refine y_getr (v := 170) hG dX11_shortest_45 fX11_53 sh1 (by decide) rfl (by decide +kernel) (by decide) ?_
        refine z_iloadn dX11_shortest_48 rfl ?_
        refine z_iload dX11_shortest_49 rfl ?_
        refine z_iloadn dX11_shortest_51 rfl ?_
        refine z_iloadn dX11_shortest_52 rfl ?_
        refine y_cv (mt2 := mX9_signAt) (en := [(2, 170), (0, x1), (0, x49), (0, x2), (0, x3)]) (st := []) (as := [(0, x1), (0, x49), (0, x2), (0, x3)]) dX11_shortest_53 lX11_301 kX9_signAt iX9_signAt eX9_signAt rfl sh170 (by decide +kernel) (Nat.le_of_ble_eq_true rfl) (Nat.le_of_ble_eq_true rfl) rfl ?_
        exact h
      · replace h := h.2 q
        refine z_iconst dX11_shortest_35 ki_2 ?_
        refine z_iload dX11_shortest_36 rfl ?_
        obtain ⟨q3, h⟩ := h
        refine z_imul dX11_shortest_38 q3 ?_
        refine z_iconst dX11_shortest_39 ki_1 ?_
        obtain ⟨q4, h⟩ := h
        refine z_isub dX11_shortest_40 q4 ?_
        refine z_goto (tgt := 56) dX11_shortest_41 rfl ?_
        exact z_ireturn dX11_shortest_56 (Or.inl rfl) rfl h
    · replace h := h.2 q
      show Y G (d + 1) mX11_shortest 25 [(2, 1), (0, x1), (0, x2), (0, x3), (0, x49)] [(0, 0)] M Q
      refine z_ifne (tgt := 30) dX11_shortest_25 rfl (fun q => absurd q (by decide)) (fun _ => ?_)
      refine z_iconst dX11_shortest_28 ki_m1 ?_
      exact z_ireturn dX11_shortest_29 (Or.inl rfl) rfl h
set_option maxRecDepth 20000 in
set_option maxHeartbeats 4000000 in
theorem bX11_shortest_56 {G : zG} {d : Nat} {M : zM} {Q : zV → zM → Prop} (hG : zP G) {x1 x2 x3 x4 x49 : Int}
    (h : Q (0, x49) M) :
    Y G (d + 1) mX11_shortest 56 [(2, 1), (0, x1), (0, x2), (0, x3), (0, x4)] [(0, x49)] M Q := by
  exact z_ireturn dX11_shortest_56 (Or.inl rfl) rfl h
set_option maxRecDepth 20000 in
set_option maxHeartbeats 4000000 in
theorem bX11_rarest_0 {G : zG} {d : Nat} {M : zM} {Q : zV → zM → Prop} (hG : zP G) {x1 x2 x3 x4 : Int}
    (h : ((1 ≤ x1 ∧ x1 ≤ 5 → ((0 ≤ x2 ∧ x2 ≤ 9 → Y G d mX11_areValues 0 [(0, x3), (0, x4)] [] M (fun r M' => Y G (d + 1) mX11_rarest 25 [(2, 1), (0, x1), (0, x2), (0, x3), (0, x4)] (zpush r []) M' Q)) ∧ (¬ (0 ≤ x2 ∧ x2 ≤ 9) → Q (0, (-1000)) M))) ∧ (¬ (1 ≤ x1 ∧ x1 ≤ 5) → Q (0, (-1000)) M))) :
    Y G (d + 1) mX11_rarest 0 [(2, 1), (0, x1), (0, x2), (0, x3), (0, x4)] [] M Q := by
  refine z_iloadn dX11_rarest_0 rfl ?_
  refine z_iconst dX11_rarest_1 ki_1 ?_
  refine z_iconst dX11_rarest_2 ki_5 ?_
  refine y_cs (mt2 := mX11_within) (en := [(0, x1), (0, 1), (0, 5)]) (st := []) (as := [(0, x1), (0, 1), (0, 5)]) dX11_rarest_3 lX11_72 kX11_within tX11_within rfl (Nat.le_of_ble_eq_true rfl) (Nat.le_of_ble_eq_true rfl) rfl (s_within hG (fun q => ?_) (fun q => ?_))
  · replace h := h.1 q
    show Y G (d + 1) mX11_rarest 6 [(2, 1), (0, x1), (0, x2), (0, x3), (0, x4)] [(0, 1)] M Q
    refine z_ifeq (tgt := 28) dX11_rarest_6 rfl (fun q => absurd q (by decide)) (fun _ => ?_)
    refine z_iloadn dX11_rarest_9 rfl ?_
    refine z_iconst dX11_rarest_10 ki_0 ?_
    refine z_bipush dX11_rarest_11 kb_9 ?_
    refine y_cs (mt2 := mX11_within) (en := [(0, x2), (0, 0), (0, 9)]) (st := []) (as := [(0, x2), (0, 0), (0, 9)]) dX11_rarest_13 lX11_72 kX11_within tX11_within rfl (Nat.le_of_ble_eq_true rfl) (Nat.le_of_ble_eq_true rfl) rfl (s_within hG (fun q => ?_) (fun q => ?_))
    · replace h := h.1 q
      show Y G (d + 1) mX11_rarest 16 [(2, 1), (0, x1), (0, x2), (0, x3), (0, x4)] [(0, 1)] M Q
      refine z_ifeq (tgt := 28) dX11_rarest_16 rfl (fun q => absurd q (by decide)) (fun _ => ?_)
      refine z_iloadn dX11_rarest_19 rfl ?_
      refine z_iload dX11_rarest_20 rfl ?_
      refine y_cs (mt2 := mX11_areValues) (en := [(0, x3), (0, x4)]) (st := []) (as := [(0, x3), (0, x4)]) dX11_rarest_22 lX11_305 kX11_areValues tX11_areValues rfl (Nat.le_of_ble_eq_true rfl) (Nat.le_of_ble_eq_true rfl) rfl ?_
      exact h
    · replace h := h.2 q
      show Y G (d + 1) mX11_rarest 16 [(2, 1), (0, x1), (0, x2), (0, x3), (0, x4)] [(0, 0)] M Q
      refine z_ifeq (tgt := 28) dX11_rarest_16 rfl (fun _ => ?_) (fun q => absurd q (by decide))
      refine z_sipush dX11_rarest_28 ks_m1000 ?_
      exact z_ireturn dX11_rarest_31 (Or.inl rfl) rfl h
  · replace h := h.2 q
    show Y G (d + 1) mX11_rarest 6 [(2, 1), (0, x1), (0, x2), (0, x3), (0, x4)] [(0, 0)] M Q
    refine z_ifeq (tgt := 28) dX11_rarest_6 rfl (fun _ => ?_) (fun q => absurd q (by decide))
    refine z_sipush dX11_rarest_28 ks_m1000 ?_
    exact z_ireturn dX11_rarest_31 (Or.inl rfl) rfl h
set_option maxRecDepth 20000 in
set_option maxHeartbeats 4000000 in
theorem bX11_rarest_25 {G : zG} {d : Nat} {M : zM} {Q : zV → zM → Prop} (hG : zP G) {x1 x2 x3 x4 x49 : Int}
    (h : ((¬ x49 = 0 → Y G d mX9_prepare 0 [(2, 170), (0, x2), (0, x1), (2, 3), (9, 0), (9, 0)] [] M (fun r M' => Y G (d + 1) mX11_rarest 48 [(2, 1), (0, x1), (0, x2), (0, x3), (0, x4)] (zpush r []) M' Q)) ∧ (x49 = 0 → Q (0, (-1000)) M))) :
    Y G (d + 1) mX11_rarest 25 [(2, 1), (0, x1), (0, x2), (0, x3), (0, x4)] [(0, x49)] M Q := by
  refine z_ifne (tgt := 32) dX11_rarest_25 rfl (fun q => ?_) (fun q => ?_)
  · replace h := h.1 q
    refine z_aloadn dX11_rarest_32 rfl (Or.inl rfl) ?_
    refine y_getr (v := 170) hG dX11_rarest_33 fX11_53 sh1 (by decide) rfl (by decide +kernel) (by decide) ?_
    refine z_iloadn dX11_rarest_36 rfl ?_
    refine z_iloadn dX11_rarest_37 rfl ?_
    refine z_aloadn dX11_rarest_38 rfl (Or.inl rfl) ?_
    refine y_getr (v := 2) hG dX11_rarest_39 fX11_10 sh1 (by decide) rfl (by decide +kernel) (by decide) ?_
    refine y_getr (v := 3) hG dX11_rarest_42 fX11_76 sh2 (by decide) rfl (by decide +kernel) (by decide) ?_
    refine y_cv (mt2 := mX9_prepare) (en := [(2, 170), (0, x2), (0, x1), (2, 3), (9, 0), (9, 0)]) (st := []) (as := [(0, x2), (0, x1), (2, 3)]) dX11_rarest_45 lX11_287 kX9_prepare iX9_prepare eX9_prepare rfl sh170 (by decide +kernel) (Nat.le_of_ble_eq_true rfl) (Nat.le_of_ble_eq_true rfl) rfl ?_
    exact h
  · replace h := h.2 q
    refine z_sipush dX11_rarest_28 ks_m1000 ?_
    exact z_ireturn dX11_rarest_31 (Or.inl rfl) rfl h
set_option maxRecDepth 20000 in
set_option maxHeartbeats 4000000 in
theorem bX11_rarest_48 {G : zG} {d : Nat} {M : zM} {Q : zV → zM → Prop} (hG : zP G) {x1 x2 x3 x4 : Int}
    (h : Y G d mX9_rarestOf 0 [(2, 170), (0, x2), (0, x1), (0, x3), (0, x4), (9, 0), (9, 0), (9, 0), (9, 0)] [] M (fun r M' => Y G (d + 1) mX11_rarest 60 [(2, 1), (0, x1), (0, x2), (0, x3), (0, x4)] (zpush r []) M' Q)) :
    Y G (d + 1) mX11_rarest 48 [(2, 1), (0, x1), (0, x2), (0, x3), (0, x4)] [] M Q := by
  refine z_aloadn dX11_rarest_48 rfl (Or.inl rfl) ?_
  refine y_getr (v := 170) hG dX11_rarest_49 fX11_53 sh1 (by decide) rfl (by decide +kernel) (by decide) ?_
  refine z_iloadn dX11_rarest_52 rfl ?_
  refine z_iloadn dX11_rarest_53 rfl ?_
  refine z_iloadn dX11_rarest_54 rfl ?_
  refine z_iload dX11_rarest_55 rfl ?_
  refine y_cv (mt2 := mX9_rarestOf) (en := [(2, 170), (0, x2), (0, x1), (0, x3), (0, x4), (9, 0), (9, 0), (9, 0), (9, 0)]) (st := []) (as := [(0, x2), (0, x1), (0, x3), (0, x4)]) dX11_rarest_57 lX11_308 kX9_rarestOf iX9_rarestOf eX9_rarestOf rfl sh170 (by decide +kernel) (Nat.le_of_ble_eq_true rfl) (Nat.le_of_ble_eq_true rfl) rfl ?_
  exact h
set_option maxRecDepth 20000 in
set_option maxHeartbeats 4000000 in
theorem bX11_rarest_60 {G : zG} {d : Nat} {M : zM} {Q : zV → zM → Prop} (hG : zP G) {x1 x2 x3 x4 x49 : Int}
    (h : Q (0, x49) M) :
    Y G (d + 1) mX11_rarest 60 [(2, 1), (0, x1), (0, x2), (0, x3), (0, x4)] [(0, x49)] M Q := by
  exact z_ireturn dX11_rarest_60 (Or.inl rfl) rfl h
set_option maxRecDepth 20000 in
set_option maxHeartbeats 4000000 in
theorem bX11_fair_0 {G : zG} {d : Nat} {M : zM} {Q : zV → zM → Prop} (hG : zP G) {x1 x2 x3 : Int}
    (h : (-1000 ≤ (M 157 5) ∧ (M 157 5) ≤ 1000) ∧ ((0 ≤ x1 ∧ x1 < (M 157 5) → Y G (d + 1) mX11_areValues 0 [(0, x2), (0, x3)] [] M (fun r M' => Y G (d + 2) mX11_fair 13 [(2, 1), (0, x1), (0, x2), (0, x3), (9, 0), (9, 0)] (zpush r []) M' Q)) ∧ (¬ (0 ≤ x1 ∧ x1 < (M 157 5)) → Q (0, (-1000)) M))) :
    Y G (d + 2) mX11_fair 0 [(2, 1), (0, x1), (0, x2), (0, x3), (9, 0), (9, 0)] [] M Q := by
  refine z_aloadn dX11_fair_0 rfl (Or.inl rfl) ?_
  refine z_iloadn dX11_fair_1 rfl ?_
  obtain ⟨q1, h⟩ := h
  refine y_cv (mt2 := mX11_isPupil) (en := [(2, 1), (0, x1)]) (st := []) (as := [(0, x1)]) dX11_fair_2 lX11_221 kX11_isPupil iX11_isPupil eX11_isPupil rfl sh1 (by decide +kernel) (Nat.le_of_ble_eq_true rfl) (Nat.le_of_ble_eq_true rfl) rfl (s_isPupil hG rfl q1 (fun q => ?_) (fun q => ?_))
  · replace h := h.1 q
    show Y G (d + 2) mX11_fair 5 [(2, 1), (0, x1), (0, x2), (0, x3), (9, 0), (9, 0)] [(0, 1)] M Q
    refine z_ifeq (tgt := 16) dX11_fair_5 rfl (fun q => absurd q (by decide)) (fun _ => ?_)
    refine z_iloadn dX11_fair_8 rfl ?_
    refine z_iloadn dX11_fair_9 rfl ?_
    refine y_cs (mt2 := mX11_areValues) (en := [(0, x2), (0, x3)]) (st := []) (as := [(0, x2), (0, x3)]) dX11_fair_10 lX11_305 kX11_areValues tX11_areValues rfl (Nat.le_of_ble_eq_true rfl) (Nat.le_of_ble_eq_true rfl) rfl ?_
    exact h
  · replace h := h.2 q
    show Y G (d + 2) mX11_fair 5 [(2, 1), (0, x1), (0, x2), (0, x3), (9, 0), (9, 0)] [(0, 0)] M Q
    refine z_ifeq (tgt := 16) dX11_fair_5 rfl (fun _ => ?_) (fun q => absurd q (by decide))
    refine z_sipush dX11_fair_16 ks_m1000 ?_
    exact z_ireturn dX11_fair_19 (Or.inl rfl) rfl h
set_option maxRecDepth 20000 in
set_option maxHeartbeats 4000000 in
theorem bX11_fair_13 {G : zG} {d : Nat} {M : zM} {Q : zV → zM → Prop} (hG : zP G) {x1 x2 x3 x49 : Int}
    (h : ((¬ x49 = 0 → (0 ≤ x1 ∧ x1 < 6) ∧ (0 ≤ x1 ∧ x1 < 6) ∧ Y G (d + 1) mX9_longestOf 0 [(2, 170), (0, (min (M 160 x1) 9)), (0, (min (M 162 x1) 5)), (0, x2), (0, x3), (2, 3), (9, 0), (9, 0), (9, 0), (9, 0)] [] M (fun r M' => Y G (d + 2) mX11_fair 71 [(2, 1), (0, x1), (0, x2), (0, x3), (0, (min (M 160 x1) 9)), (0, (min (M 162 x1) 5))] (zpush r []) M' Q)) ∧ (x49 = 0 → Q (0, (-1000)) M))) :
    Y G (d + 2) mX11_fair 13 [(2, 1), (0, x1), (0, x2), (0, x3), (9, 0), (9, 0)] [(0, x49)] M Q := by
  refine z_ifne (tgt := 20) dX11_fair_13 rfl (fun q => ?_) (fun q => ?_)
  · replace h := h.1 q
    refine z_aloadn dX11_fair_20 rfl (Or.inl rfl) ?_
    refine y_getr (v := 157) hG dX11_fair_21 fX11_39 sh1 (by decide) rfl (by decide +kernel) (by decide) ?_
    refine y_getr (v := 160) hG dX11_fair_24 fX11_311 sh157 (by decide) rfl (by decide +kernel) (by decide) ?_
    refine z_iloadn dX11_fair_27 rfl ?_
    obtain ⟨q1, h⟩ := h
    refine y_iald (x := (M 160 x1)) dX11_fair_28 sh160 q1 rfl ?_
    refine z_bipush dX11_fair_29 kb_9 ?_
    refine z_min dX11_fair_31 mwX11_312 (Nat.le_of_ble_eq_true rfl) ?_
    refine y_istore (ls' := [(2, 1), (0, x1), (0, x2), (0, x3), (0, (min (M 160 x1) 9)), (9, 0)]) dX11_fair_34 rfl rfl ?_
    refine z_aloadn dX11_fair_36 rfl (Or.inl rfl) ?_
    refine y_getr (v := 157) hG dX11_fair_37 fX11_39 sh1 (by decide) rfl (by decide +kernel) (by decide) ?_
    refine y_getr (v := 162) hG dX11_fair_40 fX11_317 sh157 (by decide) rfl (by decide +kernel) (by decide) ?_
    refine z_iloadn dX11_fair_43 rfl ?_
    obtain ⟨q2, h⟩ := h
    refine y_iald (x := (M 162 x1)) dX11_fair_44 sh162 q2 rfl ?_
    refine z_iconst dX11_fair_45 ki_5 ?_
    refine z_min dX11_fair_46 mwX11_312 (Nat.le_of_ble_eq_true rfl) ?_
    refine y_istore (ls' := [(2, 1), (0, x1), (0, x2), (0, x3), (0, (min (M 160 x1) 9)), (0, (min (M 162 x1) 5))]) dX11_fair_49 rfl rfl ?_
    refine z_aloadn dX11_fair_51 rfl (Or.inl rfl) ?_
    refine y_getr (v := 170) hG dX11_fair_52 fX11_53 sh1 (by decide) rfl (by decide +kernel) (by decide) ?_
    refine z_iload dX11_fair_55 rfl ?_
    refine z_iload dX11_fair_57 rfl ?_
    refine z_iloadn dX11_fair_59 rfl ?_
    refine z_iloadn dX11_fair_60 rfl ?_
    refine z_aloadn dX11_fair_61 rfl (Or.inl rfl) ?_
    refine y_getr (v := 2) hG dX11_fair_62 fX11_10 sh1 (by decide) rfl (by decide +kernel) (by decide) ?_
    refine y_getr (v := 3) hG dX11_fair_65 fX11_76 sh2 (by decide) rfl (by decide +kernel) (by decide) ?_
    refine y_cv (mt2 := mX9_longestOf) (en := [(2, 170), (0, (min (M 160 x1) 9)), (0, (min (M 162 x1) 5)), (0, x2), (0, x3), (2, 3), (9, 0), (9, 0), (9, 0), (9, 0)]) (st := []) (as := [(0, (min (M 160 x1) 9)), (0, (min (M 162 x1) 5)), (0, x2), (0, x3), (2, 3)]) dX11_fair_68 lX11_318 kX9_longestOf iX9_longestOf eX9_longestOf rfl sh170 (by decide +kernel) (Nat.le_of_ble_eq_true rfl) (Nat.le_of_ble_eq_true rfl) rfl ?_
    exact h
  · replace h := h.2 q
    refine z_sipush dX11_fair_16 ks_m1000 ?_
    exact z_ireturn dX11_fair_19 (Or.inl rfl) rfl h
set_option maxRecDepth 20000 in
set_option maxHeartbeats 4000000 in
theorem bX11_fair_71 {G : zG} {d : Nat} {M : zM} {Q : zV → zM → Prop} (hG : zP G) {x1 x2 x3 x4 x5 x49 : Int}
    (h : Q (0, x49) M) :
    Y G (d + 2) mX11_fair 71 [(2, 1), (0, x1), (0, x2), (0, x3), (0, x4), (0, x5)] [(0, x49)] M Q := by
  exact z_ireturn dX11_fair_71 (Or.inl rfl) rfl h
set_option maxRecDepth 20000 in
set_option maxHeartbeats 4000000 in
theorem bX11_person_0 {G : zG} {d : Nat} {M : zM} {Q : zV → zM → Prop} (hG : zP G) {x1 x2 x3 : Int}
    (h : Y G d mX10_addPerson 0 [(2, 2), (0, x1), (0, x2), (0, x3), (9, 0)] [] M (fun r M' => Y G (d + 1) mX11_person 10 [(2, 1), (0, x1), (0, x2), (0, x3)] (zpush r []) M' Q)) :
    Y G (d + 1) mX11_person 0 [(2, 1), (0, x1), (0, x2), (0, x3)] [] M Q := by
  refine z_aloadn dX11_person_0 rfl (Or.inl rfl) ?_
  refine y_getr (v := 2) hG dX11_person_1 fX11_10 sh1 (by decide) rfl (by decide +kernel) (by decide) ?_
  refine z_iloadn dX11_person_4 rfl ?_
  refine z_iloadn dX11_person_5 rfl ?_
  refine z_iloadn dX11_person_6 rfl ?_
  refine y_cv (mt2 := mX10_addPerson) (en := [(2, 2), (0, x1), (0, x2), (0, x3), (9, 0)]) (st := []) (as := [(0, x1), (0, x2), (0, x3)]) dX11_person_7 lX11_80 kX10_addPerson iX10_addPerson eX10_addPerson rfl sh2 (by decide +kernel) (Nat.le_of_ble_eq_true rfl) (Nat.le_of_ble_eq_true rfl) rfl ?_
  exact h
set_option maxRecDepth 20000 in
set_option maxHeartbeats 4000000 in
theorem bX11_person_10 {G : zG} {d : Nat} {M : zM} {Q : zV → zM → Prop} (hG : zP G) {x1 x2 x3 x49 : Int}
    (h : Q (0, x49) M) :
    Y G (d + 1) mX11_person 10 [(2, 1), (0, x1), (0, x2), (0, x3)] [(0, x49)] M Q := by
  exact z_ireturn dX11_person_10 (Or.inl rfl) rfl h
set_option maxRecDepth 20000 in
set_option maxHeartbeats 4000000 in
theorem bX11_unasked_0 {G : zG} {d : Nat} {M : zM} {Q : zV → zM → Prop} (hG : zP G) {x1 x2 : Int}
    (h : ((1 ≤ x1 ∧ x1 ≤ 5 → ((0 ≤ x2 ∧ x2 ≤ 9 → Y G (d + 1) mX11_unasked 23 [(2, 1), (0, x1), (0, x2), (0, 0)] [] M Q) ∧ (¬ (0 ≤ x2 ∧ x2 ≤ 9) → Q (0, (-1)) M))) ∧ (¬ (1 ≤ x1 ∧ x1 ≤ 5) → Q (0, (-1)) M))) :
    Y G (d + 1) mX11_unasked 0 [(2, 1), (0, x1), (0, x2), (9, 0)] [] M Q := by
  refine z_iloadn dX11_unasked_0 rfl ?_
  refine z_iconst dX11_unasked_1 ki_1 ?_
  refine z_iconst dX11_unasked_2 ki_5 ?_
  refine y_cs (mt2 := mX11_within) (en := [(0, x1), (0, 1), (0, 5)]) (st := []) (as := [(0, x1), (0, 1), (0, 5)]) dX11_unasked_3 lX11_72 kX11_within tX11_within rfl (Nat.le_of_ble_eq_true rfl) (Nat.le_of_ble_eq_true rfl) rfl (s_within hG (fun q => ?_) (fun q => ?_))
  · replace h := h.1 q
    show Y G (d + 1) mX11_unasked 6 [(2, 1), (0, x1), (0, x2), (9, 0)] [(0, 1)] M Q
    refine z_ifeq (tgt := 19) dX11_unasked_6 rfl (fun q => absurd q (by decide)) (fun _ => ?_)
    refine z_iloadn dX11_unasked_9 rfl ?_
    refine z_iconst dX11_unasked_10 ki_0 ?_
    refine z_bipush dX11_unasked_11 kb_9 ?_
    refine y_cs (mt2 := mX11_within) (en := [(0, x2), (0, 0), (0, 9)]) (st := []) (as := [(0, x2), (0, 0), (0, 9)]) dX11_unasked_13 lX11_72 kX11_within tX11_within rfl (Nat.le_of_ble_eq_true rfl) (Nat.le_of_ble_eq_true rfl) rfl (s_within hG (fun q => ?_) (fun q => ?_))
    · replace h := h.1 q
      show Y G (d + 1) mX11_unasked 16 [(2, 1), (0, x1), (0, x2), (9, 0)] [(0, 1)] M Q
      refine z_ifne (tgt := 21) dX11_unasked_16 rfl (fun _ => ?_) (fun q => absurd q (by decide))
      refine z_iconst dX11_unasked_21 ki_0 ?_
      refine y_istoren (ls' := [(2, 1), (0, x1), (0, x2), (0, 0)]) dX11_unasked_22 rfl rfl ?_
      exact h
    · replace h := h.2 q
      show Y G (d + 1) mX11_unasked 16 [(2, 1), (0, x1), (0, x2), (9, 0)] [(0, 0)] M Q
      refine z_ifne (tgt := 21) dX11_unasked_16 rfl (fun q => absurd q (by decide)) (fun _ => ?_)
      refine z_iconst dX11_unasked_19 ki_m1 ?_
      exact z_ireturn dX11_unasked_20 (Or.inl rfl) rfl h
  · replace h := h.2 q
    show Y G (d + 1) mX11_unasked 6 [(2, 1), (0, x1), (0, x2), (9, 0)] [(0, 0)] M Q
    refine z_ifeq (tgt := 19) dX11_unasked_6 rfl (fun _ => ?_) (fun q => absurd q (by decide))
    refine z_iconst dX11_unasked_19 ki_m1 ?_
    exact z_ireturn dX11_unasked_20 (Or.inl rfl) rfl h
set_option maxRecDepth 20000 in
set_option maxHeartbeats 4000000 in
theorem bX11_unasked_23 {G : zG} {d : Nat} {M : zM} {Q : zV → zM → Prop} (hG : zP G) {x1 x2 x3 : Int}
    (h : ((500 < x3 → Q (0, (-1)) M) ∧ (x3 ≤ 500 → Y G d mX9_fewestLeaves 0 [(2, 170), (0, x2), (0, x3), (0, x1), (2, 3), (9, 0)] [] M (fun r M' => Y G (d + 1) mX11_unasked 47 [(2, 1), (0, x1), (0, x2), (0, x3)] (zpush r []) M' Q)))) :
    Y G (d + 1) mX11_unasked 23 [(2, 1), (0, x1), (0, x2), (0, x3)] [] M Q := by
  refine z_iloadn dX11_unasked_23 rfl ?_
  refine z_sipush dX11_unasked_24 ks_500 ?_
  refine z_icmpgt (tgt := 59) dX11_unasked_27 rfl (fun q => ?_) (fun q => ?_)
  · replace h := h.1 q
    refine z_iconst dX11_unasked_59 ki_m1 ?_
    exact z_ireturn dX11_unasked_60 (Or.inl rfl) rfl h
  · replace h := h.2 q
    refine z_aloadn dX11_unasked_30 rfl (Or.inl rfl) ?_
    refine y_getr (v := 170) hG dX11_unasked_31 fX11_53 sh1 (by decide) rfl (by decide +kernel) (by decide) ?_
    refine z_iloadn dX11_unasked_34 rfl ?_
    refine z_iloadn dX11_unasked_35 rfl ?_
    refine z_iloadn dX11_unasked_36 rfl ?_
    refine z_aloadn dX11_unasked_37 rfl (Or.inl rfl) ?_
    refine y_getr (v := 2) hG dX11_unasked_38 fX11_10 sh1 (by decide) rfl (by decide +kernel) (by decide) ?_
    refine y_getr (v := 3) hG dX11_unasked_41 fX11_76 sh2 (by decide) rfl (by decide +kernel) (by decide) ?_
    refine y_cv (mt2 := mX9_fewestLeaves) (en := [(2, 170), (0, x2), (0, x3), (0, x1), (2, 3), (9, 0)]) (st := []) (as := [(0, x2), (0, x3), (0, x1), (2, 3)]) dX11_unasked_44 lX11_294 kX9_fewestLeaves iX9_fewestLeaves eX9_fewestLeaves rfl sh170 (by decide +kernel) (Nat.le_of_ble_eq_true rfl) (Nat.le_of_ble_eq_true rfl) rfl ?_
    exact h
set_option maxRecDepth 20000 in
set_option maxHeartbeats 4000000 in
theorem bX11_unasked_47 {G : zG} {d : Nat} {M : zM} {Q : zV → zM → Prop} (hG : zP G) {x1 x2 x3 x49 : Int}
    (h : ((¬ x49 = (-1) → (-2147483648 ≤ x3 + 1 ∧ x3 + 1 ≤ 2147483647) ∧ Y G (d + 1) mX11_unasked 23 [(2, 1), (0, x1), (0, x2), (0, (x3 + 1))] [] M Q) ∧ (x49 = (-1) → Q (0, x3) M))) :
    Y G (d + 1) mX11_unasked 47 [(2, 1), (0, x1), (0, x2), (0, x3)] [(0, x49)] M Q := by
  refine z_iconst dX11_unasked_47 ki_m1 ?_
  refine z_icmpne (tgt := 53) dX11_unasked_48 rfl (fun q => ?_) (fun q => ?_)
  · replace h := h.1 q
    obtain ⟨q1, h⟩ := h
    refine y_iinc (ls' := [(2, 1), (0, x1), (0, x2), (0, (x3 + 1))]) dX11_unasked_53 rfl rfl q1 rfl ?_
    refine z_goto (tgt := 23) dX11_unasked_56 rfl ?_
    exact h
  · replace h := h.2 q
    refine z_iloadn dX11_unasked_51 rfl ?_
    exact z_ireturn dX11_unasked_52 (Or.inl rfl) rfl h
set_option maxRecDepth 20000 in
set_option maxHeartbeats 4000000 in
theorem bX11_hear_0 {G : zG} {d : Nat} {M : zM} {Q : zV → zM → Prop} (hG : zP G) {x1 x2 : Int}
    (h : ((¬ x1 = (-1) → (-1000 ≤ (M 157 5) ∧ (M 157 5) ≤ 1000) ∧ ((0 ≤ x1 ∧ x1 < (M 157 5) → (-1000 ≤ (M 19 8) ∧ (M 19 8) ≤ 1000) ∧ ((0 ≤ x2 ∧ x2 < (M 19 8) → Y G (d + 1) mX0_addHeard 0 [(2, 176), (0, x1), (0, x2)] [] M (fun r M' => Y G (d + 2) mX11_hear 39 [(2, 1), (0, x1), (0, x2)] (zpush r []) M' Q)) ∧ (¬ (0 ≤ x2 ∧ x2 < (M 19 8)) → Q (0, (-2)) M))) ∧ (¬ (0 ≤ x1 ∧ x1 < (M 157 5)) → Q (0, (-2)) M))) ∧ (x1 = (-1) → Q (0, 0) (zset (zset M 176 2 0) 176 11 0)))) :
    Y G (d + 2) mX11_hear 0 [(2, 1), (0, x1), (0, x2)] [] M Q := by
  refine z_iloadn dX11_hear_0 rfl ?_
  refine z_iconst dX11_hear_1 ki_m1 ?_
  refine z_icmpne (tgt := 14) dX11_hear_2 rfl (fun q => ?_) (fun q => ?_)
  · replace h := h.1 q
    refine z_aloadn dX11_hear_14 rfl (Or.inl rfl) ?_
    refine z_iloadn dX11_hear_15 rfl ?_
    obtain ⟨q1, h⟩ := h
    refine y_cv (mt2 := mX11_isPupil) (en := [(2, 1), (0, x1)]) (st := []) (as := [(0, x1)]) dX11_hear_16 lX11_221 kX11_isPupil iX11_isPupil eX11_isPupil rfl sh1 (by decide +kernel) (Nat.le_of_ble_eq_true rfl) (Nat.le_of_ble_eq_true rfl) rfl (s_isPupil hG rfl q1 (fun q => ?_) (fun q => ?_))
    · replace h := h.1 q
      show Y G (d + 2) mX11_hear 19 [(2, 1), (0, x1), (0, x2)] [(0, 1)] M Q
      refine z_ifeq (tgt := 42) dX11_hear_19 rfl (fun q => absurd q (by decide)) (fun _ => ?_)
      refine z_aloadn dX11_hear_22 rfl (Or.inl rfl) ?_
      refine z_iloadn dX11_hear_23 rfl ?_
      obtain ⟨q2, h⟩ := h
      refine y_cv (mt2 := mX11_isQuestion) (en := [(2, 1), (0, x2)]) (st := []) (as := [(0, x2)]) dX11_hear_24 lX11_179 kX11_isQuestion iX11_isQuestion eX11_isQuestion rfl sh1 (by decide +kernel) (Nat.le_of_ble_eq_true rfl) (Nat.le_of_ble_eq_true rfl) rfl (s_isQuestion hG rfl q2 (fun q => ?_) (fun q => ?_))
      · replace h := h.1 q
        show Y G (d + 2) mX11_hear 27 [(2, 1), (0, x1), (0, x2)] [(0, 1)] M Q
        refine z_ifeq (tgt := 42) dX11_hear_27 rfl (fun q => absurd q (by decide)) (fun _ => ?_)
        refine z_aloadn dX11_hear_30 rfl (Or.inl rfl) ?_
        refine y_getr (v := 176) hG dX11_hear_31 fX11_60 sh1 (by decide) rfl (by decide +kernel) (by decide) ?_
        refine z_iloadn dX11_hear_34 rfl ?_
        refine z_iloadn dX11_hear_35 rfl ?_
        refine y_cv (mt2 := mX0_addHeard) (en := [(2, 176), (0, x1), (0, x2)]) (st := []) (as := [(0, x1), (0, x2)]) dX11_hear_36 lX11_325 kX0_addHeard iX0_addHeard eX0_addHeard rfl sh176 (by decide +kernel) (Nat.le_of_ble_eq_true rfl) (Nat.le_of_ble_eq_true rfl) rfl ?_
        exact h
      · replace h := h.2 q
        show Y G (d + 2) mX11_hear 27 [(2, 1), (0, x1), (0, x2)] [(0, 0)] M Q
        refine z_ifeq (tgt := 42) dX11_hear_27 rfl (fun _ => ?_) (fun q => absurd q (by decide))
        refine z_bipush dX11_hear_42 kb_m2 ?_
        exact z_ireturn dX11_hear_44 (Or.inl rfl) rfl h
    · replace h := h.2 q
      show Y G (d + 2) mX11_hear 19 [(2, 1), (0, x1), (0, x2)] [(0, 0)] M Q
      refine z_ifeq (tgt := 42) dX11_hear_19 rfl (fun _ => ?_) (fun q => absurd q (by decide))
      refine z_bipush dX11_hear_42 kb_m2 ?_
      exact z_ireturn dX11_hear_44 (Or.inl rfl) rfl h
  · replace h := h.2 q
    refine z_aloadn dX11_hear_5 rfl (Or.inl rfl) ?_
    refine y_getr (v := 176) hG dX11_hear_6 fX11_60 sh1 (by decide) rfl (by decide +kernel) (by decide) ?_
    refine y_cv (mt2 := mX0_forgetHeard) (en := [(2, 176)]) (st := []) (as := []) dX11_hear_9 lX11_322 kX0_forgetHeard iX0_forgetHeard eX0_forgetHeard rfl sh176 (by decide +kernel) (Nat.le_of_ble_eq_true rfl) (Nat.le_of_ble_eq_true rfl) rfl (s_forgetHeard hG ?_)
    show Y G (d + 2) mX11_hear 12 [(2, 1), (0, x1), (0, x2)] [] (zset (zset M 176 2 0) 176 11 0) Q
    refine z_iconst dX11_hear_12 ki_0 ?_
    exact z_ireturn dX11_hear_13 (Or.inl rfl) rfl h
set_option maxRecDepth 20000 in
set_option maxHeartbeats 4000000 in
theorem bX11_hear_39 {G : zG} {d : Nat} {M : zM} {Q : zV → zM → Prop} (hG : zP G) {x1 x2 x49 : Int}
    (h : Q (0, x49) M) :
    Y G (d + 2) mX11_hear 39 [(2, 1), (0, x1), (0, x2)] [(0, x49)] M Q := by
  refine z_goto (tgt := 44) dX11_hear_39 rfl ?_
  exact z_ireturn dX11_hear_44 (Or.inl rfl) rfl h
set_option maxRecDepth 20000 in
set_option maxHeartbeats 4000000 in
theorem bX11_worlds_0 {G : zG} {d : Nat} {M : zM} {Q : zV → zM → Prop} (hG : zP G) {x1 : Int}
    (h : Y G d mX0_countWorlds 0 [(2, 176), (2, 19), (2, 2), (9, 0), (9, 0), (9, 0)] [] M (fun r M' => Y G (d + 1) mX11_worlds 15 [(2, 1), (0, x1), (9, 0)] (zpush r []) M' Q)) :
    Y G (d + 1) mX11_worlds 0 [(2, 1), (0, x1), (9, 0)] [] M Q := by
  refine z_aloadn dX11_worlds_0 rfl (Or.inl rfl) ?_
  refine y_getr (v := 176) hG dX11_worlds_1 fX11_60 sh1 (by decide) rfl (by decide +kernel) (by decide) ?_
  refine z_aloadn dX11_worlds_4 rfl (Or.inl rfl) ?_
  refine y_getr (v := 19) hG dX11_worlds_5 fX11_32 sh1 (by decide) rfl (by decide +kernel) (by decide) ?_
  refine z_aloadn dX11_worlds_8 rfl (Or.inl rfl) ?_
  refine y_getr (v := 2) hG dX11_worlds_9 fX11_10 sh1 (by decide) rfl (by decide +kernel) (by decide) ?_
  refine y_cv (mt2 := mX0_countWorlds) (en := [(2, 176), (2, 19), (2, 2), (9, 0), (9, 0), (9, 0)]) (st := []) (as := [(2, 19), (2, 2)]) dX11_worlds_12 lX11_328 kX0_countWorlds iX0_countWorlds eX0_countWorlds rfl sh176 (by decide +kernel) (Nat.le_of_ble_eq_true rfl) (Nat.le_of_ble_eq_true rfl) rfl ?_
  exact h
set_option maxRecDepth 20000 in
set_option maxHeartbeats 4000000 in
theorem bX11_worlds_15 {G : zG} {d : Nat} {M : zM} {Q : zV → zM → Prop} (hG : zP G) {x1 x49 : Int}
    (h : ((¬ x1 = (-1) → (-2147483648 ≤ x49 - 1 ∧ x49 - 1 ≤ 2147483647) ∧ ((0 ≤ x1 ∧ x1 ≤ (x49 - 1) → (0 ≤ x1 ∧ x1 < 10000) ∧ Q (0, (M 183 x1)) M) ∧ (¬ (0 ≤ x1 ∧ x1 ≤ (x49 - 1)) → Q (0, (-1)) M))) ∧ (x1 = (-1) → Q (0, x49) M))) :
    Y G (d + 1) mX11_worlds 15 [(2, 1), (0, x1), (9, 0)] [(0, x49)] M Q := by
  refine y_istoren (ls' := [(2, 1), (0, x1), (0, x49)]) dX11_worlds_15 rfl rfl ?_
  refine z_iloadn dX11_worlds_16 rfl ?_
  refine z_iconst dX11_worlds_17 ki_m1 ?_
  refine z_icmpne (tgt := 23) dX11_worlds_18 rfl (fun q => ?_) (fun q => ?_)
  · replace h := h.1 q
    refine z_iloadn dX11_worlds_23 rfl ?_
    refine z_iconst dX11_worlds_24 ki_0 ?_
    refine z_iloadn dX11_worlds_25 rfl ?_
    refine z_iconst dX11_worlds_26 ki_1 ?_
    obtain ⟨q1, h⟩ := h
    refine z_isub dX11_worlds_27 q1 ?_
    refine y_cs (mt2 := mX11_within) (en := [(0, x1), (0, 0), (0, (x49 - 1))]) (st := []) (as := [(0, x1), (0, 0), (0, (x49 - 1))]) dX11_worlds_28 lX11_72 kX11_within tX11_within rfl (Nat.le_of_ble_eq_true rfl) (Nat.le_of_ble_eq_true rfl) rfl (s_within hG (fun q => ?_) (fun q => ?_))
    · replace h := h.1 q
      show Y G (d + 1) mX11_worlds 31 [(2, 1), (0, x1), (0, x49)] [(0, 1)] M Q
      refine z_ifeq (tgt := 46) dX11_worlds_31 rfl (fun q => absurd q (by decide)) (fun _ => ?_)
      refine z_aloadn dX11_worlds_34 rfl (Or.inl rfl) ?_
      refine y_getr (v := 176) hG dX11_worlds_35 fX11_60 sh1 (by decide) rfl (by decide +kernel) (by decide) ?_
      refine y_getr (v := 183) hG dX11_worlds_38 fX11_332 sh176 (by decide) rfl (by decide +kernel) (by decide) ?_
      refine z_iloadn dX11_worlds_41 rfl ?_
      obtain ⟨q2, h⟩ := h
      refine y_iald (x := (M 183 x1)) dX11_worlds_42 sh183 q2 rfl ?_
      refine z_goto (tgt := 47) dX11_worlds_43 rfl ?_
      exact z_ireturn dX11_worlds_47 (Or.inl rfl) rfl h
    · replace h := h.2 q
      show Y G (d + 1) mX11_worlds 31 [(2, 1), (0, x1), (0, x49)] [(0, 0)] M Q
      refine z_ifeq (tgt := 46) dX11_worlds_31 rfl (fun _ => ?_) (fun q => absurd q (by decide))
      refine z_iconst dX11_worlds_46 ki_m1 ?_
      exact z_ireturn dX11_worlds_47 (Or.inl rfl) rfl h
  · replace h := h.2 q
    refine z_iloadn dX11_worlds_21 rfl ?_
    exact z_ireturn dX11_worlds_22 (Or.inl rfl) rfl h
set_option maxRecDepth 20000 in
set_option maxHeartbeats 4000000 in
theorem bX11_knew_0 {G : zG} {d : Nat} {M : zM} {Q : zV → zM → Prop} (hG : zP G) {x1 : Int}
    (h : (-1000 ≤ (M 157 5) ∧ (M 157 5) ≤ 1000) ∧ ((0 ≤ x1 ∧ x1 < (M 157 5) → Y G (d + 1) mX0_wordsHeard 0 [(2, 176), (0, x1), (2, 19), (9, 0), (9, 0)] [] M (fun r M' => Y G (d + 2) mX11_knew 20 [(2, 1), (0, x1)] (zpush r []) M' Q)) ∧ (¬ (0 ≤ x1 ∧ x1 < (M 157 5)) → Q (0, (-1)) M))) :
    Y G (d + 2) mX11_knew 0 [(2, 1), (0, x1)] [] M Q := by
  refine z_aloadn dX11_knew_0 rfl (Or.inl rfl) ?_
  refine z_iloadn dX11_knew_1 rfl ?_
  obtain ⟨q1, h⟩ := h
  refine y_cv (mt2 := mX11_isPupil) (en := [(2, 1), (0, x1)]) (st := []) (as := [(0, x1)]) dX11_knew_2 lX11_221 kX11_isPupil iX11_isPupil eX11_isPupil rfl sh1 (by decide +kernel) (Nat.le_of_ble_eq_true rfl) (Nat.le_of_ble_eq_true rfl) rfl (s_isPupil hG rfl q1 (fun q => ?_) (fun q => ?_))
  · replace h := h.1 q
    show Y G (d + 2) mX11_knew 5 [(2, 1), (0, x1)] [(0, 1)] M Q
    refine z_ifeq (tgt := 23) dX11_knew_5 rfl (fun q => absurd q (by decide)) (fun _ => ?_)
    refine z_aloadn dX11_knew_8 rfl (Or.inl rfl) ?_
    refine y_getr (v := 176) hG dX11_knew_9 fX11_60 sh1 (by decide) rfl (by decide +kernel) (by decide) ?_
    refine z_iloadn dX11_knew_12 rfl ?_
    refine z_aloadn dX11_knew_13 rfl (Or.inl rfl) ?_
    refine y_getr (v := 19) hG dX11_knew_14 fX11_32 sh1 (by decide) rfl (by decide +kernel) (by decide) ?_
    refine y_cv (mt2 := mX0_wordsHeard) (en := [(2, 176), (0, x1), (2, 19), (9, 0), (9, 0)]) (st := []) (as := [(0, x1), (2, 19)]) dX11_knew_17 lX11_335 kX0_wordsHeard iX0_wordsHeard eX0_wordsHeard rfl sh176 (by decide +kernel) (Nat.le_of_ble_eq_true rfl) (Nat.le_of_ble_eq_true rfl) rfl ?_
    exact h
  · replace h := h.2 q
    show Y G (d + 2) mX11_knew 5 [(2, 1), (0, x1)] [(0, 0)] M Q
    refine z_ifeq (tgt := 23) dX11_knew_5 rfl (fun _ => ?_) (fun q => absurd q (by decide))
    refine z_iconst dX11_knew_23 ki_m1 ?_
    exact z_ireturn dX11_knew_24 (Or.inl rfl) rfl h
set_option maxRecDepth 20000 in
set_option maxHeartbeats 4000000 in
theorem bX11_knew_20 {G : zG} {d : Nat} {M : zM} {Q : zV → zM → Prop} (hG : zP G) {x1 x49 : Int}
    (h : Q (0, x49) M) :
    Y G (d + 2) mX11_knew 20 [(2, 1), (0, x1)] [(0, x49)] M Q := by
  refine z_goto (tgt := 24) dX11_knew_20 rfl ?_
  exact z_ireturn dX11_knew_24 (Or.inl rfl) rfl h
set_option maxRecDepth 20000 in
set_option maxHeartbeats 4000000 in
theorem bX11_tell_0 {G : zG} {d : Nat} {M : zM} {Q : zV → zM → Prop} (hG : zP G) {x1 x2 : Int}
    (h : ((¬ x1 = (-1) → (-1000 ≤ (M 19 8) ∧ (M 19 8) ≤ 1000) ∧ ((0 ≤ x1 ∧ x1 < (M 19 8) → (((-1000000) ≤ x2 ∧ x2 ≤ 1000000 → Y G (d + 1) mX0_addTold 0 [(2, 176), (0, x1), (0, x2)] [] M (fun r M' => Y G (d + 2) mX11_tell 53 [(2, 1), (0, x1), (0, x2), (0, 1)] (zpush r []) M' Q)) ∧ (¬ ((-1000000) ≤ x2 ∧ x2 ≤ 1000000) → Q (0, (-2)) M))) ∧ (¬ (0 ≤ x1 ∧ x1 < (M 19 8)) → Q (0, (-2)) M))) ∧ (x1 = (-1) → Q (0, 0) (zset M 176 7 0)))) :
    Y G (d + 2) mX11_tell 0 [(2, 1), (0, x1), (0, x2), (9, 0)] [] M Q := by
  refine z_iloadn dX11_tell_0 rfl ?_
  refine z_iconst dX11_tell_1 ki_m1 ?_
  refine z_icmpne (tgt := 15) dX11_tell_2 rfl (fun q => ?_) (fun q => ?_)
  · replace h := h.1 q
    refine z_aloadn dX11_tell_15 rfl (Or.inl rfl) ?_
    refine z_iloadn dX11_tell_16 rfl ?_
    obtain ⟨q1, h⟩ := h
    refine y_cv (mt2 := mX11_isQuestion) (en := [(2, 1), (0, x1)]) (st := []) (as := [(0, x1)]) dX11_tell_17 lX11_179 kX11_isQuestion iX11_isQuestion eX11_isQuestion rfl sh1 (by decide +kernel) (Nat.le_of_ble_eq_true rfl) (Nat.le_of_ble_eq_true rfl) rfl (s_isQuestion hG rfl q1 (fun q => ?_) (fun q => ?_))
    · replace h := h.1 q
      show Y G (d + 2) mX11_tell 20 [(2, 1), (0, x1), (0, x2), (9, 0)] [(0, 1)] M Q
      refine z_ifeq (tgt := 38) dX11_tell_20 rfl (fun q => absurd q (by decide)) (fun _ => ?_)
      refine z_iloadn dX11_tell_23 rfl ?_
      refine z_ldc (k := (-1000000)) (v := (-1000000)) dX11_tell_24 ⟨by decide, ⟨by decide, by decide⟩⟩ qX11_213 ?_
      refine z_ldc (k := 1000000) (v := 1000000) dX11_tell_26 ⟨by decide, ⟨by decide, by decide⟩⟩ qX11_214 ?_
      refine y_cs (mt2 := mX11_within) (en := [(0, x2), (0, (-1000000)), (0, 1000000)]) (st := []) (as := [(0, x2), (0, (-1000000)), (0, 1000000)]) dX11_tell_28 lX11_72 kX11_within tX11_within rfl (Nat.le_of_ble_eq_true rfl) (Nat.le_of_ble_eq_true rfl) rfl (s_within hG (fun q => ?_) (fun q => ?_))
      · replace h := h.1 q
        show Y G (d + 2) mX11_tell 31 [(2, 1), (0, x1), (0, x2), (9, 0)] [(0, 1)] M Q
        refine z_ifeq (tgt := 38) dX11_tell_31 rfl (fun q => absurd q (by decide)) (fun _ => ?_)
        refine z_iconst dX11_tell_34 ki_1 ?_
        refine z_goto (tgt := 39) dX11_tell_35 rfl ?_
        refine y_istoren (ls' := [(2, 1), (0, x1), (0, x2), (0, 1)]) dX11_tell_39 rfl rfl ?_
        refine z_iloadn dX11_tell_40 rfl ?_
        refine z_ifeq (tgt := 56) dX11_tell_41 rfl (fun q => absurd q (by decide)) (fun _ => ?_)
        refine z_aloadn dX11_tell_44 rfl (Or.inl rfl) ?_
        refine y_getr (v := 176) hG dX11_tell_45 fX11_60 sh1 (by decide) rfl (by decide +kernel) (by decide) ?_
        refine z_iloadn dX11_tell_48 rfl ?_
        refine z_iloadn dX11_tell_49 rfl ?_
        refine y_cv (mt2 := mX0_addTold) (en := [(2, 176), (0, x1), (0, x2)]) (st := []) (as := [(0, x1), (0, x2)]) dX11_tell_50 lX11_341 kX0_addTold iX0_addTold eX0_addTold rfl sh176 (by decide +kernel) (Nat.le_of_ble_eq_true rfl) (Nat.le_of_ble_eq_true rfl) rfl ?_
        exact h
      · replace h := h.2 q
        show Y G (d + 2) mX11_tell 31 [(2, 1), (0, x1), (0, x2), (9, 0)] [(0, 0)] M Q
        refine z_ifeq (tgt := 38) dX11_tell_31 rfl (fun _ => ?_) (fun q => absurd q (by decide))
        refine z_iconst dX11_tell_38 ki_0 ?_
        refine y_istoren (ls' := [(2, 1), (0, x1), (0, x2), (0, 0)]) dX11_tell_39 rfl rfl ?_
        refine z_iloadn dX11_tell_40 rfl ?_
        refine z_ifeq (tgt := 56) dX11_tell_41 rfl (fun _ => ?_) (fun q => absurd q (by decide))
        refine z_bipush dX11_tell_56 kb_m2 ?_
        exact z_ireturn dX11_tell_58 (Or.inl rfl) rfl h
    · replace h := h.2 q
      show Y G (d + 2) mX11_tell 20 [(2, 1), (0, x1), (0, x2), (9, 0)] [(0, 0)] M Q
      refine z_ifeq (tgt := 38) dX11_tell_20 rfl (fun _ => ?_) (fun q => absurd q (by decide))
      refine z_iconst dX11_tell_38 ki_0 ?_
      refine y_istoren (ls' := [(2, 1), (0, x1), (0, x2), (0, 0)]) dX11_tell_39 rfl rfl ?_
      refine z_iloadn dX11_tell_40 rfl ?_
      refine z_ifeq (tgt := 56) dX11_tell_41 rfl (fun _ => ?_) (fun q => absurd q (by decide))
      refine z_bipush dX11_tell_56 kb_m2 ?_
      exact z_ireturn dX11_tell_58 (Or.inl rfl) rfl h
  · replace h := h.2 q
    refine z_aloadn dX11_tell_5 rfl (Or.inl rfl) ?_
    refine y_getr (v := 176) hG dX11_tell_6 fX11_60 sh1 (by decide) rfl (by decide +kernel) (by decide) ?_
    refine z_iconst dX11_tell_9 ki_0 ?_
    refine y_putf (M' := zset M 176 7 0) hG dX11_tell_10 fX11_338 sh176 (by decide) ⟨rfl, rfl⟩ p0_7 (fun q => absurd q (by decide)) (by decide) rfl ?_
    refine z_iconst dX11_tell_13 ki_0 ?_
    exact z_ireturn dX11_tell_14 (Or.inl rfl) rfl h
set_option maxRecDepth 20000 in
set_option maxHeartbeats 4000000 in
theorem bX11_tell_53 {G : zG} {d : Nat} {M : zM} {Q : zV → zM → Prop} (hG : zP G) {x1 x2 x3 x49 : Int}
    (h : Q (0, x49) M) :
    Y G (d + 2) mX11_tell 53 [(2, 1), (0, x1), (0, x2), (0, x3)] [(0, x49)] M Q := by
  refine z_goto (tgt := 58) dX11_tell_53 rfl ?_
  exact z_ireturn dX11_tell_58 (Or.inl rfl) rfl h
set_option maxRecDepth 20000 in
set_option maxHeartbeats 4000000 in
theorem bX11_lies_0 {G : zG} {d : Nat} {M : zM} {Q : zV → zM → Prop} (hG : zP G)
    (h : Y G d mX11_takeStock 0 [(2, 1)] [] M (fun r M' => Y G (d + 1) mX11_lies 4 [(2, 1)] (zpush r []) M' Q)) :
    Y G (d + 1) mX11_lies 0 [(2, 1)] [] M Q := by
  refine z_aloadn dX11_lies_0 rfl (Or.inl rfl) ?_
  refine y_cv (mt2 := mX11_takeStock) (en := [(2, 1)]) (st := []) (as := []) dX11_lies_1 lX11_135 kX11_takeStock iX11_takeStock eX11_takeStock rfl sh1 (by decide +kernel) (Nat.le_of_ble_eq_true rfl) (Nat.le_of_ble_eq_true rfl) rfl ?_
  exact h
set_option maxRecDepth 20000 in
set_option maxHeartbeats 4000000 in
theorem bX11_lies_4 {G : zG} {d : Nat} {M : zM} {Q : zV → zM → Prop} (hG : zP G)
    (h : Y G d mX0_liesIn 0 [(2, 176), (2, 19), (9, 0), (9, 0)] [] M (fun r M' => Y G (d + 1) mX11_lies 15 [(2, 1)] (zpush r []) M' Q)) :
    Y G (d + 1) mX11_lies 4 [(2, 1)] [] M Q := by
  refine z_aloadn dX11_lies_4 rfl (Or.inl rfl) ?_
  refine y_getr (v := 176) hG dX11_lies_5 fX11_60 sh1 (by decide) rfl (by decide +kernel) (by decide) ?_
  refine z_aloadn dX11_lies_8 rfl (Or.inl rfl) ?_
  refine y_getr (v := 19) hG dX11_lies_9 fX11_32 sh1 (by decide) rfl (by decide +kernel) (by decide) ?_
  refine y_cv (mt2 := mX0_liesIn) (en := [(2, 176), (2, 19), (9, 0), (9, 0)]) (st := []) (as := [(2, 19)]) dX11_lies_12 lX11_344 kX0_liesIn iX0_liesIn eX0_liesIn rfl sh176 (by decide +kernel) (Nat.le_of_ble_eq_true rfl) (Nat.le_of_ble_eq_true rfl) rfl ?_
  exact h
set_option maxRecDepth 20000 in
set_option maxHeartbeats 4000000 in
theorem bX11_lies_15 {G : zG} {d : Nat} {M : zM} {Q : zV → zM → Prop} (hG : zP G) {x49 : Int}
    (h : Q (0, x49) M) :
    Y G (d + 1) mX11_lies 15 [(2, 1)] [(0, x49)] M Q := by
  exact z_ireturn dX11_lies_15 (Or.inl rfl) rfl h
set_option maxRecDepth 20000 in
set_option maxHeartbeats 4000000 in
theorem bX11_clash_0 {G : zG} {d : Nat} {M : zM} {Q : zV → zM → Prop} (hG : zP G)
    (h : Y G d mX11_takeStock 0 [(2, 1)] [] M (fun r M' => Y G (d + 1) mX11_clash 4 [(2, 1)] (zpush r []) M' Q)) :
    Y G (d + 1) mX11_clash 0 [(2, 1)] [] M Q := by
  refine z_aloadn dX11_clash_0 rfl (Or.inl rfl) ?_
  refine y_cv (mt2 := mX11_takeStock) (en := [(2, 1)]) (st := []) (as := []) dX11_clash_1 lX11_135 kX11_takeStock iX11_takeStock eX11_takeStock rfl sh1 (by decide +kernel) (Nat.le_of_ble_eq_true rfl) (Nat.le_of_ble_eq_true rfl) rfl ?_
  exact h
set_option maxRecDepth 20000 in
set_option maxHeartbeats 4000000 in
theorem bX11_clash_4 {G : zG} {d : Nat} {M : zM} {Q : zV → zM → Prop} (hG : zP G)
    (h : Y G d mX0_firstClash 0 [(2, 176), (2, 19), (9, 0), (9, 0), (9, 0)] [] M (fun r M' => Y G (d + 1) mX11_clash 15 [(2, 1)] (zpush r []) M' Q)) :
    Y G (d + 1) mX11_clash 4 [(2, 1)] [] M Q := by
  refine z_aloadn dX11_clash_4 rfl (Or.inl rfl) ?_
  refine y_getr (v := 176) hG dX11_clash_5 fX11_60 sh1 (by decide) rfl (by decide +kernel) (by decide) ?_
  refine z_aloadn dX11_clash_8 rfl (Or.inl rfl) ?_
  refine y_getr (v := 19) hG dX11_clash_9 fX11_32 sh1 (by decide) rfl (by decide +kernel) (by decide) ?_
  refine y_cv (mt2 := mX0_firstClash) (en := [(2, 176), (2, 19), (9, 0), (9, 0), (9, 0)]) (st := []) (as := [(2, 19)]) dX11_clash_12 lX11_347 kX0_firstClash iX0_firstClash eX0_firstClash rfl sh176 (by decide +kernel) (Nat.le_of_ble_eq_true rfl) (Nat.le_of_ble_eq_true rfl) rfl ?_
  exact h
set_option maxRecDepth 20000 in
set_option maxHeartbeats 4000000 in
theorem bX11_clash_15 {G : zG} {d : Nat} {M : zM} {Q : zV → zM → Prop} (hG : zP G) {x49 : Int}
    (h : Q (0, x49) M) :
    Y G (d + 1) mX11_clash 15 [(2, 1)] [(0, x49)] M Q := by
  exact z_ireturn dX11_clash_15 (Or.inl rfl) rfl h
set_option maxRecDepth 20000 in
set_option maxHeartbeats 4000000 in
theorem bX11_image_0 {G : zG} {d : Nat} {M : zM} {Q : zV → zM → Prop} (hG : zP G)
    (h : Y G d mX11_saveAll 0 [(2, 1)] [] M (fun r M' => Y G (d + 1) mX11_image 4 [(2, 1)] (zpush r []) M' Q)) :
    Y G (d + 1) mX11_image 0 [(2, 1)] [] M Q := by
  refine z_aloadn dX11_image_0 rfl (Or.inl rfl) ?_
  refine y_cv (mt2 := mX11_saveAll) (en := [(2, 1)]) (st := []) (as := []) dX11_image_1 lX11_350 kX11_saveAll iX11_saveAll eX11_saveAll rfl sh1 (by decide +kernel) (Nat.le_of_ble_eq_true rfl) (Nat.le_of_ble_eq_true rfl) rfl ?_
  exact h
set_option maxRecDepth 20000 in
set_option maxHeartbeats 4000000 in
theorem bX11_image_4 {G : zG} {d : Nat} {M : zM} {Q : zV → zM → Prop} (hG : zP G)
    (h : Q (0, (M 157 9)) M) :
    Y G (d + 1) mX11_image 4 [(2, 1)] [] M Q := by
  refine z_aloadn dX11_image_4 rfl (Or.inl rfl) ?_
  refine y_getr (v := 157) hG dX11_image_5 fX11_39 sh1 (by decide) rfl (by decide +kernel) (by decide) ?_
  refine y_getf (x := (M 157 9)) dX11_image_8 fX11_235 sh157 (by decide) rfl rfl ?_
  exact z_ireturn dX11_image_11 (Or.inl rfl) rfl h
set_option maxRecDepth 20000 in
set_option maxHeartbeats 4000000 in
theorem bX11_back_0 {G : zG} {d : Nat} {M : zM} {Q : zV → zM → Prop} (hG : zP G)
    (h : Y G d mX5_rewind 0 [(2, 184)] [] M (fun r M' => Y G (d + 1) mX11_back 7 [(2, 1)] (zpush r []) M' Q)) :
    Y G (d + 1) mX11_back 0 [(2, 1)] [] M Q := by
  refine z_aloadn dX11_back_0 rfl (Or.inl rfl) ?_
  refine y_getr (v := 184) hG dX11_back_1 fX11_67 sh1 (by decide) rfl (by decide +kernel) (by decide) ?_
  refine y_cv (mt2 := mX5_rewind) (en := [(2, 184)]) (st := []) (as := []) dX11_back_4 lX11_353 kX5_rewind iX5_rewind eX5_rewind rfl sh184 (by decide +kernel) (Nat.le_of_ble_eq_true rfl) (Nat.le_of_ble_eq_true rfl) rfl ?_
  exact h
set_option maxRecDepth 20000 in
set_option maxHeartbeats 4000000 in
theorem bX11_back_7 {G : zG} {d : Nat} {M : zM} {Q : zV → zM → Prop} (hG : zP G)
    (h : Y G d mX5_take 0 [(2, 184)] [] M (fun r M' => Y G (d + 1) mX11_back 15 [(2, 1)] (zpush r [(2, 1)]) M' Q)) :
    Y G (d + 1) mX11_back 7 [(2, 1)] [] M Q := by
  refine z_aloadn dX11_back_7 rfl (Or.inl rfl) ?_
  refine z_aloadn dX11_back_8 rfl (Or.inl rfl) ?_
  refine y_getr (v := 184) hG dX11_back_9 fX11_67 sh1 (by decide) rfl (by decide +kernel) (by decide) ?_
  refine y_cv (mt2 := mX5_take) (en := [(2, 184)]) (st := [(2, 1)]) (as := []) dX11_back_12 lX11_356 kX5_take iX5_take eX5_take rfl sh184 (by decide +kernel) (Nat.le_of_ble_eq_true rfl) (Nat.le_of_ble_eq_true rfl) rfl ?_
  exact h
set_option maxRecDepth 20000 in
set_option maxHeartbeats 4000000 in
theorem bX11_back_15 {G : zG} {d : Nat} {M : zM} {Q : zV → zM → Prop} (hG : zP G) {x49 : Int}
    (h : Y G d mX10_restore 0 [(2, 2), (2, 184)] [] (zset M 1 3 x49) (fun r M' => Y G (d + 1) mX11_back 29 [(2, 1)] (zpush r []) M' Q)) :
    Y G (d + 1) mX11_back 15 [(2, 1)] [(0, x49), (2, 1)] M Q := by
  refine y_putf (M' := zset M 1 3 x49) hG dX11_back_15 fX11_111 sh1 (by decide) ⟨rfl, rfl⟩ p11_3 (fun q => absurd q (by decide)) (by decide) rfl ?_
  refine z_aloadn dX11_back_18 rfl (Or.inl rfl) ?_
  refine y_getr (v := 2) hG dX11_back_19 fX11_10 sh1 (by decide) rfl (by decide +kernel) (by decide) ?_
  refine z_aloadn dX11_back_22 rfl (Or.inl rfl) ?_
  refine y_getr (v := 184) hG dX11_back_23 fX11_67 sh1 (by decide) rfl (by decide +kernel) (by decide) ?_
  refine y_cv (mt2 := mX10_restore) (en := [(2, 2), (2, 184)]) (st := []) (as := [(2, 184)]) dX11_back_26 lX11_359 kX10_restore iX10_restore eX10_restore rfl sh2 (by decide +kernel) (Nat.le_of_ble_eq_true rfl) (Nat.le_of_ble_eq_true rfl) rfl ?_
  exact h
set_option maxRecDepth 20000 in
set_option maxHeartbeats 4000000 in
theorem bX11_back_29 {G : zG} {d : Nat} {M : zM} {Q : zV → zM → Prop} (hG : zP G)
    (h : Y G d mX3_restore 0 [(2, 19), (2, 184)] [] M (fun r M' => Y G (d + 1) mX11_back 40 [(2, 1)] (zpush r []) M' Q)) :
    Y G (d + 1) mX11_back 29 [(2, 1)] [] M Q := by
  refine z_aloadn dX11_back_29 rfl (Or.inl rfl) ?_
  refine y_getr (v := 19) hG dX11_back_30 fX11_32 sh1 (by decide) rfl (by decide +kernel) (by decide) ?_
  refine z_aloadn dX11_back_33 rfl (Or.inl rfl) ?_
  refine y_getr (v := 184) hG dX11_back_34 fX11_67 sh1 (by decide) rfl (by decide +kernel) (by decide) ?_
  refine y_cv (mt2 := mX3_restore) (en := [(2, 19), (2, 184)]) (st := []) (as := [(2, 184)]) dX11_back_37 lX11_363 kX3_restore iX3_restore eX3_restore rfl sh19 (by decide +kernel) (Nat.le_of_ble_eq_true rfl) (Nat.le_of_ble_eq_true rfl) rfl ?_
  exact h
set_option maxRecDepth 20000 in
set_option maxHeartbeats 4000000 in
theorem bX11_back_40 {G : zG} {d : Nat} {M : zM} {Q : zV → zM → Prop} (hG : zP G)
    (h : Y G d mX6_restore 0 [(2, 157), (2, 184)] [] M (fun r M' => Y G (d + 1) mX11_back 51 [(2, 1)] (zpush r []) M' Q)) :
    Y G (d + 1) mX11_back 40 [(2, 1)] [] M Q := by
  refine z_aloadn dX11_back_40 rfl (Or.inl rfl) ?_
  refine y_getr (v := 157) hG dX11_back_41 fX11_39 sh1 (by decide) rfl (by decide +kernel) (by decide) ?_
  refine z_aloadn dX11_back_44 rfl (Or.inl rfl) ?_
  refine y_getr (v := 184) hG dX11_back_45 fX11_67 sh1 (by decide) rfl (by decide +kernel) (by decide) ?_
  refine y_cv (mt2 := mX6_restore) (en := [(2, 157), (2, 184)]) (st := []) (as := [(2, 184)]) dX11_back_48 lX11_364 kX6_restore iX6_restore eX6_restore rfl sh157 (by decide +kernel) (Nat.le_of_ble_eq_true rfl) (Nat.le_of_ble_eq_true rfl) rfl ?_
  exact h
set_option maxRecDepth 20000 in
set_option maxHeartbeats 4000000 in
theorem bX11_back_51 {G : zG} {d : Nat} {M : zM} {Q : zV → zM → Prop} (hG : zP G)
    (h : Y G d mX0_restore 0 [(2, 176), (2, 184)] [] M (fun r M' => Y G (d + 1) mX11_back 62 [(2, 1)] (zpush r []) M' Q)) :
    Y G (d + 1) mX11_back 51 [(2, 1)] [] M Q := by
  refine z_aloadn dX11_back_51 rfl (Or.inl rfl) ?_
  refine y_getr (v := 176) hG dX11_back_52 fX11_60 sh1 (by decide) rfl (by decide +kernel) (by decide) ?_
  refine z_aloadn dX11_back_55 rfl (Or.inl rfl) ?_
  refine y_getr (v := 184) hG dX11_back_56 fX11_67 sh1 (by decide) rfl (by decide +kernel) (by decide) ?_
  refine y_cv (mt2 := mX0_restore) (en := [(2, 176), (2, 184)]) (st := []) (as := [(2, 184)]) dX11_back_59 lX11_365 kX0_restore iX0_restore eX0_restore rfl sh176 (by decide +kernel) (Nat.le_of_ble_eq_true rfl) (Nat.le_of_ble_eq_true rfl) rfl ?_
  exact h
set_option maxRecDepth 20000 in
set_option maxHeartbeats 4000000 in
theorem bX11_back_62 {G : zG} {d : Nat} {M : zM} {Q : zV → zM → Prop} (hG : zP G)
    (h : Q (0, (M 157 9)) M) :
    Y G (d + 1) mX11_back 62 [(2, 1)] [] M Q := by
  refine z_aloadn dX11_back_62 rfl (Or.inl rfl) ?_
  refine y_getr (v := 157) hG dX11_back_63 fX11_39 sh1 (by decide) rfl (by decide +kernel) (by decide) ?_
  refine y_getf (x := (M 157 9)) dX11_back_66 fX11_235 sh157 (by decide) rfl rfl ?_
  exact z_ireturn dX11_back_69 (Or.inl rfl) rfl h
set_option maxRecDepth 20000 in
set_option maxHeartbeats 4000000 in
theorem bX11_saveAll_0 {G : zG} {d : Nat} {M : zM} {Q : zV → zM → Prop} (hG : zP G)
    (h : Y G d mX5_rewind 0 [(2, 184)] [] M (fun r M' => Y G (d + 1) mX11_saveAll 7 [(2, 1)] (zpush r []) M' Q)) :
    Y G (d + 1) mX11_saveAll 0 [(2, 1)] [] M Q := by
  refine z_aloadn dX11_saveAll_0 rfl (Or.inl rfl) ?_
  refine y_getr (v := 184) hG dX11_saveAll_1 fX11_67 sh1 (by decide) rfl (by decide +kernel) (by decide) ?_
  refine y_cv (mt2 := mX5_rewind) (en := [(2, 184)]) (st := []) (as := []) dX11_saveAll_4 lX11_353 kX5_rewind iX5_rewind eX5_rewind rfl sh184 (by decide +kernel) (Nat.le_of_ble_eq_true rfl) (Nat.le_of_ble_eq_true rfl) rfl ?_
  exact h
set_option maxRecDepth 20000 in
set_option maxHeartbeats 4000000 in
theorem bX11_saveAll_7 {G : zG} {d : Nat} {M : zM} {Q : zV → zM → Prop} (hG : zP G)
    (h : Y G d mX5_put 0 [(2, 184), (0, (M 1 3))] [] M (fun r M' => Y G (d + 1) mX11_saveAll 18 [(2, 1)] (zpush r []) M' Q)) :
    Y G (d + 1) mX11_saveAll 7 [(2, 1)] [] M Q := by
  refine z_aloadn dX11_saveAll_7 rfl (Or.inl rfl) ?_
  refine y_getr (v := 184) hG dX11_saveAll_8 fX11_67 sh1 (by decide) rfl (by decide +kernel) (by decide) ?_
  refine z_aloadn dX11_saveAll_11 rfl (Or.inl rfl) ?_
  refine y_getf (x := (M 1 3)) dX11_saveAll_12 fX11_111 sh1 (by decide) rfl rfl ?_
  refine y_cv (mt2 := mX5_put) (en := [(2, 184), (0, (M 1 3))]) (st := []) (as := [(0, (M 1 3))]) dX11_saveAll_15 lX11_366 kX5_put iX5_put eX5_put rfl sh184 (by decide +kernel) (Nat.le_of_ble_eq_true rfl) (Nat.le_of_ble_eq_true rfl) rfl ?_
  exact h
set_option maxRecDepth 20000 in
set_option maxHeartbeats 4000000 in
theorem bX11_saveAll_18 {G : zG} {d : Nat} {M : zM} {Q : zV → zM → Prop} (hG : zP G)
    (h : Y G d mX10_save 0 [(2, 2), (2, 184)] [] M (fun r M' => Y G (d + 1) mX11_saveAll 29 [(2, 1)] (zpush r []) M' Q)) :
    Y G (d + 1) mX11_saveAll 18 [(2, 1)] [] M Q := by
  refine z_aloadn dX11_saveAll_18 rfl (Or.inl rfl) ?_
  refine y_getr (v := 2) hG dX11_saveAll_19 fX11_10 sh1 (by decide) rfl (by decide +kernel) (by decide) ?_
  refine z_aloadn dX11_saveAll_22 rfl (Or.inl rfl) ?_
  refine y_getr (v := 184) hG dX11_saveAll_23 fX11_67 sh1 (by decide) rfl (by decide +kernel) (by decide) ?_
  refine y_cv (mt2 := mX10_save) (en := [(2, 2), (2, 184)]) (st := []) (as := [(2, 184)]) dX11_saveAll_26 lX11_369 kX10_save iX10_save eX10_save rfl sh2 (by decide +kernel) (Nat.le_of_ble_eq_true rfl) (Nat.le_of_ble_eq_true rfl) rfl ?_
  exact h
set_option maxRecDepth 20000 in
set_option maxHeartbeats 4000000 in
theorem bX11_saveAll_29 {G : zG} {d : Nat} {M : zM} {Q : zV → zM → Prop} (hG : zP G)
    (h : Y G d mX3_save 0 [(2, 19), (2, 184)] [] M (fun r M' => Y G (d + 1) mX11_saveAll 40 [(2, 1)] (zpush r []) M' Q)) :
    Y G (d + 1) mX11_saveAll 29 [(2, 1)] [] M Q := by
  refine z_aloadn dX11_saveAll_29 rfl (Or.inl rfl) ?_
  refine y_getr (v := 19) hG dX11_saveAll_30 fX11_32 sh1 (by decide) rfl (by decide +kernel) (by decide) ?_
  refine z_aloadn dX11_saveAll_33 rfl (Or.inl rfl) ?_
  refine y_getr (v := 184) hG dX11_saveAll_34 fX11_67 sh1 (by decide) rfl (by decide +kernel) (by decide) ?_
  refine y_cv (mt2 := mX3_save) (en := [(2, 19), (2, 184)]) (st := []) (as := [(2, 184)]) dX11_saveAll_37 lX11_372 kX3_save iX3_save eX3_save rfl sh19 (by decide +kernel) (Nat.le_of_ble_eq_true rfl) (Nat.le_of_ble_eq_true rfl) rfl ?_
  exact h
set_option maxRecDepth 20000 in
set_option maxHeartbeats 4000000 in
theorem bX11_saveAll_40 {G : zG} {d : Nat} {M : zM} {Q : zV → zM → Prop} (hG : zP G)
    (h : Y G d mX6_save 0 [(2, 157), (2, 184)] [] M (fun r M' => Y G (d + 1) mX11_saveAll 51 [(2, 1)] (zpush r []) M' Q)) :
    Y G (d + 1) mX11_saveAll 40 [(2, 1)] [] M Q := by
  refine z_aloadn dX11_saveAll_40 rfl (Or.inl rfl) ?_
  refine y_getr (v := 157) hG dX11_saveAll_41 fX11_39 sh1 (by decide) rfl (by decide +kernel) (by decide) ?_
  refine z_aloadn dX11_saveAll_44 rfl (Or.inl rfl) ?_
  refine y_getr (v := 184) hG dX11_saveAll_45 fX11_67 sh1 (by decide) rfl (by decide +kernel) (by decide) ?_
  refine y_cv (mt2 := mX6_save) (en := [(2, 157), (2, 184)]) (st := []) (as := [(2, 184)]) dX11_saveAll_48 lX11_373 kX6_save iX6_save eX6_save rfl sh157 (by decide +kernel) (Nat.le_of_ble_eq_true rfl) (Nat.le_of_ble_eq_true rfl) rfl ?_
  exact h
set_option maxRecDepth 20000 in
set_option maxHeartbeats 4000000 in
theorem bX11_saveAll_51 {G : zG} {d : Nat} {M : zM} {Q : zV → zM → Prop} (hG : zP G)
    (h : Y G d mX0_save 0 [(2, 176), (2, 184)] [] M (fun r M' => Y G (d + 1) mX11_saveAll 62 [(2, 1)] (zpush r []) M' Q)) :
    Y G (d + 1) mX11_saveAll 51 [(2, 1)] [] M Q := by
  refine z_aloadn dX11_saveAll_51 rfl (Or.inl rfl) ?_
  refine y_getr (v := 176) hG dX11_saveAll_52 fX11_60 sh1 (by decide) rfl (by decide +kernel) (by decide) ?_
  refine z_aloadn dX11_saveAll_55 rfl (Or.inl rfl) ?_
  refine y_getr (v := 184) hG dX11_saveAll_56 fX11_67 sh1 (by decide) rfl (by decide +kernel) (by decide) ?_
  refine y_cv (mt2 := mX0_save) (en := [(2, 176), (2, 184)]) (st := []) (as := [(2, 184)]) dX11_saveAll_59 lX11_374 kX0_save iX0_save eX0_save rfl sh176 (by decide +kernel) (Nat.le_of_ble_eq_true rfl) (Nat.le_of_ble_eq_true rfl) rfl ?_
  exact h
set_option maxRecDepth 20000 in
set_option maxHeartbeats 4000000 in
theorem bX11_saveAll_62 {G : zG} {d : Nat} {M : zM} {Q : zV → zM → Prop} (hG : zP G)
    (h : Q (9, 0) M) :
    Y G (d + 1) mX11_saveAll 62 [(2, 1)] [] M Q := by
  exact z_return dX11_saveAll_62 rfl rfl h
set_option maxRecDepth 20000 in
set_option maxHeartbeats 4000000 in
theorem bX11_road_0 {G : zG} {d : Nat} {M : zM} {Q : zV → zM → Prop} (hG : zP G) {x1 x2 x3 : Int}
    (h : Y G d mX10_layRoad 0 [(2, 2), (0, x1), (0, x2), (0, x3), (9, 0)] [] M (fun r M' => Y G (d + 1) mX11_road 10 [(2, 1), (0, x1), (0, x2), (0, x3)] (zpush r []) M' Q)) :
    Y G (d + 1) mX11_road 0 [(2, 1), (0, x1), (0, x2), (0, x3)] [] M Q := by
  refine z_aloadn dX11_road_0 rfl (Or.inl rfl) ?_
  refine y_getr (v := 2) hG dX11_road_1 fX11_10 sh1 (by decide) rfl (by decide +kernel) (by decide) ?_
  refine z_iloadn dX11_road_4 rfl ?_
  refine z_iloadn dX11_road_5 rfl ?_
  refine z_iloadn dX11_road_6 rfl ?_
  refine y_cv (mt2 := mX10_layRoad) (en := [(2, 2), (0, x1), (0, x2), (0, x3), (9, 0)]) (st := []) (as := [(0, x1), (0, x2), (0, x3)]) dX11_road_7 lX11_84 kX10_layRoad iX10_layRoad eX10_layRoad rfl sh2 (by decide +kernel) (Nat.le_of_ble_eq_true rfl) (Nat.le_of_ble_eq_true rfl) rfl ?_
  exact h
set_option maxRecDepth 20000 in
set_option maxHeartbeats 4000000 in
theorem bX11_road_10 {G : zG} {d : Nat} {M : zM} {Q : zV → zM → Prop} (hG : zP G) {x1 x2 x3 x49 : Int}
    (h : (0 ≤ x49 ∧ x49 ≤ 1) ∧ Q (0, x49) M) :
    Y G (d + 1) mX11_road 10 [(2, 1), (0, x1), (0, x2), (0, x3)] [(0, x49)] M Q := by
  obtain ⟨q1, h⟩ := h
  exact z_ireturn dX11_road_10 (Or.inr ⟨rfl, q1⟩) rfl h
set_option maxRecDepth 20000 in
set_option maxHeartbeats 4000000 in
theorem bX11_about_0 {G : zG} {d : Nat} {M : zM} {Q : zV → zM → Prop} (hG : zP G) {x1 : Int}
    (h : ((10 ≤ x1 → ((10 ≤ x1 ∧ x1 ≤ 13 → (-2147483648 ≤ x1 - 10 ∧ x1 - 10 ≤ 2147483647) ∧ (0 ≤ (x1 - 10) ∧ (x1 - 10) < 4) ∧ Q (0, (M 3 (x1 - 10))) M) ∧ (¬ (10 ≤ x1 ∧ x1 ≤ 13) → (-2147483648 ≤ 20 + (M 157 5) ∧ 20 + (M 157 5) ≤ 2147483647) ∧ (-2147483648 ≤ (20 + (M 157 5)) - 1 ∧ (20 + (M 157 5)) - 1 ≤ 2147483647) ∧ ((20 ≤ x1 ∧ x1 ≤ ((20 + (M 157 5)) - 1) → (-2147483648 ≤ x1 - 20 ∧ x1 - 20 ≤ 2147483647) ∧ (0 ≤ (x1 - 20) ∧ (x1 - 20) < 6) ∧ Q (0, (M 158 (x1 - 20))) M) ∧ (¬ (20 ≤ x1 ∧ x1 ≤ ((20 + (M 157 5)) - 1)) → (-2147483648 ≤ 30 + (M 2 4) ∧ 30 + (M 2 4) ≤ 2147483647) ∧ (-2147483648 ≤ (30 + (M 2 4)) - 1 ∧ (30 + (M 2 4)) - 1 ≤ 2147483647) ∧ ((30 ≤ x1 ∧ x1 ≤ ((30 + (M 2 4)) - 1) → (-2147483648 ≤ x1 - 30 ∧ x1 - 30 ≤ 2147483647) ∧ (0 ≤ (x1 - 30) ∧ (x1 - 30) < 8) ∧ Q (0, (M 4 (x1 - 30))) M) ∧ (¬ (30 ≤ x1 ∧ x1 ≤ ((30 + (M 2 4)) - 1)) → (-2147483648 ≤ 40 + (M 157 5) ∧ 40 + (M 157 5) ≤ 2147483647) ∧ (-2147483648 ≤ (40 + (M 157 5)) - 1 ∧ (40 + (M 157 5)) - 1 ≤ 2147483647) ∧ ((40 ≤ x1 ∧ x1 ≤ ((40 + (M 157 5)) - 1) → (-2147483648 ≤ x1 - 40 ∧ x1 - 40 ≤ 2147483647) ∧ (0 ≤ (x1 - 40) ∧ (x1 - 40) < 6) ∧ Q (0, (M 159 (x1 - 40))) M) ∧ (¬ (40 ≤ x1 ∧ x1 ≤ ((40 + (M 157 5)) - 1)) → Q (0, (-2000000)) M))))))))) ∧ (x1 < 10 → Y G d mX11_amountOf 0 [(2, 1), (0, x1)] [] M (fun r M' => Y G (d + 1) mX11_about 11 [(2, 1), (0, x1)] (zpush r []) M' Q)))) :
    Y G (d + 1) mX11_about 0 [(2, 1), (0, x1)] [] M Q := by
  refine z_iloadn dX11_about_0 rfl ?_
  refine z_bipush dX11_about_1 kb_10 ?_
  refine z_icmpge (tgt := 12) dX11_about_3 rfl (fun q => ?_) (fun q => ?_)
  · replace h := h.1 q
    refine z_iloadn dX11_about_12 rfl ?_
    refine z_bipush dX11_about_13 kb_10 ?_
    refine z_bipush dX11_about_15 kb_13 ?_
    refine y_cs (mt2 := mX11_within) (en := [(0, x1), (0, 10), (0, 13)]) (st := []) (as := [(0, x1), (0, 10), (0, 13)]) dX11_about_17 lX11_72 kX11_within tX11_within rfl (Nat.le_of_ble_eq_true rfl) (Nat.le_of_ble_eq_true rfl) rfl (s_within hG (fun q => ?_) (fun q => ?_))
    · replace h := h.1 q
      show Y G (d + 1) mX11_about 20 [(2, 1), (0, x1)] [(0, 1)] M Q
      refine z_ifeq (tgt := 36) dX11_about_20 rfl (fun q => absurd q (by decide)) (fun _ => ?_)
      refine z_aloadn dX11_about_23 rfl (Or.inl rfl) ?_
      refine y_getr (v := 2) hG dX11_about_24 fX11_10 sh1 (by decide) rfl (by decide +kernel) (by decide) ?_
      refine y_getr (v := 3) hG dX11_about_27 fX11_76 sh2 (by decide) rfl (by decide +kernel) (by decide) ?_
      refine z_iloadn dX11_about_30 rfl ?_
      refine z_bipush dX11_about_31 kb_10 ?_
      obtain ⟨q1, h⟩ := h
      refine z_isub dX11_about_33 q1 ?_
      obtain ⟨q2, h⟩ := h
      refine y_iald (x := (M 3 (x1 - 10))) dX11_about_34 sh3 q2 rfl ?_
      exact z_ireturn dX11_about_35 (Or.inl rfl) rfl h
    · replace h := h.2 q
      show Y G (d + 1) mX11_about 20 [(2, 1), (0, x1)] [(0, 0)] M Q
      refine z_ifeq (tgt := 36) dX11_about_20 rfl (fun _ => ?_) (fun q => absurd q (by decide))
      refine z_iloadn dX11_about_36 rfl ?_
      refine z_bipush dX11_about_37 kb_20 ?_
      refine z_bipush dX11_about_39 kb_20 ?_
      refine z_aloadn dX11_about_41 rfl (Or.inl rfl) ?_
      refine y_getr (v := 157) hG dX11_about_42 fX11_39 sh1 (by decide) rfl (by decide +kernel) (by decide) ?_
      refine y_getf (x := (M 157 5)) dX11_about_45 fX11_261 sh157 (by decide) rfl rfl ?_
      obtain ⟨q3, h⟩ := h
      refine z_iadd dX11_about_48 q3 ?_
      refine z_iconst dX11_about_49 ki_1 ?_
      obtain ⟨q4, h⟩ := h
      refine z_isub dX11_about_50 q4 ?_
      refine y_cs (mt2 := mX11_within) (en := [(0, x1), (0, 20), (0, ((20 + (M 157 5)) - 1))]) (st := []) (as := [(0, x1), (0, 20), (0, ((20 + (M 157 5)) - 1))]) dX11_about_51 lX11_72 kX11_within tX11_within rfl (Nat.le_of_ble_eq_true rfl) (Nat.le_of_ble_eq_true rfl) rfl (s_within hG (fun q => ?_) (fun q => ?_))
      · replace h := h.1 q
        show Y G (d + 1) mX11_about 54 [(2, 1), (0, x1)] [(0, 1)] M Q
        refine z_ifeq (tgt := 70) dX11_about_54 rfl (fun q => absurd q (by decide)) (fun _ => ?_)
        refine z_aloadn dX11_about_57 rfl (Or.inl rfl) ?_
        refine y_getr (v := 157) hG dX11_about_58 fX11_39 sh1 (by decide) rfl (by decide +kernel) (by decide) ?_
        refine y_getr (v := 158) hG dX11_about_61 fX11_378 sh157 (by decide) rfl (by decide +kernel) (by decide) ?_
        refine z_iloadn dX11_about_64 rfl ?_
        refine z_bipush dX11_about_65 kb_20 ?_
        obtain ⟨q5, h⟩ := h
        refine z_isub dX11_about_67 q5 ?_
        obtain ⟨q6, h⟩ := h
        refine y_iald (x := (M 158 (x1 - 20))) dX11_about_68 sh158 q6 rfl ?_
        exact z_ireturn dX11_about_69 (Or.inl rfl) rfl h
      · replace h := h.2 q
        show Y G (d + 1) mX11_about 54 [(2, 1), (0, x1)] [(0, 0)] M Q
        refine z_ifeq (tgt := 70) dX11_about_54 rfl (fun _ => ?_) (fun q => absurd q (by decide))
        refine z_iloadn dX11_about_70 rfl ?_
        refine z_bipush dX11_about_71 kb_30 ?_
        refine z_bipush dX11_about_73 kb_30 ?_
        refine z_aloadn dX11_about_75 rfl (Or.inl rfl) ?_
        refine y_getr (v := 2) hG dX11_about_76 fX11_10 sh1 (by decide) rfl (by decide +kernel) (by decide) ?_
        refine y_getf (x := (M 2 4)) dX11_about_79 fX11_87 sh2 (by decide) rfl rfl ?_
        obtain ⟨q7, h⟩ := h
        refine z_iadd dX11_about_82 q7 ?_
        refine z_iconst dX11_about_83 ki_1 ?_
        obtain ⟨q8, h⟩ := h
        refine z_isub dX11_about_84 q8 ?_
        refine y_cs (mt2 := mX11_within) (en := [(0, x1), (0, 30), (0, ((30 + (M 2 4)) - 1))]) (st := []) (as := [(0, x1), (0, 30), (0, ((30 + (M 2 4)) - 1))]) dX11_about_85 lX11_72 kX11_within tX11_within rfl (Nat.le_of_ble_eq_true rfl) (Nat.le_of_ble_eq_true rfl) rfl (s_within hG (fun q => ?_) (fun q => ?_))
        · replace h := h.1 q
          show Y G (d + 1) mX11_about 88 [(2, 1), (0, x1)] [(0, 1)] M Q
          refine z_ifeq (tgt := 104) dX11_about_88 rfl (fun q => absurd q (by decide)) (fun _ => ?_)
          refine z_aloadn dX11_about_91 rfl (Or.inl rfl) ?_
          refine y_getr (v := 2) hG dX11_about_92 fX11_10 sh1 (by decide) rfl (by decide +kernel) (by decide) ?_
          refine y_getr (v := 4) hG dX11_about_95 fX11_381 sh2 (by decide) rfl (by decide +kernel) (by decide) ?_
          refine z_iloadn dX11_about_98 rfl ?_
          refine z_bipush dX11_about_99 kb_30 ?_
          obtain ⟨q9, h⟩ := h
          refine z_isub dX11_about_101 q9 ?_
          obtain ⟨q10, h⟩ := h
          refine y_iald (x := (M 4 (x1 - 30))) dX11_about_102 sh4 q10 rfl ?_
          exact z_ireturn dX11_about_103 (Or.inl rfl) rfl h
        · replace h := h.2 q
          show Y G (d + 1) mX11_about 88 [(2, 1), (0, x1)] [(0, 0)] M Q
          refine z_ifeq (tgt := 104) dX11_about_88 rfl (fun _ => ?_) (fun q => absurd q (by decide))
          refine z_iloadn dX11_about_104 rfl ?_
          refine z_bipush dX11_about_105 kb_40 ?_
          refine z_bipush dX11_about_107 kb_40 ?_
          refine z_aloadn dX11_about_109 rfl (Or.inl rfl) ?_
          refine y_getr (v := 157) hG dX11_about_110 fX11_39 sh1 (by decide) rfl (by decide +kernel) (by decide) ?_
          refine y_getf (x := (M 157 5)) dX11_about_113 fX11_261 sh157 (by decide) rfl rfl ?_
          obtain ⟨q11, h⟩ := h
          refine z_iadd dX11_about_116 q11 ?_
          refine z_iconst dX11_about_117 ki_1 ?_
          obtain ⟨q12, h⟩ := h
          refine z_isub dX11_about_118 q12 ?_
          refine y_cs (mt2 := mX11_within) (en := [(0, x1), (0, 40), (0, ((40 + (M 157 5)) - 1))]) (st := []) (as := [(0, x1), (0, 40), (0, ((40 + (M 157 5)) - 1))]) dX11_about_119 lX11_72 kX11_within tX11_within rfl (Nat.le_of_ble_eq_true rfl) (Nat.le_of_ble_eq_true rfl) rfl (s_within hG (fun q => ?_) (fun q => ?_))
          · replace h := h.1 q
            show Y G (d + 1) mX11_about 122 [(2, 1), (0, x1)] [(0, 1)] M Q
            refine z_ifeq (tgt := 138) dX11_about_122 rfl (fun q => absurd q (by decide)) (fun _ => ?_)
            refine z_aloadn dX11_about_125 rfl (Or.inl rfl) ?_
            refine y_getr (v := 157) hG dX11_about_126 fX11_39 sh1 (by decide) rfl (by decide +kernel) (by decide) ?_
            refine y_getr (v := 159) hG dX11_about_129 fX11_382 sh157 (by decide) rfl (by decide +kernel) (by decide) ?_
            refine z_iloadn dX11_about_132 rfl ?_
            refine z_bipush dX11_about_133 kb_40 ?_
            obtain ⟨q13, h⟩ := h
            refine z_isub dX11_about_135 q13 ?_
            obtain ⟨q14, h⟩ := h
            refine y_iald (x := (M 159 (x1 - 40))) dX11_about_136 sh159 q14 rfl ?_
            exact z_ireturn dX11_about_137 (Or.inl rfl) rfl h
          · replace h := h.2 q
            show Y G (d + 1) mX11_about 122 [(2, 1), (0, x1)] [(0, 0)] M Q
            refine z_ifeq (tgt := 138) dX11_about_122 rfl (fun _ => ?_) (fun q => absurd q (by decide))
            refine z_ldc (k := (-2000000)) (v := (-2000000)) dX11_about_138 ⟨by decide, ⟨by decide, by decide⟩⟩ qX11_182 ?_
            exact z_ireturn dX11_about_140 (Or.inl rfl) rfl h
  · replace h := h.2 q
    refine z_aloadn dX11_about_6 rfl (Or.inl rfl) ?_
    refine z_iloadn dX11_about_7 rfl ?_
    refine y_cv (mt2 := mX11_amountOf) (en := [(2, 1), (0, x1)]) (st := []) (as := [(0, x1)]) dX11_about_8 lX11_375 kX11_amountOf iX11_amountOf eX11_amountOf rfl sh1 (by decide +kernel) (Nat.le_of_ble_eq_true rfl) (Nat.le_of_ble_eq_true rfl) rfl ?_
    exact h
set_option maxRecDepth 20000 in
set_option maxHeartbeats 4000000 in
theorem bX11_about_11 {G : zG} {d : Nat} {M : zM} {Q : zV → zM → Prop} (hG : zP G) {x1 x49 : Int}
    (h : Q (0, x49) M) :
    Y G (d + 1) mX11_about 11 [(2, 1), (0, x1)] [(0, x49)] M Q := by
  exact z_ireturn dX11_about_11 (Or.inl rfl) rfl h
set_option maxRecDepth 20000 in
set_option maxHeartbeats 4000000 in
theorem bX11_amountOf_0 {G : zG} {d : Nat} {M : zM} {Q : zV → zM → Prop} (hG : zP G) {x1 : Int}
    (h : (((x1 = 0) → Q (0, (M 19 8)) M) ∧ ((x1 = 1) → Q (0, (M 2 4)) M) ∧ ((x1 = 2) → Q (0, (M 157 5)) M) ∧ ((x1 = 3) → Q (0, (M 157 6)) M) ∧ ((x1 = 4) → Q (0, (M 19 9)) M) ∧ ((x1 = 5) → Q (0, (M 157 9)) M) ∧ ((x1 = 6) → Q (0, (M 1 3)) M) ∧ ((x1 = 7) → Q (0, (M 176 2)) M) ∧ ((x1 = 8) → Q (0, (M 176 7)) M) ∧ ((x1 = 9) → Q (0, (M 13 1)) M) ∧ ((x1 < 0 ∨ 9 < x1) → Q (0, (-2000000)) M))) :
    Y G d mX11_amountOf 0 [(2, 1), (0, x1)] [] M Q := by
  refine z_iloadn dX11_amountOf_0 rfl ?_
  rcases (show x1 < 0 ∨ 9 < x1 ∨ x1 = 0 ∨ x1 = 1 ∨ x1 = 2 ∨ x1 = 3 ∨ x1 = 4 ∨ x1 = 5 ∨ x1 = 6 ∨ x1 = 7 ∨ x1 = 8 ∨ x1 = 9 by omega) with q | q | q | q | q | q | q | q | q | q | q | q
  · replace h := h.2.2.2.2.2.2.2.2.2.2 (Or.inl q)
    refine z_tswOut (tgt := 136) dX11_amountOf_1 (Or.inl q) rfl ?_
    refine z_ldc (k := (-2000000)) (v := (-2000000)) dX11_amountOf_136 ⟨by decide, ⟨by decide, by decide⟩⟩ qX11_182 ?_
    exact z_ireturn dX11_amountOf_138 (Or.inl rfl) rfl h
  · replace h := h.2.2.2.2.2.2.2.2.2.2 (Or.inr q)
    refine z_tswOut (tgt := 136) dX11_amountOf_1 (Or.inr q) rfl ?_
    refine z_ldc (k := (-2000000)) (v := (-2000000)) dX11_amountOf_136 ⟨by decide, ⟨by decide, by decide⟩⟩ qX11_182 ?_
    exact z_ireturn dX11_amountOf_138 (Or.inl rfl) rfl h
  · replace h := h.1 q
    refine y_tsw (tgt := 56) (k := 0) dX11_amountOf_1 q (by decide) rfl rfl ?_
    refine z_aloadn dX11_amountOf_56 rfl (Or.inl rfl) ?_
    refine y_getr (v := 19) hG dX11_amountOf_57 fX11_32 sh1 (by decide) rfl (by decide +kernel) (by decide) ?_
    refine y_getf (x := (M 19 8)) dX11_amountOf_60 fX11_383 sh19 (by decide) rfl rfl ?_
    exact z_ireturn dX11_amountOf_63 (Or.inl rfl) rfl h
  · replace h := h.2.1 q
    refine y_tsw (tgt := 64) (k := 1) dX11_amountOf_1 q (by decide) rfl rfl ?_
    refine z_aloadn dX11_amountOf_64 rfl (Or.inl rfl) ?_
    refine y_getr (v := 2) hG dX11_amountOf_65 fX11_10 sh1 (by decide) rfl (by decide +kernel) (by decide) ?_
    refine y_getf (x := (M 2 4)) dX11_amountOf_68 fX11_87 sh2 (by decide) rfl rfl ?_
    exact z_ireturn dX11_amountOf_71 (Or.inl rfl) rfl h
  · replace h := h.2.2.1 q
    refine y_tsw (tgt := 72) (k := 2) dX11_amountOf_1 q (by decide) rfl rfl ?_
    refine z_aloadn dX11_amountOf_72 rfl (Or.inl rfl) ?_
    refine y_getr (v := 157) hG dX11_amountOf_73 fX11_39 sh1 (by decide) rfl (by decide +kernel) (by decide) ?_
    refine y_getf (x := (M 157 5)) dX11_amountOf_76 fX11_261 sh157 (by decide) rfl rfl ?_
    exact z_ireturn dX11_amountOf_79 (Or.inl rfl) rfl h
  · replace h := h.2.2.2.1 q
    refine y_tsw (tgt := 80) (k := 3) dX11_amountOf_1 q (by decide) rfl rfl ?_
    refine z_aloadn dX11_amountOf_80 rfl (Or.inl rfl) ?_
    refine y_getr (v := 157) hG dX11_amountOf_81 fX11_39 sh1 (by decide) rfl (by decide +kernel) (by decide) ?_
    refine y_getf (x := (M 157 6)) dX11_amountOf_84 fX11_215 sh157 (by decide) rfl rfl ?_
    exact z_ireturn dX11_amountOf_87 (Or.inl rfl) rfl h
  · replace h := h.2.2.2.2.1 q
    refine y_tsw (tgt := 88) (k := 4) dX11_amountOf_1 q (by decide) rfl rfl ?_
    refine z_aloadn dX11_amountOf_88 rfl (Or.inl rfl) ?_
    refine y_getr (v := 19) hG dX11_amountOf_89 fX11_32 sh1 (by decide) rfl (by decide +kernel) (by decide) ?_
    refine y_getf (x := (M 19 9)) dX11_amountOf_92 fX11_386 sh19 (by decide) rfl rfl ?_
    exact z_ireturn dX11_amountOf_95 (Or.inl rfl) rfl h
  · replace h := h.2.2.2.2.2.1 q
    refine y_tsw (tgt := 96) (k := 5) dX11_amountOf_1 q (by decide) rfl rfl ?_
    refine z_aloadn dX11_amountOf_96 rfl (Or.inl rfl) ?_
    refine y_getr (v := 157) hG dX11_amountOf_97 fX11_39 sh1 (by decide) rfl (by decide +kernel) (by decide) ?_
    refine y_getf (x := (M 157 9)) dX11_amountOf_100 fX11_235 sh157 (by decide) rfl rfl ?_
    exact z_ireturn dX11_amountOf_103 (Or.inl rfl) rfl h
  · replace h := h.2.2.2.2.2.2.1 q
    refine y_tsw (tgt := 104) (k := 6) dX11_amountOf_1 q (by decide) rfl rfl ?_
    refine z_aloadn dX11_amountOf_104 rfl (Or.inl rfl) ?_
    refine y_getf (x := (M 1 3)) dX11_amountOf_105 fX11_111 sh1 (by decide) rfl rfl ?_
    exact z_ireturn dX11_amountOf_108 (Or.inl rfl) rfl h
  · replace h := h.2.2.2.2.2.2.2.1 q
    refine y_tsw (tgt := 109) (k := 7) dX11_amountOf_1 q (by decide) rfl rfl ?_
    refine z_aloadn dX11_amountOf_109 rfl (Or.inl rfl) ?_
    refine y_getr (v := 176) hG dX11_amountOf_110 fX11_60 sh1 (by decide) rfl (by decide +kernel) (by decide) ?_
    refine y_getf (x := (M 176 2)) dX11_amountOf_113 fX11_389 sh176 (by decide) rfl rfl ?_
    exact z_ireturn dX11_amountOf_116 (Or.inl rfl) rfl h
  · replace h := h.2.2.2.2.2.2.2.2.1 q
    refine y_tsw (tgt := 117) (k := 8) dX11_amountOf_1 q (by decide) rfl rfl ?_
    refine z_aloadn dX11_amountOf_117 rfl (Or.inl rfl) ?_
    refine y_getr (v := 176) hG dX11_amountOf_118 fX11_60 sh1 (by decide) rfl (by decide +kernel) (by decide) ?_
    refine y_getf (x := (M 176 7)) dX11_amountOf_121 fX11_338 sh176 (by decide) rfl rfl ?_
    exact z_ireturn dX11_amountOf_124 (Or.inl rfl) rfl h
  · replace h := h.2.2.2.2.2.2.2.2.2.1 q
    refine y_tsw (tgt := 125) (k := 9) dX11_amountOf_1 q (by decide) rfl rfl ?_
    refine z_aloadn dX11_amountOf_125 rfl (Or.inl rfl) ?_
    refine y_getr (v := 12) hG dX11_amountOf_126 fX11_19 sh1 (by decide) rfl (by decide +kernel) (by decide) ?_
    refine y_getr (v := 13) hG dX11_amountOf_129 fX11_98 sh12 (by decide) rfl (by decide +kernel) (by decide) ?_
    refine y_getf (x := (M 13 1)) dX11_amountOf_132 fX11_102 sh13 (by decide) rfl rfl ?_
    exact z_ireturn dX11_amountOf_135 (Or.inl rfl) rfl h
set_option maxRecDepth 20000 in
set_option maxHeartbeats 4000000 in
theorem bX11_kin_0 {G : zG} {d : Nat} {M : zM} {Q : zV → zM → Prop} (hG : zP G) {x1 x2 : Int}
    (h : (-2147483648 ≤ (M 2 4) - 1 ∧ (M 2 4) - 1 ≤ 2147483647) ∧ ((0 ≤ x1 ∧ x1 ≤ ((M 2 4) - 1) → (-2147483648 ≤ (M 2 4) - 1 ∧ (M 2 4) - 1 ≤ 2147483647) ∧ ((0 ≤ x2 ∧ x2 ≤ ((M 2 4) - 1) → Y G d mX10_kinOf 0 [(2, 2), (0, x1), (0, x2), (9, 0)] [] M (fun r M' => Y G (d + 1) mX11_kin 46 [(2, 1), (0, x1), (0, x2)] (zpush r []) M' Q)) ∧ (¬ (0 ≤ x2 ∧ x2 ≤ ((M 2 4) - 1)) → Q (0, (-2)) M))) ∧ (¬ (0 ≤ x1 ∧ x1 ≤ ((M 2 4) - 1)) → Q (0, (-2)) M))) :
    Y G (d + 1) mX11_kin 0 [(2, 1), (0, x1), (0, x2)] [] M Q := by
  refine z_iloadn dX11_kin_0 rfl ?_
  refine z_iconst dX11_kin_1 ki_0 ?_
  refine z_aloadn dX11_kin_2 rfl (Or.inl rfl) ?_
  refine y_getr (v := 2) hG dX11_kin_3 fX11_10 sh1 (by decide) rfl (by decide +kernel) (by decide) ?_
  refine y_getf (x := (M 2 4)) dX11_kin_6 fX11_87 sh2 (by decide) rfl rfl ?_
  refine z_iconst dX11_kin_9 ki_1 ?_
  obtain ⟨q1, h⟩ := h
  refine z_isub dX11_kin_10 q1 ?_
  refine y_cs (mt2 := mX11_within) (en := [(0, x1), (0, 0), (0, ((M 2 4) - 1))]) (st := []) (as := [(0, x1), (0, 0), (0, ((M 2 4) - 1))]) dX11_kin_11 lX11_72 kX11_within tX11_within rfl (Nat.le_of_ble_eq_true rfl) (Nat.le_of_ble_eq_true rfl) rfl (s_within hG (fun q => ?_) (fun q => ?_))
  · replace h := h.1 q
    show Y G (d + 1) mX11_kin 14 [(2, 1), (0, x1), (0, x2)] [(0, 1)] M Q
    refine z_ifeq (tgt := 34) dX11_kin_14 rfl (fun q => absurd q (by decide)) (fun _ => ?_)
    refine z_iloadn dX11_kin_17 rfl ?_
    refine z_iconst dX11_kin_18 ki_0 ?_
    refine z_aloadn dX11_kin_19 rfl (Or.inl rfl) ?_
    refine y_getr (v := 2) hG dX11_kin_20 fX11_10 sh1 (by decide) rfl (by decide +kernel) (by decide) ?_
    refine y_getf (x := (M 2 4)) dX11_kin_23 fX11_87 sh2 (by decide) rfl rfl ?_
    refine z_iconst dX11_kin_26 ki_1 ?_
    obtain ⟨q2, h⟩ := h
    refine z_isub dX11_kin_27 q2 ?_
    refine y_cs (mt2 := mX11_within) (en := [(0, x2), (0, 0), (0, ((M 2 4) - 1))]) (st := []) (as := [(0, x2), (0, 0), (0, ((M 2 4) - 1))]) dX11_kin_28 lX11_72 kX11_within tX11_within rfl (Nat.le_of_ble_eq_true rfl) (Nat.le_of_ble_eq_true rfl) rfl (s_within hG (fun q => ?_) (fun q => ?_))
    · replace h := h.1 q
      show Y G (d + 1) mX11_kin 31 [(2, 1), (0, x1), (0, x2)] [(0, 1)] M Q
      refine z_ifne (tgt := 37) dX11_kin_31 rfl (fun _ => ?_) (fun q => absurd q (by decide))
      refine z_aloadn dX11_kin_37 rfl (Or.inl rfl) ?_
      refine y_getr (v := 2) hG dX11_kin_38 fX11_10 sh1 (by decide) rfl (by decide +kernel) (by decide) ?_
      refine z_iloadn dX11_kin_41 rfl ?_
      refine z_iloadn dX11_kin_42 rfl ?_
      refine y_cv (mt2 := mX10_kinOf) (en := [(2, 2), (0, x1), (0, x2), (9, 0)]) (st := []) (as := [(0, x1), (0, x2)]) dX11_kin_43 lX11_91 kX10_kinOf iX10_kinOf eX10_kinOf rfl sh2 (by decide +kernel) (Nat.le_of_ble_eq_true rfl) (Nat.le_of_ble_eq_true rfl) rfl ?_
      exact h
    · replace h := h.2 q
      show Y G (d + 1) mX11_kin 31 [(2, 1), (0, x1), (0, x2)] [(0, 0)] M Q
      refine z_ifne (tgt := 37) dX11_kin_31 rfl (fun q => absurd q (by decide)) (fun _ => ?_)
      refine z_bipush dX11_kin_34 kb_m2 ?_
      exact z_ireturn dX11_kin_36 (Or.inl rfl) rfl h
  · replace h := h.2 q
    show Y G (d + 1) mX11_kin 14 [(2, 1), (0, x1), (0, x2)] [(0, 0)] M Q
    refine z_ifeq (tgt := 34) dX11_kin_14 rfl (fun _ => ?_) (fun q => absurd q (by decide))
    refine z_bipush dX11_kin_34 kb_m2 ?_
    exact z_ireturn dX11_kin_36 (Or.inl rfl) rfl h
set_option maxRecDepth 20000 in
set_option maxHeartbeats 4000000 in
theorem bX11_kin_46 {G : zG} {d : Nat} {M : zM} {Q : zV → zM → Prop} (hG : zP G) {x1 x2 x49 : Int}
    (h : Q (0, x49) M) :
    Y G (d + 1) mX11_kin 46 [(2, 1), (0, x1), (0, x2)] [(0, x49)] M Q := by
  exact z_ireturn dX11_kin_46 (Or.inl rfl) rfl h
set_option maxRecDepth 20000 in
set_option maxHeartbeats 4000000 in
theorem bX11_way_0 {G : zG} {d : Nat} {M : zM} {Q : zV → zM → Prop} (hG : zP G) {x1 x2 : Int}
    (h : ((0 ≤ x1 ∧ x1 ≤ 5 → ((0 ≤ x2 ∧ x2 ≤ 5 → Y G d mX10_wayOf 0 [(2, 2), (0, x1), (0, x2), (9, 0)] [] M (fun r M' => Y G (d + 1) mX11_way 30 [(2, 1), (0, x1), (0, x2)] (zpush r []) M' Q)) ∧ (¬ (0 ≤ x2 ∧ x2 ≤ 5) → Q (0, (-2)) M))) ∧ (¬ (0 ≤ x1 ∧ x1 ≤ 5) → Q (0, (-2)) M))) :
    Y G (d + 1) mX11_way 0 [(2, 1), (0, x1), (0, x2)] [] M Q := by
  refine z_iloadn dX11_way_0 rfl ?_
  refine z_iconst dX11_way_1 ki_0 ?_
  refine z_iconst dX11_way_2 ki_5 ?_
  refine y_cs (mt2 := mX11_within) (en := [(0, x1), (0, 0), (0, 5)]) (st := []) (as := [(0, x1), (0, 0), (0, 5)]) dX11_way_3 lX11_72 kX11_within tX11_within rfl (Nat.le_of_ble_eq_true rfl) (Nat.le_of_ble_eq_true rfl) rfl (s_within hG (fun q => ?_) (fun q => ?_))
  · replace h := h.1 q
    show Y G (d + 1) mX11_way 6 [(2, 1), (0, x1), (0, x2)] [(0, 1)] M Q
    refine z_ifeq (tgt := 18) dX11_way_6 rfl (fun q => absurd q (by decide)) (fun _ => ?_)
    refine z_iloadn dX11_way_9 rfl ?_
    refine z_iconst dX11_way_10 ki_0 ?_
    refine z_iconst dX11_way_11 ki_5 ?_
    refine y_cs (mt2 := mX11_within) (en := [(0, x2), (0, 0), (0, 5)]) (st := []) (as := [(0, x2), (0, 0), (0, 5)]) dX11_way_12 lX11_72 kX11_within tX11_within rfl (Nat.le_of_ble_eq_true rfl) (Nat.le_of_ble_eq_true rfl) rfl (s_within hG (fun q => ?_) (fun q => ?_))
    · replace h := h.1 q
      show Y G (d + 1) mX11_way 15 [(2, 1), (0, x1), (0, x2)] [(0, 1)] M Q
      refine z_ifne (tgt := 21) dX11_way_15 rfl (fun _ => ?_) (fun q => absurd q (by decide))
      refine z_aloadn dX11_way_21 rfl (Or.inl rfl) ?_
      refine y_getr (v := 2) hG dX11_way_22 fX11_10 sh1 (by decide) rfl (by decide +kernel) (by decide) ?_
      refine z_iloadn dX11_way_25 rfl ?_
      refine z_iloadn dX11_way_26 rfl ?_
      refine y_cv (mt2 := mX10_wayOf) (en := [(2, 2), (0, x1), (0, x2), (9, 0)]) (st := []) (as := [(0, x1), (0, x2)]) dX11_way_27 lX11_95 kX10_wayOf iX10_wayOf eX10_wayOf rfl sh2 (by decide +kernel) (Nat.le_of_ble_eq_true rfl) (Nat.le_of_ble_eq_true rfl) rfl ?_
      exact h
    · replace h := h.2 q
      show Y G (d + 1) mX11_way 15 [(2, 1), (0, x1), (0, x2)] [(0, 0)] M Q
      refine z_ifne (tgt := 21) dX11_way_15 rfl (fun q => absurd q (by decide)) (fun _ => ?_)
      refine z_bipush dX11_way_18 kb_m2 ?_
      exact z_ireturn dX11_way_20 (Or.inl rfl) rfl h
  · replace h := h.2 q
    show Y G (d + 1) mX11_way 6 [(2, 1), (0, x1), (0, x2)] [(0, 0)] M Q
    refine z_ifeq (tgt := 18) dX11_way_6 rfl (fun _ => ?_) (fun q => absurd q (by decide))
    refine z_bipush dX11_way_18 kb_m2 ?_
    exact z_ireturn dX11_way_20 (Or.inl rfl) rfl h
set_option maxRecDepth 20000 in
set_option maxHeartbeats 4000000 in
theorem bX11_way_30 {G : zG} {d : Nat} {M : zM} {Q : zV → zM → Prop} (hG : zP G) {x1 x2 x49 : Int}
    (h : Q (0, x49) M) :
    Y G (d + 1) mX11_way 30 [(2, 1), (0, x1), (0, x2)] [(0, x49)] M Q := by
  exact z_ireturn dX11_way_30 (Or.inl rfl) rfl h
set_option maxRecDepth 20000 in
set_option maxHeartbeats 4000000 in
theorem bX11_feed_0 {G : zG} {d : Nat} {M : zM} {Q : zV → zM → Prop} (hG : zP G) {x1 x2 x3 x4 x5 : Int}
    (h : (-2147483648 ≤ (M 13 1) + 20 ∧ (M 13 1) + 20 ≤ 2147483647) ∧ ((((M 13 1) + 20) ≤ 300 → Y G d mX8_addWord 0 [(2, 13), (0, x1), (9, 0)] [] M (fun r M' => Y G (d + 1) mX11_feed 32 [(2, 1), (0, x1), (0, x2), (0, x3), (0, x4), (0, x5)] (zpush r []) M' Q)) ∧ (300 < ((M 13 1) + 20) → Q (0, (-1)) M))) :
    Y G (d + 1) mX11_feed 0 [(2, 1), (0, x1), (0, x2), (0, x3), (0, x4), (0, x5)] [] M Q := by
  refine z_aloadn dX11_feed_0 rfl (Or.inl rfl) ?_
  refine y_getr (v := 12) hG dX11_feed_1 fX11_19 sh1 (by decide) rfl (by decide +kernel) (by decide) ?_
  refine y_getr (v := 13) hG dX11_feed_4 fX11_98 sh12 (by decide) rfl (by decide +kernel) (by decide) ?_
  refine y_getf (x := (M 13 1)) dX11_feed_7 fX11_102 sh13 (by decide) rfl rfl ?_
  refine z_bipush dX11_feed_10 kb_20 ?_
  obtain ⟨q1, h⟩ := h
  refine z_iadd dX11_feed_12 q1 ?_
  refine z_sipush dX11_feed_13 ks_300 ?_
  refine z_icmple (tgt := 21) dX11_feed_16 rfl (fun q => ?_) (fun q => ?_)
  · replace h := h.1 q
    refine z_aloadn dX11_feed_21 rfl (Or.inl rfl) ?_
    refine y_getr (v := 12) hG dX11_feed_22 fX11_19 sh1 (by decide) rfl (by decide +kernel) (by decide) ?_
    refine y_getr (v := 13) hG dX11_feed_25 fX11_98 sh12 (by decide) rfl (by decide +kernel) (by decide) ?_
    refine z_iloadn dX11_feed_28 rfl ?_
    refine y_cv (mt2 := mX8_addWord) (en := [(2, 13), (0, x1), (9, 0)]) (st := []) (as := [(0, x1)]) dX11_feed_29 lX11_107 kX8_addWord iX8_addWord eX8_addWord rfl sh13 (by decide +kernel) (Nat.le_of_ble_eq_true rfl) (Nat.le_of_ble_eq_true rfl) rfl ?_
    exact h
  · replace h := h.2 q
    refine z_iconst dX11_feed_19 ki_m1 ?_
    exact z_ireturn dX11_feed_20 (Or.inl rfl) rfl h
set_option maxRecDepth 20000 in
set_option maxHeartbeats 4000000 in
theorem bX11_feed_32 {G : zG} {d : Nat} {M : zM} {Q : zV → zM → Prop} (hG : zP G) {x1 x2 x3 x4 x5 : Int}
    (h : Y G d mX8_addWord 0 [(2, 13), (0, x2), (9, 0)] [] M (fun r M' => Y G (d + 1) mX11_feed 43 [(2, 1), (0, x1), (0, x2), (0, x3), (0, x4), (0, x5)] (zpush r []) M' Q)) :
    Y G (d + 1) mX11_feed 32 [(2, 1), (0, x1), (0, x2), (0, x3), (0, x4), (0, x5)] [] M Q := by
  refine z_aloadn dX11_feed_32 rfl (Or.inl rfl) ?_
  refine y_getr (v := 12) hG dX11_feed_33 fX11_19 sh1 (by decide) rfl (by decide +kernel) (by decide) ?_
  refine y_getr (v := 13) hG dX11_feed_36 fX11_98 sh12 (by decide) rfl (by decide +kernel) (by decide) ?_
  refine z_iloadn dX11_feed_39 rfl ?_
  refine y_cv (mt2 := mX8_addWord) (en := [(2, 13), (0, x2), (9, 0)]) (st := []) (as := [(0, x2)]) dX11_feed_40 lX11_107 kX8_addWord iX8_addWord eX8_addWord rfl sh13 (by decide +kernel) (Nat.le_of_ble_eq_true rfl) (Nat.le_of_ble_eq_true rfl) rfl ?_
  exact h
set_option maxRecDepth 20000 in
set_option maxHeartbeats 4000000 in
theorem bX11_feed_43 {G : zG} {d : Nat} {M : zM} {Q : zV → zM → Prop} (hG : zP G) {x1 x2 x3 x4 x5 : Int}
    (h : Y G d mX8_addWord 0 [(2, 13), (0, x3), (9, 0)] [] M (fun r M' => Y G (d + 1) mX11_feed 54 [(2, 1), (0, x1), (0, x2), (0, x3), (0, x4), (0, x5)] (zpush r []) M' Q)) :
    Y G (d + 1) mX11_feed 43 [(2, 1), (0, x1), (0, x2), (0, x3), (0, x4), (0, x5)] [] M Q := by
  refine z_aloadn dX11_feed_43 rfl (Or.inl rfl) ?_
  refine y_getr (v := 12) hG dX11_feed_44 fX11_19 sh1 (by decide) rfl (by decide +kernel) (by decide) ?_
  refine y_getr (v := 13) hG dX11_feed_47 fX11_98 sh12 (by decide) rfl (by decide +kernel) (by decide) ?_
  refine z_iloadn dX11_feed_50 rfl ?_
  refine y_cv (mt2 := mX8_addWord) (en := [(2, 13), (0, x3), (9, 0)]) (st := []) (as := [(0, x3)]) dX11_feed_51 lX11_107 kX8_addWord iX8_addWord eX8_addWord rfl sh13 (by decide +kernel) (Nat.le_of_ble_eq_true rfl) (Nat.le_of_ble_eq_true rfl) rfl ?_
  exact h
set_option maxRecDepth 20000 in
set_option maxHeartbeats 4000000 in
theorem bX11_feed_54 {G : zG} {d : Nat} {M : zM} {Q : zV → zM → Prop} (hG : zP G) {x1 x2 x3 x4 x5 : Int}
    (h : Y G d mX8_addWord 0 [(2, 13), (0, x4), (9, 0)] [] M (fun r M' => Y G (d + 1) mX11_feed 66 [(2, 1), (0, x1), (0, x2), (0, x3), (0, x4), (0, x5)] (zpush r []) M' Q)) :
    Y G (d + 1) mX11_feed 54 [(2, 1), (0, x1), (0, x2), (0, x3), (0, x4), (0, x5)] [] M Q := by
  refine z_aloadn dX11_feed_54 rfl (Or.inl rfl) ?_
  refine y_getr (v := 12) hG dX11_feed_55 fX11_19 sh1 (by decide) rfl (by decide +kernel) (by decide) ?_
  refine y_getr (v := 13) hG dX11_feed_58 fX11_98 sh12 (by decide) rfl (by decide +kernel) (by decide) ?_
  refine z_iload dX11_feed_61 rfl ?_
  refine y_cv (mt2 := mX8_addWord) (en := [(2, 13), (0, x4), (9, 0)]) (st := []) (as := [(0, x4)]) dX11_feed_63 lX11_107 kX8_addWord iX8_addWord eX8_addWord rfl sh13 (by decide +kernel) (Nat.le_of_ble_eq_true rfl) (Nat.le_of_ble_eq_true rfl) rfl ?_
  exact h
set_option maxRecDepth 20000 in
set_option maxHeartbeats 4000000 in
theorem bX11_feed_66 {G : zG} {d : Nat} {M : zM} {Q : zV → zM → Prop} (hG : zP G) {x1 x2 x3 x4 x5 : Int}
    (h : Y G d mX8_addWord 0 [(2, 13), (0, x5), (9, 0)] [] M (fun r M' => Y G (d + 1) mX11_feed 78 [(2, 1), (0, x1), (0, x2), (0, x3), (0, x4), (0, x5)] (zpush r []) M' Q)) :
    Y G (d + 1) mX11_feed 66 [(2, 1), (0, x1), (0, x2), (0, x3), (0, x4), (0, x5)] [] M Q := by
  refine z_aloadn dX11_feed_66 rfl (Or.inl rfl) ?_
  refine y_getr (v := 12) hG dX11_feed_67 fX11_19 sh1 (by decide) rfl (by decide +kernel) (by decide) ?_
  refine y_getr (v := 13) hG dX11_feed_70 fX11_98 sh12 (by decide) rfl (by decide +kernel) (by decide) ?_
  refine z_iload dX11_feed_73 rfl ?_
  refine y_cv (mt2 := mX8_addWord) (en := [(2, 13), (0, x5), (9, 0)]) (st := []) (as := [(0, x5)]) dX11_feed_75 lX11_107 kX8_addWord iX8_addWord eX8_addWord rfl sh13 (by decide +kernel) (Nat.le_of_ble_eq_true rfl) (Nat.le_of_ble_eq_true rfl) rfl ?_
  exact h
set_option maxRecDepth 20000 in
set_option maxHeartbeats 4000000 in
theorem bX11_feed_78 {G : zG} {d : Nat} {M : zM} {Q : zV → zM → Prop} (hG : zP G) {x1 x2 x3 x4 x5 : Int}
    (h : Q (0, (M 13 1)) M) :
    Y G (d + 1) mX11_feed 78 [(2, 1), (0, x1), (0, x2), (0, x3), (0, x4), (0, x5)] [] M Q := by
  refine z_aloadn dX11_feed_78 rfl (Or.inl rfl) ?_
  refine y_getr (v := 12) hG dX11_feed_79 fX11_19 sh1 (by decide) rfl (by decide +kernel) (by decide) ?_
  refine y_getr (v := 13) hG dX11_feed_82 fX11_98 sh12 (by decide) rfl (by decide +kernel) (by decide) ?_
  refine y_getf (x := (M 13 1)) dX11_feed_85 fX11_102 sh13 (by decide) rfl rfl ?_
  exact z_ireturn dX11_feed_88 (Or.inl rfl) rfl h
set_option maxRecDepth 20000 in
set_option maxHeartbeats 4000000 in
theorem bX11_end_0 {G : zG} {d : Nat} {M : zM} {Q : zV → zM → Prop} (hG : zP G) {x1 : Int}
    (h : ((0 ≤ x1 ∧ x1 ≤ (M 13 1) → Q (0, x1) (zset M 13 1 x1)) ∧ (¬ (0 ≤ x1 ∧ x1 ≤ (M 13 1)) → Q (0, (-1)) M))) :
    Y G (d + 1) mX11_end 0 [(2, 1), (0, x1)] [] M Q := by
  refine z_iloadn dX11_end_0 rfl ?_
  refine z_iconst dX11_end_1 ki_0 ?_
  refine z_aloadn dX11_end_2 rfl (Or.inl rfl) ?_
  refine y_getr (v := 12) hG dX11_end_3 fX11_19 sh1 (by decide) rfl (by decide +kernel) (by decide) ?_
  refine y_getr (v := 13) hG dX11_end_6 fX11_98 sh12 (by decide) rfl (by decide +kernel) (by decide) ?_
  refine y_getf (x := (M 13 1)) dX11_end_9 fX11_102 sh13 (by decide) rfl rfl ?_
  refine y_cs (mt2 := mX11_within) (en := [(0, x1), (0, 0), (0, (M 13 1))]) (st := []) (as := [(0, x1), (0, 0), (0, (M 13 1))]) dX11_end_12 lX11_72 kX11_within tX11_within rfl (Nat.le_of_ble_eq_true rfl) (Nat.le_of_ble_eq_true rfl) rfl (s_within hG (fun q => ?_) (fun q => ?_))
  · replace h := h.1 q
    show Y G (d + 1) mX11_end 15 [(2, 1), (0, x1)] [(0, 1)] M Q
    refine z_ifne (tgt := 20) dX11_end_15 rfl (fun _ => ?_) (fun q => absurd q (by decide))
    refine z_aloadn dX11_end_20 rfl (Or.inl rfl) ?_
    refine y_getr (v := 12) hG dX11_end_21 fX11_19 sh1 (by decide) rfl (by decide +kernel) (by decide) ?_
    refine y_getr (v := 13) hG dX11_end_24 fX11_98 sh12 (by decide) rfl (by decide +kernel) (by decide) ?_
    refine z_iloadn dX11_end_27 rfl ?_
    refine y_putf (M' := zset M 13 1 x1) hG dX11_end_28 fX11_102 sh13 (by decide) ⟨rfl, rfl⟩ p8_1 (fun q => absurd q (by decide)) (by decide) rfl ?_
    refine z_iloadn dX11_end_31 rfl ?_
    exact z_ireturn dX11_end_32 (Or.inl rfl) rfl h
  · replace h := h.2 q
    show Y G (d + 1) mX11_end 15 [(2, 1), (0, x1)] [(0, 0)] M Q
    refine z_ifne (tgt := 20) dX11_end_15 rfl (fun q => absurd q (by decide)) (fun _ => ?_)
    refine z_iconst dX11_end_18 ki_m1 ?_
    exact z_ireturn dX11_end_19 (Or.inl rfl) rfl h
set_option maxRecDepth 20000 in
set_option maxHeartbeats 4000000 in
theorem bX11_text_0 {G : zG} {d : Nat} {M : zM} {Q : zV → zM → Prop} (hG : zP G)
    (h : (((M 1 3) < 4 → (0 ≤ (M 1 3) ∧ (M 1 3) < 4) ∧ Y G d mX4_readScript 0 [(2, 12), (2, (186 + 12 * (M 1 3))), (9, 0), (9, 0)] [] M (fun r M' => Y G (d + 1) mX11_text 26 [(2, 1), (9, 0)] (zpush r []) M' Q)) ∧ (4 ≤ (M 1 3) → Q (0, (-1)) M))) :
    Y G (d + 1) mX11_text 0 [(2, 1), (9, 0)] [] M Q := by
  refine z_aloadn dX11_text_0 rfl (Or.inl rfl) ?_
  refine y_getf (x := (M 1 3)) dX11_text_1 fX11_111 sh1 (by decide) rfl rfl ?_
  refine z_iconst dX11_text_4 ki_4 ?_
  refine z_icmplt (tgt := 10) dX11_text_5 rfl (fun q => ?_) (fun q => ?_)
  · replace h := h.1 q
    refine z_aloadn dX11_text_10 rfl (Or.inl rfl) ?_
    refine y_getr (v := 12) hG dX11_text_11 fX11_19 sh1 (by decide) rfl (by decide +kernel) (by decide) ?_
    refine z_aloadn dX11_text_14 rfl (Or.inl rfl) ?_
    refine y_getr (v := 18) hG dX11_text_15 fX11_25 sh1 (by decide) rfl (by decide +kernel) (by decide) ?_
    refine z_aloadn dX11_text_18 rfl (Or.inl rfl) ?_
    refine y_getf (x := (M 1 3)) dX11_text_19 fX11_111 sh1 (by decide) rfl rfl ?_
    obtain ⟨q1, h⟩ := h
    refine y_aalds (v := (186 + 12 * (M 1 3))) hG dX11_text_22 sh18 q1 (sc_at q1).1 (sc_at q1).2.1 ?_
    refine y_cv (mt2 := mX4_readScript) (en := [(2, 12), (2, (186 + 12 * (M 1 3))), (9, 0), (9, 0)]) (st := []) (as := [(2, (186 + 12 * (M 1 3)))]) dX11_text_23 lX11_114 kX4_readScript iX4_readScript eX4_readScript rfl sh12 (by decide +kernel) (Nat.le_of_ble_eq_true rfl) (Nat.le_of_ble_eq_true rfl) rfl ?_
    exact h
  · replace h := h.2 q
    refine z_iconst dX11_text_8 ki_m1 ?_
    exact z_ireturn dX11_text_9 (Or.inl rfl) rfl h
set_option maxRecDepth 20000 in
set_option maxHeartbeats 4000000 in
theorem bX11_text_26 {G : zG} {d : Nat} {M : zM} {Q : zV → zM → Prop} (hG : zP G) {x49 : Int}
    (h : ((¬ x49 = 0 → (-2147483648 ≤ (M 1 3) + 1 ∧ (M 1 3) + 1 ≤ 2147483647) ∧ (-2147483648 ≤ ((M 1 3) + 1) - 1 ∧ ((M 1 3) + 1) - 1 ≤ 2147483647) ∧ Q (0, (((M 1 3) + 1) - 1)) (zset (zset M 13 1 0) 1 3 ((M 1 3) + 1))) ∧ (x49 = 0 → Q (0, (-1)) (zset M 13 1 0)))) :
    Y G (d + 1) mX11_text 26 [(2, 1), (9, 0)] [(0, x49)] M Q := by
  refine y_istoren (ls' := [(2, 1), (0, x49)]) dX11_text_26 rfl rfl ?_
  refine z_aloadn dX11_text_27 rfl (Or.inl rfl) ?_
  refine y_getr (v := 12) hG dX11_text_28 fX11_19 sh1 (by decide) rfl (by decide +kernel) (by decide) ?_
  refine y_getr (v := 13) hG dX11_text_31 fX11_98 sh12 (by decide) rfl (by decide +kernel) (by decide) ?_
  refine z_iconst dX11_text_34 ki_0 ?_
  refine y_putf (M' := zset M 13 1 0) hG dX11_text_35 fX11_102 sh13 (by decide) ⟨rfl, rfl⟩ p8_1 (fun q => absurd q (by decide)) (by decide) rfl ?_
  refine z_iloadn dX11_text_38 rfl ?_
  refine z_ifne (tgt := 44) dX11_text_39 rfl (fun q => ?_) (fun q => ?_)
  · replace h := h.1 q
    refine z_aloadn dX11_text_44 rfl (Or.inl rfl) ?_
    refine z_dup dX11_text_45 (show (2 : Nat) ≠ 1 by decide) ?_
    refine y_getf (x := (M 1 3)) dX11_text_46 fX11_111 sh1 (by decide) rfl (zset_ne (fun q => absurd q.1 (by decide))) ?_
    refine z_iconst dX11_text_49 ki_1 ?_
    obtain ⟨q1, h⟩ := h
    refine z_iadd dX11_text_50 q1 ?_
    refine y_putf (M' := zset (zset M 13 1 0) 1 3 ((M 1 3) + 1)) hG dX11_text_51 fX11_111 sh1 (by decide) ⟨rfl, rfl⟩ p11_3 (fun q => absurd q (by decide)) (by decide) rfl ?_
    refine z_aloadn dX11_text_54 rfl (Or.inl rfl) ?_
    refine y_getf (x := ((M 1 3) + 1)) dX11_text_55 fX11_111 sh1 (by decide) rfl zset_same ?_
    refine z_iconst dX11_text_58 ki_1 ?_
    obtain ⟨q2, h⟩ := h
    refine z_isub dX11_text_59 q2 ?_
    exact z_ireturn dX11_text_60 (Or.inl rfl) rfl h
  · replace h := h.2 q
    refine z_iconst dX11_text_42 ki_m1 ?_
    exact z_ireturn dX11_text_43 (Or.inl rfl) rfl h
