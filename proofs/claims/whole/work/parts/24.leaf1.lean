set_option maxRecDepth 20000 in
set_option maxHeartbeats 4000000 in
theorem bX11_isPupil_0 {G : zG} {d : Nat} {M : zM} {Q : zV → zM → Prop} (hG : zP G) {x1 : Int}
    (h : (-2147483648 ≤ (M 157 5) - 1 ∧ (M 157 5) - 1 ≤ 2147483647) ∧ ((0 ≤ x1 ∧ x1 ≤ ((M 157 5) - 1) → Q (0, 1) M) ∧ (¬ (0 ≤ x1 ∧ x1 ≤ ((M 157 5) - 1)) → Q (0, 0) M))) :
    Y G (d + 1) mX11_isPupil 0 [(2, 1), (0, x1)] [] M Q := by
  refine z_iloadn dX11_isPupil_0 rfl ?_
  refine z_iconst dX11_isPupil_1 ki_0 ?_
  refine z_aloadn dX11_isPupil_2 rfl (Or.inl rfl) ?_
  refine y_getr (v := 157) hG dX11_isPupil_3 fX11_39 sh1 (by decide) rfl (by decide +kernel) (by decide) ?_
  refine y_getf (x := (M 157 5)) dX11_isPupil_6 fX11_261 sh157 (by decide) rfl rfl ?_
  refine z_iconst dX11_isPupil_9 ki_1 ?_
  obtain ⟨q1, h⟩ := h
  refine z_isub dX11_isPupil_10 q1 ?_
  refine y_cs (mt2 := mX11_within) (en := [(0, x1), (0, 0), (0, ((M 157 5) - 1))]) (st := []) (as := [(0, x1), (0, 0), (0, ((M 157 5) - 1))]) dX11_isPupil_11 lX11_72 kX11_within tX11_within rfl (Nat.le_of_ble_eq_true rfl) (Nat.le_of_ble_eq_true rfl) rfl (s_within hG (fun q => ?_) (fun q => ?_))
  · replace h := h.1 q
    show Y G (d + 1) mX11_isPupil 14 [(2, 1), (0, x1)] [(0, 1)] M Q
    exact z_ireturn dX11_isPupil_14 (Or.inr ⟨rfl, ⟨by decide, by decide⟩⟩) rfl h
  · replace h := h.2 q
    show Y G (d + 1) mX11_isPupil 14 [(2, 1), (0, x1)] [(0, 0)] M Q
    exact z_ireturn dX11_isPupil_14 (Or.inr ⟨rfl, ⟨by decide, by decide⟩⟩) rfl h
set_option maxRecDepth 20000 in
set_option maxHeartbeats 4000000 in
theorem bX11_isQuestion_0 {G : zG} {d : Nat} {M : zM} {Q : zV → zM → Prop} (hG : zP G) {x1 : Int}
    (h : (-2147483648 ≤ (M 19 8) - 1 ∧ (M 19 8) - 1 ≤ 2147483647) ∧ ((0 ≤ x1 ∧ x1 ≤ ((M 19 8) - 1) → Q (0, 1) M) ∧ (¬ (0 ≤ x1 ∧ x1 ≤ ((M 19 8) - 1)) → Q (0, 0) M))) :
    Y G (d + 1) mX11_isQuestion 0 [(2, 1), (0, x1)] [] M Q := by
  refine z_iloadn dX11_isQuestion_0 rfl ?_
  refine z_iconst dX11_isQuestion_1 ki_0 ?_
  refine z_aloadn dX11_isQuestion_2 rfl (Or.inl rfl) ?_
  refine y_getr (v := 19) hG dX11_isQuestion_3 fX11_32 sh1 (by decide) rfl (by decide +kernel) (by decide) ?_
  refine y_getf (x := (M 19 8)) dX11_isQuestion_6 fX11_383 sh19 (by decide) rfl rfl ?_
  refine z_iconst dX11_isQuestion_9 ki_1 ?_
  obtain ⟨q1, h⟩ := h
  refine z_isub dX11_isQuestion_10 q1 ?_
  refine y_cs (mt2 := mX11_within) (en := [(0, x1), (0, 0), (0, ((M 19 8) - 1))]) (st := []) (as := [(0, x1), (0, 0), (0, ((M 19 8) - 1))]) dX11_isQuestion_11 lX11_72 kX11_within tX11_within rfl (Nat.le_of_ble_eq_true rfl) (Nat.le_of_ble_eq_true rfl) rfl (s_within hG (fun q => ?_) (fun q => ?_))
  · replace h := h.1 q
    show Y G (d + 1) mX11_isQuestion 14 [(2, 1), (0, x1)] [(0, 1)] M Q
    exact z_ireturn dX11_isQuestion_14 (Or.inr ⟨rfl, ⟨by decide, by decide⟩⟩) rfl h
  · replace h := h.2 q
    show Y G (d + 1) mX11_isQuestion 14 [(2, 1), (0, x1)] [(0, 0)] M Q
    exact z_ireturn dX11_isQuestion_14 (Or.inr ⟨rfl, ⟨by decide, by decide⟩⟩) rfl h
set_option maxRecDepth 20000 in
set_option maxHeartbeats 4000000 in
theorem bX12_isPupil_0 {G : zG} {d : Nat} {M : zM} {Q : zV → zM → Prop} (hG : zP G) {x1 : Int}
    (h : (-2147483648 ≤ (M 235 2) - 1 ∧ (M 235 2) - 1 ≤ 2147483647) ∧ ((0 ≤ x1 ∧ x1 ≤ ((M 235 2) - 1) → Q (0, 1) M) ∧ (¬ (0 ≤ x1 ∧ x1 ≤ ((M 235 2) - 1)) → Q (0, 0) M))) :
    Y G (d + 1) mX12_isPupil 0 [(2, 234), (0, x1)] [] M Q := by
  refine z_iloadn dX12_isPupil_0 rfl ?_
  refine z_iconst dX12_isPupil_1 ki_0 ?_
  refine z_aloadn dX12_isPupil_2 rfl (Or.inl rfl) ?_
  refine y_getr (v := 235) hG dX12_isPupil_3 fX12_7 sh234 (by decide) rfl (by decide +kernel) (by decide) ?_
  refine z_iconst dX12_isPupil_6 ki_2 ?_
  refine y_iald (x := (M 235 2)) dX12_isPupil_7 sh235 ⟨by decide, by decide⟩ rfl ?_
  refine z_iconst dX12_isPupil_8 ki_1 ?_
  obtain ⟨q1, h⟩ := h
  refine z_isub dX12_isPupil_9 q1 ?_
  refine y_cs (mt2 := mX12_isIn) (en := [(0, x1), (0, 0), (0, ((M 235 2) - 1))]) (st := []) (as := [(0, x1), (0, 0), (0, ((M 235 2) - 1))]) dX12_isPupil_10 lX12_126 kX12_isIn tX12_isIn rfl (Nat.le_of_ble_eq_true rfl) (Nat.le_of_ble_eq_true rfl) rfl (s_isIn hG (fun q => ?_) (fun q => ?_))
  · replace h := h.1 q
    show Y G (d + 1) mX12_isPupil 13 [(2, 234), (0, x1)] [(0, 1)] M Q
    exact z_ireturn dX12_isPupil_13 (Or.inr ⟨rfl, ⟨by decide, by decide⟩⟩) rfl h
  · replace h := h.2 q
    show Y G (d + 1) mX12_isPupil 13 [(2, 234), (0, x1)] [(0, 0)] M Q
    exact z_ireturn dX12_isPupil_13 (Or.inr ⟨rfl, ⟨by decide, by decide⟩⟩) rfl h
set_option maxRecDepth 20000 in
set_option maxHeartbeats 4000000 in
theorem bX12_isQuestion_0 {G : zG} {d : Nat} {M : zM} {Q : zV → zM → Prop} (hG : zP G) {x1 : Int}
    (h : (-2147483648 ≤ (M 235 0) - 1 ∧ (M 235 0) - 1 ≤ 2147483647) ∧ ((0 ≤ x1 ∧ x1 ≤ ((M 235 0) - 1) → Q (0, 1) M) ∧ (¬ (0 ≤ x1 ∧ x1 ≤ ((M 235 0) - 1)) → Q (0, 0) M))) :
    Y G (d + 1) mX12_isQuestion 0 [(2, 234), (0, x1)] [] M Q := by
  refine z_iloadn dX12_isQuestion_0 rfl ?_
  refine z_iconst dX12_isQuestion_1 ki_0 ?_
  refine z_aloadn dX12_isQuestion_2 rfl (Or.inl rfl) ?_
  refine y_getr (v := 235) hG dX12_isQuestion_3 fX12_7 sh234 (by decide) rfl (by decide +kernel) (by decide) ?_
  refine z_iconst dX12_isQuestion_6 ki_0 ?_
  refine y_iald (x := (M 235 0)) dX12_isQuestion_7 sh235 ⟨by decide, by decide⟩ rfl ?_
  refine z_iconst dX12_isQuestion_8 ki_1 ?_
  obtain ⟨q1, h⟩ := h
  refine z_isub dX12_isQuestion_9 q1 ?_
  refine y_cs (mt2 := mX12_isIn) (en := [(0, x1), (0, 0), (0, ((M 235 0) - 1))]) (st := []) (as := [(0, x1), (0, 0), (0, ((M 235 0) - 1))]) dX12_isQuestion_10 lX12_126 kX12_isIn tX12_isIn rfl (Nat.le_of_ble_eq_true rfl) (Nat.le_of_ble_eq_true rfl) rfl (s_isIn hG (fun q => ?_) (fun q => ?_))
  · replace h := h.1 q
    show Y G (d + 1) mX12_isQuestion 13 [(2, 234), (0, x1)] [(0, 1)] M Q
    exact z_ireturn dX12_isQuestion_13 (Or.inr ⟨rfl, ⟨by decide, by decide⟩⟩) rfl h
  · replace h := h.2 q
    show Y G (d + 1) mX12_isQuestion 13 [(2, 234), (0, x1)] [(0, 0)] M Q
    exact z_ireturn dX12_isQuestion_13 (Or.inr ⟨rfl, ⟨by decide, by decide⟩⟩) rfl h
set_option maxRecDepth 20000 in
set_option maxHeartbeats 4000000 in
theorem bX12_isPerson_0 {G : zG} {d : Nat} {M : zM} {Q : zV → zM → Prop} (hG : zP G) {x1 : Int}
    (h : (-2147483648 ≤ (M 235 1) - 1 ∧ (M 235 1) - 1 ≤ 2147483647) ∧ ((0 ≤ x1 ∧ x1 ≤ ((M 235 1) - 1) → Q (0, 1) M) ∧ (¬ (0 ≤ x1 ∧ x1 ≤ ((M 235 1) - 1)) → Q (0, 0) M))) :
    Y G (d + 1) mX12_isPerson 0 [(2, 234), (0, x1)] [] M Q := by
  refine z_iloadn dX12_isPerson_0 rfl ?_
  refine z_iconst dX12_isPerson_1 ki_0 ?_
  refine z_aloadn dX12_isPerson_2 rfl (Or.inl rfl) ?_
  refine y_getr (v := 235) hG dX12_isPerson_3 fX12_7 sh234 (by decide) rfl (by decide +kernel) (by decide) ?_
  refine z_iconst dX12_isPerson_6 ki_1 ?_
  refine y_iald (x := (M 235 1)) dX12_isPerson_7 sh235 ⟨by decide, by decide⟩ rfl ?_
  refine z_iconst dX12_isPerson_8 ki_1 ?_
  obtain ⟨q1, h⟩ := h
  refine z_isub dX12_isPerson_9 q1 ?_
  refine y_cs (mt2 := mX12_isIn) (en := [(0, x1), (0, 0), (0, ((M 235 1) - 1))]) (st := []) (as := [(0, x1), (0, 0), (0, ((M 235 1) - 1))]) dX12_isPerson_10 lX12_126 kX12_isIn tX12_isIn rfl (Nat.le_of_ble_eq_true rfl) (Nat.le_of_ble_eq_true rfl) rfl (s_isIn hG (fun q => ?_) (fun q => ?_))
  · replace h := h.1 q
    show Y G (d + 1) mX12_isPerson 13 [(2, 234), (0, x1)] [(0, 1)] M Q
    exact z_ireturn dX12_isPerson_13 (Or.inr ⟨rfl, ⟨by decide, by decide⟩⟩) rfl h
  · replace h := h.2 q
    show Y G (d + 1) mX12_isPerson 13 [(2, 234), (0, x1)] [(0, 0)] M Q
    exact z_ireturn dX12_isPerson_13 (Or.inr ⟨rfl, ⟨by decide, by decide⟩⟩) rfl h
set_option maxRecDepth 20000 in
set_option maxHeartbeats 4000000 in
theorem bX3_setEqualities_0 {G : zG} {d : Nat} {M : zM} {Q : zV → zM → Prop} (hG : zP G) {x1 : Int}
    (h : Q (9, 0) (zset (zset M 19 9 x1) 19 13 0)) :
    Y G d mX3_setEqualities 0 [(2, 19), (0, x1)] [] M Q := by
  refine z_aloadn dX3_setEqualities_0 rfl (Or.inl rfl) ?_
  refine z_iloadn dX3_setEqualities_1 rfl ?_
  refine y_putf (M' := zset M 19 9 x1) hG dX3_setEqualities_2 fX3_69 sh19 (by decide) ⟨rfl, rfl⟩ p3_9 (fun q => absurd q (by decide)) (by decide) rfl ?_
  refine z_aloadn dX3_setEqualities_5 rfl (Or.inl rfl) ?_
  refine z_iconst dX3_setEqualities_6 ki_0 ?_
  refine y_putf (M' := zset (zset M 19 9 x1) 19 13 0) hG dX3_setEqualities_7 fX3_72 sh19 (by decide) ⟨rfl, rfl⟩ p3_13 (fun q => absurd q (by decide)) (by decide) rfl ?_
  exact z_return dX3_setEqualities_10 rfl rfl h
set_option maxRecDepth 20000 in
set_option maxHeartbeats 4000000 in
theorem bX0_forgetHeard_0 {G : zG} {d : Nat} {M : zM} {Q : zV → zM → Prop} (hG : zP G)
    (h : Q (9, 0) (zset (zset M 176 2 0) 176 11 0)) :
    Y G d mX0_forgetHeard 0 [(2, 176)] [] M Q := by
  refine z_aloadn dX0_forgetHeard_0 rfl (Or.inl rfl) ?_
  refine z_iconst dX0_forgetHeard_1 ki_0 ?_
  refine y_putf (M' := zset M 176 2 0) hG dX0_forgetHeard_2 fX0_33 sh176 (by decide) ⟨rfl, rfl⟩ p0_2 (fun q => absurd q (by decide)) (by decide) rfl ?_
  refine z_aloadn dX0_forgetHeard_5 rfl (Or.inl rfl) ?_
  refine z_iconst dX0_forgetHeard_6 ki_0 ?_
  refine y_putf (M' := zset (zset M 176 2 0) 176 11 0) hG dX0_forgetHeard_7 fX0_37 sh176 (by decide) ⟨rfl, rfl⟩ p0_11 (fun _ => ⟨by decide, by decide⟩) (by decide) rfl ?_
  exact z_return dX0_forgetHeard_10 rfl rfl h
set_option maxRecDepth 20000 in
set_option maxHeartbeats 4000000 in
theorem bX7_sortOf_0 {G : zG} {d : Nat} {M : zM} {Q : zV → zM → Prop} (hG : zP G) {o x1 : Int} (ho : zSC o)
    (h : (-2147483648 ≤ (M o 3) - 1 ∧ (M o 3) - 1 ≤ 2147483647) ∧ ((0 ≤ x1 ∧ x1 ≤ ((M o 3) - 1) → (0 ≤ x1 ∧ x1 < 24) ∧ Q (0, (M (o + 1) x1)) M) ∧ (¬ (0 ≤ x1 ∧ x1 ≤ ((M o 3) - 1)) → Q (0, 1) M))) :
    Y G (d + 1) mX7_sortOf 0 [(2, o), (0, x1)] [] M Q := by
  refine z_iloadn dX7_sortOf_0 rfl ?_
  refine z_iconst dX7_sortOf_1 ki_0 ?_
  refine z_aloadn dX7_sortOf_2 rfl (Or.inl rfl) ?_
  refine y_getf (x := (M o 3)) dX7_sortOf_3 fX7_25 (sc_0 ho) (by decide) rfl rfl ?_
  refine z_iconst dX7_sortOf_6 ki_1 ?_
  obtain ⟨q1, h⟩ := h
  refine z_isub dX7_sortOf_7 q1 ?_
  refine y_cs (mt2 := mX11_within) (en := [(0, x1), (0, 0), (0, ((M o 3) - 1))]) (st := []) (as := [(0, x1), (0, 0), (0, ((M o 3) - 1))]) dX7_sortOf_8 lX7_35 kX11_within tX11_within rfl (Nat.le_of_ble_eq_true rfl) (Nat.le_of_ble_eq_true rfl) rfl (s_within hG (fun q => ?_) (fun q => ?_))
  · replace h := h.1 q
    show Y G (d + 1) mX7_sortOf 11 [(2, o), (0, x1)] [(0, 1)] M Q
    refine z_ifeq (tgt := 23) dX7_sortOf_11 rfl (fun q => absurd q (by decide)) (fun _ => ?_)
    refine z_aloadn dX7_sortOf_14 rfl (Or.inl rfl) ?_
    refine y_getr (v := (o + 1)) hG dX7_sortOf_15 fX7_9 (sc_0 ho) (by decide) rfl (sc_x0 ho) (sc_ne ho 1 (by decide)) ?_
    refine z_iloadn dX7_sortOf_18 rfl ?_
    obtain ⟨q2, h⟩ := h
    refine y_iald (x := (M (o + 1) x1)) dX7_sortOf_19 (sc_1 ho) q2 rfl ?_
    refine z_goto (tgt := 24) dX7_sortOf_20 rfl ?_
    exact z_ireturn dX7_sortOf_24 (Or.inl rfl) rfl h
  · replace h := h.2 q
    show Y G (d + 1) mX7_sortOf 11 [(2, o), (0, x1)] [(0, 0)] M Q
    refine z_ifeq (tgt := 23) dX7_sortOf_11 rfl (fun _ => ?_) (fun q => absurd q (by decide))
    refine z_iconst dX7_sortOf_23 ki_1 ?_
    exact z_ireturn dX7_sortOf_24 (Or.inl rfl) rfl h
set_option maxRecDepth 20000 in
set_option maxHeartbeats 4000000 in
theorem bX7_partOf_0 {G : zG} {d : Nat} {M : zM} {Q : zV → zM → Prop} (hG : zP G) {o x1 x2 : Int} (ho : zSC o)
    (h : (-2147483648 ≤ (M o 3) - 1 ∧ (M o 3) - 1 ≤ 2147483647) ∧ ((0 ≤ x1 ∧ x1 ≤ ((M o 3) - 1) → ((0 ≤ x2 ∧ x2 ≤ 5 → (-2147483648 ≤ x1 * 6 ∧ x1 * 6 ≤ 2147483647) ∧ (-2147483648 ≤ (x1 * 6) + x2 ∧ (x1 * 6) + x2 ≤ 2147483647) ∧ (0 ≤ ((x1 * 6) + x2) ∧ ((x1 * 6) + x2) < 144) ∧ Q (0, (M (o + 2) ((x1 * 6) + x2))) M) ∧ (¬ (0 ≤ x2 ∧ x2 ≤ 5) → Q (0, (-1)) M))) ∧ (¬ (0 ≤ x1 ∧ x1 ≤ ((M o 3) - 1)) → Q (0, (-1)) M))) :
    Y G (d + 1) mX7_partOf 0 [(2, o), (0, x1), (0, x2), (9, 0)] [] M Q := by
  refine z_iloadn dX7_partOf_0 rfl ?_
  refine z_iconst dX7_partOf_1 ki_0 ?_
  refine z_aloadn dX7_partOf_2 rfl (Or.inl rfl) ?_
  refine y_getf (x := (M o 3)) dX7_partOf_3 fX7_25 (sc_0 ho) (by decide) rfl rfl ?_
  refine z_iconst dX7_partOf_6 ki_1 ?_
  obtain ⟨q1, h⟩ := h
  refine z_isub dX7_partOf_7 q1 ?_
  refine y_cs (mt2 := mX11_within) (en := [(0, x1), (0, 0), (0, ((M o 3) - 1))]) (st := []) (as := [(0, x1), (0, 0), (0, ((M o 3) - 1))]) dX7_partOf_8 lX7_35 kX11_within tX11_within rfl (Nat.le_of_ble_eq_true rfl) (Nat.le_of_ble_eq_true rfl) rfl (s_within hG (fun q => ?_) (fun q => ?_))
  · replace h := h.1 q
    show Y G (d + 1) mX7_partOf 11 [(2, o), (0, x1), (0, x2), (9, 0)] [(0, 1)] M Q
    refine z_ifeq (tgt := 27) dX7_partOf_11 rfl (fun q => absurd q (by decide)) (fun _ => ?_)
    refine z_iloadn dX7_partOf_14 rfl ?_
    refine z_iconst dX7_partOf_15 ki_0 ?_
    refine z_iconst dX7_partOf_16 ki_5 ?_
    refine y_cs (mt2 := mX11_within) (en := [(0, x2), (0, 0), (0, 5)]) (st := []) (as := [(0, x2), (0, 0), (0, 5)]) dX7_partOf_17 lX7_35 kX11_within tX11_within rfl (Nat.le_of_ble_eq_true rfl) (Nat.le_of_ble_eq_true rfl) rfl (s_within hG (fun q => ?_) (fun q => ?_))
    · replace h := h.1 q
      show Y G (d + 1) mX7_partOf 20 [(2, o), (0, x1), (0, x2), (9, 0)] [(0, 1)] M Q
      refine z_ifeq (tgt := 27) dX7_partOf_20 rfl (fun q => absurd q (by decide)) (fun _ => ?_)
      refine z_iconst dX7_partOf_23 ki_1 ?_
      refine z_goto (tgt := 28) dX7_partOf_24 rfl ?_
      refine y_istoren (ls' := [(2, o), (0, x1), (0, x2), (0, 1)]) dX7_partOf_28 rfl rfl ?_
      refine z_iloadn dX7_partOf_29 rfl ?_
      refine z_ifeq (tgt := 47) dX7_partOf_30 rfl (fun q => absurd q (by decide)) (fun _ => ?_)
      refine z_aloadn dX7_partOf_33 rfl (Or.inl rfl) ?_
      refine y_getr (v := (o + 2)) hG dX7_partOf_34 fX7_15 (sc_0 ho) (by decide) rfl (sc_x1 ho) (sc_ne ho 2 (by decide)) ?_
      refine z_iloadn dX7_partOf_37 rfl ?_
      refine z_bipush dX7_partOf_38 kb_6 ?_
      obtain ⟨q2, h⟩ := h
      refine z_imul dX7_partOf_40 q2 ?_
      refine z_iloadn dX7_partOf_41 rfl ?_
      obtain ⟨q3, h⟩ := h
      refine z_iadd dX7_partOf_42 q3 ?_
      obtain ⟨q4, h⟩ := h
      refine y_iald (x := (M (o + 2) ((x1 * 6) + x2))) dX7_partOf_43 (sc_2 ho) q4 rfl ?_
      refine z_goto (tgt := 48) dX7_partOf_44 rfl ?_
      exact z_ireturn dX7_partOf_48 (Or.inl rfl) rfl h
    · replace h := h.2 q
      show Y G (d + 1) mX7_partOf 20 [(2, o), (0, x1), (0, x2), (9, 0)] [(0, 0)] M Q
      refine z_ifeq (tgt := 27) dX7_partOf_20 rfl (fun _ => ?_) (fun q => absurd q (by decide))
      refine z_iconst dX7_partOf_27 ki_0 ?_
      refine y_istoren (ls' := [(2, o), (0, x1), (0, x2), (0, 0)]) dX7_partOf_28 rfl rfl ?_
      refine z_iloadn dX7_partOf_29 rfl ?_
      refine z_ifeq (tgt := 47) dX7_partOf_30 rfl (fun _ => ?_) (fun q => absurd q (by decide))
      refine z_iconst dX7_partOf_47 ki_m1 ?_
      exact z_ireturn dX7_partOf_48 (Or.inl rfl) rfl h
  · replace h := h.2 q
    show Y G (d + 1) mX7_partOf 11 [(2, o), (0, x1), (0, x2), (9, 0)] [(0, 0)] M Q
    refine z_ifeq (tgt := 27) dX7_partOf_11 rfl (fun _ => ?_) (fun q => absurd q (by decide))
    refine z_iconst dX7_partOf_27 ki_0 ?_
    refine y_istoren (ls' := [(2, o), (0, x1), (0, x2), (0, 0)]) dX7_partOf_28 rfl rfl ?_
    refine z_iloadn dX7_partOf_29 rfl ?_
    refine z_ifeq (tgt := 47) dX7_partOf_30 rfl (fun _ => ?_) (fun q => absurd q (by decide))
    refine z_iconst dX7_partOf_47 ki_m1 ?_
    exact z_ireturn dX7_partOf_48 (Or.inl rfl) rfl h
set_option maxRecDepth 20000 in
set_option maxHeartbeats 4000000 in
theorem bX12_isParent_0 {G : zG} {d : Nat} {M : zM} {Q : zV → zM → Prop} (hG : zP G) {x1 : Int}
    (h : ((x1 = (-1) → Q (0, 1) M) ∧ (¬ x1 = (-1) → Y G d mX12_isPerson 0 [(2, 234), (0, x1)] [] M (fun r M' => Y G (d + 1) mX12_isParent 10 [(2, 234), (0, x1)] (zpush r []) M' Q)))) :
    Y G (d + 1) mX12_isParent 0 [(2, 234), (0, x1)] [] M Q := by
  refine z_iloadn dX12_isParent_0 rfl ?_
  refine z_iconst dX12_isParent_1 ki_m1 ?_
  refine z_icmpeq (tgt := 13) dX12_isParent_2 rfl (fun q => ?_) (fun q => ?_)
  · replace h := h.1 q
    refine z_iconst dX12_isParent_13 ki_1 ?_
    refine z_goto (tgt := 18) dX12_isParent_14 rfl ?_
    exact z_ireturn dX12_isParent_18 (Or.inr ⟨rfl, ⟨by decide, by decide⟩⟩) rfl h
  · replace h := h.2 q
    refine z_aloadn dX12_isParent_5 rfl (Or.inl rfl) ?_
    refine z_iloadn dX12_isParent_6 rfl ?_
    refine y_cv (mt2 := mX12_isPerson) (en := [(2, 234), (0, x1)]) (st := []) (as := [(0, x1)]) dX12_isParent_7 lX12_130 kX12_isPerson iX12_isPerson eX12_isPerson rfl sh234 (by decide +kernel) (Nat.le_of_ble_eq_true rfl) (Nat.le_of_ble_eq_true rfl) rfl ?_
    exact h
set_option maxRecDepth 20000 in
set_option maxHeartbeats 4000000 in
theorem bX12_isParent_10 {G : zG} {d : Nat} {M : zM} {Q : zV → zM → Prop} (hG : zP G) {x1 x49 : Int}
    (h : ((x49 = 0 → Q (0, 0) M) ∧ (¬ x49 = 0 → Q (0, 1) M))) :
    Y G (d + 1) mX12_isParent 10 [(2, 234), (0, x1)] [(0, x49)] M Q := by
  refine z_ifeq (tgt := 17) dX12_isParent_10 rfl (fun q => ?_) (fun q => ?_)
  · replace h := h.1 q
    refine z_iconst dX12_isParent_17 ki_0 ?_
    exact z_ireturn dX12_isParent_18 (Or.inr ⟨rfl, ⟨by decide, by decide⟩⟩) rfl h
  · replace h := h.2 q
    refine z_iconst dX12_isParent_13 ki_1 ?_
    refine z_goto (tgt := 18) dX12_isParent_14 rfl ?_
    exact z_ireturn dX12_isParent_18 (Or.inr ⟨rfl, ⟨by decide, by decide⟩⟩) rfl h
set_option maxRecDepth 20000 in
set_option maxHeartbeats 4000000 in
theorem bX10_kinOf_0 {G : zG} {d : Nat} {M : zM} {Q : zV → zM → Prop} (hG : zP G) {x1 x2 : Int}
    (h : (-2147483648 ≤ (M 2 4) - 1 ∧ (M 2 4) - 1 ≤ 2147483647) ∧ ((0 ≤ x1 ∧ x1 ≤ ((M 2 4) - 1) → (-2147483648 ≤ (M 2 4) - 1 ∧ (M 2 4) - 1 ≤ 2147483647) ∧ ((0 ≤ x2 ∧ x2 ≤ ((M 2 4) - 1) → (-2147483648 ≤ x1 * 8 ∧ x1 * 8 ≤ 2147483647) ∧ (-2147483648 ≤ (x1 * 8) + x2 ∧ (x1 * 8) + x2 ≤ 2147483647) ∧ (0 ≤ ((x1 * 8) + x2) ∧ ((x1 * 8) + x2) < 64) ∧ Q (0, (M 8 ((x1 * 8) + x2))) M) ∧ (¬ (0 ≤ x2 ∧ x2 ≤ ((M 2 4) - 1)) → Q (0, (-1)) M))) ∧ (¬ (0 ≤ x1 ∧ x1 ≤ ((M 2 4) - 1)) → Q (0, (-1)) M))) :
    Y G (d + 1) mX10_kinOf 0 [(2, 2), (0, x1), (0, x2), (9, 0)] [] M Q := by
  refine z_iloadn dX10_kinOf_0 rfl ?_
  refine z_iconst dX10_kinOf_1 ki_0 ?_
  refine z_aloadn dX10_kinOf_2 rfl (Or.inl rfl) ?_
  refine y_getf (x := (M 2 4)) dX10_kinOf_3 fX10_49 sh2 (by decide) rfl rfl ?_
  refine z_iconst dX10_kinOf_6 ki_1 ?_
  obtain ⟨q1, h⟩ := h
  refine z_isub dX10_kinOf_7 q1 ?_
  refine y_cs (mt2 := mX11_within) (en := [(0, x1), (0, 0), (0, ((M 2 4) - 1))]) (st := []) (as := [(0, x1), (0, 0), (0, ((M 2 4) - 1))]) dX10_kinOf_8 lX10_45 kX11_within tX11_within rfl (Nat.le_of_ble_eq_true rfl) (Nat.le_of_ble_eq_true rfl) rfl (s_within hG (fun q => ?_) (fun q => ?_))
  · replace h := h.1 q
    show Y G (d + 1) mX10_kinOf 11 [(2, 2), (0, x1), (0, x2), (9, 0)] [(0, 1)] M Q
    refine z_ifeq (tgt := 32) dX10_kinOf_11 rfl (fun q => absurd q (by decide)) (fun _ => ?_)
    refine z_iloadn dX10_kinOf_14 rfl ?_
    refine z_iconst dX10_kinOf_15 ki_0 ?_
    refine z_aloadn dX10_kinOf_16 rfl (Or.inl rfl) ?_
    refine y_getf (x := (M 2 4)) dX10_kinOf_17 fX10_49 sh2 (by decide) rfl rfl ?_
    refine z_iconst dX10_kinOf_20 ki_1 ?_
    obtain ⟨q2, h⟩ := h
    refine z_isub dX10_kinOf_21 q2 ?_
    refine y_cs (mt2 := mX11_within) (en := [(0, x2), (0, 0), (0, ((M 2 4) - 1))]) (st := []) (as := [(0, x2), (0, 0), (0, ((M 2 4) - 1))]) dX10_kinOf_22 lX10_45 kX11_within tX11_within rfl (Nat.le_of_ble_eq_true rfl) (Nat.le_of_ble_eq_true rfl) rfl (s_within hG (fun q => ?_) (fun q => ?_))
    · replace h := h.1 q
      show Y G (d + 1) mX10_kinOf 25 [(2, 2), (0, x1), (0, x2), (9, 0)] [(0, 1)] M Q
      refine z_ifeq (tgt := 32) dX10_kinOf_25 rfl (fun q => absurd q (by decide)) (fun _ => ?_)
      refine z_iconst dX10_kinOf_28 ki_1 ?_
      refine z_goto (tgt := 33) dX10_kinOf_29 rfl ?_
      refine y_istoren (ls' := [(2, 2), (0, x1), (0, x2), (0, 1)]) dX10_kinOf_33 rfl rfl ?_
      refine z_iloadn dX10_kinOf_34 rfl ?_
      refine z_ifeq (tgt := 52) dX10_kinOf_35 rfl (fun q => absurd q (by decide)) (fun _ => ?_)
      refine z_aloadn dX10_kinOf_38 rfl (Or.inl rfl) ?_
      refine y_getr (v := 8) hG dX10_kinOf_39 fX10_27 sh2 (by decide) rfl (by decide +kernel) (by decide) ?_
      refine z_iloadn dX10_kinOf_42 rfl ?_
      refine z_bipush dX10_kinOf_43 kb_8 ?_
      obtain ⟨q3, h⟩ := h
      refine z_imul dX10_kinOf_45 q3 ?_
      refine z_iloadn dX10_kinOf_46 rfl ?_
      obtain ⟨q4, h⟩ := h
      refine z_iadd dX10_kinOf_47 q4 ?_
      obtain ⟨q5, h⟩ := h
      refine y_iald (x := (M 8 ((x1 * 8) + x2))) dX10_kinOf_48 sh8 q5 rfl ?_
      refine z_goto (tgt := 53) dX10_kinOf_49 rfl ?_
      exact z_ireturn dX10_kinOf_53 (Or.inl rfl) rfl h
    · replace h := h.2 q
      show Y G (d + 1) mX10_kinOf 25 [(2, 2), (0, x1), (0, x2), (9, 0)] [(0, 0)] M Q
      refine z_ifeq (tgt := 32) dX10_kinOf_25 rfl (fun _ => ?_) (fun q => absurd q (by decide))
      refine z_iconst dX10_kinOf_32 ki_0 ?_
      refine y_istoren (ls' := [(2, 2), (0, x1), (0, x2), (0, 0)]) dX10_kinOf_33 rfl rfl ?_
      refine z_iloadn dX10_kinOf_34 rfl ?_
      refine z_ifeq (tgt := 52) dX10_kinOf_35 rfl (fun _ => ?_) (fun q => absurd q (by decide))
      refine z_iconst dX10_kinOf_52 ki_m1 ?_
      exact z_ireturn dX10_kinOf_53 (Or.inl rfl) rfl h
  · replace h := h.2 q
    show Y G (d + 1) mX10_kinOf 11 [(2, 2), (0, x1), (0, x2), (9, 0)] [(0, 0)] M Q
    refine z_ifeq (tgt := 32) dX10_kinOf_11 rfl (fun _ => ?_) (fun q => absurd q (by decide))
    refine z_iconst dX10_kinOf_32 ki_0 ?_
    refine y_istoren (ls' := [(2, 2), (0, x1), (0, x2), (0, 0)]) dX10_kinOf_33 rfl rfl ?_
    refine z_iloadn dX10_kinOf_34 rfl ?_
    refine z_ifeq (tgt := 52) dX10_kinOf_35 rfl (fun _ => ?_) (fun q => absurd q (by decide))
    refine z_iconst dX10_kinOf_52 ki_m1 ?_
    exact z_ireturn dX10_kinOf_53 (Or.inl rfl) rfl h
set_option maxRecDepth 20000 in
set_option maxHeartbeats 4000000 in
theorem bX10_wayOf_0 {G : zG} {d : Nat} {M : zM} {Q : zV → zM → Prop} (hG : zP G) {x1 x2 : Int}
    (h : ((0 ≤ x1 ∧ x1 ≤ 5 → ((0 ≤ x2 ∧ x2 ≤ 5 → (-2147483648 ≤ x1 * 6 ∧ x1 * 6 ≤ 2147483647) ∧ (-2147483648 ≤ (x1 * 6) + x2 ∧ (x1 * 6) + x2 ≤ 2147483647) ∧ (0 ≤ ((x1 * 6) + x2) ∧ ((x1 * 6) + x2) < 36) ∧ Q (0, (M 9 ((x1 * 6) + x2))) M) ∧ (¬ (0 ≤ x2 ∧ x2 ≤ 5) → Q (0, (-1)) M))) ∧ (¬ (0 ≤ x1 ∧ x1 ≤ 5) → Q (0, (-1)) M))) :
    Y G (d + 1) mX10_wayOf 0 [(2, 2), (0, x1), (0, x2), (9, 0)] [] M Q := by
  refine z_iloadn dX10_wayOf_0 rfl ?_
  refine z_iconst dX10_wayOf_1 ki_0 ?_
  refine z_iconst dX10_wayOf_2 ki_5 ?_
  refine y_cs (mt2 := mX11_within) (en := [(0, x1), (0, 0), (0, 5)]) (st := []) (as := [(0, x1), (0, 0), (0, 5)]) dX10_wayOf_3 lX10_45 kX11_within tX11_within rfl (Nat.le_of_ble_eq_true rfl) (Nat.le_of_ble_eq_true rfl) rfl (s_within hG (fun q => ?_) (fun q => ?_))
  · replace h := h.1 q
    show Y G (d + 1) mX10_wayOf 6 [(2, 2), (0, x1), (0, x2), (9, 0)] [(0, 1)] M Q
    refine z_ifeq (tgt := 22) dX10_wayOf_6 rfl (fun q => absurd q (by decide)) (fun _ => ?_)
    refine z_iloadn dX10_wayOf_9 rfl ?_
    refine z_iconst dX10_wayOf_10 ki_0 ?_
    refine z_iconst dX10_wayOf_11 ki_5 ?_
    refine y_cs (mt2 := mX11_within) (en := [(0, x2), (0, 0), (0, 5)]) (st := []) (as := [(0, x2), (0, 0), (0, 5)]) dX10_wayOf_12 lX10_45 kX11_within tX11_within rfl (Nat.le_of_ble_eq_true rfl) (Nat.le_of_ble_eq_true rfl) rfl (s_within hG (fun q => ?_) (fun q => ?_))
    · replace h := h.1 q
      show Y G (d + 1) mX10_wayOf 15 [(2, 2), (0, x1), (0, x2), (9, 0)] [(0, 1)] M Q
      refine z_ifeq (tgt := 22) dX10_wayOf_15 rfl (fun q => absurd q (by decide)) (fun _ => ?_)
      refine z_iconst dX10_wayOf_18 ki_1 ?_
      refine z_goto (tgt := 23) dX10_wayOf_19 rfl ?_
      refine y_istoren (ls' := [(2, 2), (0, x1), (0, x2), (0, 1)]) dX10_wayOf_23 rfl rfl ?_
      refine z_iloadn dX10_wayOf_24 rfl ?_
      refine z_ifeq (tgt := 42) dX10_wayOf_25 rfl (fun q => absurd q (by decide)) (fun _ => ?_)
      refine z_aloadn dX10_wayOf_28 rfl (Or.inl rfl) ?_
      refine y_getr (v := 9) hG dX10_wayOf_29 fX10_30 sh2 (by decide) rfl (by decide +kernel) (by decide) ?_
      refine z_iloadn dX10_wayOf_32 rfl ?_
      refine z_bipush dX10_wayOf_33 kb_6 ?_
      obtain ⟨q1, h⟩ := h
      refine z_imul dX10_wayOf_35 q1 ?_
      refine z_iloadn dX10_wayOf_36 rfl ?_
      obtain ⟨q2, h⟩ := h
      refine z_iadd dX10_wayOf_37 q2 ?_
      obtain ⟨q3, h⟩ := h
      refine y_iald (x := (M 9 ((x1 * 6) + x2))) dX10_wayOf_38 sh9 q3 rfl ?_
      refine z_goto (tgt := 43) dX10_wayOf_39 rfl ?_
      exact z_ireturn dX10_wayOf_43 (Or.inl rfl) rfl h
    · replace h := h.2 q
      show Y G (d + 1) mX10_wayOf 15 [(2, 2), (0, x1), (0, x2), (9, 0)] [(0, 0)] M Q
      refine z_ifeq (tgt := 22) dX10_wayOf_15 rfl (fun _ => ?_) (fun q => absurd q (by decide))
      refine z_iconst dX10_wayOf_22 ki_0 ?_
      refine y_istoren (ls' := [(2, 2), (0, x1), (0, x2), (0, 0)]) dX10_wayOf_23 rfl rfl ?_
      refine z_iloadn dX10_wayOf_24 rfl ?_
      refine z_ifeq (tgt := 42) dX10_wayOf_25 rfl (fun _ => ?_) (fun q => absurd q (by decide))
      refine z_iconst dX10_wayOf_42 ki_m1 ?_
      exact z_ireturn dX10_wayOf_43 (Or.inl rfl) rfl h
  · replace h := h.2 q
    show Y G (d + 1) mX10_wayOf 6 [(2, 2), (0, x1), (0, x2), (9, 0)] [(0, 0)] M Q
    refine z_ifeq (tgt := 22) dX10_wayOf_6 rfl (fun _ => ?_) (fun q => absurd q (by decide))
    refine z_iconst dX10_wayOf_22 ki_0 ?_
    refine y_istoren (ls' := [(2, 2), (0, x1), (0, x2), (0, 0)]) dX10_wayOf_23 rfl rfl ?_
    refine z_iloadn dX10_wayOf_24 rfl ?_
    refine z_ifeq (tgt := 42) dX10_wayOf_25 rfl (fun _ => ?_) (fun q => absurd q (by decide))
    refine z_iconst dX10_wayOf_42 ki_m1 ?_
    exact z_ireturn dX10_wayOf_43 (Or.inl rfl) rfl h
set_option maxRecDepth 20000 in
set_option maxHeartbeats 4000000 in
theorem bX11_areValues_0 {G : zG} {d : Nat} {M : zM} {Q : zV → zM → Prop} (hG : zP G) {x0 x1 : Int}
    (h : (((-500) ≤ x0 ∧ x0 ≤ 500 → (((-500) ≤ x1 ∧ x1 ≤ 500 → Q (0, 1) M) ∧ (¬ ((-500) ≤ x1 ∧ x1 ≤ 500) → Q (0, 0) M))) ∧ (¬ ((-500) ≤ x0 ∧ x0 ≤ 500) → Q (0, 0) M))) :
    Y G (d + 1) mX11_areValues 0 [(0, x0), (0, x1)] [] M Q := by
  refine z_iloadn dX11_areValues_0 rfl ?_
  refine z_sipush dX11_areValues_1 ks_m500 ?_
  refine z_sipush dX11_areValues_4 ks_500 ?_
  refine y_cs (mt2 := mX11_within) (en := [(0, x0), (0, (-500)), (0, 500)]) (st := []) (as := [(0, x0), (0, (-500)), (0, 500)]) dX11_areValues_7 lX11_72 kX11_within tX11_within rfl (Nat.le_of_ble_eq_true rfl) (Nat.le_of_ble_eq_true rfl) rfl (s_within hG (fun q => ?_) (fun q => ?_))
  · replace h := h.1 q
    show Y G (d + 1) mX11_areValues 10 [(0, x0), (0, x1)] [(0, 1)] M Q
    refine z_ifeq (tgt := 30) dX11_areValues_10 rfl (fun q => absurd q (by decide)) (fun _ => ?_)
    refine z_iloadn dX11_areValues_13 rfl ?_
    refine z_sipush dX11_areValues_14 ks_m500 ?_
    refine z_sipush dX11_areValues_17 ks_500 ?_
    refine y_cs (mt2 := mX11_within) (en := [(0, x1), (0, (-500)), (0, 500)]) (st := []) (as := [(0, x1), (0, (-500)), (0, 500)]) dX11_areValues_20 lX11_72 kX11_within tX11_within rfl (Nat.le_of_ble_eq_true rfl) (Nat.le_of_ble_eq_true rfl) rfl (s_within hG (fun q => ?_) (fun q => ?_))
    · replace h := h.1 q
      show Y G (d + 1) mX11_areValues 23 [(0, x0), (0, x1)] [(0, 1)] M Q
      refine z_ifeq (tgt := 30) dX11_areValues_23 rfl (fun q => absurd q (by decide)) (fun _ => ?_)
      refine z_iconst dX11_areValues_26 ki_1 ?_
      refine z_goto (tgt := 31) dX11_areValues_27 rfl ?_
      exact z_ireturn dX11_areValues_31 (Or.inr ⟨rfl, ⟨by decide, by decide⟩⟩) rfl h
    · replace h := h.2 q
      show Y G (d + 1) mX11_areValues 23 [(0, x0), (0, x1)] [(0, 0)] M Q
      refine z_ifeq (tgt := 30) dX11_areValues_23 rfl (fun _ => ?_) (fun q => absurd q (by decide))
      refine z_iconst dX11_areValues_30 ki_0 ?_
      exact z_ireturn dX11_areValues_31 (Or.inr ⟨rfl, ⟨by decide, by decide⟩⟩) rfl h
  · replace h := h.2 q
    show Y G (d + 1) mX11_areValues 10 [(0, x0), (0, x1)] [(0, 0)] M Q
    refine z_ifeq (tgt := 30) dX11_areValues_10 rfl (fun _ => ?_) (fun q => absurd q (by decide))
    refine z_iconst dX11_areValues_30 ki_0 ?_
    exact z_ireturn dX11_areValues_31 (Or.inr ⟨rfl, ⟨by decide, by decide⟩⟩) rfl h
set_option maxRecDepth 20000 in
set_option maxHeartbeats 4000000 in
theorem bX12_areValues_0 {G : zG} {d : Nat} {M : zM} {Q : zV → zM → Prop} (hG : zP G) {x0 x1 : Int}
    (h : ((x0 < (-500) → Q (0, 0) M) ∧ ((-500) ≤ x0 → ((500 < x1 → Q (0, 0) M) ∧ (x1 ≤ 500 → ((x1 < x0 → Q (0, 0) M) ∧ (x0 ≤ x1 → Q (0, 1) M))))))) :
    Y G d mX12_areValues 0 [(0, x0), (0, x1)] [] M Q := by
  refine z_iloadn dX12_areValues_0 rfl ?_
  refine z_sipush dX12_areValues_1 ks_m500 ?_
  refine z_icmplt (tgt := 23) dX12_areValues_4 rfl (fun q => ?_) (fun q => ?_)
  · replace h := h.1 q
    refine z_iconst dX12_areValues_23 ki_0 ?_
    exact z_ireturn dX12_areValues_24 (Or.inr ⟨rfl, ⟨by decide, by decide⟩⟩) rfl h
  · replace h := h.2 q
    refine z_iloadn dX12_areValues_7 rfl ?_
    refine z_sipush dX12_areValues_8 ks_500 ?_
    refine z_icmpgt (tgt := 23) dX12_areValues_11 rfl (fun q => ?_) (fun q => ?_)
    · replace h := h.1 q
      refine z_iconst dX12_areValues_23 ki_0 ?_
      exact z_ireturn dX12_areValues_24 (Or.inr ⟨rfl, ⟨by decide, by decide⟩⟩) rfl h
    · replace h := h.2 q
      refine z_iloadn dX12_areValues_14 rfl ?_
      refine z_iloadn dX12_areValues_15 rfl ?_
      refine z_icmpgt (tgt := 23) dX12_areValues_16 rfl (fun q => ?_) (fun q => ?_)
      · replace h := h.1 q
        refine z_iconst dX12_areValues_23 ki_0 ?_
        exact z_ireturn dX12_areValues_24 (Or.inr ⟨rfl, ⟨by decide, by decide⟩⟩) rfl h
      · replace h := h.2 q
        refine z_iconst dX12_areValues_19 ki_1 ?_
        refine z_goto (tgt := 24) dX12_areValues_20 rfl ?_
        exact z_ireturn dX12_areValues_24 (Or.inr ⟨rfl, ⟨by decide, by decide⟩⟩) rfl h
