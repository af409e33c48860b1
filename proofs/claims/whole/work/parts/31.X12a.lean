set_option maxRecDepth 20000 in
set_option maxHeartbeats 4000000 in
theorem bX12_hasAsked_0 {G : zG} {d : Nat} {M : zM} {Q : zV → zM → Prop} (hG : zP G) {x1 : Int}
    (h : Y G d mX12_hasAsked 2 [(2, 234), (0, x1), (0, 0)] [] M Q) :
    Y G d mX12_hasAsked 0 [(2, 234), (0, x1), (9, 0)] [] M Q := by
  refine z_iconst dX12_hasAsked_0 ki_0 ?_
  refine y_istoren (ls' := [(2, 234), (0, x1), (0, 0)]) dX12_hasAsked_1 rfl rfl ?_
  exact h
set_option maxRecDepth 20000 in
set_option maxHeartbeats 4000000 in
theorem bX12_hasAsked_2 {G : zG} {d : Nat} {M : zM} {Q : zV → zM → Prop} (hG : zP G) {x1 x2 : Int}
    (h : (((M 235 5) ≤ x2 → Q (0, 0) M) ∧ (x2 < (M 235 5) → (-2147483648 ≤ 2 * x2 ∧ 2 * x2 ≤ 2147483647) ∧ (-2147483648 ≤ 104 + (2 * x2) ∧ 104 + (2 * x2) ≤ 2147483647) ∧ (0 ≤ (104 + (2 * x2)) ∧ (104 + (2 * x2)) < 156) ∧ ((¬ (M 235 (104 + (2 * x2))) = x1 → (-2147483648 ≤ x2 + 1 ∧ x2 + 1 ≤ 2147483647) ∧ Y G d mX12_hasAsked 2 [(2, 234), (0, x1), (0, (x2 + 1))] [] M Q) ∧ ((M 235 (104 + (2 * x2))) = x1 → Q (0, 1) M))))) :
    Y G d mX12_hasAsked 2 [(2, 234), (0, x1), (0, x2)] [] M Q := by
  refine z_iloadn dX12_hasAsked_2 rfl ?_
  refine z_aloadn dX12_hasAsked_3 rfl (Or.inl rfl) ?_
  refine y_getr (v := 235) hG dX12_hasAsked_4 fX12_7 sh234 (by decide) rfl (by decide +kernel) (by decide) ?_
  refine z_iconst dX12_hasAsked_7 ki_5 ?_
  refine y_iald (x := (M 235 5)) dX12_hasAsked_8 sh235 ⟨by decide, by decide⟩ rfl ?_
  refine z_icmpge (tgt := 35) dX12_hasAsked_9 rfl (fun q => ?_) (fun q => ?_)
  · replace h := h.1 q
    refine z_iconst dX12_hasAsked_35 ki_0 ?_
    exact z_ireturn dX12_hasAsked_36 (Or.inr ⟨rfl, ⟨by decide, by decide⟩⟩) rfl h
  · replace h := h.2 q
    refine z_aloadn dX12_hasAsked_12 rfl (Or.inl rfl) ?_
    refine y_getr (v := 235) hG dX12_hasAsked_13 fX12_7 sh234 (by decide) rfl (by decide +kernel) (by decide) ?_
    refine z_bipush dX12_hasAsked_16 kb_104 ?_
    refine z_iconst dX12_hasAsked_18 ki_2 ?_
    refine z_iloadn dX12_hasAsked_19 rfl ?_
    obtain ⟨q1, h⟩ := h
    refine z_imul dX12_hasAsked_20 q1 ?_
    obtain ⟨q2, h⟩ := h
    refine z_iadd dX12_hasAsked_21 q2 ?_
    obtain ⟨q3, h⟩ := h
    refine y_iald (x := (M 235 (104 + (2 * x2)))) dX12_hasAsked_22 sh235 q3 rfl ?_
    refine z_iloadn dX12_hasAsked_23 rfl ?_
    refine z_icmpne (tgt := 29) dX12_hasAsked_24 rfl (fun q => ?_) (fun q => ?_)
    · replace h := h.1 q
      obtain ⟨q4, h⟩ := h
      refine y_iinc (ls' := [(2, 234), (0, x1), (0, (x2 + 1))]) dX12_hasAsked_29 rfl rfl q4 rfl ?_
      refine z_goto (tgt := 2) dX12_hasAsked_32 rfl ?_
      exact h
    · replace h := h.2 q
      refine z_iconst dX12_hasAsked_27 ki_1 ?_
      exact z_ireturn dX12_hasAsked_28 (Or.inr ⟨rfl, ⟨by decide, by decide⟩⟩) rfl h
set_option maxRecDepth 20000 in
set_option maxHeartbeats 4000000 in
theorem bX12_barring_0 {G : zG} {d : Nat} {M : zM} {Q : zV → zM → Prop} (hG : zP G) {x1 : Int}
    (h : Y G (d + 1) mX12_barring 4 [(2, 234), (0, x1), (0, (-1)), (0, 0), (9, 0)] [] M Q) :
    Y G (d + 1) mX12_barring 0 [(2, 234), (0, x1), (9, 0), (9, 0), (9, 0)] [] M Q := by
  refine z_iconst dX12_barring_0 ki_m1 ?_
  refine y_istoren (ls' := [(2, 234), (0, x1), (0, (-1)), (9, 0), (9, 0)]) dX12_barring_1 rfl rfl ?_
  refine z_iconst dX12_barring_2 ki_0 ?_
  refine y_istoren (ls' := [(2, 234), (0, x1), (0, (-1)), (0, 0), (9, 0)]) dX12_barring_3 rfl rfl ?_
  exact h
set_option maxRecDepth 20000 in
set_option maxHeartbeats 4000000 in
theorem bX12_barring_4 {G : zG} {d : Nat} {M : zM} {Q : zV → zM → Prop} (hG : zP G) {x1 x2 x3 : Int}
    (h : (((M 235 5) ≤ x3 → Q (0, x2) M) ∧ (x3 < (M 235 5) → (-2147483648 ≤ 2 * x3 ∧ 2 * x3 ≤ 2147483647) ∧ (-2147483648 ≤ 104 + (2 * x3) ∧ 104 + (2 * x3) ≤ 2147483647) ∧ (-2147483648 ≤ (104 + (2 * x3)) + 1 ∧ (104 + (2 * x3)) + 1 ≤ 2147483647) ∧ (0 ≤ ((104 + (2 * x3)) + 1) ∧ ((104 + (2 * x3)) + 1) < 156) ∧ ((x2 < 0 → Y G d mX12_isAlike 0 [(2, 234), (0, (M 235 ((104 + (2 * x3)) + 1))), (0, x1), (0, (M 235 4)), (9, 0), (9, 0)] [] M (fun r M' => Y G (d + 1) mX12_barring 52 [(2, 234), (0, x1), (0, x2), (0, x3), (0, (M 235 ((104 + (2 * x3)) + 1)))] (zpush r []) M' Q)) ∧ (0 ≤ x2 → ((x2 ≤ (M 235 ((104 + (2 * x3)) + 1)) → (-2147483648 ≤ x3 + 1 ∧ x3 + 1 ≤ 2147483647) ∧ Y G (d + 1) mX12_barring 4 [(2, 234), (0, x1), (0, x2), (0, (x3 + 1)), (9, 0)] [] M Q) ∧ ((M 235 ((104 + (2 * x3)) + 1)) < x2 → Y G d mX12_isAlike 0 [(2, 234), (0, (M 235 ((104 + (2 * x3)) + 1))), (0, x1), (0, (M 235 4)), (9, 0), (9, 0)] [] M (fun r M' => Y G (d + 1) mX12_barring 52 [(2, 234), (0, x1), (0, x2), (0, x3), (0, (M 235 ((104 + (2 * x3)) + 1)))] (zpush r []) M' Q)))))))) :
    Y G (d + 1) mX12_barring 4 [(2, 234), (0, x1), (0, x2), (0, x3), (9, 0)] [] M Q := by
  refine z_iloadn dX12_barring_4 rfl ?_
  refine z_aloadn dX12_barring_5 rfl (Or.inl rfl) ?_
  refine y_getr (v := 235) hG dX12_barring_6 fX12_7 sh234 (by decide) rfl (by decide +kernel) (by decide) ?_
  refine z_iconst dX12_barring_9 ki_5 ?_
  refine y_iald (x := (M 235 5)) dX12_barring_10 sh235 ⟨by decide, by decide⟩ rfl ?_
  refine z_icmpge (tgt := 64) dX12_barring_11 rfl (fun q => ?_) (fun q => ?_)
  · replace h := h.1 q
    refine z_iloadn dX12_barring_64 rfl ?_
    exact z_ireturn dX12_barring_65 (Or.inl rfl) rfl h
  · replace h := h.2 q
    refine z_aloadn dX12_barring_14 rfl (Or.inl rfl) ?_
    refine y_getr (v := 235) hG dX12_barring_15 fX12_7 sh234 (by decide) rfl (by decide +kernel) (by decide) ?_
    refine z_bipush dX12_barring_18 kb_104 ?_
    refine z_iconst dX12_barring_20 ki_2 ?_
    refine z_iloadn dX12_barring_21 rfl ?_
    obtain ⟨q1, h⟩ := h
    refine z_imul dX12_barring_22 q1 ?_
    obtain ⟨q2, h⟩ := h
    refine z_iadd dX12_barring_23 q2 ?_
    refine z_iconst dX12_barring_24 ki_1 ?_
    obtain ⟨q3, h⟩ := h
    refine z_iadd dX12_barring_25 q3 ?_
    obtain ⟨q4, h⟩ := h
    refine y_iald (x := (M 235 ((104 + (2 * x3)) + 1))) dX12_barring_26 sh235 q4 rfl ?_
    refine y_istore (ls' := [(2, 234), (0, x1), (0, x2), (0, x3), (0, (M 235 ((104 + (2 * x3)) + 1)))]) dX12_barring_27 rfl rfl ?_
    refine z_iloadn dX12_barring_29 rfl ?_
    refine z_iflt (tgt := 39) dX12_barring_30 rfl (fun q => ?_) (fun q => ?_)
    · replace h := h.1 q
      refine z_aloadn dX12_barring_39 rfl (Or.inl rfl) ?_
      refine z_iload dX12_barring_40 rfl ?_
      refine z_iloadn dX12_barring_42 rfl ?_
      refine z_aloadn dX12_barring_43 rfl (Or.inl rfl) ?_
      refine y_getr (v := 235) hG dX12_barring_44 fX12_7 sh234 (by decide) rfl (by decide +kernel) (by decide) ?_
      refine z_iconst dX12_barring_47 ki_4 ?_
      refine y_iald (x := (M 235 4)) dX12_barring_48 sh235 ⟨by decide, by decide⟩ rfl ?_
      refine y_cv (mt2 := mX12_isAlike) (en := [(2, 234), (0, (M 235 ((104 + (2 * x3)) + 1))), (0, x1), (0, (M 235 4)), (9, 0), (9, 0)]) (st := []) (as := [(0, (M 235 ((104 + (2 * x3)) + 1))), (0, x1), (0, (M 235 4))]) dX12_barring_49 lX12_471 kX12_isAlike iX12_isAlike eX12_isAlike rfl sh234 (by decide +kernel) (Nat.le_of_ble_eq_true rfl) (Nat.le_of_ble_eq_true rfl) rfl ?_
      exact h
    · replace h := h.2 q
      refine z_iload dX12_barring_33 rfl ?_
      refine z_iloadn dX12_barring_35 rfl ?_
      refine z_icmpge (tgt := 58) dX12_barring_36 rfl (fun q => ?_) (fun q => ?_)
      · replace h := h.1 q
        obtain ⟨q5, h⟩ := h
        refine y_iinc (ls' := [(2, 234), (0, x1), (0, x2), (0, (x3 + 1)), (0, (M 235 ((104 + (2 * x3)) + 1)))]) dX12_barring_58 rfl rfl q5 rfl ?_
        refine z_goto (tgt := 4) dX12_barring_61 rfl ?_
        refine z_sub (ls' := [(2, 234), (0, x1), (0, x2), (0, (x3 + 1)), (9, 0)]) ⟨Or.inl rfl, Or.inl rfl, Or.inl rfl, Or.inl rfl, Or.inr rfl, trivial⟩ ?_
        exact h
      · replace h := h.2 q
        refine z_aloadn dX12_barring_39 rfl (Or.inl rfl) ?_
        refine z_iload dX12_barring_40 rfl ?_
        refine z_iloadn dX12_barring_42 rfl ?_
        refine z_aloadn dX12_barring_43 rfl (Or.inl rfl) ?_
        refine y_getr (v := 235) hG dX12_barring_44 fX12_7 sh234 (by decide) rfl (by decide +kernel) (by decide) ?_
        refine z_iconst dX12_barring_47 ki_4 ?_
        refine y_iald (x := (M 235 4)) dX12_barring_48 sh235 ⟨by decide, by decide⟩ rfl ?_
        refine y_cv (mt2 := mX12_isAlike) (en := [(2, 234), (0, (M 235 ((104 + (2 * x3)) + 1))), (0, x1), (0, (M 235 4)), (9, 0), (9, 0)]) (st := []) (as := [(0, (M 235 ((104 + (2 * x3)) + 1))), (0, x1), (0, (M 235 4))]) dX12_barring_49 lX12_471 kX12_isAlike iX12_isAlike eX12_isAlike rfl sh234 (by decide +kernel) (Nat.le_of_ble_eq_true rfl) (Nat.le_of_ble_eq_true rfl) rfl ?_
        exact h
set_option maxRecDepth 20000 in
set_option maxHeartbeats 4000000 in
theorem bX12_barring_52 {G : zG} {d : Nat} {M : zM} {Q : zV → zM → Prop} (hG : zP G) {x1 x2 x3 x4 x49 : Int}
    (h : ((x49 = 0 → (-2147483648 ≤ x3 + 1 ∧ x3 + 1 ≤ 2147483647) ∧ Y G (d + 1) mX12_barring 4 [(2, 234), (0, x1), (0, x2), (0, (x3 + 1)), (9, 0)] [] M Q) ∧ (¬ x49 = 0 → (-2147483648 ≤ x3 + 1 ∧ x3 + 1 ≤ 2147483647) ∧ Y G (d + 1) mX12_barring 4 [(2, 234), (0, x1), (0, x4), (0, (x3 + 1)), (9, 0)] [] M Q))) :
    Y G (d + 1) mX12_barring 52 [(2, 234), (0, x1), (0, x2), (0, x3), (0, x4)] [(0, x49)] M Q := by
  refine z_ifeq (tgt := 58) dX12_barring_52 rfl (fun q => ?_) (fun q => ?_)
  · replace h := h.1 q
    obtain ⟨q1, h⟩ := h
    refine y_iinc (ls' := [(2, 234), (0, x1), (0, x2), (0, (x3 + 1)), (0, x4)]) dX12_barring_58 rfl rfl q1 rfl ?_
    refine z_goto (tgt := 4) dX12_barring_61 rfl ?_
    refine z_sub (ls' := [(2, 234), (0, x1), (0, x2), (0, (x3 + 1)), (9, 0)]) ⟨Or.inl rfl, Or.inl rfl, Or.inl rfl, Or.inl rfl, Or.inr rfl, trivial⟩ ?_
    exact h
  · replace h := h.2 q
    refine z_iload dX12_barring_55 rfl ?_
    refine y_istoren (ls' := [(2, 234), (0, x1), (0, x4), (0, x3), (0, x4)]) dX12_barring_57 rfl rfl ?_
    obtain ⟨q2, h⟩ := h
    refine y_iinc (ls' := [(2, 234), (0, x1), (0, x4), (0, (x3 + 1)), (0, x4)]) dX12_barring_58 rfl rfl q2 rfl ?_
    refine z_goto (tgt := 4) dX12_barring_61 rfl ?_
    refine z_sub (ls' := [(2, 234), (0, x1), (0, x4), (0, (x3 + 1)), (9, 0)]) ⟨Or.inl rfl, Or.inl rfl, Or.inl rfl, Or.inl rfl, Or.inr rfl, trivial⟩ ?_
    exact h
set_option maxRecDepth 20000 in
set_option maxHeartbeats 4000000 in
theorem bX12_barred_0 {G : zG} {d : Nat} {M : zM} {Q : zV → zM → Prop} (hG : zP G) {x1 : Int}
    (h : (-1000 ≤ (M 235 0) ∧ (M 235 0) ≤ 1000) ∧ ((0 ≤ x1 ∧ x1 < (M 235 0) → Y G (d + 1) mX12_barring 0 [(2, 234), (0, x1), (9, 0), (9, 0), (9, 0)] [] M (fun r M' => Y G (d + 2) mX12_barred 13 [(2, 234), (0, x1)] (zpush r []) M' Q)) ∧ (¬ (0 ≤ x1 ∧ x1 < (M 235 0)) → Q (0, (-1)) M))) :
    Y G (d + 2) mX12_barred 0 [(2, 234), (0, x1)] [] M Q := by
  refine z_aloadn dX12_barred_0 rfl (Or.inl rfl) ?_
  refine z_iloadn dX12_barred_1 rfl ?_
  obtain ⟨q1, h⟩ := h
  refine y_cv (mt2 := mX12_isQuestion) (en := [(2, 234), (0, x1)]) (st := []) (as := [(0, x1)]) dX12_barred_2 lX12_392 kX12_isQuestion iX12_isQuestion eX12_isQuestion rfl sh234 (by decide +kernel) (Nat.le_of_ble_eq_true rfl) (Nat.le_of_ble_eq_true rfl) rfl (s_misQuestion hG rfl q1 (fun q => ?_) (fun q => ?_))
  · replace h := h.1 q
    show Y G (d + 2) mX12_barred 5 [(2, 234), (0, x1)] [(0, 1)] M Q
    refine z_ifeq (tgt := 16) dX12_barred_5 rfl (fun q => absurd q (by decide)) (fun _ => ?_)
    refine z_aloadn dX12_barred_8 rfl (Or.inl rfl) ?_
    refine z_iloadn dX12_barred_9 rfl ?_
    refine y_cv (mt2 := mX12_barring) (en := [(2, 234), (0, x1), (9, 0), (9, 0), (9, 0)]) (st := []) (as := [(0, x1)]) dX12_barred_10 lX12_492 kX12_barring iX12_barring eX12_barring rfl sh234 (by decide +kernel) (Nat.le_of_ble_eq_true rfl) (Nat.le_of_ble_eq_true rfl) rfl ?_
    exact h
  · replace h := h.2 q
    show Y G (d + 2) mX12_barred 5 [(2, 234), (0, x1)] [(0, 0)] M Q
    refine z_ifeq (tgt := 16) dX12_barred_5 rfl (fun _ => ?_) (fun q => absurd q (by decide))
    refine z_iconst dX12_barred_16 ki_m1 ?_
    exact z_ireturn dX12_barred_17 (Or.inl rfl) rfl h
set_option maxRecDepth 20000 in
set_option maxHeartbeats 4000000 in
theorem bX12_barred_13 {G : zG} {d : Nat} {M : zM} {Q : zV → zM → Prop} (hG : zP G) {x1 x49 : Int}
    (h : Q (0, x49) M) :
    Y G (d + 2) mX12_barred 13 [(2, 234), (0, x1)] [(0, x49)] M Q := by
  refine z_goto (tgt := 17) dX12_barred_13 rfl ?_
  exact z_ireturn dX12_barred_17 (Or.inl rfl) rfl h
set_option maxRecDepth 20000 in
set_option maxHeartbeats 4000000 in
theorem bX12_why_0 {G : zG} {d : Nat} {M : zM} {Q : zV → zM → Prop} (hG : zP G) {x1 x2 : Int}
    (h : (-1000 ≤ (M 235 2) ∧ (M 235 2) ≤ 1000) ∧ ((0 ≤ x1 ∧ x1 < (M 235 2) → (-1000 ≤ (M 235 0) ∧ (M 235 0) ≤ 1000) ∧ ((0 ≤ x2 ∧ x2 < (M 235 0) → Y G (d + 1) mX12_hasAsked 0 [(2, 234), (0, x1), (9, 0)] [] M (fun r M' => Y G (d + 2) mX12_why 23 [(2, 234), (0, x1), (0, x2)] (zpush r []) M' Q)) ∧ (¬ (0 ≤ x2 ∧ x2 < (M 235 0)) → Q (0, (-1)) M))) ∧ (¬ (0 ≤ x1 ∧ x1 < (M 235 2)) → Q (0, (-1)) M))) :
    Y G (d + 2) mX12_why 0 [(2, 234), (0, x1), (0, x2)] [] M Q := by
  refine z_aloadn dX12_why_0 rfl (Or.inl rfl) ?_
  refine z_iloadn dX12_why_1 rfl ?_
  obtain ⟨q1, h⟩ := h
  refine y_cv (mt2 := mX12_isPupil) (en := [(2, 234), (0, x1)]) (st := []) (as := [(0, x1)]) dX12_why_2 lX12_480 kX12_isPupil iX12_isPupil eX12_isPupil rfl sh234 (by decide +kernel) (Nat.le_of_ble_eq_true rfl) (Nat.le_of_ble_eq_true rfl) rfl (s_misPupil hG rfl q1 (fun q => ?_) (fun q => ?_))
  · replace h := h.1 q
    show Y G (d + 2) mX12_why 5 [(2, 234), (0, x1), (0, x2)] [(0, 1)] M Q
    refine z_ifeq (tgt := 16) dX12_why_5 rfl (fun q => absurd q (by decide)) (fun _ => ?_)
    refine z_aloadn dX12_why_8 rfl (Or.inl rfl) ?_
    refine z_iloadn dX12_why_9 rfl ?_
    obtain ⟨q2, h⟩ := h
    refine y_cv (mt2 := mX12_isQuestion) (en := [(2, 234), (0, x2)]) (st := []) (as := [(0, x2)]) dX12_why_10 lX12_392 kX12_isQuestion iX12_isQuestion eX12_isQuestion rfl sh234 (by decide +kernel) (Nat.le_of_ble_eq_true rfl) (Nat.le_of_ble_eq_true rfl) rfl (s_misQuestion hG rfl q2 (fun q => ?_) (fun q => ?_))
    · replace h := h.1 q
      show Y G (d + 2) mX12_why 13 [(2, 234), (0, x1), (0, x2)] [(0, 1)] M Q
      refine z_ifne (tgt := 18) dX12_why_13 rfl (fun _ => ?_) (fun q => absurd q (by decide))
      refine z_aloadn dX12_why_18 rfl (Or.inl rfl) ?_
      refine z_iloadn dX12_why_19 rfl ?_
      refine y_cv (mt2 := mX12_hasAsked) (en := [(2, 234), (0, x1), (9, 0)]) (st := []) (as := [(0, x1)]) dX12_why_20 lX12_495 kX12_hasAsked iX12_hasAsked eX12_hasAsked rfl sh234 (by decide +kernel) (Nat.le_of_ble_eq_true rfl) (Nat.le_of_ble_eq_true rfl) rfl ?_
      exact h
    · replace h := h.2 q
      show Y G (d + 2) mX12_why 13 [(2, 234), (0, x1), (0, x2)] [(0, 0)] M Q
      refine z_ifne (tgt := 18) dX12_why_13 rfl (fun q => absurd q (by decide)) (fun _ => ?_)
      refine z_iconst dX12_why_16 ki_m1 ?_
      exact z_ireturn dX12_why_17 (Or.inl rfl) rfl h
  · replace h := h.2 q
    show Y G (d + 2) mX12_why 5 [(2, 234), (0, x1), (0, x2)] [(0, 0)] M Q
    refine z_ifeq (tgt := 16) dX12_why_5 rfl (fun _ => ?_) (fun q => absurd q (by decide))
    refine z_iconst dX12_why_16 ki_m1 ?_
    exact z_ireturn dX12_why_17 (Or.inl rfl) rfl h
set_option maxRecDepth 20000 in
set_option maxHeartbeats 4000000 in
theorem bX12_why_23 {G : zG} {d : Nat} {M : zM} {Q : zV → zM → Prop} (hG : zP G) {x1 x2 x49 : Int}
    (h : ((x49 = 0 → Y G (d + 1) mX12_can 0 [(2, 234), (0, x1), (0, x2)] [] M (fun r M' => Y G (d + 2) mX12_why 34 [(2, 234), (0, x1), (0, x2)] (zpush r []) M' Q)) ∧ (¬ x49 = 0 → Q (0, 1) M))) :
    Y G (d + 2) mX12_why 23 [(2, 234), (0, x1), (0, x2)] [(0, x49)] M Q := by
  refine z_ifeq (tgt := 28) dX12_why_23 rfl (fun q => ?_) (fun q => ?_)
  · replace h := h.1 q
    refine z_aloadn dX12_why_28 rfl (Or.inl rfl) ?_
    refine z_iloadn dX12_why_29 rfl ?_
    refine z_iloadn dX12_why_30 rfl ?_
    refine y_cv (mt2 := mX12_can) (en := [(2, 234), (0, x1), (0, x2)]) (st := []) (as := [(0, x1), (0, x2)]) dX12_why_31 lX12_498 kX12_can iX12_can eX12_can rfl sh234 (by decide +kernel) (Nat.le_of_ble_eq_true rfl) (Nat.le_of_ble_eq_true rfl) rfl ?_
    exact h
  · replace h := h.2 q
    refine z_iconst dX12_why_26 ki_1 ?_
    exact z_ireturn dX12_why_27 (Or.inl rfl) rfl h
set_option maxRecDepth 20000 in
set_option maxHeartbeats 4000000 in
theorem bX12_why_34 {G : zG} {d : Nat} {M : zM} {Q : zV → zM → Prop} (hG : zP G) {x1 x2 x49 : Int}
    (h : ((¬ x49 = 0 → Y G (d + 1) mX12_worldNow 0 [(2, 234), (9, 0)] [] M (fun r M' => Y G (d + 2) mX12_why 43 [(2, 234), (0, x1), (0, x2)] (zpush r []) M' Q)) ∧ (x49 = 0 → Q (0, 2) M))) :
    Y G (d + 2) mX12_why 34 [(2, 234), (0, x1), (0, x2)] [(0, x49)] M Q := by
  refine z_ifne (tgt := 39) dX12_why_34 rfl (fun q => ?_) (fun q => ?_)
  · replace h := h.1 q
    refine z_aloadn dX12_why_39 rfl (Or.inl rfl) ?_
    refine y_cv (mt2 := mX12_worldNow) (en := [(2, 234), (9, 0)]) (st := []) (as := []) dX12_why_40 lX12_396 kX12_worldNow iX12_worldNow eX12_worldNow rfl sh234 (by decide +kernel) (Nat.le_of_ble_eq_true rfl) (Nat.le_of_ble_eq_true rfl) rfl ?_
    exact h
  · replace h := h.2 q
    refine z_iconst dX12_why_37 ki_2 ?_
    exact z_ireturn dX12_why_38 (Or.inl rfl) rfl h
set_option maxRecDepth 20000 in
set_option maxHeartbeats 4000000 in
theorem bX12_why_43 {G : zG} {d : Nat} {M : zM} {Q : zV → zM → Prop} (hG : zP G) {x1 x2 : Int}
    (h : Y G (d + 1) mX12_answerOf 0 [(2, 234), (0, x2), (9, 0), (9, 0), (9, 0), (9, 0), (9, 0), (9, 0), (9, 0), (9, 0)] [] M (fun r M' => Y G (d + 2) mX12_why 48 [(2, 234), (0, x1), (0, x2)] (zpush r []) M' Q)) :
    Y G (d + 2) mX12_why 43 [(2, 234), (0, x1), (0, x2)] [] M Q := by
  refine z_aloadn dX12_why_43 rfl (Or.inl rfl) ?_
  refine z_iloadn dX12_why_44 rfl ?_
  refine y_cv (mt2 := mX12_answerOf) (en := [(2, 234), (0, x2), (9, 0), (9, 0), (9, 0), (9, 0), (9, 0), (9, 0), (9, 0), (9, 0)]) (st := []) (as := [(0, x2)]) dX12_why_45 lX12_399 kX12_answerOf iX12_answerOf eX12_answerOf rfl sh234 (by decide +kernel) (Nat.le_of_ble_eq_true rfl) (Nat.le_of_ble_eq_true rfl) rfl ?_
  exact h
set_option maxRecDepth 20000 in
set_option maxHeartbeats 4000000 in
theorem bX12_why_48 {G : zG} {d : Nat} {M : zM} {Q : zV → zM → Prop} (hG : zP G) {x1 x2 x49 : Int}
    (h : (((zlcmp x49 (M 235 3)) = 0 → Y G (d + 1) mX12_barring 0 [(2, 234), (0, x2), (9, 0), (9, 0), (9, 0)] [] M (fun r M' => Y G (d + 2) mX12_why 66 [(2, 234), (0, x1), (0, x2)] (zpush r []) M' Q)) ∧ (¬ (zlcmp x49 (M 235 3)) = 0 → Q (0, 3) M))) :
    Y G (d + 2) mX12_why 48 [(2, 234), (0, x1), (0, x2)] [(1, x49)] M Q := by
  refine z_aloadn dX12_why_48 rfl (Or.inl rfl) ?_
  refine y_getr (v := 235) hG dX12_why_49 fX12_7 sh234 (by decide) rfl (by decide +kernel) (by decide) ?_
  refine z_iconst dX12_why_52 ki_3 ?_
  refine y_iald (x := (M 235 3)) dX12_why_53 sh235 ⟨by decide, by decide⟩ rfl ?_
  refine z_i2l dX12_why_54 ?_
  refine z_lcmp dX12_why_55 ?_
  refine z_ifeq (tgt := 61) dX12_why_56 rfl (fun q => ?_) (fun q => ?_)
  · replace h := h.1 q
    refine z_aloadn dX12_why_61 rfl (Or.inl rfl) ?_
    refine z_iloadn dX12_why_62 rfl ?_
    refine y_cv (mt2 := mX12_barring) (en := [(2, 234), (0, x2), (9, 0), (9, 0), (9, 0)]) (st := []) (as := [(0, x2)]) dX12_why_63 lX12_492 kX12_barring iX12_barring eX12_barring rfl sh234 (by decide +kernel) (Nat.le_of_ble_eq_true rfl) (Nat.le_of_ble_eq_true rfl) rfl ?_
    exact h
  · replace h := h.2 q
    refine z_iconst dX12_why_59 ki_3 ?_
    exact z_ireturn dX12_why_60 (Or.inl rfl) rfl h
set_option maxRecDepth 20000 in
set_option maxHeartbeats 4000000 in
theorem bX12_why_66 {G : zG} {d : Nat} {M : zM} {Q : zV → zM → Prop} (hG : zP G) {x1 x2 x49 : Int}
    (h : ((x49 < 0 → Q (0, 0) M) ∧ (0 ≤ x49 → Q (0, 4) M))) :
    Y G (d + 2) mX12_why 66 [(2, 234), (0, x1), (0, x2)] [(0, x49)] M Q := by
  refine z_iflt (tgt := 73) dX12_why_66 rfl (fun q => ?_) (fun q => ?_)
  · replace h := h.1 q
    refine z_iconst dX12_why_73 ki_0 ?_
    exact z_ireturn dX12_why_74 (Or.inl rfl) rfl h
  · replace h := h.2 q
    refine z_iconst dX12_why_69 ki_4 ?_
    refine z_goto (tgt := 74) dX12_why_70 rfl ?_
    exact z_ireturn dX12_why_74 (Or.inl rfl) rfl h
set_option maxRecDepth 20000 in
set_option maxHeartbeats 4000000 in
theorem bX12_ask_0 {G : zG} {d : Nat} {M : zM} {Q : zV → zM → Prop} (hG : zP G) {x1 x2 : Int}
    (h : Y G d mX12_why 0 [(2, 234), (0, x1), (0, x2)] [] M (fun r M' => Y G (d + 1) mX12_ask 6 [(2, 234), (0, x1), (0, x2)] (zpush r []) M' Q)) :
    Y G (d + 1) mX12_ask 0 [(2, 234), (0, x1), (0, x2)] [] M Q := by
  refine z_aloadn dX12_ask_0 rfl (Or.inl rfl) ?_
  refine z_iloadn dX12_ask_1 rfl ?_
  refine z_iloadn dX12_ask_2 rfl ?_
  refine y_cv (mt2 := mX12_why) (en := [(2, 234), (0, x1), (0, x2)]) (st := []) (as := [(0, x1), (0, x2)]) dX12_ask_3 lX12_501 kX12_why iX12_why eX12_why rfl sh234 (by decide +kernel) (Nat.le_of_ble_eq_true rfl) (Nat.le_of_ble_eq_true rfl) rfl ?_
  exact h
set_option maxRecDepth 20000 in
set_option maxHeartbeats 4000000 in
theorem bX12_ask_6 {G : zG} {d : Nat} {M : zM} {Q : zV → zM → Prop} (hG : zP G) {x1 x2 x49 : Int}
    (h : ((x49 = 0 → (-2147483648 ≤ 2 * (M 235 5) ∧ 2 * (M 235 5) ≤ 2147483647) ∧ (-2147483648 ≤ 104 + (2 * (M 235 5)) ∧ 104 + (2 * (M 235 5)) ≤ 2147483647) ∧ (0 ≤ (104 + (2 * (M 235 5))) ∧ (104 + (2 * (M 235 5))) < 156) ∧ (¬ 5 = (104 + (2 * (M 235 5)))) ∧ (-2147483648 ≤ 2 * (M 235 5) ∧ 2 * (M 235 5) ≤ 2147483647) ∧ (-2147483648 ≤ 104 + (2 * (M 235 5)) ∧ 104 + (2 * (M 235 5)) ≤ 2147483647) ∧ (-2147483648 ≤ (104 + (2 * (M 235 5))) + 1 ∧ (104 + (2 * (M 235 5))) + 1 ≤ 2147483647) ∧ (0 ≤ ((104 + (2 * (M 235 5))) + 1) ∧ ((104 + (2 * (M 235 5))) + 1) < 156) ∧ (¬ 5 = ((104 + (2 * (M 235 5))) + 1)) ∧ (¬ 5 = (104 + (2 * (M 235 5)))) ∧ (-2147483648 ≤ (M 235 5) + 1 ∧ (M 235 5) + 1 ≤ 2147483647) ∧ Q (0, ((M 235 5) + 1)) (zset (zset (zset M 235 (104 + (2 * (M 235 5))) x1) 235 ((104 + (2 * (M 235 5))) + 1) x2) 235 5 ((M 235 5) + 1))) ∧ (¬ x49 = 0 → Q (0, (-1)) M))) :
    Y G (d + 1) mX12_ask 6 [(2, 234), (0, x1), (0, x2)] [(0, x49)] M Q := by
  refine z_ifeq (tgt := 11) dX12_ask_6 rfl (fun q => ?_) (fun q => ?_)
  · replace h := h.1 q
    refine z_aloadn dX12_ask_11 rfl (Or.inl rfl) ?_
    refine y_getr (v := 235) hG dX12_ask_12 fX12_7 sh234 (by decide) rfl (by decide +kernel) (by decide) ?_
    refine z_bipush dX12_ask_15 kb_104 ?_
    refine z_iconst dX12_ask_17 ki_2 ?_
    refine z_aloadn dX12_ask_18 rfl (Or.inl rfl) ?_
    refine y_getr (v := 235) hG dX12_ask_19 fX12_7 sh234 (by decide) rfl (by decide +kernel) (by decide) ?_
    refine z_iconst dX12_ask_22 ki_5 ?_
    refine y_iald (x := (M 235 5)) dX12_ask_23 sh235 ⟨by decide, by decide⟩ rfl ?_
    obtain ⟨q1, h⟩ := h
    refine z_imul dX12_ask_24 q1 ?_
    obtain ⟨q2, h⟩ := h
    refine z_iadd dX12_ask_25 q2 ?_
    refine z_iloadn dX12_ask_26 rfl ?_
    obtain ⟨q3, h⟩ := h
    refine y_iast hG dX12_ask_27 sh235 q3 ?_
    refine z_aloadn dX12_ask_28 rfl (Or.inl rfl) ?_
    refine y_getr (v := 235) hG dX12_ask_29 fX12_7 sh234 (by decide) rfl (by decide +kernel) (by decide) ?_
    refine z_bipush dX12_ask_32 kb_104 ?_
    refine z_iconst dX12_ask_34 ki_2 ?_
    refine z_aloadn dX12_ask_35 rfl (Or.inl rfl) ?_
    refine y_getr (v := 235) hG dX12_ask_36 fX12_7 sh234 (by decide) rfl (by decide +kernel) (by decide) ?_
    refine z_iconst dX12_ask_39 ki_5 ?_
    obtain ⟨q4, h⟩ := h
    refine y_iald (x := (M 235 5)) dX12_ask_40 sh235 ⟨by decide, by decide⟩ (zset_ne (fun q => absurd q.2 q4)) ?_
    obtain ⟨q5, h⟩ := h
    refine z_imul dX12_ask_41 q5 ?_
    obtain ⟨q6, h⟩ := h
    refine z_iadd dX12_ask_42 q6 ?_
    refine z_iconst dX12_ask_43 ki_1 ?_
    obtain ⟨q7, h⟩ := h
    refine z_iadd dX12_ask_44 q7 ?_
    refine z_iloadn dX12_ask_45 rfl ?_
    obtain ⟨q8, h⟩ := h
    refine y_iast hG dX12_ask_46 sh235 q8 ?_
    refine z_aloadn dX12_ask_47 rfl (Or.inl rfl) ?_
    refine y_getr (v := 235) hG dX12_ask_48 fX12_7 sh234 (by decide) rfl (by decide +kernel) (by decide) ?_
    refine z_iconst dX12_ask_51 ki_5 ?_
    refine z_dup2 dX12_ask_52 (show (0 : Nat) ≠ 1 by decide) (show (2 : Nat) ≠ 1 by decide) ?_
    obtain ⟨q9, h⟩ := h
    obtain ⟨q10, h⟩ := h
    refine y_iald (x := (M 235 5)) dX12_ask_53 sh235 ⟨by decide, by decide⟩ (((zset_ne (fun q => absurd q.2 q9)).trans (zset_ne (fun q => absurd q.2 q10)))) ?_
    refine z_iconst dX12_ask_54 ki_1 ?_
    obtain ⟨q11, h⟩ := h
    refine z_iadd dX12_ask_55 q11 ?_
    refine y_iast hG dX12_ask_56 sh235 ⟨by decide, by decide⟩ ?_
    refine z_aloadn dX12_ask_57 rfl (Or.inl rfl) ?_
    refine y_getr (v := 235) hG dX12_ask_58 fX12_7 sh234 (by decide) rfl (by decide +kernel) (by decide) ?_
    refine z_iconst dX12_ask_61 ki_5 ?_
    refine y_iald (x := ((M 235 5) + 1)) dX12_ask_62 sh235 ⟨by decide, by decide⟩ zset_same ?_
    exact z_ireturn dX12_ask_63 (Or.inl rfl) rfl h
  · replace h := h.2 q
    refine z_iconst dX12_ask_9 ki_m1 ?_
    exact z_ireturn dX12_ask_10 (Or.inl rfl) rfl h
set_option maxRecDepth 20000 in
set_option maxHeartbeats 4000000 in
theorem bX12_undo_0 {G : zG} {d : Nat} {M : zM} {Q : zV → zM → Prop} (hG : zP G)
    (h : ((¬ (M 235 5) = 0 → (-2147483648 ≤ (M 235 5) - 1 ∧ (M 235 5) - 1 ≤ 2147483647) ∧ Q (0, ((M 235 5) - 1)) (zset M 235 5 ((M 235 5) - 1))) ∧ ((M 235 5) = 0 → Q (0, (-1)) M))) :
    Y G d mX12_undo 0 [(2, 234)] [] M Q := by
  refine z_aloadn dX12_undo_0 rfl (Or.inl rfl) ?_
  refine y_getr (v := 235) hG dX12_undo_1 fX12_7 sh234 (by decide) rfl (by decide +kernel) (by decide) ?_
  refine z_iconst dX12_undo_4 ki_5 ?_
  refine y_iald (x := (M 235 5)) dX12_undo_5 sh235 ⟨by decide, by decide⟩ rfl ?_
  refine z_ifne (tgt := 11) dX12_undo_6 rfl (fun q => ?_) (fun q => ?_)
  · replace h := h.1 q
    refine z_aloadn dX12_undo_11 rfl (Or.inl rfl) ?_
    refine y_getr (v := 235) hG dX12_undo_12 fX12_7 sh234 (by decide) rfl (by decide +kernel) (by decide) ?_
    refine z_iconst dX12_undo_15 ki_5 ?_
    refine z_dup2 dX12_undo_16 (show (0 : Nat) ≠ 1 by decide) (show (2 : Nat) ≠ 1 by decide) ?_
    refine y_iald (x := (M 235 5)) dX12_undo_17 sh235 ⟨by decide, by decide⟩ rfl ?_
    refine z_iconst dX12_undo_18 ki_1 ?_
    obtain ⟨q1, h⟩ := h
    refine z_isub dX12_undo_19 q1 ?_
    refine y_iast hG dX12_undo_20 sh235 ⟨by decide, by decide⟩ ?_
    refine z_aloadn dX12_undo_21 rfl (Or.inl rfl) ?_
    refine y_getr (v := 235) hG dX12_undo_22 fX12_7 sh234 (by decide) rfl (by decide +kernel) (by decide) ?_
    refine z_iconst dX12_undo_25 ki_5 ?_
    refine y_iald (x := ((M 235 5) - 1)) dX12_undo_26 sh235 ⟨by decide, by decide⟩ zset_same ?_
    exact z_ireturn dX12_undo_27 (Or.inl rfl) rfl h
  · replace h := h.2 q
    refine z_iconst dX12_undo_9 ki_m1 ?_
    exact z_ireturn dX12_undo_10 (Or.inl rfl) rfl h
set_option maxRecDepth 20000 in
set_option maxHeartbeats 4000000 in
theorem bX12_asked_0 {G : zG} {d : Nat} {M : zM} {Q : zV → zM → Prop} (hG : zP G) {x1 x2 : Int}
    (h : ((¬ x1 = (-1) → (-2147483648 ≤ (M 235 5) - 1 ∧ (M 235 5) - 1 ≤ 2147483647) ∧ ((0 ≤ x1 ∧ x1 ≤ ((M 235 5) - 1) → (-2147483648 ≤ 2 * x1 ∧ 2 * x1 ≤ 2147483647) ∧ (-2147483648 ≤ 104 + (2 * x1) ∧ 104 + (2 * x1) ≤ 2147483647) ∧ ((x2 = 0 → (-2147483648 ≤ (104 + (2 * x1)) + 0 ∧ (104 + (2 * x1)) + 0 ≤ 2147483647) ∧ (0 ≤ ((104 + (2 * x1)) + 0) ∧ ((104 + (2 * x1)) + 0) < 156) ∧ Q (0, (M 235 ((104 + (2 * x1)) + 0))) M) ∧ (¬ x2 = 0 → (-2147483648 ≤ (104 + (2 * x1)) + 1 ∧ (104 + (2 * x1)) + 1 ≤ 2147483647) ∧ (0 ≤ ((104 + (2 * x1)) + 1) ∧ ((104 + (2 * x1)) + 1) < 156) ∧ Q (0, (M 235 ((104 + (2 * x1)) + 1))) M))) ∧ (¬ (0 ≤ x1 ∧ x1 ≤ ((M 235 5) - 1)) → Q (0, (-1)) M))) ∧ (x1 = (-1) → Q (0, (M 235 5)) M))) :
    Y G (d + 1) mX12_asked 0 [(2, 234), (0, x1), (0, x2)] [] M Q := by
  refine z_iloadn dX12_asked_0 rfl ?_
  refine z_iconst dX12_asked_1 ki_m1 ?_
  refine z_icmpne (tgt := 12) dX12_asked_2 rfl (fun q => ?_) (fun q => ?_)
  · replace h := h.1 q
    refine z_iloadn dX12_asked_12 rfl ?_
    refine z_iconst dX12_asked_13 ki_0 ?_
    refine z_aloadn dX12_asked_14 rfl (Or.inl rfl) ?_
    refine y_getr (v := 235) hG dX12_asked_15 fX12_7 sh234 (by decide) rfl (by decide +kernel) (by decide) ?_
    refine z_iconst dX12_asked_18 ki_5 ?_
    refine y_iald (x := (M 235 5)) dX12_asked_19 sh235 ⟨by decide, by decide⟩ rfl ?_
    refine z_iconst dX12_asked_20 ki_1 ?_
    obtain ⟨q1, h⟩ := h
    refine z_isub dX12_asked_21 q1 ?_
    refine y_cs (mt2 := mX12_isIn) (en := [(0, x1), (0, 0), (0, ((M 235 5) - 1))]) (st := []) (as := [(0, x1), (0, 0), (0, ((M 235 5) - 1))]) dX12_asked_22 lX12_126 kX12_isIn tX12_isIn rfl (Nat.le_of_ble_eq_true rfl) (Nat.le_of_ble_eq_true rfl) rfl (s_isIn hG (fun q => ?_) (fun q => ?_))
    · replace h := h.1 q
      show Y G (d + 1) mX12_asked 25 [(2, 234), (0, x1), (0, x2)] [(0, 1)] M Q
      refine z_ifeq (tgt := 52) dX12_asked_25 rfl (fun q => absurd q (by decide)) (fun _ => ?_)
      refine z_aloadn dX12_asked_28 rfl (Or.inl rfl) ?_
      refine y_getr (v := 235) hG dX12_asked_29 fX12_7 sh234 (by decide) rfl (by decide +kernel) (by decide) ?_
      refine z_bipush dX12_asked_32 kb_104 ?_
      refine z_iconst dX12_asked_34 ki_2 ?_
      refine z_iloadn dX12_asked_35 rfl ?_
      obtain ⟨q2, h⟩ := h
      refine z_imul dX12_asked_36 q2 ?_
      obtain ⟨q3, h⟩ := h
      refine z_iadd dX12_asked_37 q3 ?_
      refine z_iloadn dX12_asked_38 rfl ?_
      refine z_ifeq (tgt := 46) dX12_asked_39 rfl (fun q => ?_) (fun q => ?_)
      · replace h := h.1 q
        refine z_iconst dX12_asked_46 ki_0 ?_
        obtain ⟨q4, h⟩ := h
        refine z_iadd dX12_asked_47 q4 ?_
        obtain ⟨q5, h⟩ := h
        refine y_iald (x := (M 235 ((104 + (2 * x1)) + 0))) dX12_asked_48 sh235 q5 rfl ?_
        refine z_goto (tgt := 53) dX12_asked_49 rfl ?_
        exact z_ireturn dX12_asked_53 (Or.inl rfl) rfl h
      · replace h := h.2 q
        refine z_iconst dX12_asked_42 ki_1 ?_
        refine z_goto (tgt := 47) dX12_asked_43 rfl ?_
        obtain ⟨q6, h⟩ := h
        refine z_iadd dX12_asked_47 q6 ?_
        obtain ⟨q7, h⟩ := h
        refine y_iald (x := (M 235 ((104 + (2 * x1)) + 1))) dX12_asked_48 sh235 q7 rfl ?_
        refine z_goto (tgt := 53) dX12_asked_49 rfl ?_
        exact z_ireturn dX12_asked_53 (Or.inl rfl) rfl h
    · replace h := h.2 q
      show Y G (d + 1) mX12_asked 25 [(2, 234), (0, x1), (0, x2)] [(0, 0)] M Q
      refine z_ifeq (tgt := 52) dX12_asked_25 rfl (fun _ => ?_) (fun q => absurd q (by decide))
      refine z_iconst dX12_asked_52 ki_m1 ?_
      exact z_ireturn dX12_asked_53 (Or.inl rfl) rfl h
  · replace h := h.2 q
    refine z_aloadn dX12_asked_5 rfl (Or.inl rfl) ?_
    refine y_getr (v := 235) hG dX12_asked_6 fX12_7 sh234 (by decide) rfl (by decide +kernel) (by decide) ?_
    refine z_iconst dX12_asked_9 ki_5 ?_
    refine y_iald (x := (M 235 5)) dX12_asked_10 sh235 ⟨by decide, by decide⟩ rfl ?_
    exact z_ireturn dX12_asked_11 (Or.inl rfl) rfl h
set_option maxRecDepth 20000 in
set_option maxHeartbeats 4000000 in
theorem bX12_asksLowest_0 {G : zG} {d : Nat} {M : zM} {Q : zV → zM → Prop} (hG : zP G) {x1 : Int}
    (h : Y G (d + 1) mX12_asksLowest 2 [(2, 234), (0, x1), (0, 0)] [] M Q) :
    Y G (d + 1) mX12_asksLowest 0 [(2, 234), (0, x1), (9, 0)] [] M Q := by
  refine z_iconst dX12_asksLowest_0 ki_0 ?_
  refine y_istoren (ls' := [(2, 234), (0, x1), (0, 0)]) dX12_asksLowest_1 rfl rfl ?_
  exact h
set_option maxRecDepth 20000 in
set_option maxHeartbeats 4000000 in
theorem bX12_asksLowest_2 {G : zG} {d : Nat} {M : zM} {Q : zV → zM → Prop} (hG : zP G) {x1 x2 : Int}
    (h : (((M 235 0) ≤ x2 → Q (0, 0) M) ∧ (x2 < (M 235 0) → Y G d mX12_ask 0 [(2, 234), (0, x1), (0, x2)] [] M (fun r M' => Y G (d + 1) mX12_asksLowest 18 [(2, 234), (0, x1), (0, x2)] (zpush r []) M' Q)))) :
    Y G (d + 1) mX12_asksLowest 2 [(2, 234), (0, x1), (0, x2)] [] M Q := by
  refine z_iloadn dX12_asksLowest_2 rfl ?_
  refine z_aloadn dX12_asksLowest_3 rfl (Or.inl rfl) ?_
  refine y_getr (v := 235) hG dX12_asksLowest_4 fX12_7 sh234 (by decide) rfl (by decide +kernel) (by decide) ?_
  refine z_iconst dX12_asksLowest_7 ki_0 ?_
  refine y_iald (x := (M 235 0)) dX12_asksLowest_8 sh235 ⟨by decide, by decide⟩ rfl ?_
  refine z_icmpge (tgt := 29) dX12_asksLowest_9 rfl (fun q => ?_) (fun q => ?_)
  · replace h := h.1 q
    refine z_iconst dX12_asksLowest_29 ki_0 ?_
    exact z_ireturn dX12_asksLowest_30 (Or.inr ⟨rfl, ⟨by decide, by decide⟩⟩) rfl h
  · replace h := h.2 q
    refine z_aloadn dX12_asksLowest_12 rfl (Or.inl rfl) ?_
    refine z_iloadn dX12_asksLowest_13 rfl ?_
    refine z_iloadn dX12_asksLowest_14 rfl ?_
    refine y_cv (mt2 := mX12_ask) (en := [(2, 234), (0, x1), (0, x2)]) (st := []) (as := [(0, x1), (0, x2)]) dX12_asksLowest_15 lX12_358 kX12_ask iX12_ask eX12_ask rfl sh234 (by decide +kernel) (Nat.le_of_ble_eq_true rfl) (Nat.le_of_ble_eq_true rfl) rfl ?_
    exact h
set_option maxRecDepth 20000 in
set_option maxHeartbeats 4000000 in
theorem bX12_asksLowest_18 {G : zG} {d : Nat} {M : zM} {Q : zV → zM → Prop} (hG : zP G) {x1 x2 x49 : Int}
    (h : ((x49 < 0 → (-2147483648 ≤ x2 + 1 ∧ x2 + 1 ≤ 2147483647) ∧ Y G (d + 1) mX12_asksLowest 2 [(2, 234), (0, x1), (0, (x2 + 1))] [] M Q) ∧ (0 ≤ x49 → Q (0, 1) M))) :
    Y G (d + 1) mX12_asksLowest 18 [(2, 234), (0, x1), (0, x2)] [(0, x49)] M Q := by
  refine z_iflt (tgt := 23) dX12_asksLowest_18 rfl (fun q => ?_) (fun q => ?_)
  · replace h := h.1 q
    obtain ⟨q1, h⟩ := h
    refine y_iinc (ls' := [(2, 234), (0, x1), (0, (x2 + 1))]) dX12_asksLowest_23 rfl rfl q1 rfl ?_
    refine z_goto (tgt := 2) dX12_asksLowest_26 rfl ?_
    exact h
  · replace h := h.2 q
    refine z_iconst dX12_asksLowest_21 ki_1 ?_
    exact z_ireturn dX12_asksLowest_22 (Or.inr ⟨rfl, ⟨by decide, by decide⟩⟩) rfl h
set_option maxRecDepth 20000 in
set_option maxHeartbeats 4000000 in
theorem bX12_youngest_0 {G : zG} {d : Nat} {M : zM} {Q : zV → zM → Prop} (hG : zP G) {x1 : Int}
    (h : Y G (d + 1) mX12_youngest 4 [(2, 234), (0, x1), (0, (-1)), (0, 0)] [] M Q) :
    Y G (d + 1) mX12_youngest 0 [(2, 234), (0, x1), (9, 0), (9, 0)] [] M Q := by
  refine z_iconst dX12_youngest_0 ki_m1 ?_
  refine y_istoren (ls' := [(2, 234), (0, x1), (0, (-1)), (9, 0)]) dX12_youngest_1 rfl rfl ?_
  refine z_iconst dX12_youngest_2 ki_0 ?_
  refine y_istoren (ls' := [(2, 234), (0, x1), (0, (-1)), (0, 0)]) dX12_youngest_3 rfl rfl ?_
  exact h
set_option maxRecDepth 20000 in
set_option maxHeartbeats 4000000 in
theorem bX12_youngest_4 {G : zG} {d : Nat} {M : zM} {Q : zV → zM → Prop} (hG : zP G) {x1 x2 x3 : Int}
    (h : (((M 235 2) ≤ x3 → Q (0, x2) M) ∧ (x3 < (M 235 2) → ((zbit x1 x3 → ((x2 < 0 → (-2147483648 ≤ x3 + 1 ∧ x3 + 1 ≤ 2147483647) ∧ Y G (d + 1) mX12_youngest 4 [(2, 234), (0, x1), (0, x3), (0, (x3 + 1))] [] M Q) ∧ (0 ≤ x2 → ((0 ≤ x3 ∧ x3 < 6) ∧ (0 : Int) ≤ 0 ∧ 0 < (5 : Int)) ∧ ((0 ≤ x2 ∧ x2 < 6) ∧ (0 : Int) ≤ 0 ∧ 0 < (5 : Int)) ∧ (((M 235 (74 + 5 * x2 + 0)) ≤ (M 235 (74 + 5 * x3 + 0)) → (-2147483648 ≤ x3 + 1 ∧ x3 + 1 ≤ 2147483647) ∧ Y G (d + 1) mX12_youngest 4 [(2, 234), (0, x1), (0, x2), (0, (x3 + 1))] [] M Q) ∧ ((M 235 (74 + 5 * x3 + 0)) < (M 235 (74 + 5 * x2 + 0)) → (-2147483648 ≤ x3 + 1 ∧ x3 + 1 ≤ 2147483647) ∧ Y G (d + 1) mX12_youngest 4 [(2, 234), (0, x1), (0, x3), (0, (x3 + 1))] [] M Q))))) ∧ (¬ (zbit x1 x3) → (-2147483648 ≤ x3 + 1 ∧ x3 + 1 ≤ 2147483647) ∧ Y G (d + 1) mX12_youngest 4 [(2, 234), (0, x1), (0, x2), (0, (x3 + 1))] [] M Q))))) :
    Y G (d + 1) mX12_youngest 4 [(2, 234), (0, x1), (0, x2), (0, x3)] [] M Q := by
  refine z_iloadn dX12_youngest_4 rfl ?_
  refine z_aloadn dX12_youngest_5 rfl (Or.inl rfl) ?_
  refine y_getr (v := 235) hG dX12_youngest_6 fX12_7 sh234 (by decide) rfl (by decide +kernel) (by decide) ?_
  refine z_iconst dX12_youngest_9 ki_2 ?_
  refine y_iald (x := (M 235 2)) dX12_youngest_10 sh235 ⟨by decide, by decide⟩ rfl ?_
  refine z_icmpge (tgt := 49) dX12_youngest_11 rfl (fun q => ?_) (fun q => ?_)
  · replace h := h.1 q
    refine z_iloadn dX12_youngest_49 rfl ?_
    exact z_ireturn dX12_youngest_50 (Or.inl rfl) rfl h
  · replace h := h.2 q
    refine z_iloadn dX12_youngest_14 rfl ?_
    refine z_iloadn dX12_youngest_15 rfl ?_
    refine y_cs (mt2 := mX12_has) (en := [(0, x1), (0, x3)]) (st := []) (as := [(0, x1), (0, x3)]) dX12_youngest_16 lX12_373 kX12_has tX12_has rfl (Nat.le_of_ble_eq_true rfl) (Nat.le_of_ble_eq_true rfl) rfl (s_has hG (fun q => ?_) (fun q => ?_))
    · replace h := h.1 q
      show Y G (d + 1) mX12_youngest 19 [(2, 234), (0, x1), (0, x2), (0, x3)] [(0, 1)] M Q
      refine z_ifeq (tgt := 43) dX12_youngest_19 rfl (fun q => absurd q (by decide)) (fun _ => ?_)
      refine z_iloadn dX12_youngest_22 rfl ?_
      refine z_iflt (tgt := 41) dX12_youngest_23 rfl (fun q => ?_) (fun q => ?_)
      · replace h := h.1 q
        refine z_iloadn dX12_youngest_41 rfl ?_
        refine y_istoren (ls' := [(2, 234), (0, x1), (0, x3), (0, x3)]) dX12_youngest_42 rfl rfl ?_
        obtain ⟨q1, h⟩ := h
        refine y_iinc (ls' := [(2, 234), (0, x1), (0, x3), (0, (x3 + 1))]) dX12_youngest_43 rfl rfl q1 rfl ?_
        refine z_goto (tgt := 4) dX12_youngest_46 rfl ?_
        exact h
      · replace h := h.2 q
        refine z_aloadn dX12_youngest_26 rfl (Or.inl rfl) ?_
        refine z_iloadn dX12_youngest_27 rfl ?_
        refine z_iconst dX12_youngest_28 ki_0 ?_
        obtain ⟨q2, h⟩ := h
        refine y_cv (mt2 := mX12_pupilOf) (en := [(2, 234), (0, x3), (0, 0)]) (st := []) (as := [(0, x3), (0, 0)]) dX12_youngest_29 lX12_483 kX12_pupilOf iX12_pupilOf eX12_pupilOf rfl sh234 (by decide +kernel) (Nat.le_of_ble_eq_true rfl) (Nat.le_of_ble_eq_true rfl) rfl (s_pupilOf hG rfl q2 ?_)
        show Y G (d + 1) mX12_youngest 32 [(2, 234), (0, x1), (0, x2), (0, x3)] [(0, (M 235 (74 + 5 * x3 + 0)))] M Q
        refine z_aloadn dX12_youngest_32 rfl (Or.inl rfl) ?_
        refine z_iloadn dX12_youngest_33 rfl ?_
        refine z_iconst dX12_youngest_34 ki_0 ?_
        obtain ⟨q3, h⟩ := h
        refine y_cv (mt2 := mX12_pupilOf) (en := [(2, 234), (0, x2), (0, 0)]) (st := [(0, (M 235 (74 + 5 * x3 + 0)))]) (as := [(0, x2), (0, 0)]) dX12_youngest_35 lX12_483 kX12_pupilOf iX12_pupilOf eX12_pupilOf rfl sh234 (by decide +kernel) (Nat.le_of_ble_eq_true rfl) (Nat.le_of_ble_eq_true rfl) rfl (s_pupilOf hG rfl q3 ?_)
        show Y G (d + 1) mX12_youngest 38 [(2, 234), (0, x1), (0, x2), (0, x3)] [(0, (M 235 (74 + 5 * x2 + 0))), (0, (M 235 (74 + 5 * x3 + 0)))] M Q
        refine z_icmpge (tgt := 43) dX12_youngest_38 rfl (fun q => ?_) (fun q => ?_)
        · replace h := h.1 q
          obtain ⟨q4, h⟩ := h
          refine y_iinc (ls' := [(2, 234), (0, x1), (0, x2), (0, (x3 + 1))]) dX12_youngest_43 rfl rfl q4 rfl ?_
          refine z_goto (tgt := 4) dX12_youngest_46 rfl ?_
          exact h
        · replace h := h.2 q
          refine z_iloadn dX12_youngest_41 rfl ?_
          refine y_istoren (ls' := [(2, 234), (0, x1), (0, x3), (0, x3)]) dX12_youngest_42 rfl rfl ?_
          obtain ⟨q5, h⟩ := h
          refine y_iinc (ls' := [(2, 234), (0, x1), (0, x3), (0, (x3 + 1))]) dX12_youngest_43 rfl rfl q5 rfl ?_
          refine z_goto (tgt := 4) dX12_youngest_46 rfl ?_
          exact h
    · replace h := h.2 q
      show Y G (d + 1) mX12_youngest 19 [(2, 234), (0, x1), (0, x2), (0, x3)] [(0, 0)] M Q
      refine z_ifeq (tgt := 43) dX12_youngest_19 rfl (fun _ => ?_) (fun q => absurd q (by decide))
      obtain ⟨q6, h⟩ := h
      refine y_iinc (ls' := [(2, 234), (0, x1), (0, x2), (0, (x3 + 1))]) dX12_youngest_43 rfl rfl q6 rfl ?_
      refine z_goto (tgt := 4) dX12_youngest_46 rfl ?_
      exact h
set_option maxRecDepth 20000 in
set_option maxHeartbeats 4000000 in
theorem bX12_nth_0 {G : zG} {d : Nat} {M : zM} {Q : zV → zM → Prop} (hG : zP G) {x1 x2 : Int}
    (h : Y G (d + 1) mX12_nth 5 [(2, 234), (0, x1), (0, x2), (0, x2), (0, 0)] [] M Q) :
    Y G (d + 1) mX12_nth 0 [(2, 234), (0, x1), (0, x2), (9, 0), (9, 0)] [] M Q := by
  refine z_iloadn dX12_nth_0 rfl ?_
  refine y_istoren (ls' := [(2, 234), (0, x1), (0, x2), (0, x2), (9, 0)]) dX12_nth_1 rfl rfl ?_
  refine z_iconst dX12_nth_2 ki_0 ?_
  refine y_istore (ls' := [(2, 234), (0, x1), (0, x2), (0, x2), (0, 0)]) dX12_nth_3 rfl rfl ?_
  exact h
set_option maxRecDepth 20000 in
set_option maxHeartbeats 4000000 in
theorem bX12_nth_5 {G : zG} {d : Nat} {M : zM} {Q : zV → zM → Prop} (hG : zP G) {x1 x2 x3 x4 : Int}
    (h : ((zbit x1 x4 → ((x3 ≤ 0 → Q (0, x4) M) ∧ (0 < x3 → ((zbit x1 x4 → (-2147483648 ≤ x3 - 1 ∧ x3 - 1 ≤ 2147483647) ∧ (-2147483648 ≤ x4 + 1 ∧ x4 + 1 ≤ 2147483647) ∧ Y G (d + 1) mX12_nth 5 [(2, 234), (0, x1), (0, x2), (0, (x3 - 1)), (0, (x4 + 1))] [] M Q) ∧ (¬ (zbit x1 x4) → (-2147483648 ≤ x3 - 0 ∧ x3 - 0 ≤ 2147483647) ∧ (-2147483648 ≤ x4 + 1 ∧ x4 + 1 ≤ 2147483647) ∧ Y G (d + 1) mX12_nth 5 [(2, 234), (0, x1), (0, x2), (0, (x3 - 0)), (0, (x4 + 1))] [] M Q))))) ∧ (¬ (zbit x1 x4) → ((zbit x1 x4 → (-2147483648 ≤ x3 - 1 ∧ x3 - 1 ≤ 2147483647) ∧ (-2147483648 ≤ x4 + 1 ∧ x4 + 1 ≤ 2147483647) ∧ Y G (d + 1) mX12_nth 5 [(2, 234), (0, x1), (0, x2), (0, (x3 - 1)), (0, (x4 + 1))] [] M Q) ∧ (¬ (zbit x1 x4) → (-2147483648 ≤ x3 - 0 ∧ x3 - 0 ≤ 2147483647) ∧ (-2147483648 ≤ x4 + 1 ∧ x4 + 1 ≤ 2147483647) ∧ Y G (d + 1) mX12_nth 5 [(2, 234), (0, x1), (0, x2), (0, (x3 - 0)), (0, (x4 + 1))] [] M Q))))) :
    Y G (d + 1) mX12_nth 5 [(2, 234), (0, x1), (0, x2), (0, x3), (0, x4)] [] M Q := by
  refine z_iloadn dX12_nth_5 rfl ?_
  refine z_iload dX12_nth_6 rfl ?_
  refine y_cs (mt2 := mX12_has) (en := [(0, x1), (0, x4)]) (st := []) (as := [(0, x1), (0, x4)]) dX12_nth_8 lX12_373 kX12_has tX12_has rfl (Nat.le_of_ble_eq_true rfl) (Nat.le_of_ble_eq_true rfl) rfl (s_has hG (fun q => ?_) (fun q => ?_))
  · replace h := h.1 q
    show Y G (d + 1) mX12_nth 11 [(2, 234), (0, x1), (0, x2), (0, x3), (0, x4)] [(0, 1)] M Q
    refine z_ifeq (tgt := 18) dX12_nth_11 rfl (fun q => absurd q (by decide)) (fun _ => ?_)
    refine z_iloadn dX12_nth_14 rfl ?_
    refine z_ifle (tgt := 41) dX12_nth_15 rfl (fun q => ?_) (fun q => ?_)
    · replace h := h.1 q
      refine z_iload dX12_nth_41 rfl ?_
      exact z_ireturn dX12_nth_43 (Or.inl rfl) rfl h
    · replace h := h.2 q
      refine z_iloadn dX12_nth_18 rfl ?_
      refine z_iloadn dX12_nth_19 rfl ?_
      refine z_iload dX12_nth_20 rfl ?_
      refine y_cs (mt2 := mX12_has) (en := [(0, x1), (0, x4)]) (st := [(0, x3)]) (as := [(0, x1), (0, x4)]) dX12_nth_22 lX12_373 kX12_has tX12_has rfl (Nat.le_of_ble_eq_true rfl) (Nat.le_of_ble_eq_true rfl) rfl (s_has hG (fun q => ?_) (fun q => ?_))
      · replace h := h.1 q
        show Y G (d + 1) mX12_nth 25 [(2, 234), (0, x1), (0, x2), (0, x3), (0, x4)] [(0, 1), (0, x3)] M Q
        refine z_ifeq (tgt := 32) dX12_nth_25 rfl (fun q => absurd q (by decide)) (fun _ => ?_)
        refine z_iconst dX12_nth_28 ki_1 ?_
        refine z_goto (tgt := 33) dX12_nth_29 rfl ?_
        obtain ⟨q1, h⟩ := h
        refine z_isub dX12_nth_33 q1 ?_
        refine y_istoren (ls' := [(2, 234), (0, x1), (0, x2), (0, (x3 - 1)), (0, x4)]) dX12_nth_34 rfl rfl ?_
        obtain ⟨q2, h⟩ := h
        refine y_iinc (ls' := [(2, 234), (0, x1), (0, x2), (0, (x3 - 1)), (0, (x4 + 1))]) dX12_nth_35 rfl rfl q2 rfl ?_
        refine z_goto (tgt := 5) dX12_nth_38 rfl ?_
        exact h
      · replace h := h.2 q
        show Y G (d + 1) mX12_nth 25 [(2, 234), (0, x1), (0, x2), (0, x3), (0, x4)] [(0, 0), (0, x3)] M Q
        refine z_ifeq (tgt := 32) dX12_nth_25 rfl (fun _ => ?_) (fun q => absurd q (by decide))
        refine z_iconst dX12_nth_32 ki_0 ?_
        obtain ⟨q3, h⟩ := h
        refine z_isub dX12_nth_33 q3 ?_
        refine y_istoren (ls' := [(2, 234), (0, x1), (0, x2), (0, (x3 - 0)), (0, x4)]) dX12_nth_34 rfl rfl ?_
        obtain ⟨q4, h⟩ := h
        refine y_iinc (ls' := [(2, 234), (0, x1), (0, x2), (0, (x3 - 0)), (0, (x4 + 1))]) dX12_nth_35 rfl rfl q4 rfl ?_
        refine z_goto (tgt := 5) dX12_nth_38 rfl ?_
        exact h
  · replace h := h.2 q
    show Y G (d + 1) mX12_nth 11 [(2, 234), (0, x1), (0, x2), (0, x3), (0, x4)] [(0, 0)] M Q
    refine z_ifeq (tgt := 18) dX12_nth_11 rfl (fun _ => ?_) (fun q => absurd q (by decide))
    refine z_iloadn dX12_nth_18 rfl ?_
    refine z_iloadn dX12_nth_19 rfl ?_
    refine z_iload dX12_nth_20 rfl ?_
    refine y_cs (mt2 := mX12_has) (en := [(0, x1), (0, x4)]) (st := [(0, x3)]) (as := [(0, x1), (0, x4)]) dX12_nth_22 lX12_373 kX12_has tX12_has rfl (Nat.le_of_ble_eq_true rfl) (Nat.le_of_ble_eq_true rfl) rfl (s_has hG (fun q => ?_) (fun q => ?_))
    · replace h := h.1 q
      show Y G (d + 1) mX12_nth 25 [(2, 234), (0, x1), (0, x2), (0, x3), (0, x4)] [(0, 1), (0, x3)] M Q
      refine z_ifeq (tgt := 32) dX12_nth_25 rfl (fun q => absurd q (by decide)) (fun _ => ?_)
      refine z_iconst dX12_nth_28 ki_1 ?_
      refine z_goto (tgt := 33) dX12_nth_29 rfl ?_
      obtain ⟨q5, h⟩ := h
      refine z_isub dX12_nth_33 q5 ?_
      refine y_istoren (ls' := [(2, 234), (0, x1), (0, x2), (0, (x3 - 1)), (0, x4)]) dX12_nth_34 rfl rfl ?_
      obtain ⟨q6, h⟩ := h
      refine y_iinc (ls' := [(2, 234), (0, x1), (0, x2), (0, (x3 - 1)), (0, (x4 + 1))]) dX12_nth_35 rfl rfl q6 rfl ?_
      refine z_goto (tgt := 5) dX12_nth_38 rfl ?_
      exact h
    · replace h := h.2 q
      show Y G (d + 1) mX12_nth 25 [(2, 234), (0, x1), (0, x2), (0, x3), (0, x4)] [(0, 0), (0, x3)] M Q
      refine z_ifeq (tgt := 32) dX12_nth_25 rfl (fun _ => ?_) (fun q => absurd q (by decide))
      refine z_iconst dX12_nth_32 ki_0 ?_
      obtain ⟨q7, h⟩ := h
      refine z_isub dX12_nth_33 q7 ?_
      refine y_istoren (ls' := [(2, 234), (0, x1), (0, x2), (0, (x3 - 0)), (0, x4)]) dX12_nth_34 rfl rfl ?_
      obtain ⟨q8, h⟩ := h
      refine y_iinc (ls' := [(2, 234), (0, x1), (0, x2), (0, (x3 - 0)), (0, (x4 + 1))]) dX12_nth_35 rfl rfl q8 rfl ?_
      refine z_goto (tgt := 5) dX12_nth_38 rfl ?_
      exact h
set_option maxRecDepth 20000 in
set_option maxHeartbeats 4000000 in
theorem bX12_waiting_0 {G : zG} {d : Nat} {M : zM} {Q : zV → zM → Prop} (hG : zP G)
    (h : Y G (d + 1) mX12_waiting 4 [(2, 234), (0, 0), (0, 0)] [] M Q) :
    Y G (d + 1) mX12_waiting 0 [(2, 234), (9, 0), (9, 0)] [] M Q := by
  refine z_iconst dX12_waiting_0 ki_0 ?_
  refine y_istoren (ls' := [(2, 234), (0, 0), (9, 0)]) dX12_waiting_1 rfl rfl ?_
  refine z_iconst dX12_waiting_2 ki_0 ?_
  refine y_istoren (ls' := [(2, 234), (0, 0), (0, 0)]) dX12_waiting_3 rfl rfl ?_
  exact h
set_option maxRecDepth 20000 in
set_option maxHeartbeats 4000000 in
theorem bX12_waiting_4 {G : zG} {d : Nat} {M : zM} {Q : zV → zM → Prop} (hG : zP G) {x1 x2 : Int}
    (h : (((M 235 2) ≤ x2 → Q (0, x1) M) ∧ (x2 < (M 235 2) → Y G d mX12_hasAsked 0 [(2, 234), (0, x2), (9, 0)] [] M (fun r M' => Y G (d + 1) mX12_waiting 20 [(2, 234), (0, x1), (0, x2)] (zpush r [(0, x1)]) M' Q)))) :
    Y G (d + 1) mX12_waiting 4 [(2, 234), (0, x1), (0, x2)] [] M Q := by
  refine z_iloadn dX12_waiting_4 rfl ?_
  refine z_aloadn dX12_waiting_5 rfl (Or.inl rfl) ?_
  refine y_getr (v := 235) hG dX12_waiting_6 fX12_7 sh234 (by decide) rfl (by decide +kernel) (by decide) ?_
  refine z_iconst dX12_waiting_9 ki_2 ?_
  refine y_iald (x := (M 235 2)) dX12_waiting_10 sh235 ⟨by decide, by decide⟩ rfl ?_
  refine z_icmpge (tgt := 38) dX12_waiting_11 rfl (fun q => ?_) (fun q => ?_)
  · replace h := h.1 q
    refine z_iloadn dX12_waiting_38 rfl ?_
    exact z_ireturn dX12_waiting_39 (Or.inl rfl) rfl h
  · replace h := h.2 q
    refine z_iloadn dX12_waiting_14 rfl ?_
    refine z_aloadn dX12_waiting_15 rfl (Or.inl rfl) ?_
    refine z_iloadn dX12_waiting_16 rfl ?_
    refine y_cv (mt2 := mX12_hasAsked) (en := [(2, 234), (0, x2), (9, 0)]) (st := [(0, x1)]) (as := [(0, x2)]) dX12_waiting_17 lX12_495 kX12_hasAsked iX12_hasAsked eX12_hasAsked rfl sh234 (by decide +kernel) (Nat.le_of_ble_eq_true rfl) (Nat.le_of_ble_eq_true rfl) rfl ?_
    exact h
set_option maxRecDepth 20000 in
set_option maxHeartbeats 4000000 in
theorem bX12_waiting_20 {G : zG} {d : Nat} {M : zM} {Q : zV → zM → Prop} (hG : zP G) {x1 x2 x49 x50 : Int}
    (h : ((x49 = 0 → (-2147483648 ≤ x2 + 1 ∧ x2 + 1 ≤ 2147483647) ∧ Y G (d + 1) mX12_waiting 4 [(2, 234), (0, (zor x50 (zshl 1 x2))), (0, (x2 + 1))] [] M Q) ∧ (¬ x49 = 0 → (-2147483648 ≤ x2 + 1 ∧ x2 + 1 ≤ 2147483647) ∧ Y G (d + 1) mX12_waiting 4 [(2, 234), (0, (zor x50 0)), (0, (x2 + 1))] [] M Q))) :
    Y G (d + 1) mX12_waiting 20 [(2, 234), (0, x1), (0, x2)] [(0, x49), (0, x50)] M Q := by
  refine z_ifeq (tgt := 27) dX12_waiting_20 rfl (fun q => ?_) (fun q => ?_)
  · replace h := h.1 q
    refine z_iconst dX12_waiting_27 ki_1 ?_
    refine z_iloadn dX12_waiting_28 rfl ?_
    refine z_ishl dX12_waiting_29 ?_
    refine z_ior dX12_waiting_30 ?_
    refine y_istoren (ls' := [(2, 234), (0, (zor x50 (zshl 1 x2))), (0, x2)]) dX12_waiting_31 rfl rfl ?_
    obtain ⟨q1, h⟩ := h
    refine y_iinc (ls' := [(2, 234), (0, (zor x50 (zshl 1 x2))), (0, (x2 + 1))]) dX12_waiting_32 rfl rfl q1 rfl ?_
    refine z_goto (tgt := 4) dX12_waiting_35 rfl ?_
    exact h
  · replace h := h.2 q
    refine z_iconst dX12_waiting_23 ki_0 ?_
    refine z_goto (tgt := 30) dX12_waiting_24 rfl ?_
    refine z_ior dX12_waiting_30 ?_
    refine y_istoren (ls' := [(2, 234), (0, (zor x50 0)), (0, x2)]) dX12_waiting_31 rfl rfl ?_
    obtain ⟨q2, h⟩ := h
    refine y_iinc (ls' := [(2, 234), (0, (zor x50 0)), (0, (x2 + 1))]) dX12_waiting_32 rfl rfl q2 rfl ?_
    refine z_goto (tgt := 4) dX12_waiting_35 rfl ?_
    exact h
set_option maxRecDepth 20000 in
set_option maxHeartbeats 4000000 in
theorem bX12_morning_0 {G : zG} {d : Nat} {M : zM} {Q : zV → zM → Prop} (hG : zP G) {x1 : Int}
    (h : (((-1) ≤ x1 ∧ x1 ≤ 9999 → Y G d mX12_waiting 0 [(2, 234), (9, 0), (9, 0)] [] M (fun r M' => Y G (d + 1) mX12_morning 18 [(2, 234), (0, x1), (9, 0), (9, 0), (9, 0), (9, 0)] (zpush r []) M' Q)) ∧ (¬ ((-1) ≤ x1 ∧ x1 ≤ 9999) → Q (0, (-2)) M))) :
    Y G (d + 1) mX12_morning 0 [(2, 234), (0, x1), (9, 0), (9, 0), (9, 0), (9, 0)] [] M Q := by
  refine z_iloadn dX12_morning_0 rfl ?_
  refine z_iconst dX12_morning_1 ki_m1 ?_
  refine z_sipush dX12_morning_2 ks_9999 ?_
  refine y_cs (mt2 := mX12_isIn) (en := [(0, x1), (0, (-1)), (0, 9999)]) (st := []) (as := [(0, x1), (0, (-1)), (0, 9999)]) dX12_morning_5 lX12_126 kX12_isIn tX12_isIn rfl (Nat.le_of_ble_eq_true rfl) (Nat.le_of_ble_eq_true rfl) rfl (s_isIn hG (fun q => ?_) (fun q => ?_))
  · replace h := h.1 q
    show Y G (d + 1) mX12_morning 8 [(2, 234), (0, x1), (9, 0), (9, 0), (9, 0), (9, 0)] [(0, 1)] M Q
    refine z_ifne (tgt := 14) dX12_morning_8 rfl (fun _ => ?_) (fun q => absurd q (by decide))
    refine z_aloadn dX12_morning_14 rfl (Or.inl rfl) ?_
    refine y_cv (mt2 := mX12_waiting) (en := [(2, 234), (9, 0), (9, 0)]) (st := []) (as := []) dX12_morning_15 lX12_504 kX12_waiting iX12_waiting eX12_waiting rfl sh234 (by decide +kernel) (Nat.le_of_ble_eq_true rfl) (Nat.le_of_ble_eq_true rfl) rfl ?_
    exact h
  · replace h := h.2 q
    show Y G (d + 1) mX12_morning 8 [(2, 234), (0, x1), (9, 0), (9, 0), (9, 0), (9, 0)] [(0, 0)] M Q
    refine z_ifne (tgt := 14) dX12_morning_8 rfl (fun q => absurd q (by decide)) (fun _ => ?_)
    refine z_bipush dX12_morning_11 kb_m2 ?_
    exact z_ireturn dX12_morning_13 (Or.inl rfl) rfl h
set_option maxRecDepth 20000 in
set_option maxHeartbeats 4000000 in
theorem bX12_morning_29 {G : zG} {d : Nat} {M : zM} {Q : zV → zM → Prop} (hG : zP G) {x1 x2 x3 x4 : Int}
    (h : ((x2 = 0 → Q (0, x4) M) ∧ (¬ x2 = 0 → ((¬ x1 = (-1) → Y G d mX12_bits 0 [(0, x2), (9, 0), (9, 0)] [] M (fun r M' => Y G (d + 1) mX12_morning 53 [(2, 234), (0, x1), (0, x2), (0, x3), (0, x4), (9, 0)] (zpush r [(0, x3), (0, x2), (2, 234)]) M' Q)) ∧ (x1 = (-1) → Y G d mX12_youngest 0 [(2, 234), (0, x2), (9, 0), (9, 0)] [] M (fun r M' => Y G (d + 1) mX12_morning 43 [(2, 234), (0, x1), (0, x2), (0, x3), (0, x4), (9, 0)] (zpush r []) M' Q)))))) :
    Y G (d + 1) mX12_morning 29 [(2, 234), (0, x1), (0, x2), (0, x3), (0, x4), (9, 0)] [] M Q := by
  refine z_iloadn dX12_morning_29 rfl ?_
  refine z_ifeq (tgt := 103) dX12_morning_30 rfl (fun q => ?_) (fun q => ?_)
  · replace h := h.1 q
    refine z_iload dX12_morning_103 rfl ?_
    exact z_ireturn dX12_morning_105 (Or.inl rfl) rfl h
  · replace h := h.2 q
    refine z_iloadn dX12_morning_33 rfl ?_
    refine z_iconst dX12_morning_34 ki_m1 ?_
    refine z_icmpne (tgt := 46) dX12_morning_35 rfl (fun q => ?_) (fun q => ?_)
    · replace h := h.1 q
      refine z_aloadn dX12_morning_46 rfl (Or.inl rfl) ?_
      refine z_iloadn dX12_morning_47 rfl ?_
      refine z_iloadn dX12_morning_48 rfl ?_
      refine z_iloadn dX12_morning_49 rfl ?_
      refine y_cs (mt2 := mX12_bits) (en := [(0, x2), (9, 0), (9, 0)]) (st := [(0, x3), (0, x2), (2, 234)]) (as := [(0, x2)]) dX12_morning_50 lX12_510 kX12_bits tX12_bits rfl (Nat.le_of_ble_eq_true rfl) (Nat.le_of_ble_eq_true rfl) rfl ?_
      exact h
    · replace h := h.2 q
      refine z_aloadn dX12_morning_38 rfl (Or.inl rfl) ?_
      refine z_iloadn dX12_morning_39 rfl ?_
      refine y_cv (mt2 := mX12_youngest) (en := [(2, 234), (0, x2), (9, 0), (9, 0)]) (st := []) (as := [(0, x2)]) dX12_morning_40 lX12_507 kX12_youngest iX12_youngest eX12_youngest rfl sh234 (by decide +kernel) (Nat.le_of_ble_eq_true rfl) (Nat.le_of_ble_eq_true rfl) rfl ?_
      exact h
set_option maxRecDepth 20000 in
set_option maxHeartbeats 4000000 in
theorem bX12_morning_18 {G : zG} {d : Nat} {M : zM} {Q : zV → zM → Prop} (hG : zP G) {x1 x49 : Int}
    (h : (-2147483648 ≤ 3 * x1 ∧ 3 * x1 ≤ 2147483647) ∧ (-2147483648 ≤ (3 * x1) + 7 ∧ (3 * x1) + 7 ≤ 2147483647) ∧ Y G (d + 1) mX12_morning 29 [(2, 234), (0, x1), (0, x49), (0, ((3 * x1) + 7)), (0, 0), (9, 0)] [] M Q) :
    Y G (d + 1) mX12_morning 18 [(2, 234), (0, x1), (9, 0), (9, 0), (9, 0), (9, 0)] [(0, x49)] M Q := by
  refine y_istoren (ls' := [(2, 234), (0, x1), (0, x49), (9, 0), (9, 0), (9, 0)]) dX12_morning_18 rfl rfl ?_
  refine z_iconst dX12_morning_19 ki_3 ?_
  refine z_iloadn dX12_morning_20 rfl ?_
  obtain ⟨q1, h⟩ := h
  refine z_imul dX12_morning_21 q1 ?_
  refine z_bipush dX12_morning_22 kb_7 ?_
  obtain ⟨q2, h⟩ := h
  refine z_iadd dX12_morning_24 q2 ?_
  refine y_istoren (ls' := [(2, 234), (0, x1), (0, x49), (0, ((3 * x1) + 7)), (9, 0), (9, 0)]) dX12_morning_25 rfl rfl ?_
  refine z_iconst dX12_morning_26 ki_0 ?_
  refine y_istore (ls' := [(2, 234), (0, x1), (0, x49), (0, ((3 * x1) + 7)), (0, 0), (9, 0)]) dX12_morning_27 rfl rfl ?_
  exact h
set_option maxRecDepth 20000 in
set_option maxHeartbeats 4000000 in
theorem bX12_morning_53 {G : zG} {d : Nat} {M : zM} {Q : zV → zM → Prop} (hG : zP G) {x1 x2 x3 x4 x49 x50 x51 : Int}
    (h : (¬ x49 = 0) ∧ Y G d mX12_nth 0 [(2, 234), (0, x51), (0, (zrem x50 x49)), (9, 0), (9, 0)] [] M (fun r M' => Y G (d + 1) mX12_morning 57 [(2, 234), (0, x1), (0, x2), (0, x3), (0, x4), (9, 0)] (zpush r []) M' Q)) :
    Y G (d + 1) mX12_morning 53 [(2, 234), (0, x1), (0, x2), (0, x3), (0, x4), (9, 0)] [(0, x49), (0, x50), (0, x51), (2, 234)] M Q := by
  obtain ⟨q1, h⟩ := h
  refine z_irem dX12_morning_53 q1 ?_
  refine y_cv (mt2 := mX12_nth) (en := [(2, 234), (0, x51), (0, (zrem x50 x49)), (9, 0), (9, 0)]) (st := []) (as := [(0, x51), (0, (zrem x50 x49))]) dX12_morning_54 lX12_513 kX12_nth iX12_nth eX12_nth rfl sh234 (by decide +kernel) (Nat.le_of_ble_eq_true rfl) (Nat.le_of_ble_eq_true rfl) rfl ?_
  exact h
set_option maxRecDepth 20000 in
set_option maxHeartbeats 4000000 in
theorem bX12_morning_43 {G : zG} {d : Nat} {M : zM} {Q : zV → zM → Prop} (hG : zP G) {x1 x2 x3 x4 x49 : Int}
    (h : (-2147483648 ≤ x3 * 131 ∧ x3 * 131 ≤ 2147483647) ∧ (-2147483648 ≤ (x3 * 131) + 89 ∧ (x3 * 131) + 89 ≤ 2147483647) ∧ Y G d mX12_asksLowest 0 [(2, 234), (0, x49), (9, 0)] [] M (fun r M' => Y G (d + 1) mX12_morning 89 [(2, 234), (0, x1), (0, (zand x2 (zxor (zshl 1 x49) (-1)))), (0, (zrem ((x3 * 131) + 89) 30011)), (0, x4), (0, x49)] (zpush r [(0, x4)]) M' Q)) :
    Y G (d + 1) mX12_morning 43 [(2, 234), (0, x1), (0, x2), (0, x3), (0, x4), (9, 0)] [(0, x49)] M Q := by
  refine z_goto (tgt := 57) dX12_morning_43 rfl ?_
  refine y_istore (ls' := [(2, 234), (0, x1), (0, x2), (0, x3), (0, x4), (0, x49)]) dX12_morning_57 rfl rfl ?_
  refine z_iloadn dX12_morning_59 rfl ?_
  refine z_sipush dX12_morning_60 ks_131 ?_
  obtain ⟨q1, h⟩ := h
  refine z_imul dX12_morning_63 q1 ?_
  refine z_bipush dX12_morning_64 kb_89 ?_
  obtain ⟨q2, h⟩ := h
  refine z_iadd dX12_morning_66 q2 ?_
  refine z_sipush dX12_morning_67 ks_30011 ?_
  refine z_irem dX12_morning_70 (by decide) ?_
  refine y_istoren (ls' := [(2, 234), (0, x1), (0, x2), (0, (zrem ((x3 * 131) + 89) 30011)), (0, x4), (0, x49)]) dX12_morning_71 rfl rfl ?_
  refine z_iloadn dX12_morning_72 rfl ?_
  refine z_iconst dX12_morning_73 ki_1 ?_
  refine z_iload dX12_morning_74 rfl ?_
  refine z_ishl dX12_morning_76 ?_
  refine z_iconst dX12_morning_77 ki_m1 ?_
  refine z_ixor dX12_morning_78 ?_
  refine z_iand dX12_morning_79 ?_
  refine y_istoren (ls' := [(2, 234), (0, x1), (0, (zand x2 (zxor (zshl 1 x49) (-1)))), (0, (zrem ((x3 * 131) + 89) 30011)), (0, x4), (0, x49)]) dX12_morning_80 rfl rfl ?_
  refine z_iload dX12_morning_81 rfl ?_
  refine z_aloadn dX12_morning_83 rfl (Or.inl rfl) ?_
  refine z_iload dX12_morning_84 rfl ?_
  refine y_cv (mt2 := mX12_asksLowest) (en := [(2, 234), (0, x49), (9, 0)]) (st := [(0, x4)]) (as := [(0, x49)]) dX12_morning_86 lX12_516 kX12_asksLowest iX12_asksLowest eX12_asksLowest rfl sh234 (by decide +kernel) (Nat.le_of_ble_eq_true rfl) (Nat.le_of_ble_eq_true rfl) rfl ?_
  exact h
set_option maxRecDepth 20000 in
set_option maxHeartbeats 4000000 in
theorem bX12_morning_57 {G : zG} {d : Nat} {M : zM} {Q : zV → zM → Prop} (hG : zP G) {x1 x2 x3 x4 x49 : Int}
    (h : (-2147483648 ≤ x3 * 131 ∧ x3 * 131 ≤ 2147483647) ∧ (-2147483648 ≤ (x3 * 131) + 89 ∧ (x3 * 131) + 89 ≤ 2147483647) ∧ Y G d mX12_asksLowest 0 [(2, 234), (0, x49), (9, 0)] [] M (fun r M' => Y G (d + 1) mX12_morning 89 [(2, 234), (0, x1), (0, (zand x2 (zxor (zshl 1 x49) (-1)))), (0, (zrem ((x3 * 131) + 89) 30011)), (0, x4), (0, x49)] (zpush r [(0, x4)]) M' Q)) :
    Y G (d + 1) mX12_morning 57 [(2, 234), (0, x1), (0, x2), (0, x3), (0, x4), (9, 0)] [(0, x49)] M Q := by
  refine y_istore (ls' := [(2, 234), (0, x1), (0, x2), (0, x3), (0, x4), (0, x49)]) dX12_morning_57 rfl rfl ?_
  refine z_iloadn dX12_morning_59 rfl ?_
  refine z_sipush dX12_morning_60 ks_131 ?_
  obtain ⟨q1, h⟩ := h
  refine z_imul dX12_morning_63 q1 ?_
  refine z_bipush dX12_morning_64 kb_89 ?_
  obtain ⟨q2, h⟩ := h
  refine z_iadd dX12_morning_66 q2 ?_
  refine z_sipush dX12_morning_67 ks_30011 ?_
  refine z_irem dX12_morning_70 (by decide) ?_
  refine y_istoren (ls' := [(2, 234), (0, x1), (0, x2), (0, (zrem ((x3 * 131) + 89) 30011)), (0, x4), (0, x49)]) dX12_morning_71 rfl rfl ?_
  refine z_iloadn dX12_morning_72 rfl ?_
  refine z_iconst dX12_morning_73 ki_1 ?_
  refine z_iload dX12_morning_74 rfl ?_
  refine z_ishl dX12_morning_76 ?_
  refine z_iconst dX12_morning_77 ki_m1 ?_
  refine z_ixor dX12_morning_78 ?_
  refine z_iand dX12_morning_79 ?_
  refine y_istoren (ls' := [(2, 234), (0, x1), (0, (zand x2 (zxor (zshl 1 x49) (-1)))), (0, (zrem ((x3 * 131) + 89) 30011)), (0, x4), (0, x49)]) dX12_morning_80 rfl rfl ?_
  refine z_iload dX12_morning_81 rfl ?_
  refine z_aloadn dX12_morning_83 rfl (Or.inl rfl) ?_
  refine z_iload dX12_morning_84 rfl ?_
  refine y_cv (mt2 := mX12_asksLowest) (en := [(2, 234), (0, x49), (9, 0)]) (st := [(0, x4)]) (as := [(0, x49)]) dX12_morning_86 lX12_516 kX12_asksLowest iX12_asksLowest eX12_asksLowest rfl sh234 (by decide +kernel) (Nat.le_of_ble_eq_true rfl) (Nat.le_of_ble_eq_true rfl) rfl ?_
  exact h
set_option maxRecDepth 20000 in
set_option maxHeartbeats 4000000 in
theorem bX12_morning_89 {G : zG} {d : Nat} {M : zM} {Q : zV → zM → Prop} (hG : zP G) {x1 x2 x3 x4 x5 x49 x50 : Int}
    (h : ((x49 = 0 → (-2147483648 ≤ x50 + 0 ∧ x50 + 0 ≤ 2147483647) ∧ Y G (d + 1) mX12_morning 29 [(2, 234), (0, x1), (0, x2), (0, x3), (0, (x50 + 0)), (9, 0)] [] M Q) ∧ (¬ x49 = 0 → (-2147483648 ≤ x50 + 1 ∧ x50 + 1 ≤ 2147483647) ∧ Y G (d + 1) mX12_morning 29 [(2, 234), (0, x1), (0, x2), (0, x3), (0, (x50 + 1)), (9, 0)] [] M Q))) :
    Y G (d + 1) mX12_morning 89 [(2, 234), (0, x1), (0, x2), (0, x3), (0, x4), (0, x5)] [(0, x49), (0, x50)] M Q := by
  refine z_ifeq (tgt := 96) dX12_morning_89 rfl (fun q => ?_) (fun q => ?_)
  · replace h := h.1 q
    refine z_iconst dX12_morning_96 ki_0 ?_
    obtain ⟨q1, h⟩ := h
    refine z_iadd dX12_morning_97 q1 ?_
    refine y_istore (ls' := [(2, 234), (0, x1), (0, x2), (0, x3), (0, (x50 + 0)), (0, x5)]) dX12_morning_98 rfl rfl ?_
    refine z_goto (tgt := 29) dX12_morning_100 rfl ?_
    refine z_sub (ls' := [(2, 234), (0, x1), (0, x2), (0, x3), (0, (x50 + 0)), (9, 0)]) ⟨Or.inl rfl, Or.inl rfl, Or.inl rfl, Or.inl rfl, Or.inl rfl, Or.inr rfl, trivial⟩ ?_
    exact h
  · replace h := h.2 q
    refine z_iconst dX12_morning_92 ki_1 ?_
    refine z_goto (tgt := 97) dX12_morning_93 rfl ?_
    obtain ⟨q2, h⟩ := h
    refine z_iadd dX12_morning_97 q2 ?_
    refine y_istore (ls' := [(2, 234), (0, x1), (0, x2), (0, x3), (0, (x50 + 1)), (0, x5)]) dX12_morning_98 rfl rfl ?_
    refine z_goto (tgt := 29) dX12_morning_100 rfl ?_
    refine z_sub (ls' := [(2, 234), (0, x1), (0, x2), (0, x3), (0, (x50 + 1)), (9, 0)]) ⟨Or.inl rfl, Or.inl rfl, Or.inl rfl, Or.inl rfl, Or.inl rfl, Or.inr rfl, trivial⟩ ?_
    exact h
set_option maxRecDepth 20000 in
set_option maxHeartbeats 4000000 in
theorem bX12_stuck_0 {G : zG} {d : Nat} {M : zM} {Q : zV → zM → Prop} (hG : zP G)
    (h : Y G d mX12_waiting 0 [(2, 234), (9, 0), (9, 0)] [] M (fun r M' => Y G (d + 1) mX12_stuck 4 [(2, 234), (9, 0), (9, 0), (9, 0), (9, 0)] (zpush r []) M' Q)) :
    Y G (d + 1) mX12_stuck 0 [(2, 234), (9, 0), (9, 0), (9, 0), (9, 0)] [] M Q := by
  refine z_aloadn dX12_stuck_0 rfl (Or.inl rfl) ?_
  refine y_cv (mt2 := mX12_waiting) (en := [(2, 234), (9, 0), (9, 0)]) (st := []) (as := []) dX12_stuck_1 lX12_504 kX12_waiting iX12_waiting eX12_waiting rfl sh234 (by decide +kernel) (Nat.le_of_ble_eq_true rfl) (Nat.le_of_ble_eq_true rfl) rfl ?_
  exact h
set_option maxRecDepth 20000 in
set_option maxHeartbeats 4000000 in
theorem bX12_stuck_14 {G : zG} {d : Nat} {M : zM} {Q : zV → zM → Prop} (hG : zP G) {x1 x2 x3 : Int}
    (h : ((x1 = 0 → Q (0, x3) (zset M 235 5 x2)) ∧ (¬ x1 = 0 → ((0 ≤ x3 → Q (0, x3) (zset M 235 5 x2)) ∧ (x3 < 0 → Y G d mX12_youngest 0 [(2, 234), (0, x1), (9, 0), (9, 0)] [] M (fun r M' => Y G (d + 1) mX12_stuck 27 [(2, 234), (0, x1), (0, x2), (0, x3), (9, 0)] (zpush r []) M' Q)))))) :
    Y G (d + 1) mX12_stuck 14 [(2, 234), (0, x1), (0, x2), (0, x3), (9, 0)] [] M Q := by
  refine z_iloadn dX12_stuck_14 rfl ?_
  refine z_ifeq (tgt := 53) dX12_stuck_15 rfl (fun q => ?_) (fun q => ?_)
  · replace h := h.1 q
    refine z_aloadn dX12_stuck_53 rfl (Or.inl rfl) ?_
    refine y_getr (v := 235) hG dX12_stuck_54 fX12_7 sh234 (by decide) rfl (by decide +kernel) (by decide) ?_
    refine z_iconst dX12_stuck_57 ki_5 ?_
    refine z_iloadn dX12_stuck_58 rfl ?_
    refine y_iast hG dX12_stuck_59 sh235 ⟨by decide, by decide⟩ ?_
    refine z_iloadn dX12_stuck_60 rfl ?_
    exact z_ireturn dX12_stuck_61 (Or.inl rfl) rfl h
  · replace h := h.2 q
    refine z_iloadn dX12_stuck_18 rfl ?_
    refine z_ifge (tgt := 53) dX12_stuck_19 rfl (fun q => ?_) (fun q => ?_)
    · replace h := h.1 q
      refine z_aloadn dX12_stuck_53 rfl (Or.inl rfl) ?_
      refine y_getr (v := 235) hG dX12_stuck_54 fX12_7 sh234 (by decide) rfl (by decide +kernel) (by decide) ?_
      refine z_iconst dX12_stuck_57 ki_5 ?_
      refine z_iloadn dX12_stuck_58 rfl ?_
      refine y_iast hG dX12_stuck_59 sh235 ⟨by decide, by decide⟩ ?_
      refine z_iloadn dX12_stuck_60 rfl ?_
      exact z_ireturn dX12_stuck_61 (Or.inl rfl) rfl h
    · replace h := h.2 q
      refine z_aloadn dX12_stuck_22 rfl (Or.inl rfl) ?_
      refine z_iloadn dX12_stuck_23 rfl ?_
      refine y_cv (mt2 := mX12_youngest) (en := [(2, 234), (0, x1), (9, 0), (9, 0)]) (st := []) (as := [(0, x1)]) dX12_stuck_24 lX12_507 kX12_youngest iX12_youngest eX12_youngest rfl sh234 (by decide +kernel) (Nat.le_of_ble_eq_true rfl) (Nat.le_of_ble_eq_true rfl) rfl ?_
      exact h
set_option maxRecDepth 20000 in
set_option maxHeartbeats 4000000 in
theorem bX12_stuck_4 {G : zG} {d : Nat} {M : zM} {Q : zV → zM → Prop} (hG : zP G) {x49 : Int}
    (h : Y G (d + 1) mX12_stuck 14 [(2, 234), (0, x49), (0, (M 235 5)), (0, (-1)), (9, 0)] [] M Q) :
    Y G (d + 1) mX12_stuck 4 [(2, 234), (9, 0), (9, 0), (9, 0), (9, 0)] [(0, x49)] M Q := by
  refine y_istoren (ls' := [(2, 234), (0, x49), (9, 0), (9, 0), (9, 0)]) dX12_stuck_4 rfl rfl ?_
  refine z_aloadn dX12_stuck_5 rfl (Or.inl rfl) ?_
  refine y_getr (v := 235) hG dX12_stuck_6 fX12_7 sh234 (by decide) rfl (by decide +kernel) (by decide) ?_
  refine z_iconst dX12_stuck_9 ki_5 ?_
  refine y_iald (x := (M 235 5)) dX12_stuck_10 sh235 ⟨by decide, by decide⟩ rfl ?_
  refine y_istoren (ls' := [(2, 234), (0, x49), (0, (M 235 5)), (9, 0), (9, 0)]) dX12_stuck_11 rfl rfl ?_
  refine z_iconst dX12_stuck_12 ki_m1 ?_
  refine y_istoren (ls' := [(2, 234), (0, x49), (0, (M 235 5)), (0, (-1)), (9, 0)]) dX12_stuck_13 rfl rfl ?_
  exact h
set_option maxRecDepth 20000 in
set_option maxHeartbeats 4000000 in
theorem bX12_stuck_27 {G : zG} {d : Nat} {M : zM} {Q : zV → zM → Prop} (hG : zP G) {x1 x2 x3 x49 : Int}
    (h : Y G d mX12_asksLowest 0 [(2, 234), (0, x49), (9, 0)] [] M (fun r M' => Y G (d + 1) mX12_stuck 44 [(2, 234), (0, (zand x1 (zxor (zshl 1 x49) (-1)))), (0, x2), (0, x3), (0, x49)] (zpush r []) M' Q)) :
    Y G (d + 1) mX12_stuck 27 [(2, 234), (0, x1), (0, x2), (0, x3), (9, 0)] [(0, x49)] M Q := by
  refine y_istore (ls' := [(2, 234), (0, x1), (0, x2), (0, x3), (0, x49)]) dX12_stuck_27 rfl rfl ?_
  refine z_iloadn dX12_stuck_29 rfl ?_
  refine z_iconst dX12_stuck_30 ki_1 ?_
  refine z_iload dX12_stuck_31 rfl ?_
  refine z_ishl dX12_stuck_33 ?_
  refine z_iconst dX12_stuck_34 ki_m1 ?_
  refine z_ixor dX12_stuck_35 ?_
  refine z_iand dX12_stuck_36 ?_
  refine y_istoren (ls' := [(2, 234), (0, (zand x1 (zxor (zshl 1 x49) (-1)))), (0, x2), (0, x3), (0, x49)]) dX12_stuck_37 rfl rfl ?_
  refine z_aloadn dX12_stuck_38 rfl (Or.inl rfl) ?_
  refine z_iload dX12_stuck_39 rfl ?_
  refine y_cv (mt2 := mX12_asksLowest) (en := [(2, 234), (0, x49), (9, 0)]) (st := []) (as := [(0, x49)]) dX12_stuck_41 lX12_516 kX12_asksLowest iX12_asksLowest eX12_asksLowest rfl sh234 (by decide +kernel) (Nat.le_of_ble_eq_true rfl) (Nat.le_of_ble_eq_true rfl) rfl ?_
  exact h
set_option maxRecDepth 20000 in
set_option maxHeartbeats 4000000 in
theorem bX12_stuck_44 {G : zG} {d : Nat} {M : zM} {Q : zV → zM → Prop} (hG : zP G) {x1 x2 x3 x4 x49 : Int}
    (h : ((¬ x49 = 0 → Y G (d + 1) mX12_stuck 14 [(2, 234), (0, x1), (0, x2), (0, x3), (9, 0)] [] M Q) ∧ (x49 = 0 → Y G (d + 1) mX12_stuck 14 [(2, 234), (0, x1), (0, x2), (0, x4), (9, 0)] [] M Q))) :
    Y G (d + 1) mX12_stuck 44 [(2, 234), (0, x1), (0, x2), (0, x3), (0, x4)] [(0, x49)] M Q := by
  refine z_ifne (tgt := 50) dX12_stuck_44 rfl (fun q => ?_) (fun q => ?_)
  · replace h := h.1 q
    refine z_goto (tgt := 14) dX12_stuck_50 rfl ?_
    refine z_sub (ls' := [(2, 234), (0, x1), (0, x2), (0, x3), (9, 0)]) ⟨Or.inl rfl, Or.inl rfl, Or.inl rfl, Or.inl rfl, Or.inr rfl, trivial⟩ ?_
    exact h
  · replace h := h.2 q
    refine z_iload dX12_stuck_47 rfl ?_
    refine y_istoren (ls' := [(2, 234), (0, x1), (0, x2), (0, x4), (0, x4)]) dX12_stuck_49 rfl rfl ?_
    refine z_goto (tgt := 14) dX12_stuck_50 rfl ?_
    refine z_sub (ls' := [(2, 234), (0, x1), (0, x2), (0, x4), (9, 0)]) ⟨Or.inl rfl, Or.inl rfl, Or.inl rfl, Or.inl rfl, Or.inr rfl, trivial⟩ ?_
    exact h
set_option maxRecDepth 20000 in
set_option maxHeartbeats 4000000 in
theorem bX12_findLike_0 {G : zG} {d : Nat} {M : zM} {Q : zV → zM → Prop} (hG : zP G)
    (h : Y G d mX12_worldNow 0 [(2, 234), (9, 0)] [] M (fun r M' => Y G (d + 1) mX12_findLike 4 [(2, 234), (9, 0), (9, 0)] (zpush r []) M' Q)) :
    Y G (d + 1) mX12_findLike 0 [(2, 234), (9, 0), (9, 0)] [] M Q := by
  refine z_aloadn dX12_findLike_0 rfl (Or.inl rfl) ?_
  refine y_cv (mt2 := mX12_worldNow) (en := [(2, 234), (9, 0)]) (st := []) (as := []) dX12_findLike_1 lX12_396 kX12_worldNow iX12_worldNow eX12_worldNow rfl sh234 (by decide +kernel) (Nat.le_of_ble_eq_true rfl) (Nat.le_of_ble_eq_true rfl) rfl ?_
  exact h
set_option maxRecDepth 20000 in
set_option maxHeartbeats 4000000 in
theorem bX12_findLike_6 {G : zG} {d : Nat} {M : zM} {Q : zV → zM → Prop} (hG : zP G) {x1 : Int}
    (h : (((M 235 0) ≤ x1 → Q (9, 0) M) ∧ (x1 < (M 235 0) → Y G d mX12_answerOf 0 [(2, 234), (0, x1), (9, 0), (9, 0), (9, 0), (9, 0), (9, 0), (9, 0), (9, 0), (9, 0)] [] M (fun r M' => Y G (d + 1) mX12_findLike 26 [(2, 234), (0, x1), (9, 0)] (zpush r [(0, x1), (2, 258)]) M' Q)))) :
    Y G (d + 1) mX12_findLike 6 [(2, 234), (0, x1), (9, 0)] [] M Q := by
  refine z_iloadn dX12_findLike_6 rfl ?_
  refine z_aloadn dX12_findLike_7 rfl (Or.inl rfl) ?_
  refine y_getr (v := 235) hG dX12_findLike_8 fX12_7 sh234 (by decide) rfl (by decide +kernel) (by decide) ?_
  refine z_iconst dX12_findLike_11 ki_0 ?_
  refine y_iald (x := (M 235 0)) dX12_findLike_12 sh235 ⟨by decide, by decide⟩ rfl ?_
  refine z_icmpge (tgt := 92) dX12_findLike_13 rfl (fun q => ?_) (fun q => ?_)
  · replace h := h.1 q
    exact z_return dX12_findLike_92 rfl rfl h
  · replace h := h.2 q
    refine z_aloadn dX12_findLike_16 rfl (Or.inl rfl) ?_
    refine y_getr (v := 258) hG dX12_findLike_17 fX12_87 sh234 (by decide) rfl (by decide +kernel) (by decide) ?_
    refine z_iloadn dX12_findLike_20 rfl ?_
    refine z_aloadn dX12_findLike_21 rfl (Or.inl rfl) ?_
    refine z_iloadn dX12_findLike_22 rfl ?_
    refine y_cv (mt2 := mX12_answerOf) (en := [(2, 234), (0, x1), (9, 0), (9, 0), (9, 0), (9, 0), (9, 0), (9, 0), (9, 0), (9, 0)]) (st := [(0, x1), (2, 258)]) (as := [(0, x1)]) dX12_findLike_23 lX12_399 kX12_answerOf iX12_answerOf eX12_answerOf rfl sh234 (by decide +kernel) (Nat.le_of_ble_eq_true rfl) (Nat.le_of_ble_eq_true rfl) rfl ?_
    exact h
set_option maxRecDepth 20000 in
set_option maxHeartbeats 4000000 in
theorem bX12_findLike_54 {G : zG} {d : Nat} {M : zM} {Q : zV → zM → Prop} (hG : zP G) {x1 x2 : Int}
    (h : ((x2 < 0 → (-2147483648 ≤ x1 + 1 ∧ x1 + 1 ≤ 2147483647) ∧ Y G (d + 1) mX12_findLike 6 [(2, 234), (0, (x1 + 1)), (9, 0)] [] M Q) ∧ (0 ≤ x2 → Y G d mX12_isAlike 0 [(2, 234), (0, x2), (0, x1), (0, (M 235 4)), (9, 0), (9, 0)] [] M (fun r M' => Y G (d + 1) mX12_findLike 70 [(2, 234), (0, x1), (0, x2)] (zpush r []) M' Q)))) :
    Y G (d + 1) mX12_findLike 54 [(2, 234), (0, x1), (0, x2)] [] M Q := by
  refine z_iloadn dX12_findLike_54 rfl ?_
  refine z_iflt (tgt := 86) dX12_findLike_55 rfl (fun q => ?_) (fun q => ?_)
  · replace h := h.1 q
    obtain ⟨q1, h⟩ := h
    refine y_iinc (ls' := [(2, 234), (0, (x1 + 1)), (0, x2)]) dX12_findLike_86 rfl rfl q1 rfl ?_
    refine z_goto (tgt := 6) dX12_findLike_89 rfl ?_
    refine z_sub (ls' := [(2, 234), (0, (x1 + 1)), (9, 0)]) ⟨Or.inl rfl, Or.inl rfl, Or.inr rfl, trivial⟩ ?_
    exact h
  · replace h := h.2 q
    refine z_aloadn dX12_findLike_58 rfl (Or.inl rfl) ?_
    refine z_iloadn dX12_findLike_59 rfl ?_
    refine z_iloadn dX12_findLike_60 rfl ?_
    refine z_aloadn dX12_findLike_61 rfl (Or.inl rfl) ?_
    refine y_getr (v := 235) hG dX12_findLike_62 fX12_7 sh234 (by decide) rfl (by decide +kernel) (by decide) ?_
    refine z_iconst dX12_findLike_65 ki_4 ?_
    refine y_iald (x := (M 235 4)) dX12_findLike_66 sh235 ⟨by decide, by decide⟩ rfl ?_
    refine y_cv (mt2 := mX12_isAlike) (en := [(2, 234), (0, x2), (0, x1), (0, (M 235 4)), (9, 0), (9, 0)]) (st := []) (as := [(0, x2), (0, x1), (0, (M 235 4))]) dX12_findLike_67 lX12_471 kX12_isAlike iX12_isAlike eX12_isAlike rfl sh234 (by decide +kernel) (Nat.le_of_ble_eq_true rfl) (Nat.le_of_ble_eq_true rfl) rfl ?_
    exact h
set_option maxRecDepth 20000 in
set_option maxHeartbeats 4000000 in
theorem bX12_findLike_4 {G : zG} {d : Nat} {M : zM} {Q : zV → zM → Prop} (hG : zP G)
    (h : Y G (d + 1) mX12_findLike 6 [(2, 234), (0, 0), (9, 0)] [] M Q) :
    Y G (d + 1) mX12_findLike 4 [(2, 234), (9, 0), (9, 0)] [] M Q := by
  refine z_iconst dX12_findLike_4 ki_0 ?_
  refine y_istoren (ls' := [(2, 234), (0, 0), (9, 0)]) dX12_findLike_5 rfl rfl ?_
  exact h
set_option maxRecDepth 20000 in
set_option maxHeartbeats 4000000 in
theorem bX12_findLike_26 {G : zG} {d : Nat} {M : zM} {Q : zV → zM → Prop} (hG : zP G) {x1 x49 x50 : Int}
    (h : ((¬ (zlcmp x49 (M 235 3)) = 0 → (0 ≤ x50 ∧ x50 < 12) ∧ (0 ≤ x1 ∧ x1 < 12) ∧ (-2147483648 ≤ x1 - 1 ∧ x1 - 1 ≤ 2147483647) ∧ Y G (d + 1) mX12_findLike 54 [(2, 234), (0, x1), (0, (x1 - 1))] [] (zset (zset M 258 x50 0) 259 x1 x1) Q) ∧ ((zlcmp x49 (M 235 3)) = 0 → (0 ≤ x50 ∧ x50 < 12) ∧ (0 ≤ x1 ∧ x1 < 12) ∧ (-2147483648 ≤ x1 - 1 ∧ x1 - 1 ≤ 2147483647) ∧ Y G (d + 1) mX12_findLike 54 [(2, 234), (0, x1), (0, (x1 - 1))] [] (zset (zset M 258 x50 1) 259 x1 x1) Q))) :
    Y G (d + 1) mX12_findLike 26 [(2, 234), (0, x1), (9, 0)] [(1, x49), (0, x50), (2, 258)] M Q := by
  refine z_aloadn dX12_findLike_26 rfl (Or.inl rfl) ?_
  refine y_getr (v := 235) hG dX12_findLike_27 fX12_7 sh234 (by decide) rfl (by decide +kernel) (by decide) ?_
  refine z_iconst dX12_findLike_30 ki_3 ?_
  refine y_iald (x := (M 235 3)) dX12_findLike_31 sh235 ⟨by decide, by decide⟩ rfl ?_
  refine z_i2l dX12_findLike_32 ?_
  refine z_lcmp dX12_findLike_33 ?_
  refine z_ifne (tgt := 41) dX12_findLike_34 rfl (fun q => ?_) (fun q => ?_)
  · replace h := h.1 q
    refine z_iconst dX12_findLike_41 ki_0 ?_
    obtain ⟨q1, h⟩ := h
    refine y_zast hG dX12_findLike_42 sh258 q1 ⟨by decide, by decide⟩ ?_
    refine z_aloadn dX12_findLike_43 rfl (Or.inl rfl) ?_
    refine y_getr (v := 259) hG dX12_findLike_44 fX12_91 sh234 (by decide) rfl (by decide +kernel) (by decide) ?_
    refine z_iloadn dX12_findLike_47 rfl ?_
    refine z_iloadn dX12_findLike_48 rfl ?_
    obtain ⟨q2, h⟩ := h
    refine y_iast hG dX12_findLike_49 sh259 q2 ?_
    refine z_iloadn dX12_findLike_50 rfl ?_
    refine z_iconst dX12_findLike_51 ki_1 ?_
    obtain ⟨q3, h⟩ := h
    refine z_isub dX12_findLike_52 q3 ?_
    refine y_istoren (ls' := [(2, 234), (0, x1), (0, (x1 - 1))]) dX12_findLike_53 rfl rfl ?_
    exact h
  · replace h := h.2 q
    refine z_iconst dX12_findLike_37 ki_1 ?_
    refine z_goto (tgt := 42) dX12_findLike_38 rfl ?_
    obtain ⟨q4, h⟩ := h
    refine y_zast hG dX12_findLike_42 sh258 q4 ⟨by decide, by decide⟩ ?_
    refine z_aloadn dX12_findLike_43 rfl (Or.inl rfl) ?_
    refine y_getr (v := 259) hG dX12_findLike_44 fX12_91 sh234 (by decide) rfl (by decide +kernel) (by decide) ?_
    refine z_iloadn dX12_findLike_47 rfl ?_
    refine z_iloadn dX12_findLike_48 rfl ?_
    obtain ⟨q5, h⟩ := h
    refine y_iast hG dX12_findLike_49 sh259 q5 ?_
    refine z_iloadn dX12_findLike_50 rfl ?_
    refine z_iconst dX12_findLike_51 ki_1 ?_
    obtain ⟨q6, h⟩ := h
    refine z_isub dX12_findLike_52 q6 ?_
    refine y_istoren (ls' := [(2, 234), (0, x1), (0, (x1 - 1))]) dX12_findLike_53 rfl rfl ?_
    exact h
set_option maxRecDepth 20000 in
set_option maxHeartbeats 4000000 in
theorem bX12_findLike_70 {G : zG} {d : Nat} {M : zM} {Q : zV → zM → Prop} (hG : zP G) {x1 x2 x49 : Int}
    (h : ((x49 = 0 → (-2147483648 ≤ x2 + (-1) ∧ x2 + (-1) ≤ 2147483647) ∧ Y G (d + 1) mX12_findLike 54 [(2, 234), (0, x1), (0, (x2 + (-1)))] [] M Q) ∧ (¬ x49 = 0 → (0 ≤ x1 ∧ x1 < 12) ∧ (-2147483648 ≤ x2 + (-1) ∧ x2 + (-1) ≤ 2147483647) ∧ Y G (d + 1) mX12_findLike 54 [(2, 234), (0, x1), (0, (x2 + (-1)))] [] (zset M 259 x1 x2) Q))) :
    Y G (d + 1) mX12_findLike 70 [(2, 234), (0, x1), (0, x2)] [(0, x49)] M Q := by
  refine z_ifeq (tgt := 80) dX12_findLike_70 rfl (fun q => ?_) (fun q => ?_)
  · replace h := h.1 q
    obtain ⟨q1, h⟩ := h
    refine y_iinc (ls' := [(2, 234), (0, x1), (0, (x2 + (-1)))]) dX12_findLike_80 rfl rfl q1 rfl ?_
    refine z_goto (tgt := 54) dX12_findLike_83 rfl ?_
    exact h
  · replace h := h.2 q
    refine z_aloadn dX12_findLike_73 rfl (Or.inl rfl) ?_
    refine y_getr (v := 259) hG dX12_findLike_74 fX12_91 sh234 (by decide) rfl (by decide +kernel) (by decide) ?_
    refine z_iloadn dX12_findLike_77 rfl ?_
    refine z_iloadn dX12_findLike_78 rfl ?_
    obtain ⟨q2, h⟩ := h
    refine y_iast hG dX12_findLike_79 sh259 q2 ?_
    obtain ⟨q3, h⟩ := h
    refine y_iinc (ls' := [(2, 234), (0, x1), (0, (x2 + (-1)))]) dX12_findLike_80 rfl rfl q3 rfl ?_
    refine z_goto (tgt := 54) dX12_findLike_83 rfl ?_
    exact h
set_option maxRecDepth 20000 in
set_option maxHeartbeats 4000000 in
theorem bX12_canAsk_0 {G : zG} {d : Nat} {M : zM} {Q : zV → zM → Prop} (hG : zP G) {x1 : Int}
    (h : Y G (d + 1) mX12_canAsk 7 [(2, 234), (0, x1), (0, 0), (0, 0), (0, 0), (9, 0), (9, 0)] [] M Q) :
    Y G (d + 1) mX12_canAsk 0 [(2, 234), (0, x1), (9, 0), (9, 0), (9, 0), (9, 0), (9, 0)] [] M Q := by
  refine z_iconst dX12_canAsk_0 ki_0 ?_
  refine y_istoren (ls' := [(2, 234), (0, x1), (0, 0), (9, 0), (9, 0), (9, 0), (9, 0)]) dX12_canAsk_1 rfl rfl ?_
  refine z_iconst dX12_canAsk_2 ki_0 ?_
  refine y_istoren (ls' := [(2, 234), (0, x1), (0, 0), (0, 0), (9, 0), (9, 0), (9, 0)]) dX12_canAsk_3 rfl rfl ?_
  refine z_iconst dX12_canAsk_4 ki_0 ?_
  refine y_istore (ls' := [(2, 234), (0, x1), (0, 0), (0, 0), (0, 0), (9, 0), (9, 0)]) dX12_canAsk_5 rfl rfl ?_
  exact h
set_option maxRecDepth 20000 in
set_option maxHeartbeats 4000000 in
theorem bX12_canAsk_7 {G : zG} {d : Nat} {M : zM} {Q : zV → zM → Prop} (hG : zP G) {x1 x2 x3 x4 : Int}
    (h : (((M 235 2) ≤ x4 → Q (0, x3) M) ∧ (x4 < (M 235 2) → (0 ≤ x4 ∧ x4 < 6) ∧ ((zbit x1 (M 260 x4) → Y G (d + 1) mX12_canAsk 42 [(2, 234), (0, x1), (0, x2), (0, x3), (0, x4), (0, (M 260 x4)), (0, 0)] [] M Q) ∧ (¬ (zbit x1 (M 260 x4)) → (-2147483648 ≤ x4 + 1 ∧ x4 + 1 ≤ 2147483647) ∧ Y G (d + 1) mX12_canAsk 7 [(2, 234), (0, x1), (0, x2), (0, x3), (0, (x4 + 1)), (9, 0), (9, 0)] [] M Q))))) :
    Y G (d + 1) mX12_canAsk 7 [(2, 234), (0, x1), (0, x2), (0, x3), (0, x4), (9, 0), (9, 0)] [] M Q := by
  refine z_iload dX12_canAsk_7 rfl ?_
  refine z_aloadn dX12_canAsk_9 rfl (Or.inl rfl) ?_
  refine y_getr (v := 235) hG dX12_canAsk_10 fX12_7 sh234 (by decide) rfl (by decide +kernel) (by decide) ?_
  refine z_iconst dX12_canAsk_13 ki_2 ?_
  refine y_iald (x := (M 235 2)) dX12_canAsk_14 sh235 ⟨by decide, by decide⟩ rfl ?_
  refine z_icmpge (tgt := 129) dX12_canAsk_15 rfl (fun q => ?_) (fun q => ?_)
  · replace h := h.1 q
    refine z_iloadn dX12_canAsk_129 rfl ?_
    exact z_ireturn dX12_canAsk_130 (Or.inl rfl) rfl h
  · replace h := h.2 q
    refine z_aloadn dX12_canAsk_18 rfl (Or.inl rfl) ?_
    refine y_getr (v := 260) hG dX12_canAsk_19 fX12_94 sh234 (by decide) rfl (by decide +kernel) (by decide) ?_
    refine z_iload dX12_canAsk_22 rfl ?_
    obtain ⟨q1, h⟩ := h
    refine y_iald (x := (M 260 x4)) dX12_canAsk_24 sh260 q1 rfl ?_
    refine y_istore (ls' := [(2, 234), (0, x1), (0, x2), (0, x3), (0, x4), (0, (M 260 x4)), (9, 0)]) dX12_canAsk_25 rfl rfl ?_
    refine z_iloadn dX12_canAsk_27 rfl ?_
    refine z_iload dX12_canAsk_28 rfl ?_
    refine y_cs (mt2 := mX12_has) (en := [(0, x1), (0, (M 260 x4))]) (st := []) (as := [(0, x1), (0, (M 260 x4))]) dX12_canAsk_30 lX12_373 kX12_has tX12_has rfl (Nat.le_of_ble_eq_true rfl) (Nat.le_of_ble_eq_true rfl) rfl (s_has hG (fun q => ?_) (fun q => ?_))
    · replace h := h.1 q
      show Y G (d + 1) mX12_canAsk 33 [(2, 234), (0, x1), (0, x2), (0, x3), (0, x4), (0, (M 260 x4)), (9, 0)] [(0, 1)] M Q
      refine z_ifne (tgt := 39) dX12_canAsk_33 rfl (fun _ => ?_) (fun q => absurd q (by decide))
      refine z_iconst dX12_canAsk_39 ki_0 ?_
      refine y_istore (ls' := [(2, 234), (0, x1), (0, x2), (0, x3), (0, x4), (0, (M 260 x4)), (0, 0)]) dX12_canAsk_40 rfl rfl ?_
      exact h
    · replace h := h.2 q
      show Y G (d + 1) mX12_canAsk 33 [(2, 234), (0, x1), (0, x2), (0, x3), (0, x4), (0, (M 260 x4)), (9, 0)] [(0, 0)] M Q
      refine z_ifne (tgt := 39) dX12_canAsk_33 rfl (fun q => absurd q (by decide)) (fun _ => ?_)
      refine z_goto (tgt := 123) dX12_canAsk_36 rfl ?_
      obtain ⟨q2, h⟩ := h
      refine y_iinc (ls' := [(2, 234), (0, x1), (0, x2), (0, x3), (0, (x4 + 1)), (0, (M 260 x4)), (9, 0)]) dX12_canAsk_123 rfl rfl q2 rfl ?_
      refine z_goto (tgt := 7) dX12_canAsk_126 rfl ?_
      refine z_sub (ls' := [(2, 234), (0, x1), (0, x2), (0, x3), (0, (x4 + 1)), (9, 0), (9, 0)]) ⟨Or.inl rfl, Or.inl rfl, Or.inl rfl, Or.inl rfl, Or.inl rfl, Or.inr rfl, Or.inl rfl, trivial⟩ ?_
      exact h
set_option maxRecDepth 20000 in
set_option maxHeartbeats 4000000 in
theorem bX12_canAsk_42 {G : zG} {d : Nat} {M : zM} {Q : zV → zM → Prop} (hG : zP G) {x1 x2 x3 x4 x5 x6 : Int}
    (h : (((M 235 0) ≤ x6 → ((¬ x6 = (M 235 0) → (0 ≤ x6 ∧ x6 < 12) ∧ (-2147483648 ≤ x3 + 1 ∧ x3 + 1 ≤ 2147483647) ∧ (-2147483648 ≤ x4 + 1 ∧ x4 + 1 ≤ 2147483647) ∧ Y G (d + 1) mX12_canAsk 7 [(2, 234), (0, x1), (0, (zor x2 (zshl 1 (M 259 x6)))), (0, (x3 + 1)), (0, (x4 + 1)), (9, 0), (9, 0)] [] M Q) ∧ (x6 = (M 235 0) → (-2147483648 ≤ x4 + 1 ∧ x4 + 1 ≤ 2147483647) ∧ Y G (d + 1) mX12_canAsk 7 [(2, 234), (0, x1), (0, x2), (0, x3), (0, (x4 + 1)), (9, 0), (9, 0)] [] M Q))) ∧ (x6 < (M 235 0) → (0 ≤ x6 ∧ x6 < 12) ∧ (((M 258 x6) = 0 → (-2147483648 ≤ x6 + 1 ∧ x6 + 1 ≤ 2147483647) ∧ Y G (d + 1) mX12_canAsk 42 [(2, 234), (0, x1), (0, x2), (0, x3), (0, x4), (0, x5), (0, (x6 + 1))] [] M Q) ∧ (¬ (M 258 x6) = 0 → (0 ≤ x6 ∧ x6 < 12) ∧ ((zbit x2 (M 259 x6) → (-2147483648 ≤ x6 + 1 ∧ x6 + 1 ≤ 2147483647) ∧ Y G (d + 1) mX12_canAsk 42 [(2, 234), (0, x1), (0, x2), (0, x3), (0, x4), (0, x5), (0, (x6 + 1))] [] M Q) ∧ (¬ (zbit x2 (M 259 x6)) → Y G d mX12_can 0 [(2, 234), (0, x5), (0, x6)] [] M (fun r M' => Y G (d + 1) mX12_canAsk 85 [(2, 234), (0, x1), (0, x2), (0, x3), (0, x4), (0, x5), (0, x6)] (zpush r []) M' Q)))))))) :
    Y G (d + 1) mX12_canAsk 42 [(2, 234), (0, x1), (0, x2), (0, x3), (0, x4), (0, x5), (0, x6)] [] M Q := by
  refine z_iload dX12_canAsk_42 rfl ?_
  refine z_aloadn dX12_canAsk_44 rfl (Or.inl rfl) ?_
  refine y_getr (v := 235) hG dX12_canAsk_45 fX12_7 sh234 (by decide) rfl (by decide +kernel) (by decide) ?_
  refine z_iconst dX12_canAsk_48 ki_0 ?_
  refine y_iald (x := (M 235 0)) dX12_canAsk_49 sh235 ⟨by decide, by decide⟩ rfl ?_
  refine z_icmpge (tgt := 94) dX12_canAsk_50 rfl (fun q => ?_) (fun q => ?_)
  · replace h := h.1 q
    refine z_iload dX12_canAsk_94 rfl ?_
    refine z_aloadn dX12_canAsk_96 rfl (Or.inl rfl) ?_
    refine y_getr (v := 235) hG dX12_canAsk_97 fX12_7 sh234 (by decide) rfl (by decide +kernel) (by decide) ?_
    refine z_iconst dX12_canAsk_100 ki_0 ?_
    refine y_iald (x := (M 235 0)) dX12_canAsk_101 sh235 ⟨by decide, by decide⟩ rfl ?_
    refine z_icmpne (tgt := 108) dX12_canAsk_102 rfl (fun q => ?_) (fun q => ?_)
    · replace h := h.1 q
      refine z_iloadn dX12_canAsk_108 rfl ?_
      refine z_iconst dX12_canAsk_109 ki_1 ?_
      refine z_aloadn dX12_canAsk_110 rfl (Or.inl rfl) ?_
      refine y_getr (v := 259) hG dX12_canAsk_111 fX12_91 sh234 (by decide) rfl (by decide +kernel) (by decide) ?_
      refine z_iload dX12_canAsk_114 rfl ?_
      obtain ⟨q1, h⟩ := h
      refine y_iald (x := (M 259 x6)) dX12_canAsk_116 sh259 q1 rfl ?_
      refine z_ishl dX12_canAsk_117 ?_
      refine z_ior dX12_canAsk_118 ?_
      refine y_istoren (ls' := [(2, 234), (0, x1), (0, (zor x2 (zshl 1 (M 259 x6)))), (0, x3), (0, x4), (0, x5), (0, x6)]) dX12_canAsk_119 rfl rfl ?_
      obtain ⟨q2, h⟩ := h
      refine y_iinc (ls' := [(2, 234), (0, x1), (0, (zor x2 (zshl 1 (M 259 x6)))), (0, (x3 + 1)), (0, x4), (0, x5), (0, x6)]) dX12_canAsk_120 rfl rfl q2 rfl ?_
      obtain ⟨q3, h⟩ := h
      refine y_iinc (ls' := [(2, 234), (0, x1), (0, (zor x2 (zshl 1 (M 259 x6)))), (0, (x3 + 1)), (0, (x4 + 1)), (0, x5), (0, x6)]) dX12_canAsk_123 rfl rfl q3 rfl ?_
      refine z_goto (tgt := 7) dX12_canAsk_126 rfl ?_
      refine z_sub (ls' := [(2, 234), (0, x1), (0, (zor x2 (zshl 1 (M 259 x6)))), (0, (x3 + 1)), (0, (x4 + 1)), (9, 0), (9, 0)]) ⟨Or.inl rfl, Or.inl rfl, Or.inl rfl, Or.inl rfl, Or.inl rfl, Or.inr rfl, Or.inr rfl, trivial⟩ ?_
      exact h
    · replace h := h.2 q
      refine z_goto (tgt := 123) dX12_canAsk_105 rfl ?_
      obtain ⟨q4, h⟩ := h
      refine y_iinc (ls' := [(2, 234), (0, x1), (0, x2), (0, x3), (0, (x4 + 1)), (0, x5), (0, x6)]) dX12_canAsk_123 rfl rfl q4 rfl ?_
      refine z_goto (tgt := 7) dX12_canAsk_126 rfl ?_
      refine z_sub (ls' := [(2, 234), (0, x1), (0, x2), (0, x3), (0, (x4 + 1)), (9, 0), (9, 0)]) ⟨Or.inl rfl, Or.inl rfl, Or.inl rfl, Or.inl rfl, Or.inl rfl, Or.inr rfl, Or.inr rfl, trivial⟩ ?_
      exact h
  · replace h := h.2 q
    refine z_aloadn dX12_canAsk_53 rfl (Or.inl rfl) ?_
    refine y_getr (v := 258) hG dX12_canAsk_54 fX12_87 sh234 (by decide) rfl (by decide +kernel) (by decide) ?_
    refine z_iload dX12_canAsk_57 rfl ?_
    obtain ⟨q5, h⟩ := h
    refine y_zald (x := (M 258 x6)) dX12_canAsk_59 sh258 q5 rfl ?_
    refine z_ifeq (tgt := 88) dX12_canAsk_60 rfl (fun q => ?_) (fun q => ?_)
    · replace h := h.1 q
      obtain ⟨q6, h⟩ := h
      refine y_iinc (ls' := [(2, 234), (0, x1), (0, x2), (0, x3), (0, x4), (0, x5), (0, (x6 + 1))]) dX12_canAsk_88 rfl rfl q6 rfl ?_
      refine z_goto (tgt := 42) dX12_canAsk_91 rfl ?_
      exact h
    · replace h := h.2 q
      refine z_iloadn dX12_canAsk_63 rfl ?_
      refine z_aloadn dX12_canAsk_64 rfl (Or.inl rfl) ?_
      refine y_getr (v := 259) hG dX12_canAsk_65 fX12_91 sh234 (by decide) rfl (by decide +kernel) (by decide) ?_
      refine z_iload dX12_canAsk_68 rfl ?_
      obtain ⟨q7, h⟩ := h
      refine y_iald (x := (M 259 x6)) dX12_canAsk_70 sh259 q7 rfl ?_
      refine y_cs (mt2 := mX12_has) (en := [(0, x2), (0, (M 259 x6))]) (st := []) (as := [(0, x2), (0, (M 259 x6))]) dX12_canAsk_71 lX12_373 kX12_has tX12_has rfl (Nat.le_of_ble_eq_true rfl) (Nat.le_of_ble_eq_true rfl) rfl (s_has hG (fun q => ?_) (fun q => ?_))
      · replace h := h.1 q
        show Y G (d + 1) mX12_canAsk 74 [(2, 234), (0, x1), (0, x2), (0, x3), (0, x4), (0, x5), (0, x6)] [(0, 1)] M Q
        refine z_ifne (tgt := 88) dX12_canAsk_74 rfl (fun _ => ?_) (fun q => absurd q (by decide))
        obtain ⟨q8, h⟩ := h
        refine y_iinc (ls' := [(2, 234), (0, x1), (0, x2), (0, x3), (0, x4), (0, x5), (0, (x6 + 1))]) dX12_canAsk_88 rfl rfl q8 rfl ?_
        refine z_goto (tgt := 42) dX12_canAsk_91 rfl ?_
        exact h
      · replace h := h.2 q
        show Y G (d + 1) mX12_canAsk 74 [(2, 234), (0, x1), (0, x2), (0, x3), (0, x4), (0, x5), (0, x6)] [(0, 0)] M Q
        refine z_ifne (tgt := 88) dX12_canAsk_74 rfl (fun q => absurd q (by decide)) (fun _ => ?_)
        refine z_aloadn dX12_canAsk_77 rfl (Or.inl rfl) ?_
        refine z_iload dX12_canAsk_78 rfl ?_
        refine z_iload dX12_canAsk_80 rfl ?_
        refine y_cv (mt2 := mX12_can) (en := [(2, 234), (0, x5), (0, x6)]) (st := []) (as := [(0, x5), (0, x6)]) dX12_canAsk_82 lX12_498 kX12_can iX12_can eX12_can rfl sh234 (by decide +kernel) (Nat.le_of_ble_eq_true rfl) (Nat.le_of_ble_eq_true rfl) rfl ?_
        exact h
set_option maxRecDepth 20000 in
set_option maxHeartbeats 4000000 in
theorem bX12_canAsk_85 {G : zG} {d : Nat} {M : zM} {Q : zV → zM → Prop} (hG : zP G) {x1 x2 x3 x4 x5 x6 x49 : Int}
    (h : ((¬ x49 = 0 → ((¬ x6 = (M 235 0) → (0 ≤ x6 ∧ x6 < 12) ∧ (-2147483648 ≤ x3 + 1 ∧ x3 + 1 ≤ 2147483647) ∧ (-2147483648 ≤ x4 + 1 ∧ x4 + 1 ≤ 2147483647) ∧ Y G (d + 1) mX12_canAsk 7 [(2, 234), (0, x1), (0, (zor x2 (zshl 1 (M 259 x6)))), (0, (x3 + 1)), (0, (x4 + 1)), (9, 0), (9, 0)] [] M Q) ∧ (x6 = (M 235 0) → (-2147483648 ≤ x4 + 1 ∧ x4 + 1 ≤ 2147483647) ∧ Y G (d + 1) mX12_canAsk 7 [(2, 234), (0, x1), (0, x2), (0, x3), (0, (x4 + 1)), (9, 0), (9, 0)] [] M Q))) ∧ (x49 = 0 → (-2147483648 ≤ x6 + 1 ∧ x6 + 1 ≤ 2147483647) ∧ Y G (d + 1) mX12_canAsk 42 [(2, 234), (0, x1), (0, x2), (0, x3), (0, x4), (0, x5), (0, (x6 + 1))] [] M Q))) :
    Y G (d + 1) mX12_canAsk 85 [(2, 234), (0, x1), (0, x2), (0, x3), (0, x4), (0, x5), (0, x6)] [(0, x49)] M Q := by
  refine z_ifne (tgt := 94) dX12_canAsk_85 rfl (fun q => ?_) (fun q => ?_)
  · replace h := h.1 q
    refine z_iload dX12_canAsk_94 rfl ?_
    refine z_aloadn dX12_canAsk_96 rfl (Or.inl rfl) ?_
    refine y_getr (v := 235) hG dX12_canAsk_97 fX12_7 sh234 (by decide) rfl (by decide +kernel) (by decide) ?_
    refine z_iconst dX12_canAsk_100 ki_0 ?_
    refine y_iald (x := (M 235 0)) dX12_canAsk_101 sh235 ⟨by decide, by decide⟩ rfl ?_
    refine z_icmpne (tgt := 108) dX12_canAsk_102 rfl (fun q => ?_) (fun q => ?_)
    · replace h := h.1 q
      refine z_iloadn dX12_canAsk_108 rfl ?_
      refine z_iconst dX12_canAsk_109 ki_1 ?_
      refine z_aloadn dX12_canAsk_110 rfl (Or.inl rfl) ?_
      refine y_getr (v := 259) hG dX12_canAsk_111 fX12_91 sh234 (by decide) rfl (by decide +kernel) (by decide) ?_
      refine z_iload dX12_canAsk_114 rfl ?_
      obtain ⟨q1, h⟩ := h
      refine y_iald (x := (M 259 x6)) dX12_canAsk_116 sh259 q1 rfl ?_
      refine z_ishl dX12_canAsk_117 ?_
      refine z_ior dX12_canAsk_118 ?_
      refine y_istoren (ls' := [(2, 234), (0, x1), (0, (zor x2 (zshl 1 (M 259 x6)))), (0, x3), (0, x4), (0, x5), (0, x6)]) dX12_canAsk_119 rfl rfl ?_
      obtain ⟨q2, h⟩ := h
      refine y_iinc (ls' := [(2, 234), (0, x1), (0, (zor x2 (zshl 1 (M 259 x6)))), (0, (x3 + 1)), (0, x4), (0, x5), (0, x6)]) dX12_canAsk_120 rfl rfl q2 rfl ?_
      obtain ⟨q3, h⟩ := h
      refine y_iinc (ls' := [(2, 234), (0, x1), (0, (zor x2 (zshl 1 (M 259 x6)))), (0, (x3 + 1)), (0, (x4 + 1)), (0, x5), (0, x6)]) dX12_canAsk_123 rfl rfl q3 rfl ?_
      refine z_goto (tgt := 7) dX12_canAsk_126 rfl ?_
      refine z_sub (ls' := [(2, 234), (0, x1), (0, (zor x2 (zshl 1 (M 259 x6)))), (0, (x3 + 1)), (0, (x4 + 1)), (9, 0), (9, 0)]) ⟨Or.inl rfl, Or.inl rfl, Or.inl rfl, Or.inl rfl, Or.inl rfl, Or.inr rfl, Or.inr rfl, trivial⟩ ?_
      exact h
    · replace h := h.2 q
      refine z_goto (tgt := 123) dX12_canAsk_105 rfl ?_
      obtain ⟨q4, h⟩ := h
      refine y_iinc (ls' := [(2, 234), (0, x1), (0, x2), (0, x3), (0, (x4 + 1)), (0, x5), (0, x6)]) dX12_canAsk_123 rfl rfl q4 rfl ?_
      refine z_goto (tgt := 7) dX12_canAsk_126 rfl ?_
      refine z_sub (ls' := [(2, 234), (0, x1), (0, x2), (0, x3), (0, (x4 + 1)), (9, 0), (9, 0)]) ⟨Or.inl rfl, Or.inl rfl, Or.inl rfl, Or.inl rfl, Or.inl rfl, Or.inr rfl, Or.inr rfl, trivial⟩ ?_
      exact h
  · replace h := h.2 q
    obtain ⟨q5, h⟩ := h
    refine y_iinc (ls' := [(2, 234), (0, x1), (0, x2), (0, x3), (0, x4), (0, x5), (0, (x6 + 1))]) dX12_canAsk_88 rfl rfl q5 rfl ?_
    refine z_goto (tgt := 42) dX12_canAsk_91 rfl ?_
    exact h
set_option maxRecDepth 20000 in
set_option maxHeartbeats 4000000 in
theorem bX12_firstOrder_0 {G : zG} {d : Nat} {M : zM} {Q : zV → zM → Prop} (hG : zP G)
    (h : Y G d mX12_firstOrder 2 [(2, 234), (0, 0)] [] M Q) :
    Y G d mX12_firstOrder 0 [(2, 234), (9, 0)] [] M Q := by
  refine z_iconst dX12_firstOrder_0 ki_0 ?_
  refine y_istoren (ls' := [(2, 234), (0, 0)]) dX12_firstOrder_1 rfl rfl ?_
  exact h
set_option maxRecDepth 20000 in
set_option maxHeartbeats 4000000 in
theorem bX12_firstOrder_2 {G : zG} {d : Nat} {M : zM} {Q : zV → zM → Prop} (hG : zP G) {x1 : Int}
    (h : ((6 ≤ x1 → Q (9, 0) M) ∧ (x1 < 6 → (0 ≤ x1 ∧ x1 < 6) ∧ (-2147483648 ≤ x1 + 1 ∧ x1 + 1 ≤ 2147483647) ∧ Y G d mX12_firstOrder 2 [(2, 234), (0, (x1 + 1))] [] (zset M 260 x1 x1) Q))) :
    Y G d mX12_firstOrder 2 [(2, 234), (0, x1)] [] M Q := by
  refine z_iloadn dX12_firstOrder_2 rfl ?_
  refine z_bipush dX12_firstOrder_3 kb_6 ?_
  refine z_icmpge (tgt := 21) dX12_firstOrder_5 rfl (fun q => ?_) (fun q => ?_)
  · replace h := h.1 q
    exact z_return dX12_firstOrder_21 rfl rfl h
  · replace h := h.2 q
    refine z_aloadn dX12_firstOrder_8 rfl (Or.inl rfl) ?_
    refine y_getr (v := 260) hG dX12_firstOrder_9 fX12_94 sh234 (by decide) rfl (by decide +kernel) (by decide) ?_
    refine z_iloadn dX12_firstOrder_12 rfl ?_
    refine z_iloadn dX12_firstOrder_13 rfl ?_
    obtain ⟨q1, h⟩ := h
    refine y_iast hG dX12_firstOrder_14 sh260 q1 ?_
    obtain ⟨q2, h⟩ := h
    refine y_iinc (ls' := [(2, 234), (0, (x1 + 1))]) dX12_firstOrder_15 rfl rfl q2 rfl ?_
    refine z_goto (tgt := 2) dX12_firstOrder_18 rfl ?_
    exact h
set_option maxRecDepth 20000 in
set_option maxHeartbeats 4000000 in
theorem bX12_change_0 {G : zG} {d : Nat} {M : zM} {Q : zV → zM → Prop} (hG : zP G) {x1 x2 : Int}
    (h : (0 ≤ x1 ∧ x1 < 6) ∧ (0 ≤ x2 ∧ x2 < 6) ∧ (0 ≤ x1 ∧ x1 < 6) ∧ (0 ≤ x2 ∧ x2 < 6) ∧ Q (9, 0) (zset (zset M 260 x1 (M 260 x2)) 260 x2 (M 260 x1))) :
    Y G d mX12_change 0 [(2, 234), (0, x1), (0, x2), (9, 0)] [] M Q := by
  refine z_aloadn dX12_change_0 rfl (Or.inl rfl) ?_
  refine y_getr (v := 260) hG dX12_change_1 fX12_94 sh234 (by decide) rfl (by decide +kernel) (by decide) ?_
  refine z_iloadn dX12_change_4 rfl ?_
  obtain ⟨q1, h⟩ := h
  refine y_iald (x := (M 260 x1)) dX12_change_5 sh260 q1 rfl ?_
  refine y_istoren (ls' := [(2, 234), (0, x1), (0, x2), (0, (M 260 x1))]) dX12_change_6 rfl rfl ?_
  refine z_aloadn dX12_change_7 rfl (Or.inl rfl) ?_
  refine y_getr (v := 260) hG dX12_change_8 fX12_94 sh234 (by decide) rfl (by decide +kernel) (by decide) ?_
  refine z_iloadn dX12_change_11 rfl ?_
  refine z_aloadn dX12_change_12 rfl (Or.inl rfl) ?_
  refine y_getr (v := 260) hG dX12_change_13 fX12_94 sh234 (by decide) rfl (by decide +kernel) (by decide) ?_
  refine z_iloadn dX12_change_16 rfl ?_
  obtain ⟨q2, h⟩ := h
  refine y_iald (x := (M 260 x2)) dX12_change_17 sh260 q2 rfl ?_
  obtain ⟨q3, h⟩ := h
  refine y_iast hG dX12_change_18 sh260 q3 ?_
  refine z_aloadn dX12_change_19 rfl (Or.inl rfl) ?_
  refine y_getr (v := 260) hG dX12_change_20 fX12_94 sh234 (by decide) rfl (by decide +kernel) (by decide) ?_
  refine z_iloadn dX12_change_23 rfl ?_
  refine z_iloadn dX12_change_24 rfl ?_
  obtain ⟨q4, h⟩ := h
  refine y_iast hG dX12_change_25 sh260 q4 ?_
  exact z_return dX12_change_26 rfl rfl h
set_option maxRecDepth 20000 in
set_option maxHeartbeats 4000000 in
theorem bX12_nextOrder_0 {G : zG} {d : Nat} {M : zM} {Q : zV → zM → Prop} (hG : zP G)
    (h : (-2147483648 ≤ (M 235 2) - 2 ∧ (M 235 2) - 2 ≤ 2147483647) ∧ Y G (d + 1) mX12_nextOrder 11 [(2, 234), (0, (M 235 2)), (0, ((M 235 2) - 2)), (9, 0), (9, 0), (9, 0)] [] M Q) :
    Y G (d + 1) mX12_nextOrder 0 [(2, 234), (9, 0), (9, 0), (9, 0), (9, 0), (9, 0)] [] M Q := by
  refine z_aloadn dX12_nextOrder_0 rfl (Or.inl rfl) ?_
  refine y_getr (v := 235) hG dX12_nextOrder_1 fX12_7 sh234 (by decide) rfl (by decide +kernel) (by decide) ?_
  refine z_iconst dX12_nextOrder_4 ki_2 ?_
  refine y_iald (x := (M 235 2)) dX12_nextOrder_5 sh235 ⟨by decide, by decide⟩ rfl ?_
  refine y_istoren (ls' := [(2, 234), (0, (M 235 2)), (9, 0), (9, 0), (9, 0), (9, 0)]) dX12_nextOrder_6 rfl rfl ?_
  refine z_iloadn dX12_nextOrder_7 rfl ?_
  refine z_iconst dX12_nextOrder_8 ki_2 ?_
  obtain ⟨q1, h⟩ := h
  refine z_isub dX12_nextOrder_9 q1 ?_
  refine y_istoren (ls' := [(2, 234), (0, (M 235 2)), (0, ((M 235 2) - 2)), (9, 0), (9, 0), (9, 0)]) dX12_nextOrder_10 rfl rfl ?_
  exact h
set_option maxRecDepth 20000 in
set_option maxHeartbeats 4000000 in
theorem bX12_nextOrder_11 {G : zG} {d : Nat} {M : zM} {Q : zV → zM → Prop} (hG : zP G) {x1 x2 : Int}
    (h : ((x2 < 0 → ((0 ≤ x2 → (-2147483648 ≤ x1 - 1 ∧ x1 - 1 ≤ 2147483647) ∧ Y G (d + 1) mX12_nextOrder 48 [(2, 234), (0, x1), (0, x2), (0, (x1 - 1)), (9, 0), (9, 0)] [] M Q) ∧ (x2 < 0 → Q (0, 0) M))) ∧ (0 ≤ x2 → (0 ≤ x2 ∧ x2 < 6) ∧ (-2147483648 ≤ x2 + 1 ∧ x2 + 1 ≤ 2147483647) ∧ (0 ≤ (x2 + 1) ∧ (x2 + 1) < 6) ∧ (((M 260 x2) ≤ (M 260 (x2 + 1)) → ((0 ≤ x2 → (-2147483648 ≤ x1 - 1 ∧ x1 - 1 ≤ 2147483647) ∧ Y G (d + 1) mX12_nextOrder 48 [(2, 234), (0, x1), (0, x2), (0, (x1 - 1)), (9, 0), (9, 0)] [] M Q) ∧ (x2 < 0 → Q (0, 0) M))) ∧ ((M 260 (x2 + 1)) < (M 260 x2) → (-2147483648 ≤ x2 + (-1) ∧ x2 + (-1) ≤ 2147483647) ∧ Y G (d + 1) mX12_nextOrder 11 [(2, 234), (0, x1), (0, (x2 + (-1))), (9, 0), (9, 0), (9, 0)] [] M Q))))) :
    Y G (d + 1) mX12_nextOrder 11 [(2, 234), (0, x1), (0, x2), (9, 0), (9, 0), (9, 0)] [] M Q := by
  refine z_iloadn dX12_nextOrder_11 rfl ?_
  refine z_iflt (tgt := 38) dX12_nextOrder_12 rfl (fun q => ?_) (fun q => ?_)
  · replace h := h.1 q
    refine z_iloadn dX12_nextOrder_38 rfl ?_
    refine z_ifge (tgt := 44) dX12_nextOrder_39 rfl (fun q => ?_) (fun q => ?_)
    · replace h := h.1 q
      refine z_iloadn dX12_nextOrder_44 rfl ?_
      refine z_iconst dX12_nextOrder_45 ki_1 ?_
      obtain ⟨q1, h⟩ := h
      refine z_isub dX12_nextOrder_46 q1 ?_
      refine y_istoren (ls' := [(2, 234), (0, x1), (0, x2), (0, (x1 - 1)), (9, 0), (9, 0)]) dX12_nextOrder_47 rfl rfl ?_
      exact h
    · replace h := h.2 q
      refine z_iconst dX12_nextOrder_42 ki_0 ?_
      exact z_ireturn dX12_nextOrder_43 (Or.inr ⟨rfl, ⟨by decide, by decide⟩⟩) rfl h
  · replace h := h.2 q
    refine z_aloadn dX12_nextOrder_15 rfl (Or.inl rfl) ?_
    refine y_getr (v := 260) hG dX12_nextOrder_16 fX12_94 sh234 (by decide) rfl (by decide +kernel) (by decide) ?_
    refine z_iloadn dX12_nextOrder_19 rfl ?_
    obtain ⟨q2, h⟩ := h
    refine y_iald (x := (M 260 x2)) dX12_nextOrder_20 sh260 q2 rfl ?_
    refine z_aloadn dX12_nextOrder_21 rfl (Or.inl rfl) ?_
    refine y_getr (v := 260) hG dX12_nextOrder_22 fX12_94 sh234 (by decide) rfl (by decide +kernel) (by decide) ?_
    refine z_iloadn dX12_nextOrder_25 rfl ?_
    refine z_iconst dX12_nextOrder_26 ki_1 ?_
    obtain ⟨q3, h⟩ := h
    refine z_iadd dX12_nextOrder_27 q3 ?_
    obtain ⟨q4, h⟩ := h
    refine y_iald (x := (M 260 (x2 + 1))) dX12_nextOrder_28 sh260 q4 rfl ?_
    refine z_icmple (tgt := 38) dX12_nextOrder_29 rfl (fun q => ?_) (fun q => ?_)
    · replace h := h.1 q
      refine z_iloadn dX12_nextOrder_38 rfl ?_
      refine z_ifge (tgt := 44) dX12_nextOrder_39 rfl (fun q => ?_) (fun q => ?_)
      · replace h := h.1 q
        refine z_iloadn dX12_nextOrder_44 rfl ?_
        refine z_iconst dX12_nextOrder_45 ki_1 ?_
        obtain ⟨q5, h⟩ := h
        refine z_isub dX12_nextOrder_46 q5 ?_
        refine y_istoren (ls' := [(2, 234), (0, x1), (0, x2), (0, (x1 - 1)), (9, 0), (9, 0)]) dX12_nextOrder_47 rfl rfl ?_
        exact h
      · replace h := h.2 q
        refine z_iconst dX12_nextOrder_42 ki_0 ?_
        exact z_ireturn dX12_nextOrder_43 (Or.inr ⟨rfl, ⟨by decide, by decide⟩⟩) rfl h
    · replace h := h.2 q
      obtain ⟨q6, h⟩ := h
      refine y_iinc (ls' := [(2, 234), (0, x1), (0, (x2 + (-1))), (9, 0), (9, 0), (9, 0)]) dX12_nextOrder_32 rfl rfl q6 rfl ?_
      refine z_goto (tgt := 11) dX12_nextOrder_35 rfl ?_
      exact h
set_option maxRecDepth 20000 in
set_option maxHeartbeats 4000000 in
theorem bX12_nextOrder_48 {G : zG} {d : Nat} {M : zM} {Q : zV → zM → Prop} (hG : zP G) {x1 x2 x3 : Int}
    (h : (0 ≤ x3 ∧ x3 < 6) ∧ (0 ≤ x2 ∧ x2 < 6) ∧ (((M 260 x2) ≤ (M 260 x3) → Y G d mX12_change 0 [(2, 234), (0, x2), (0, x3), (9, 0)] [] M (fun r M' => Y G (d + 1) mX12_nextOrder 75 [(2, 234), (0, x1), (0, x2), (0, x3), (9, 0), (9, 0)] (zpush r []) M' Q)) ∧ ((M 260 x3) < (M 260 x2) → (-2147483648 ≤ x3 + (-1) ∧ x3 + (-1) ≤ 2147483647) ∧ Y G (d + 1) mX12_nextOrder 48 [(2, 234), (0, x1), (0, x2), (0, (x3 + (-1))), (9, 0), (9, 0)] [] M Q))) :
    Y G (d + 1) mX12_nextOrder 48 [(2, 234), (0, x1), (0, x2), (0, x3), (9, 0), (9, 0)] [] M Q := by
  refine z_aloadn dX12_nextOrder_48 rfl (Or.inl rfl) ?_
  refine y_getr (v := 260) hG dX12_nextOrder_49 fX12_94 sh234 (by decide) rfl (by decide +kernel) (by decide) ?_
  refine z_iloadn dX12_nextOrder_52 rfl ?_
  obtain ⟨q1, h⟩ := h
  refine y_iald (x := (M 260 x3)) dX12_nextOrder_53 sh260 q1 rfl ?_
  refine z_aloadn dX12_nextOrder_54 rfl (Or.inl rfl) ?_
  refine y_getr (v := 260) hG dX12_nextOrder_55 fX12_94 sh234 (by decide) rfl (by decide +kernel) (by decide) ?_
  refine z_iloadn dX12_nextOrder_58 rfl ?_
  obtain ⟨q2, h⟩ := h
  refine y_iald (x := (M 260 x2)) dX12_nextOrder_59 sh260 q2 rfl ?_
  refine z_icmpge (tgt := 69) dX12_nextOrder_60 rfl (fun q => ?_) (fun q => ?_)
  · replace h := h.1 q
    refine z_aloadn dX12_nextOrder_69 rfl (Or.inl rfl) ?_
    refine z_iloadn dX12_nextOrder_70 rfl ?_
    refine z_iloadn dX12_nextOrder_71 rfl ?_
    refine y_cv (mt2 := mX12_change) (en := [(2, 234), (0, x2), (0, x3), (9, 0)]) (st := []) (as := [(0, x2), (0, x3)]) dX12_nextOrder_72 lX12_519 kX12_change iX12_change eX12_change rfl sh234 (by decide +kernel) (Nat.le_of_ble_eq_true rfl) (Nat.le_of_ble_eq_true rfl) rfl ?_
    exact h
  · replace h := h.2 q
    obtain ⟨q3, h⟩ := h
    refine y_iinc (ls' := [(2, 234), (0, x1), (0, x2), (0, (x3 + (-1))), (9, 0), (9, 0)]) dX12_nextOrder_63 rfl rfl q3 rfl ?_
    refine z_goto (tgt := 48) dX12_nextOrder_66 rfl ?_
    exact h
set_option maxRecDepth 20000 in
set_option maxHeartbeats 4000000 in
theorem bX12_nextOrder_85 {G : zG} {d : Nat} {M : zM} {Q : zV → zM → Prop} (hG : zP G) {x1 x2 x3 x4 x5 : Int}
    (h : ((x5 ≤ x4 → Q (0, 1) M) ∧ (x4 < x5 → Y G d mX12_change 0 [(2, 234), (0, x4), (0, x5), (9, 0)] [] M (fun r M' => Y G (d + 1) mX12_nextOrder 100 [(2, 234), (0, x1), (0, x2), (0, x3), (0, x4), (0, x5)] (zpush r []) M' Q)))) :
    Y G (d + 1) mX12_nextOrder 85 [(2, 234), (0, x1), (0, x2), (0, x3), (0, x4), (0, x5)] [] M Q := by
  refine z_iload dX12_nextOrder_85 rfl ?_
  refine z_iload dX12_nextOrder_87 rfl ?_
  refine z_icmpge (tgt := 109) dX12_nextOrder_89 rfl (fun q => ?_) (fun q => ?_)
  · replace h := h.1 q
    refine z_iconst dX12_nextOrder_109 ki_1 ?_
    exact z_ireturn dX12_nextOrder_110 (Or.inr ⟨rfl, ⟨by decide, by decide⟩⟩) rfl h
  · replace h := h.2 q
    refine z_aloadn dX12_nextOrder_92 rfl (Or.inl rfl) ?_
    refine z_iload dX12_nextOrder_93 rfl ?_
    refine z_iload dX12_nextOrder_95 rfl ?_
    refine y_cv (mt2 := mX12_change) (en := [(2, 234), (0, x4), (0, x5), (9, 0)]) (st := []) (as := [(0, x4), (0, x5)]) dX12_nextOrder_97 lX12_519 kX12_change iX12_change eX12_change rfl sh234 (by decide +kernel) (Nat.le_of_ble_eq_true rfl) (Nat.le_of_ble_eq_true rfl) rfl ?_
    exact h
set_option maxRecDepth 20000 in
set_option maxHeartbeats 4000000 in
theorem bX12_nextOrder_75 {G : zG} {d : Nat} {M : zM} {Q : zV → zM → Prop} (hG : zP G) {x1 x2 x3 : Int}
    (h : (-2147483648 ≤ x2 + 1 ∧ x2 + 1 ≤ 2147483647) ∧ (-2147483648 ≤ x1 - 1 ∧ x1 - 1 ≤ 2147483647) ∧ Y G (d + 1) mX12_nextOrder 85 [(2, 234), (0, x1), (0, x2), (0, x3), (0, (x2 + 1)), (0, (x1 - 1))] [] M Q) :
    Y G (d + 1) mX12_nextOrder 75 [(2, 234), (0, x1), (0, x2), (0, x3), (9, 0), (9, 0)] [] M Q := by
  refine z_iloadn dX12_nextOrder_75 rfl ?_
  refine z_iconst dX12_nextOrder_76 ki_1 ?_
  obtain ⟨q1, h⟩ := h
  refine z_iadd dX12_nextOrder_77 q1 ?_
  refine y_istore (ls' := [(2, 234), (0, x1), (0, x2), (0, x3), (0, (x2 + 1)), (9, 0)]) dX12_nextOrder_78 rfl rfl ?_
  refine z_iloadn dX12_nextOrder_80 rfl ?_
  refine z_iconst dX12_nextOrder_81 ki_1 ?_
  obtain ⟨q2, h⟩ := h
  refine z_isub dX12_nextOrder_82 q2 ?_
  refine y_istore (ls' := [(2, 234), (0, x1), (0, x2), (0, x3), (0, (x2 + 1)), (0, (x1 - 1))]) dX12_nextOrder_83 rfl rfl ?_
  exact h
set_option maxRecDepth 20000 in
set_option maxHeartbeats 4000000 in
theorem bX12_nextOrder_100 {G : zG} {d : Nat} {M : zM} {Q : zV → zM → Prop} (hG : zP G) {x1 x2 x3 x4 x5 : Int}
    (h : (-2147483648 ≤ x4 + 1 ∧ x4 + 1 ≤ 2147483647) ∧ (-2147483648 ≤ x5 + (-1) ∧ x5 + (-1) ≤ 2147483647) ∧ Y G (d + 1) mX12_nextOrder 85 [(2, 234), (0, x1), (0, x2), (0, x3), (0, (x4 + 1)), (0, (x5 + (-1)))] [] M Q) :
    Y G (d + 1) mX12_nextOrder 100 [(2, 234), (0, x1), (0, x2), (0, x3), (0, x4), (0, x5)] [] M Q := by
  obtain ⟨q1, h⟩ := h
  refine y_iinc (ls' := [(2, 234), (0, x1), (0, x2), (0, x3), (0, (x4 + 1)), (0, x5)]) dX12_nextOrder_100 rfl rfl q1 rfl ?_
  obtain ⟨q2, h⟩ := h
  refine y_iinc (ls' := [(2, 234), (0, x1), (0, x2), (0, x3), (0, (x4 + 1)), (0, (x5 + (-1)))]) dX12_nextOrder_103 rfl rfl q2 rfl ?_
  refine z_goto (tgt := 85) dX12_nextOrder_106 rfl ?_
  exact h
set_option maxRecDepth 20000 in
set_option maxHeartbeats 4000000 in
theorem bX12_mostOf_0 {G : zG} {d : Nat} {M : zM} {Q : zV → zM → Prop} (hG : zP G) {x1 : Int}
    (h : Y G d mX12_firstOrder 0 [(2, 234), (9, 0)] [] M (fun r M' => Y G (d + 1) mX12_mostOf 6 [(2, 234), (0, x1), (0, (-1)), (9, 0), (9, 0), (9, 0)] (zpush r []) M' Q)) :
    Y G (d + 1) mX12_mostOf 0 [(2, 234), (0, x1), (9, 0), (9, 0), (9, 0), (9, 0)] [] M Q := by
  refine z_iconst dX12_mostOf_0 ki_m1 ?_
  refine y_istoren (ls' := [(2, 234), (0, x1), (0, (-1)), (9, 0), (9, 0), (9, 0)]) dX12_mostOf_1 rfl rfl ?_
  refine z_aloadn dX12_mostOf_2 rfl (Or.inl rfl) ?_
  refine y_cv (mt2 := mX12_firstOrder) (en := [(2, 234), (9, 0)]) (st := []) (as := []) dX12_mostOf_3 lX12_522 kX12_firstOrder iX12_firstOrder eX12_firstOrder rfl sh234 (by decide +kernel) (Nat.le_of_ble_eq_true rfl) (Nat.le_of_ble_eq_true rfl) rfl ?_
  exact h
set_option maxRecDepth 20000 in
set_option maxHeartbeats 4000000 in
theorem bX12_mostOf_8 {G : zG} {d : Nat} {M : zM} {Q : zV → zM → Prop} (hG : zP G) {x1 x2 x3 : Int}
    (h : ((x3 = 0 → Q (0, x2) M) ∧ (¬ x3 = 0 → Y G d mX12_canAsk 0 [(2, 234), (0, x1), (9, 0), (9, 0), (9, 0), (9, 0), (9, 0)] [] M (fun r M' => Y G (d + 1) mX12_mostOf 17 [(2, 234), (0, x1), (0, x2), (0, x3), (9, 0), (9, 0)] (zpush r []) M' Q)))) :
    Y G (d + 1) mX12_mostOf 8 [(2, 234), (0, x1), (0, x2), (0, x3), (9, 0), (9, 0)] [] M Q := by
  refine z_iloadn dX12_mostOf_8 rfl ?_
  refine z_ifeq (tgt := 82) dX12_mostOf_9 rfl (fun q => ?_) (fun q => ?_)
  · replace h := h.1 q
    refine z_iloadn dX12_mostOf_82 rfl ?_
    exact z_ireturn dX12_mostOf_83 (Or.inl rfl) rfl h
  · replace h := h.2 q
    refine z_aloadn dX12_mostOf_12 rfl (Or.inl rfl) ?_
    refine z_iloadn dX12_mostOf_13 rfl ?_
    refine y_cv (mt2 := mX12_canAsk) (en := [(2, 234), (0, x1), (9, 0), (9, 0), (9, 0), (9, 0), (9, 0)]) (st := []) (as := [(0, x1)]) dX12_mostOf_14 lX12_525 kX12_canAsk iX12_canAsk eX12_canAsk rfl sh234 (by decide +kernel) (Nat.le_of_ble_eq_true rfl) (Nat.le_of_ble_eq_true rfl) rfl ?_
    exact h
set_option maxRecDepth 20000 in
set_option maxHeartbeats 4000000 in
theorem bX12_mostOf_31 {G : zG} {d : Nat} {M : zM} {Q : zV → zM → Prop} (hG : zP G) {x1 x2 x3 x4 x5 : Int}
    (h : ((6 ≤ x5 → Y G d mX12_bits 0 [(0, x1), (9, 0), (9, 0)] [] M (fun r M' => Y G (d + 1) mX12_mostOf 63 [(2, 234), (0, x1), (0, x2), (0, x3), (0, x4), (0, x5)] (zpush r [(0, x2)]) M' Q)) ∧ (x5 < 6 → (0 ≤ x5 ∧ x5 < 6) ∧ (0 ≤ x5 ∧ x5 < 6) ∧ (-2147483648 ≤ x5 + 1 ∧ x5 + 1 ≤ 2147483647) ∧ Y G (d + 1) mX12_mostOf 31 [(2, 234), (0, x1), (0, x2), (0, x3), (0, x4), (0, (x5 + 1))] [] (zset M 261 x5 (M 260 x5)) Q))) :
    Y G (d + 1) mX12_mostOf 31 [(2, 234), (0, x1), (0, x2), (0, x3), (0, x4), (0, x5)] [] M Q := by
  refine z_iload dX12_mostOf_31 rfl ?_
  refine z_bipush dX12_mostOf_33 kb_6 ?_
  refine z_icmpge (tgt := 58) dX12_mostOf_35 rfl (fun q => ?_) (fun q => ?_)
  · replace h := h.1 q
    refine z_iloadn dX12_mostOf_58 rfl ?_
    refine z_iloadn dX12_mostOf_59 rfl ?_
    refine y_cs (mt2 := mX12_bits) (en := [(0, x1), (9, 0), (9, 0)]) (st := [(0, x2)]) (as := [(0, x1)]) dX12_mostOf_60 lX12_510 kX12_bits tX12_bits rfl (Nat.le_of_ble_eq_true rfl) (Nat.le_of_ble_eq_true rfl) rfl ?_
    exact h
  · replace h := h.2 q
    refine z_aloadn dX12_mostOf_38 rfl (Or.inl rfl) ?_
    refine y_getr (v := 261) hG dX12_mostOf_39 fX12_97 sh234 (by decide) rfl (by decide +kernel) (by decide) ?_
    refine z_iload dX12_mostOf_42 rfl ?_
    refine z_aloadn dX12_mostOf_44 rfl (Or.inl rfl) ?_
    refine y_getr (v := 260) hG dX12_mostOf_45 fX12_94 sh234 (by decide) rfl (by decide +kernel) (by decide) ?_
    refine z_iload dX12_mostOf_48 rfl ?_
    obtain ⟨q1, h⟩ := h
    refine y_iald (x := (M 260 x5)) dX12_mostOf_50 sh260 q1 rfl ?_
    obtain ⟨q2, h⟩ := h
    refine y_iast hG dX12_mostOf_51 sh261 q2 ?_
    obtain ⟨q3, h⟩ := h
    refine y_iinc (ls' := [(2, 234), (0, x1), (0, x2), (0, x3), (0, x4), (0, (x5 + 1))]) dX12_mostOf_52 rfl rfl q3 rfl ?_
    refine z_goto (tgt := 31) dX12_mostOf_55 rfl ?_
    exact h
set_option maxRecDepth 20000 in
set_option maxHeartbeats 4000000 in
theorem bX12_mostOf_6 {G : zG} {d : Nat} {M : zM} {Q : zV → zM → Prop} (hG : zP G) {x1 x2 : Int}
    (h : Y G (d + 1) mX12_mostOf 8 [(2, 234), (0, x1), (0, x2), (0, 1), (9, 0), (9, 0)] [] M Q) :
    Y G (d + 1) mX12_mostOf 6 [(2, 234), (0, x1), (0, x2), (9, 0), (9, 0), (9, 0)] [] M Q := by
  refine z_iconst dX12_mostOf_6 ki_1 ?_
  refine y_istoren (ls' := [(2, 234), (0, x1), (0, x2), (0, 1), (9, 0), (9, 0)]) dX12_mostOf_7 rfl rfl ?_
  exact h
set_option maxRecDepth 20000 in
set_option maxHeartbeats 4000000 in
theorem bX12_mostOf_17 {G : zG} {d : Nat} {M : zM} {Q : zV → zM → Prop} (hG : zP G) {x1 x2 x3 x49 : Int}
    (h : ((x49 ≤ x2 → Y G d mX12_bits 0 [(0, x1), (9, 0), (9, 0)] [] M (fun r M' => Y G (d + 1) mX12_mostOf 63 [(2, 234), (0, x1), (0, x2), (0, x3), (0, x49), (9, 0)] (zpush r [(0, x2)]) M' Q)) ∧ (x2 < x49 → Y G (d + 1) mX12_mostOf 31 [(2, 234), (0, x1), (0, x49), (0, x3), (0, x49), (0, 0)] [] M Q))) :
    Y G (d + 1) mX12_mostOf 17 [(2, 234), (0, x1), (0, x2), (0, x3), (9, 0), (9, 0)] [(0, x49)] M Q := by
  refine y_istore (ls' := [(2, 234), (0, x1), (0, x2), (0, x3), (0, x49), (9, 0)]) dX12_mostOf_17 rfl rfl ?_
  refine z_iload dX12_mostOf_19 rfl ?_
  refine z_iloadn dX12_mostOf_21 rfl ?_
  refine z_icmple (tgt := 58) dX12_mostOf_22 rfl (fun q => ?_) (fun q => ?_)
  · replace h := h.1 q
    refine z_iloadn dX12_mostOf_58 rfl ?_
    refine z_iloadn dX12_mostOf_59 rfl ?_
    refine y_cs (mt2 := mX12_bits) (en := [(0, x1), (9, 0), (9, 0)]) (st := [(0, x2)]) (as := [(0, x1)]) dX12_mostOf_60 lX12_510 kX12_bits tX12_bits rfl (Nat.le_of_ble_eq_true rfl) (Nat.le_of_ble_eq_true rfl) rfl ?_
    exact h
  · replace h := h.2 q
    refine z_iload dX12_mostOf_25 rfl ?_
    refine y_istoren (ls' := [(2, 234), (0, x1), (0, x49), (0, x3), (0, x49), (9, 0)]) dX12_mostOf_27 rfl rfl ?_
    refine z_iconst dX12_mostOf_28 ki_0 ?_
    refine y_istore (ls' := [(2, 234), (0, x1), (0, x49), (0, x3), (0, x49), (0, 0)]) dX12_mostOf_29 rfl rfl ?_
    exact h
set_option maxRecDepth 20000 in
set_option maxHeartbeats 4000000 in
theorem bX12_mostOf_63 {G : zG} {d : Nat} {M : zM} {Q : zV → zM → Prop} (hG : zP G) {x1 x2 x3 x4 x49 x50 : Int}
    (h : ((x49 ≤ x50 → Y G (d + 1) mX12_mostOf 8 [(2, 234), (0, x1), (0, x2), (0, 0), (9, 0), (9, 0)] [] M Q) ∧ (x50 < x49 → Y G d mX12_nextOrder 0 [(2, 234), (9, 0), (9, 0), (9, 0), (9, 0), (9, 0)] [] M (fun r M' => Y G (d + 1) mX12_mostOf 70 [(2, 234), (0, x1), (0, x2), (0, x3), (0, x4), (9, 0)] (zpush r []) M' Q)))) :
    Y G (d + 1) mX12_mostOf 63 [(2, 234), (0, x1), (0, x2), (0, x3), (0, x4), (9, 0)] [(0, x49), (0, x50)] M Q := by
  refine z_icmpge (tgt := 77) dX12_mostOf_63 rfl (fun q => ?_) (fun q => ?_)
  · replace h := h.1 q
    refine z_iconst dX12_mostOf_77 ki_0 ?_
    refine y_istoren (ls' := [(2, 234), (0, x1), (0, x2), (0, 0), (0, x4), (9, 0)]) dX12_mostOf_78 rfl rfl ?_
    refine z_goto (tgt := 8) dX12_mostOf_79 rfl ?_
    refine z_sub (ls' := [(2, 234), (0, x1), (0, x2), (0, 0), (9, 0), (9, 0)]) ⟨Or.inl rfl, Or.inl rfl, Or.inl rfl, Or.inl rfl, Or.inr rfl, Or.inl rfl, trivial⟩ ?_
    exact h
  · replace h := h.2 q
    refine z_aloadn dX12_mostOf_66 rfl (Or.inl rfl) ?_
    refine y_cv (mt2 := mX12_nextOrder) (en := [(2, 234), (9, 0), (9, 0), (9, 0), (9, 0), (9, 0)]) (st := []) (as := []) dX12_mostOf_67 lX12_528 kX12_nextOrder iX12_nextOrder eX12_nextOrder rfl sh234 (by decide +kernel) (Nat.le_of_ble_eq_true rfl) (Nat.le_of_ble_eq_true rfl) rfl ?_
    exact h
set_option maxRecDepth 20000 in
set_option maxHeartbeats 4000000 in
theorem bX12_mostOf_70 {G : zG} {d : Nat} {M : zM} {Q : zV → zM → Prop} (hG : zP G) {x1 x2 x3 x4 x49 : Int}
    (h : ((x49 = 0 → Y G (d + 1) mX12_mostOf 8 [(2, 234), (0, x1), (0, x2), (0, 0), (9, 0), (9, 0)] [] M Q) ∧ (¬ x49 = 0 → Y G (d + 1) mX12_mostOf 8 [(2, 234), (0, x1), (0, x2), (0, 1), (9, 0), (9, 0)] [] M Q))) :
    Y G (d + 1) mX12_mostOf 70 [(2, 234), (0, x1), (0, x2), (0, x3), (0, x4), (9, 0)] [(0, x49)] M Q := by
  refine z_ifeq (tgt := 77) dX12_mostOf_70 rfl (fun q => ?_) (fun q => ?_)
  · replace h := h.1 q
    refine z_iconst dX12_mostOf_77 ki_0 ?_
    refine y_istoren (ls' := [(2, 234), (0, x1), (0, x2), (0, 0), (0, x4), (9, 0)]) dX12_mostOf_78 rfl rfl ?_
    refine z_goto (tgt := 8) dX12_mostOf_79 rfl ?_
    refine z_sub (ls' := [(2, 234), (0, x1), (0, x2), (0, 0), (9, 0), (9, 0)]) ⟨Or.inl rfl, Or.inl rfl, Or.inl rfl, Or.inl rfl, Or.inr rfl, Or.inl rfl, trivial⟩ ?_
    exact h
  · replace h := h.2 q
    refine z_iconst dX12_mostOf_73 ki_1 ?_
    refine z_goto (tgt := 78) dX12_mostOf_74 rfl ?_
    refine y_istoren (ls' := [(2, 234), (0, x1), (0, x2), (0, 1), (0, x4), (9, 0)]) dX12_mostOf_78 rfl rfl ?_
    refine z_goto (tgt := 8) dX12_mostOf_79 rfl ?_
    refine z_sub (ls' := [(2, 234), (0, x1), (0, x2), (0, 1), (9, 0), (9, 0)]) ⟨Or.inl rfl, Or.inl rfl, Or.inl rfl, Or.inl rfl, Or.inr rfl, Or.inl rfl, trivial⟩ ?_
    exact h
set_option maxRecDepth 20000 in
set_option maxHeartbeats 4000000 in
theorem bX12_order_0 {G : zG} {d : Nat} {M : zM} {Q : zV → zM → Prop} (hG : zP G) {x1 : Int}
    (h : (-2147483648 ≤ (M 235 2) - 1 ∧ (M 235 2) - 1 ≤ 2147483647) ∧ (((-1) ≤ x1 ∧ x1 ≤ ((M 235 2) - 1) → Y G d mX12_findLike 0 [(2, 234), (9, 0), (9, 0)] [] M (fun r M' => Y G (d + 1) mX12_order 23 [(2, 234), (0, x1), (9, 0)] (zpush r []) M' Q)) ∧ (¬ ((-1) ≤ x1 ∧ x1 ≤ ((M 235 2) - 1)) → Q (0, (-2)) M))) :
    Y G (d + 1) mX12_order 0 [(2, 234), (0, x1), (9, 0)] [] M Q := by
  refine z_iloadn dX12_order_0 rfl ?_
  refine z_iconst dX12_order_1 ki_m1 ?_
  refine z_aloadn dX12_order_2 rfl (Or.inl rfl) ?_
  refine y_getr (v := 235) hG dX12_order_3 fX12_7 sh234 (by decide) rfl (by decide +kernel) (by decide) ?_
  refine z_iconst dX12_order_6 ki_2 ?_
  refine y_iald (x := (M 235 2)) dX12_order_7 sh235 ⟨by decide, by decide⟩ rfl ?_
  refine z_iconst dX12_order_8 ki_1 ?_
  obtain ⟨q1, h⟩ := h
  refine z_isub dX12_order_9 q1 ?_
  refine y_cs (mt2 := mX12_isIn) (en := [(0, x1), (0, (-1)), (0, ((M 235 2) - 1))]) (st := []) (as := [(0, x1), (0, (-1)), (0, ((M 235 2) - 1))]) dX12_order_10 lX12_126 kX12_isIn tX12_isIn rfl (Nat.le_of_ble_eq_true rfl) (Nat.le_of_ble_eq_true rfl) rfl (s_isIn hG (fun q => ?_) (fun q => ?_))
  · replace h := h.1 q
    show Y G (d + 1) mX12_order 13 [(2, 234), (0, x1), (9, 0)] [(0, 1)] M Q
    refine z_ifne (tgt := 19) dX12_order_13 rfl (fun _ => ?_) (fun q => absurd q (by decide))
    refine z_aloadn dX12_order_19 rfl (Or.inl rfl) ?_
    refine y_cv (mt2 := mX12_findLike) (en := [(2, 234), (9, 0), (9, 0)]) (st := []) (as := []) dX12_order_20 lX12_531 kX12_findLike iX12_findLike eX12_findLike rfl sh234 (by decide +kernel) (Nat.le_of_ble_eq_true rfl) (Nat.le_of_ble_eq_true rfl) rfl ?_
    exact h
  · replace h := h.2 q
    show Y G (d + 1) mX12_order 13 [(2, 234), (0, x1), (9, 0)] [(0, 0)] M Q
    refine z_ifne (tgt := 19) dX12_order_13 rfl (fun q => absurd q (by decide)) (fun _ => ?_)
    refine z_bipush dX12_order_16 kb_m2 ?_
    exact z_ireturn dX12_order_18 (Or.inl rfl) rfl h
set_option maxRecDepth 20000 in
set_option maxHeartbeats 4000000 in
theorem bX12_order_23 {G : zG} {d : Nat} {M : zM} {Q : zV → zM → Prop} (hG : zP G) {x1 : Int}
    (h : (-2147483648 ≤ (zshl 1 (M 235 2)) - 1 ∧ (zshl 1 (M 235 2)) - 1 ≤ 2147483647) ∧ Y G d mX12_mostOf 0 [(2, 234), (0, ((zshl 1 (M 235 2)) - 1)), (9, 0), (9, 0), (9, 0), (9, 0)] [] M (fun r M' => Y G (d + 1) mX12_order 37 [(2, 234), (0, x1), (9, 0)] (zpush r []) M' Q)) :
    Y G (d + 1) mX12_order 23 [(2, 234), (0, x1), (9, 0)] [] M Q := by
  refine z_aloadn dX12_order_23 rfl (Or.inl rfl) ?_
  refine z_iconst dX12_order_24 ki_1 ?_
  refine z_aloadn dX12_order_25 rfl (Or.inl rfl) ?_
  refine y_getr (v := 235) hG dX12_order_26 fX12_7 sh234 (by decide) rfl (by decide +kernel) (by decide) ?_
  refine z_iconst dX12_order_29 ki_2 ?_
  refine y_iald (x := (M 235 2)) dX12_order_30 sh235 ⟨by decide, by decide⟩ rfl ?_
  refine z_ishl dX12_order_31 ?_
  refine z_iconst dX12_order_32 ki_1 ?_
  obtain ⟨q1, h⟩ := h
  refine z_isub dX12_order_33 q1 ?_
  refine y_cv (mt2 := mX12_mostOf) (en := [(2, 234), (0, ((zshl 1 (M 235 2)) - 1)), (9, 0), (9, 0), (9, 0), (9, 0)]) (st := []) (as := [(0, ((zshl 1 (M 235 2)) - 1))]) dX12_order_34 lX12_534 kX12_mostOf iX12_mostOf eX12_mostOf rfl sh234 (by decide +kernel) (Nat.le_of_ble_eq_true rfl) (Nat.le_of_ble_eq_true rfl) rfl ?_
  exact h
set_option maxRecDepth 20000 in
set_option maxHeartbeats 4000000 in
theorem bX12_order_37 {G : zG} {d : Nat} {M : zM} {Q : zV → zM → Prop} (hG : zP G) {x1 x49 : Int}
    (h : ((¬ x1 = (-1) → ((¬ x49 = (M 235 2) → Q (0, (-2)) M) ∧ (x49 = (M 235 2) → (0 ≤ x1 ∧ x1 < 6) ∧ Q (0, (M 261 x1)) M))) ∧ (x1 = (-1) → Q (0, x49) M))) :
    Y G (d + 1) mX12_order 37 [(2, 234), (0, x1), (9, 0)] [(0, x49)] M Q := by
  refine y_istoren (ls' := [(2, 234), (0, x1), (0, x49)]) dX12_order_37 rfl rfl ?_
  refine z_iloadn dX12_order_38 rfl ?_
  refine z_iconst dX12_order_39 ki_m1 ?_
  refine z_icmpne (tgt := 45) dX12_order_40 rfl (fun q => ?_) (fun q => ?_)
  · replace h := h.1 q
    refine z_iloadn dX12_order_45 rfl ?_
    refine z_aloadn dX12_order_46 rfl (Or.inl rfl) ?_
    refine y_getr (v := 235) hG dX12_order_47 fX12_7 sh234 (by decide) rfl (by decide +kernel) (by decide) ?_
    refine z_iconst dX12_order_50 ki_2 ?_
    refine y_iald (x := (M 235 2)) dX12_order_51 sh235 ⟨by decide, by decide⟩ rfl ?_
    refine z_icmpne (tgt := 64) dX12_order_52 rfl (fun q => ?_) (fun q => ?_)
    · replace h := h.1 q
      refine z_bipush dX12_order_64 kb_m2 ?_
      exact z_ireturn dX12_order_66 (Or.inl rfl) rfl h
    · replace h := h.2 q
      refine z_aloadn dX12_order_55 rfl (Or.inl rfl) ?_
      refine y_getr (v := 261) hG dX12_order_56 fX12_97 sh234 (by decide) rfl (by decide +kernel) (by decide) ?_
      refine z_iloadn dX12_order_59 rfl ?_
      obtain ⟨q1, h⟩ := h
      refine y_iald (x := (M 261 x1)) dX12_order_60 sh261 q1 rfl ?_
      refine z_goto (tgt := 66) dX12_order_61 rfl ?_
      exact z_ireturn dX12_order_66 (Or.inl rfl) rfl h
  · replace h := h.2 q
    refine z_iloadn dX12_order_43 rfl ?_
    exact z_ireturn dX12_order_44 (Or.inl rfl) rfl h
set_option maxRecDepth 20000 in
set_option maxHeartbeats 4000000 in
theorem bX12_thing_0 {G : zG} {d : Nat} {M : zM} {Q : zV → zM → Prop} (hG : zP G) {x1 x2 : Int}
    (h : ((0 ≤ x1 ∧ x1 ≤ 3 → ((0 ≤ x2 ∧ x2 ≤ 99 → (-2147483648 ≤ 10 + x1 ∧ 10 + x1 ≤ 2147483647) ∧ (0 ≤ (10 + x1) ∧ (10 + x1) < 156) ∧ Q (0, 1) (zset M 235 (10 + x1) x2)) ∧ (¬ (0 ≤ x2 ∧ x2 ≤ 99) → Q (0, 0) M))) ∧ (¬ (0 ≤ x1 ∧ x1 ≤ 3) → Q (0, 0) M))) :
    Y G (d + 1) mX12_thing 0 [(2, 234), (0, x1), (0, x2)] [] M Q := by
  refine z_iloadn dX12_thing_0 rfl ?_
  refine z_iconst dX12_thing_1 ki_0 ?_
  refine z_iconst dX12_thing_2 ki_3 ?_
  refine y_cs (mt2 := mX12_isIn) (en := [(0, x1), (0, 0), (0, 3)]) (st := []) (as := [(0, x1), (0, 0), (0, 3)]) dX12_thing_3 lX12_126 kX12_isIn tX12_isIn rfl (Nat.le_of_ble_eq_true rfl) (Nat.le_of_ble_eq_true rfl) rfl (s_isIn hG (fun q => ?_) (fun q => ?_))
  · replace h := h.1 q
    show Y G (d + 1) mX12_thing 6 [(2, 234), (0, x1), (0, x2)] [(0, 1)] M Q
    refine z_ifeq (tgt := 19) dX12_thing_6 rfl (fun q => absurd q (by decide)) (fun _ => ?_)
    refine z_iloadn dX12_thing_9 rfl ?_
    refine z_iconst dX12_thing_10 ki_0 ?_
    refine z_bipush dX12_thing_11 kb_99 ?_
    refine y_cs (mt2 := mX12_isIn) (en := [(0, x2), (0, 0), (0, 99)]) (st := []) (as := [(0, x2), (0, 0), (0, 99)]) dX12_thing_13 lX12_126 kX12_isIn tX12_isIn rfl (Nat.le_of_ble_eq_true rfl) (Nat.le_of_ble_eq_true rfl) rfl (s_isIn hG (fun q => ?_) (fun q => ?_))
    · replace h := h.1 q
      show Y G (d + 1) mX12_thing 16 [(2, 234), (0, x1), (0, x2)] [(0, 1)] M Q
      refine z_ifne (tgt := 21) dX12_thing_16 rfl (fun _ => ?_) (fun q => absurd q (by decide))
      refine z_aloadn dX12_thing_21 rfl (Or.inl rfl) ?_
      refine y_getr (v := 235) hG dX12_thing_22 fX12_7 sh234 (by decide) rfl (by decide +kernel) (by decide) ?_
      refine z_bipush dX12_thing_25 kb_10 ?_
      refine z_iloadn dX12_thing_27 rfl ?_
      obtain ⟨q1, h⟩ := h
      refine z_iadd dX12_thing_28 q1 ?_
      refine z_iloadn dX12_thing_29 rfl ?_
      obtain ⟨q2, h⟩ := h
      refine y_iast hG dX12_thing_30 sh235 q2 ?_
      refine z_iconst dX12_thing_31 ki_1 ?_
      exact z_ireturn dX12_thing_32 (Or.inr ⟨rfl, ⟨by decide, by decide⟩⟩) rfl h
    · replace h := h.2 q
      show Y G (d + 1) mX12_thing 16 [(2, 234), (0, x1), (0, x2)] [(0, 0)] M Q
      refine z_ifne (tgt := 21) dX12_thing_16 rfl (fun q => absurd q (by decide)) (fun _ => ?_)
      refine z_iconst dX12_thing_19 ki_0 ?_
      exact z_ireturn dX12_thing_20 (Or.inr ⟨rfl, ⟨by decide, by decide⟩⟩) rfl h
  · replace h := h.2 q
    show Y G (d + 1) mX12_thing 6 [(2, 234), (0, x1), (0, x2)] [(0, 0)] M Q
    refine z_ifeq (tgt := 19) dX12_thing_6 rfl (fun _ => ?_) (fun q => absurd q (by decide))
    refine z_iconst dX12_thing_19 ki_0 ?_
    exact z_ireturn dX12_thing_20 (Or.inr ⟨rfl, ⟨by decide, by decide⟩⟩) rfl h
set_option maxRecDepth 20000 in
set_option maxHeartbeats 4000000 in
theorem bX12_shut_0 {G : zG} {d : Nat} {M : zM} {Q : zV → zM → Prop} (hG : zP G)
    (h : Y G d mX12_findLike 0 [(2, 234), (9, 0), (9, 0)] [] M (fun r M' => Y G (d + 1) mX12_shut 4 [(2, 234), (9, 0), (9, 0), (9, 0)] (zpush r []) M' Q)) :
    Y G (d + 1) mX12_shut 0 [(2, 234), (9, 0), (9, 0), (9, 0)] [] M Q := by
  refine z_aloadn dX12_shut_0 rfl (Or.inl rfl) ?_
  refine y_cv (mt2 := mX12_findLike) (en := [(2, 234), (9, 0), (9, 0)]) (st := []) (as := []) dX12_shut_1 lX12_531 kX12_findLike iX12_findLike eX12_findLike rfl sh234 (by decide +kernel) (Nat.le_of_ble_eq_true rfl) (Nat.le_of_ble_eq_true rfl) rfl ?_
  exact h
set_option maxRecDepth 20000 in
set_option maxHeartbeats 4000000 in
theorem bX12_shut_19 {G : zG} {d : Nat} {M : zM} {Q : zV → zM → Prop} (hG : zP G) {x1 x2 x3 : Int}
    (h : ((x1 ≤ x3 → Q (0, x2) M) ∧ (x3 < x1 → Y G d mX12_bits 0 [(0, x3), (9, 0), (9, 0)] [] M (fun r M' => Y G (d + 1) mX12_shut 28 [(2, 234), (0, x1), (0, x2), (0, x3)] (zpush r []) M' Q)))) :
    Y G (d + 1) mX12_shut 19 [(2, 234), (0, x1), (0, x2), (0, x3)] [] M Q := by
  refine z_iloadn dX12_shut_19 rfl ?_
  refine z_iloadn dX12_shut_20 rfl ?_
  refine z_icmpge (tgt := 63) dX12_shut_21 rfl (fun q => ?_) (fun q => ?_)
  · replace h := h.1 q
    refine z_iloadn dX12_shut_63 rfl ?_
    exact z_ireturn dX12_shut_64 (Or.inl rfl) rfl h
  · replace h := h.2 q
    refine z_iloadn dX12_shut_24 rfl ?_
    refine y_cs (mt2 := mX12_bits) (en := [(0, x3), (9, 0), (9, 0)]) (st := []) (as := [(0, x3)]) dX12_shut_25 lX12_510 kX12_bits tX12_bits rfl (Nat.le_of_ble_eq_true rfl) (Nat.le_of_ble_eq_true rfl) rfl ?_
    exact h
set_option maxRecDepth 20000 in
set_option maxHeartbeats 4000000 in
theorem bX12_shut_4 {G : zG} {d : Nat} {M : zM} {Q : zV → zM → Prop} (hG : zP G)
    (h : (-2147483648 ≤ (zshl 1 (M 235 2)) - 1 ∧ (zshl 1 (M 235 2)) - 1 ≤ 2147483647) ∧ Y G (d + 1) mX12_shut 19 [(2, 234), (0, ((zshl 1 (M 235 2)) - 1)), (0, ((zshl 1 (M 235 2)) - 1)), (0, 0)] [] M Q) :
    Y G (d + 1) mX12_shut 4 [(2, 234), (9, 0), (9, 0), (9, 0)] [] M Q := by
  refine z_iconst dX12_shut_4 ki_1 ?_
  refine z_aloadn dX12_shut_5 rfl (Or.inl rfl) ?_
  refine y_getr (v := 235) hG dX12_shut_6 fX12_7 sh234 (by decide) rfl (by decide +kernel) (by decide) ?_
  refine z_iconst dX12_shut_9 ki_2 ?_
  refine y_iald (x := (M 235 2)) dX12_shut_10 sh235 ⟨by decide, by decide⟩ rfl ?_
  refine z_ishl dX12_shut_11 ?_
  refine z_iconst dX12_shut_12 ki_1 ?_
  obtain ⟨q1, h⟩ := h
  refine z_isub dX12_shut_13 q1 ?_
  refine y_istoren (ls' := [(2, 234), (0, ((zshl 1 (M 235 2)) - 1)), (9, 0), (9, 0)]) dX12_shut_14 rfl rfl ?_
  refine z_iloadn dX12_shut_15 rfl ?_
  refine y_istoren (ls' := [(2, 234), (0, ((zshl 1 (M 235 2)) - 1)), (0, ((zshl 1 (M 235 2)) - 1)), (9, 0)]) dX12_shut_16 rfl rfl ?_
  refine z_iconst dX12_shut_17 ki_0 ?_
  refine y_istoren (ls' := [(2, 234), (0, ((zshl 1 (M 235 2)) - 1)), (0, ((zshl 1 (M 235 2)) - 1)), (0, 0)]) dX12_shut_18 rfl rfl ?_
  exact h
set_option maxRecDepth 20000 in
set_option maxHeartbeats 4000000 in
theorem bX12_shut_28 {G : zG} {d : Nat} {M : zM} {Q : zV → zM → Prop} (hG : zP G) {x1 x2 x3 x49 : Int}
    (h : Y G d mX12_bits 0 [(0, x2), (9, 0), (9, 0)] [] M (fun r M' => Y G (d + 1) mX12_shut 32 [(2, 234), (0, x1), (0, x2), (0, x3)] (zpush r [(0, x49)]) M' Q)) :
    Y G (d + 1) mX12_shut 28 [(2, 234), (0, x1), (0, x2), (0, x3)] [(0, x49)] M Q := by
  refine z_iloadn dX12_shut_28 rfl ?_
  refine y_cs (mt2 := mX12_bits) (en := [(0, x2), (9, 0), (9, 0)]) (st := [(0, x49)]) (as := [(0, x2)]) dX12_shut_29 lX12_510 kX12_bits tX12_bits rfl (Nat.le_of_ble_eq_true rfl) (Nat.le_of_ble_eq_true rfl) rfl ?_
  exact h
set_option maxRecDepth 20000 in
set_option maxHeartbeats 4000000 in
theorem bX12_shut_32 {G : zG} {d : Nat} {M : zM} {Q : zV → zM → Prop} (hG : zP G) {x1 x2 x3 x49 x50 : Int}
    (h : ((x49 ≤ x50 → (-2147483648 ≤ x3 + 1 ∧ x3 + 1 ≤ 2147483647) ∧ Y G (d + 1) mX12_shut 19 [(2, 234), (0, x1), (0, x2), (0, (x3 + 1))] [] M Q) ∧ (x50 < x49 → Y G d mX12_mostOf 0 [(2, 234), (0, (zand x1 (zxor x3 (-1)))), (9, 0), (9, 0), (9, 0), (9, 0)] [] M (fun r M' => Y G (d + 1) mX12_shut 44 [(2, 234), (0, x1), (0, x2), (0, x3)] (zpush r []) M' Q)))) :
    Y G (d + 1) mX12_shut 32 [(2, 234), (0, x1), (0, x2), (0, x3)] [(0, x49), (0, x50)] M Q := by
  refine z_icmpge (tgt := 57) dX12_shut_32 rfl (fun q => ?_) (fun q => ?_)
  · replace h := h.1 q
    obtain ⟨q1, h⟩ := h
    refine y_iinc (ls' := [(2, 234), (0, x1), (0, x2), (0, (x3 + 1))]) dX12_shut_57 rfl rfl q1 rfl ?_
    refine z_goto (tgt := 19) dX12_shut_60 rfl ?_
    exact h
  · replace h := h.2 q
    refine z_aloadn dX12_shut_35 rfl (Or.inl rfl) ?_
    refine z_iloadn dX12_shut_36 rfl ?_
    refine z_iloadn dX12_shut_37 rfl ?_
    refine z_iconst dX12_shut_38 ki_m1 ?_
    refine z_ixor dX12_shut_39 ?_
    refine z_iand dX12_shut_40 ?_
    refine y_cv (mt2 := mX12_mostOf) (en := [(2, 234), (0, (zand x1 (zxor x3 (-1)))), (9, 0), (9, 0), (9, 0), (9, 0)]) (st := []) (as := [(0, (zand x1 (zxor x3 (-1))))]) dX12_shut_41 lX12_534 kX12_mostOf iX12_mostOf eX12_mostOf rfl sh234 (by decide +kernel) (Nat.le_of_ble_eq_true rfl) (Nat.le_of_ble_eq_true rfl) rfl ?_
    exact h
set_option maxRecDepth 20000 in
set_option maxHeartbeats 4000000 in
theorem bX12_shut_44 {G : zG} {d : Nat} {M : zM} {Q : zV → zM → Prop} (hG : zP G) {x1 x2 x3 x49 : Int}
    (h : Y G d mX12_bits 0 [(0, (zand x1 (zxor x3 (-1)))), (9, 0), (9, 0)] [] M (fun r M' => Y G (d + 1) mX12_shut 52 [(2, 234), (0, x1), (0, x2), (0, x3)] (zpush r [(0, x49)]) M' Q)) :
    Y G (d + 1) mX12_shut 44 [(2, 234), (0, x1), (0, x2), (0, x3)] [(0, x49)] M Q := by
  refine z_iloadn dX12_shut_44 rfl ?_
  refine z_iloadn dX12_shut_45 rfl ?_
  refine z_iconst dX12_shut_46 ki_m1 ?_
  refine z_ixor dX12_shut_47 ?_
  refine z_iand dX12_shut_48 ?_
  refine y_cs (mt2 := mX12_bits) (en := [(0, (zand x1 (zxor x3 (-1)))), (9, 0), (9, 0)]) (st := [(0, x49)]) (as := [(0, (zand x1 (zxor x3 (-1))))]) dX12_shut_49 lX12_510 kX12_bits tX12_bits rfl (Nat.le_of_ble_eq_true rfl) (Nat.le_of_ble_eq_true rfl) rfl ?_
  exact h
set_option maxRecDepth 20000 in
set_option maxHeartbeats 4000000 in
theorem bX12_shut_52 {G : zG} {d : Nat} {M : zM} {Q : zV → zM → Prop} (hG : zP G) {x1 x2 x3 x49 x50 : Int}
    (h : ((¬ x50 = x49 → (-2147483648 ≤ x3 + 1 ∧ x3 + 1 ≤ 2147483647) ∧ Y G (d + 1) mX12_shut 19 [(2, 234), (0, x1), (0, x2), (0, (x3 + 1))] [] M Q) ∧ (x50 = x49 → (-2147483648 ≤ x3 + 1 ∧ x3 + 1 ≤ 2147483647) ∧ Y G (d + 1) mX12_shut 19 [(2, 234), (0, x1), (0, x3), (0, (x3 + 1))] [] M Q))) :
    Y G (d + 1) mX12_shut 52 [(2, 234), (0, x1), (0, x2), (0, x3)] [(0, x49), (0, x50)] M Q := by
  refine z_icmpne (tgt := 57) dX12_shut_52 rfl (fun q => ?_) (fun q => ?_)
  · replace h := h.1 q
    obtain ⟨q1, h⟩ := h
    refine y_iinc (ls' := [(2, 234), (0, x1), (0, x2), (0, (x3 + 1))]) dX12_shut_57 rfl rfl q1 rfl ?_
    refine z_goto (tgt := 19) dX12_shut_60 rfl ?_
    exact h
  · replace h := h.2 q
    refine z_iloadn dX12_shut_55 rfl ?_
    refine y_istoren (ls' := [(2, 234), (0, x1), (0, x3), (0, x3)]) dX12_shut_56 rfl rfl ?_
    obtain ⟨q2, h⟩ := h
    refine y_iinc (ls' := [(2, 234), (0, x1), (0, x3), (0, (x3 + 1))]) dX12_shut_57 rfl rfl q2 rfl ?_
    refine z_goto (tgt := 19) dX12_shut_60 rfl ?_
    exact h
set_option maxRecDepth 20000 in
set_option maxHeartbeats 4000000 in
theorem bX12_isGood_0 {G : zG} {d : Nat} {M : zM} {Q : zV → zM → Prop} (hG : zP G) {x1 x2 x3 x4 : Int}
    (h : (0 ≤ x3 ∧ x3 < 12) ∧ (((M 258 x3) = 0 → Q (0, 0) M) ∧ (¬ (M 258 x3) = 0 → (0 ≤ x3 ∧ x3 < 12) ∧ ((zbit x1 (M 259 x3) → Q (0, 0) M) ∧ (¬ (zbit x1 (M 259 x3)) → Y G d mX12_can 0 [(2, 234), (0, x2), (0, x3)] [] M (fun r M' => Y G (d + 1) mX12_isGood 28 [(2, 234), (0, x1), (0, x2), (0, x3), (0, x4), (9, 0)] (zpush r []) M' Q)))))) :
    Y G (d + 1) mX12_isGood 0 [(2, 234), (0, x1), (0, x2), (0, x3), (0, x4), (9, 0)] [] M Q := by
  refine z_aloadn dX12_isGood_0 rfl (Or.inl rfl) ?_
  refine y_getr (v := 258) hG dX12_isGood_1 fX12_87 sh234 (by decide) rfl (by decide +kernel) (by decide) ?_
  refine z_iloadn dX12_isGood_4 rfl ?_
  obtain ⟨q1, h⟩ := h
  refine y_zald (x := (M 258 x3)) dX12_isGood_5 sh258 q1 rfl ?_
  refine z_ifeq (tgt := 31) dX12_isGood_6 rfl (fun q => ?_) (fun q => ?_)
  · replace h := h.1 q
    refine z_iconst dX12_isGood_31 ki_0 ?_
    exact z_ireturn dX12_isGood_32 (Or.inr ⟨rfl, ⟨by decide, by decide⟩⟩) rfl h
  · replace h := h.2 q
    refine z_iloadn dX12_isGood_9 rfl ?_
    refine z_aloadn dX12_isGood_10 rfl (Or.inl rfl) ?_
    refine y_getr (v := 259) hG dX12_isGood_11 fX12_91 sh234 (by decide) rfl (by decide +kernel) (by decide) ?_
    refine z_iloadn dX12_isGood_14 rfl ?_
    obtain ⟨q2, h⟩ := h
    refine y_iald (x := (M 259 x3)) dX12_isGood_15 sh259 q2 rfl ?_
    refine y_cs (mt2 := mX12_has) (en := [(0, x1), (0, (M 259 x3))]) (st := []) (as := [(0, x1), (0, (M 259 x3))]) dX12_isGood_16 lX12_373 kX12_has tX12_has rfl (Nat.le_of_ble_eq_true rfl) (Nat.le_of_ble_eq_true rfl) rfl (s_has hG (fun q => ?_) (fun q => ?_))
    · replace h := h.1 q
      show Y G (d + 1) mX12_isGood 19 [(2, 234), (0, x1), (0, x2), (0, x3), (0, x4), (9, 0)] [(0, 1)] M Q
      refine z_ifne (tgt := 31) dX12_isGood_19 rfl (fun _ => ?_) (fun q => absurd q (by decide))
      refine z_iconst dX12_isGood_31 ki_0 ?_
      exact z_ireturn dX12_isGood_32 (Or.inr ⟨rfl, ⟨by decide, by decide⟩⟩) rfl h
    · replace h := h.2 q
      show Y G (d + 1) mX12_isGood 19 [(2, 234), (0, x1), (0, x2), (0, x3), (0, x4), (9, 0)] [(0, 0)] M Q
      refine z_ifne (tgt := 31) dX12_isGood_19 rfl (fun q => absurd q (by decide)) (fun _ => ?_)
      refine z_aloadn dX12_isGood_22 rfl (Or.inl rfl) ?_
      refine z_iloadn dX12_isGood_23 rfl ?_
      refine z_iloadn dX12_isGood_24 rfl ?_
      refine y_cv (mt2 := mX12_can) (en := [(2, 234), (0, x2), (0, x3)]) (st := []) (as := [(0, x2), (0, x3)]) dX12_isGood_25 lX12_498 kX12_can iX12_can eX12_can rfl sh234 (by decide +kernel) (Nat.le_of_ble_eq_true rfl) (Nat.le_of_ble_eq_true rfl) rfl ?_
      exact h
set_option maxRecDepth 20000 in
set_option maxHeartbeats 4000000 in
theorem bX12_isGood_28 {G : zG} {d : Nat} {M : zM} {Q : zV → zM → Prop} (hG : zP G) {x1 x2 x3 x4 x49 : Int}
    (h : ((¬ x49 = 0 → (0 ≤ x3 ∧ x3 < 12) ∧ ((x4 = 0 → (0 ≤ (zor x1 (zshl 1 (M 259 x3))) ∧ (zor x1 (zshl 1 (M 259 x3))) < 4096) ∧ ((¬ (M 262 (zor x1 (zshl 1 (M 259 x3)))) = 0 → Q (0, 0) M) ∧ ((M 262 (zor x1 (zshl 1 (M 259 x3)))) = 0 → Q (0, 1) M))) ∧ (¬ x4 = 0 → (0 ≤ (zor x1 (zshl 1 (M 259 x3))) ∧ (zor x1 (zshl 1 (M 259 x3))) < 4096) ∧ ((¬ (M 263 (zor x1 (zshl 1 (M 259 x3)))) = 0 → Q (0, 0) M) ∧ ((M 263 (zor x1 (zshl 1 (M 259 x3)))) = 0 → Q (0, 1) M))))) ∧ (x49 = 0 → Q (0, 0) M))) :
    Y G (d + 1) mX12_isGood 28 [(2, 234), (0, x1), (0, x2), (0, x3), (0, x4), (9, 0)] [(0, x49)] M Q := by
  refine z_ifne (tgt := 33) dX12_isGood_28 rfl (fun q => ?_) (fun q => ?_)
  · replace h := h.1 q
    refine z_iloadn dX12_isGood_33 rfl ?_
    refine z_iconst dX12_isGood_34 ki_1 ?_
    refine z_aloadn dX12_isGood_35 rfl (Or.inl rfl) ?_
    refine y_getr (v := 259) hG dX12_isGood_36 fX12_91 sh234 (by decide) rfl (by decide +kernel) (by decide) ?_
    refine z_iloadn dX12_isGood_39 rfl ?_
    obtain ⟨q1, h⟩ := h
    refine y_iald (x := (M 259 x3)) dX12_isGood_40 sh259 q1 rfl ?_
    refine z_ishl dX12_isGood_41 ?_
    refine z_ior dX12_isGood_42 ?_
    refine y_istore (ls' := [(2, 234), (0, x1), (0, x2), (0, x3), (0, x4), (0, (zor x1 (zshl 1 (M 259 x3))))]) dX12_isGood_43 rfl rfl ?_
    refine z_iload dX12_isGood_45 rfl ?_
    refine z_ifeq (tgt := 68) dX12_isGood_47 rfl (fun q => ?_) (fun q => ?_)
    · replace h := h.1 q
      refine z_aloadn dX12_isGood_68 rfl (Or.inl rfl) ?_
      refine y_getr (v := 262) hG dX12_isGood_69 fX12_100 sh234 (by decide) rfl (by decide +kernel) (by decide) ?_
      refine z_iload dX12_isGood_72 rfl ?_
      obtain ⟨q2, h⟩ := h
      refine y_zald (x := (M 262 (zor x1 (zshl 1 (M 259 x3))))) dX12_isGood_74 sh262 q2 rfl ?_
      refine z_ifne (tgt := 82) dX12_isGood_75 rfl (fun q => ?_) (fun q => ?_)
      · replace h := h.1 q
        refine z_iconst dX12_isGood_82 ki_0 ?_
        exact z_ireturn dX12_isGood_83 (Or.inr ⟨rfl, ⟨by decide, by decide⟩⟩) rfl h
      · replace h := h.2 q
        refine z_iconst dX12_isGood_78 ki_1 ?_
        refine z_goto (tgt := 83) dX12_isGood_79 rfl ?_
        exact z_ireturn dX12_isGood_83 (Or.inr ⟨rfl, ⟨by decide, by decide⟩⟩) rfl h
    · replace h := h.2 q
      refine z_aloadn dX12_isGood_50 rfl (Or.inl rfl) ?_
      refine y_getr (v := 263) hG dX12_isGood_51 fX12_103 sh234 (by decide) rfl (by decide +kernel) (by decide) ?_
      refine z_iload dX12_isGood_54 rfl ?_
      obtain ⟨q3, h⟩ := h
      refine y_zald (x := (M 263 (zor x1 (zshl 1 (M 259 x3))))) dX12_isGood_56 sh263 q3 rfl ?_
      refine z_ifne (tgt := 64) dX12_isGood_57 rfl (fun q => ?_) (fun q => ?_)
      · replace h := h.1 q
        refine z_iconst dX12_isGood_64 ki_0 ?_
        refine z_goto (tgt := 83) dX12_isGood_65 rfl ?_
        exact z_ireturn dX12_isGood_83 (Or.inr ⟨rfl, ⟨by decide, by decide⟩⟩) rfl h
      · replace h := h.2 q
        refine z_iconst dX12_isGood_60 ki_1 ?_
        refine z_goto (tgt := 83) dX12_isGood_61 rfl ?_
        exact z_ireturn dX12_isGood_83 (Or.inr ⟨rfl, ⟨by decide, by decide⟩⟩) rfl h
  · replace h := h.2 q
    refine z_iconst dX12_isGood_31 ki_0 ?_
    exact z_ireturn dX12_isGood_32 (Or.inr ⟨rfl, ⟨by decide, by decide⟩⟩) rfl h
set_option maxRecDepth 20000 in
set_option maxHeartbeats 4000000 in
theorem bX12_wins_0 {G : zG} {d : Nat} {M : zM} {Q : zV → zM → Prop} (hG : zP G) {x1 x2 x3 : Int}
    (h : Y G (d + 1) mX12_wins 3 [(2, 234), (0, x1), (0, x2), (0, x3), (0, 0)] [] M Q) :
    Y G (d + 1) mX12_wins 0 [(2, 234), (0, x1), (0, x2), (0, x3), (9, 0)] [] M Q := by
  refine z_iconst dX12_wins_0 ki_0 ?_
  refine y_istore (ls' := [(2, 234), (0, x1), (0, x2), (0, x3), (0, 0)]) dX12_wins_1 rfl rfl ?_
  exact h
set_option maxRecDepth 20000 in
set_option maxHeartbeats 4000000 in
theorem bX12_wins_3 {G : zG} {d : Nat} {M : zM} {Q : zV → zM → Prop} (hG : zP G) {x1 x2 x3 x4 : Int}
    (h : (((M 235 0) ≤ x4 → Q (0, 0) M) ∧ (x4 < (M 235 0) → Y G d mX12_isGood 0 [(2, 234), (0, x1), (0, x2), (0, x4), (0, x3), (9, 0)] [] M (fun r M' => Y G (d + 1) mX12_wins 23 [(2, 234), (0, x1), (0, x2), (0, x3), (0, x4)] (zpush r []) M' Q)))) :
    Y G (d + 1) mX12_wins 3 [(2, 234), (0, x1), (0, x2), (0, x3), (0, x4)] [] M Q := by
  refine z_iload dX12_wins_3 rfl ?_
  refine z_aloadn dX12_wins_5 rfl (Or.inl rfl) ?_
  refine y_getr (v := 235) hG dX12_wins_6 fX12_7 sh234 (by decide) rfl (by decide +kernel) (by decide) ?_
  refine z_iconst dX12_wins_9 ki_0 ?_
  refine y_iald (x := (M 235 0)) dX12_wins_10 sh235 ⟨by decide, by decide⟩ rfl ?_
  refine z_icmpge (tgt := 34) dX12_wins_11 rfl (fun q => ?_) (fun q => ?_)
  · replace h := h.1 q
    refine z_iconst dX12_wins_34 ki_0 ?_
    exact z_ireturn dX12_wins_35 (Or.inr ⟨rfl, ⟨by decide, by decide⟩⟩) rfl h
  · replace h := h.2 q
    refine z_aloadn dX12_wins_14 rfl (Or.inl rfl) ?_
    refine z_iloadn dX12_wins_15 rfl ?_
    refine z_iloadn dX12_wins_16 rfl ?_
    refine z_iload dX12_wins_17 rfl ?_
    refine z_iloadn dX12_wins_19 rfl ?_
    refine y_cv (mt2 := mX12_isGood) (en := [(2, 234), (0, x1), (0, x2), (0, x4), (0, x3), (9, 0)]) (st := []) (as := [(0, x1), (0, x2), (0, x4), (0, x3)]) dX12_wins_20 lX12_537 kX12_isGood iX12_isGood eX12_isGood rfl sh234 (by decide +kernel) (Nat.le_of_ble_eq_true rfl) (Nat.le_of_ble_eq_true rfl) rfl ?_
    exact h
set_option maxRecDepth 20000 in
set_option maxHeartbeats 4000000 in
theorem bX12_wins_23 {G : zG} {d : Nat} {M : zM} {Q : zV → zM → Prop} (hG : zP G) {x1 x2 x3 x4 x49 : Int}
    (h : ((x49 = 0 → (-2147483648 ≤ x4 + 1 ∧ x4 + 1 ≤ 2147483647) ∧ Y G (d + 1) mX12_wins 3 [(2, 234), (0, x1), (0, x2), (0, x3), (0, (x4 + 1))] [] M Q) ∧ (¬ x49 = 0 → Q (0, 1) M))) :
    Y G (d + 1) mX12_wins 23 [(2, 234), (0, x1), (0, x2), (0, x3), (0, x4)] [(0, x49)] M Q := by
  refine z_ifeq (tgt := 28) dX12_wins_23 rfl (fun q => ?_) (fun q => ?_)
  · replace h := h.1 q
    obtain ⟨q1, h⟩ := h
    refine y_iinc (ls' := [(2, 234), (0, x1), (0, x2), (0, x3), (0, (x4 + 1))]) dX12_wins_28 rfl rfl q1 rfl ?_
    refine z_goto (tgt := 3) dX12_wins_31 rfl ?_
    exact h
  · replace h := h.2 q
    refine z_iconst dX12_wins_26 ki_1 ?_
    exact z_ireturn dX12_wins_27 (Or.inr ⟨rfl, ⟨by decide, by decide⟩⟩) rfl h
set_option maxRecDepth 20000 in
set_option maxHeartbeats 4000000 in
theorem bX12_game_0 {G : zG} {d : Nat} {M : zM} {Q : zV → zM → Prop} (hG : zP G) {x1 x2 x3 : Int}
    (h : (-1000 ≤ (M 235 2) ∧ (M 235 2) ≤ 1000) ∧ ((0 ≤ x1 ∧ x1 < (M 235 2) → (-1000 ≤ (M 235 2) ∧ (M 235 2) ≤ 1000) ∧ ((0 ≤ x2 ∧ x2 < (M 235 2) → ((¬ x1 = x2 → Y G (d + 1) mX12_findLike 0 [(2, 234), (9, 0), (9, 0)] [] M (fun r M' => Y G (d + 2) mX12_game 28 [(2, 234), (0, x1), (0, x2), (0, x3), (9, 0)] (zpush r []) M' Q)) ∧ (x1 = x2 → Q (0, (-2)) M))) ∧ (¬ (0 ≤ x2 ∧ x2 < (M 235 2)) → Q (0, (-2)) M))) ∧ (¬ (0 ≤ x1 ∧ x1 < (M 235 2)) → Q (0, (-2)) M))) :
    Y G (d + 2) mX12_game 0 [(2, 234), (0, x1), (0, x2), (0, x3), (9, 0)] [] M Q := by
  refine z_aloadn dX12_game_0 rfl (Or.inl rfl) ?_
  refine z_iloadn dX12_game_1 rfl ?_
  obtain ⟨q1, h⟩ := h
  refine y_cv (mt2 := mX12_isPupil) (en := [(2, 234), (0, x1)]) (st := []) (as := [(0, x1)]) dX12_game_2 lX12_480 kX12_isPupil iX12_isPupil eX12_isPupil rfl sh234 (by decide +kernel) (Nat.le_of_ble_eq_true rfl) (Nat.le_of_ble_eq_true rfl) rfl (s_misPupil hG rfl q1 (fun q => ?_) (fun q => ?_))
  · replace h := h.1 q
    show Y G (d + 2) mX12_game 5 [(2, 234), (0, x1), (0, x2), (0, x3), (9, 0)] [(0, 1)] M Q
    refine z_ifeq (tgt := 21) dX12_game_5 rfl (fun q => absurd q (by decide)) (fun _ => ?_)
    refine z_aloadn dX12_game_8 rfl (Or.inl rfl) ?_
    refine z_iloadn dX12_game_9 rfl ?_
    obtain ⟨q2, h⟩ := h
    refine y_cv (mt2 := mX12_isPupil) (en := [(2, 234), (0, x2)]) (st := []) (as := [(0, x2)]) dX12_game_10 lX12_480 kX12_isPupil iX12_isPupil eX12_isPupil rfl sh234 (by decide +kernel) (Nat.le_of_ble_eq_true rfl) (Nat.le_of_ble_eq_true rfl) rfl (s_misPupil hG rfl q2 (fun q => ?_) (fun q => ?_))
    · replace h := h.1 q
      show Y G (d + 2) mX12_game 13 [(2, 234), (0, x1), (0, x2), (0, x3), (9, 0)] [(0, 1)] M Q
      refine z_ifeq (tgt := 21) dX12_game_13 rfl (fun q => absurd q (by decide)) (fun _ => ?_)
      refine z_iloadn dX12_game_16 rfl ?_
      refine z_iloadn dX12_game_17 rfl ?_
      refine z_icmpne (tgt := 24) dX12_game_18 rfl (fun q => ?_) (fun q => ?_)
      · replace h := h.1 q
        refine z_aloadn dX12_game_24 rfl (Or.inl rfl) ?_
        refine y_cv (mt2 := mX12_findLike) (en := [(2, 234), (9, 0), (9, 0)]) (st := []) (as := []) dX12_game_25 lX12_531 kX12_findLike iX12_findLike eX12_findLike rfl sh234 (by decide +kernel) (Nat.le_of_ble_eq_true rfl) (Nat.le_of_ble_eq_true rfl) rfl ?_
        exact h
      · replace h := h.2 q
        refine z_bipush dX12_game_21 kb_m2 ?_
        exact z_ireturn dX12_game_23 (Or.inl rfl) rfl h
    · replace h := h.2 q
      show Y G (d + 2) mX12_game 13 [(2, 234), (0, x1), (0, x2), (0, x3), (9, 0)] [(0, 0)] M Q
      refine z_ifeq (tgt := 21) dX12_game_13 rfl (fun _ => ?_) (fun q => absurd q (by decide))
      refine z_bipush dX12_game_21 kb_m2 ?_
      exact z_ireturn dX12_game_23 (Or.inl rfl) rfl h
  · replace h := h.2 q
    show Y G (d + 2) mX12_game 5 [(2, 234), (0, x1), (0, x2), (0, x3), (9, 0)] [(0, 0)] M Q
    refine z_ifeq (tgt := 21) dX12_game_5 rfl (fun _ => ?_) (fun q => absurd q (by decide))
    refine z_bipush dX12_game_21 kb_m2 ?_
    exact z_ireturn dX12_game_23 (Or.inl rfl) rfl h
set_option maxRecDepth 20000 in
set_option maxHeartbeats 4000000 in
theorem bX12_game_40 {G : zG} {d : Nat} {M : zM} {Q : zV → zM → Prop} (hG : zP G) {x1 x2 x3 x4 : Int}
    (h : ((x4 < 0 → ((¬ x3 = 0 → Y G (d + 2) mX12_game 103 [(2, 234), (0, x1), (0, x2), (0, x3), (0, 0)] [] M Q) ∧ (x3 = 0 → (((M 262 0) = 0 → Q (0, x2) M) ∧ (¬ (M 262 0) = 0 → Q (0, x1) M))))) ∧ (0 ≤ x4 → Y G (d + 1) mX12_wins 0 [(2, 234), (0, x4), (0, x1), (0, 1), (9, 0)] [] M (fun r M' => Y G (d + 2) mX12_game 59 [(2, 234), (0, x1), (0, x2), (0, x3), (0, x4)] (zpush r [(0, x4), (2, 262)]) M' Q)))) :
    Y G (d + 2) mX12_game 40 [(2, 234), (0, x1), (0, x2), (0, x3), (0, x4)] [] M Q := by
  refine z_iload dX12_game_40 rfl ?_
  refine z_iflt (tgt := 81) dX12_game_42 rfl (fun q => ?_) (fun q => ?_)
  · replace h := h.1 q
    refine z_iloadn dX12_game_81 rfl ?_
    refine z_ifne (tgt := 100) dX12_game_82 rfl (fun q => ?_) (fun q => ?_)
    · replace h := h.1 q
      refine z_iconst dX12_game_100 ki_0 ?_
      refine y_istore (ls' := [(2, 234), (0, x1), (0, x2), (0, x3), (0, 0)]) dX12_game_101 rfl rfl ?_
      exact h
    · replace h := h.2 q
      refine z_aloadn dX12_game_85 rfl (Or.inl rfl) ?_
      refine y_getr (v := 262) hG dX12_game_86 fX12_100 sh234 (by decide) rfl (by decide +kernel) (by decide) ?_
      refine z_iconst dX12_game_89 ki_0 ?_
      refine y_zald (x := (M 262 0)) dX12_game_90 sh262 ⟨by decide, by decide⟩ rfl ?_
      refine z_ifeq (tgt := 98) dX12_game_91 rfl (fun q => ?_) (fun q => ?_)
      · replace h := h.1 q
        refine z_iloadn dX12_game_98 rfl ?_
        exact z_ireturn dX12_game_99 (Or.inl rfl) rfl h
      · replace h := h.2 q
        refine z_iloadn dX12_game_94 rfl ?_
        refine z_goto (tgt := 99) dX12_game_95 rfl ?_
        exact z_ireturn dX12_game_99 (Or.inl rfl) rfl h
  · replace h := h.2 q
    refine z_aloadn dX12_game_45 rfl (Or.inl rfl) ?_
    refine y_getr (v := 262) hG dX12_game_46 fX12_100 sh234 (by decide) rfl (by decide +kernel) (by decide) ?_
    refine z_iload dX12_game_49 rfl ?_
    refine z_aloadn dX12_game_51 rfl (Or.inl rfl) ?_
    refine z_iload dX12_game_52 rfl ?_
    refine z_iloadn dX12_game_54 rfl ?_
    refine z_iconst dX12_game_55 ki_1 ?_
    refine y_cv (mt2 := mX12_wins) (en := [(2, 234), (0, x4), (0, x1), (0, 1), (9, 0)]) (st := [(0, x4), (2, 262)]) (as := [(0, x4), (0, x1), (0, 1)]) dX12_game_56 lX12_541 kX12_wins iX12_wins eX12_wins rfl sh234 (by decide +kernel) (Nat.le_of_ble_eq_true rfl) (Nat.le_of_ble_eq_true rfl) rfl ?_
    exact h
set_option maxRecDepth 20000 in
set_option maxHeartbeats 4000000 in
theorem bX12_game_103 {G : zG} {d : Nat} {M : zM} {Q : zV → zM → Prop} (hG : zP G) {x1 x2 x3 x4 : Int}
    (h : (((M 235 0) ≤ x4 → Q (0, (-1)) M) ∧ (x4 < (M 235 0) → Y G (d + 1) mX12_isGood 0 [(2, 234), (0, 0), (0, x1), (0, x4), (0, 1), (9, 0)] [] M (fun r M' => Y G (d + 2) mX12_game 123 [(2, 234), (0, x1), (0, x2), (0, x3), (0, x4)] (zpush r []) M' Q)))) :
    Y G (d + 2) mX12_game 103 [(2, 234), (0, x1), (0, x2), (0, x3), (0, x4)] [] M Q := by
  refine z_iload dX12_game_103 rfl ?_
  refine z_aloadn dX12_game_105 rfl (Or.inl rfl) ?_
  refine y_getr (v := 235) hG dX12_game_106 fX12_7 sh234 (by decide) rfl (by decide +kernel) (by decide) ?_
  refine z_iconst dX12_game_109 ki_0 ?_
  refine y_iald (x := (M 235 0)) dX12_game_110 sh235 ⟨by decide, by decide⟩ rfl ?_
  refine z_icmpge (tgt := 135) dX12_game_111 rfl (fun q => ?_) (fun q => ?_)
  · replace h := h.1 q
    refine z_iconst dX12_game_135 ki_m1 ?_
    exact z_ireturn dX12_game_136 (Or.inl rfl) rfl h
  · replace h := h.2 q
    refine z_aloadn dX12_game_114 rfl (Or.inl rfl) ?_
    refine z_iconst dX12_game_115 ki_0 ?_
    refine z_iloadn dX12_game_116 rfl ?_
    refine z_iload dX12_game_117 rfl ?_
    refine z_iconst dX12_game_119 ki_1 ?_
    refine y_cv (mt2 := mX12_isGood) (en := [(2, 234), (0, 0), (0, x1), (0, x4), (0, 1), (9, 0)]) (st := []) (as := [(0, 0), (0, x1), (0, x4), (0, 1)]) dX12_game_120 lX12_537 kX12_isGood iX12_isGood eX12_isGood rfl sh234 (by decide +kernel) (Nat.le_of_ble_eq_true rfl) (Nat.le_of_ble_eq_true rfl) rfl ?_
    exact h
set_option maxRecDepth 20000 in
set_option maxHeartbeats 4000000 in
theorem bX12_game_28 {G : zG} {d : Nat} {M : zM} {Q : zV → zM → Prop} (hG : zP G) {x1 x2 x3 : Int}
    (h : (-2147483648 ≤ (zshl 1 (M 235 0)) - 1 ∧ (zshl 1 (M 235 0)) - 1 ≤ 2147483647) ∧ Y G (d + 2) mX12_game 40 [(2, 234), (0, x1), (0, x2), (0, x3), (0, ((zshl 1 (M 235 0)) - 1))] [] M Q) :
    Y G (d + 2) mX12_game 28 [(2, 234), (0, x1), (0, x2), (0, x3), (9, 0)] [] M Q := by
  refine z_iconst dX12_game_28 ki_1 ?_
  refine z_aloadn dX12_game_29 rfl (Or.inl rfl) ?_
  refine y_getr (v := 235) hG dX12_game_30 fX12_7 sh234 (by decide) rfl (by decide +kernel) (by decide) ?_
  refine z_iconst dX12_game_33 ki_0 ?_
  refine y_iald (x := (M 235 0)) dX12_game_34 sh235 ⟨by decide, by decide⟩ rfl ?_
  refine z_ishl dX12_game_35 ?_
  refine z_iconst dX12_game_36 ki_1 ?_
  obtain ⟨q1, h⟩ := h
  refine z_isub dX12_game_37 q1 ?_
  refine y_istore (ls' := [(2, 234), (0, x1), (0, x2), (0, x3), (0, ((zshl 1 (M 235 0)) - 1))]) dX12_game_38 rfl rfl ?_
  exact h
set_option maxRecDepth 20000 in
set_option maxHeartbeats 4000000 in
theorem bX12_game_59 {G : zG} {d : Nat} {M : zM} {Q : zV → zM → Prop} (hG : zP G) {x1 x2 x3 x4 x49 x50 : Int}
    (h : (0 ≤ x50 ∧ x50 < 4096) ∧ (0 ≤ x49 ∧ x49 ≤ 1) ∧ Y G (d + 1) mX12_wins 0 [(2, 234), (0, x4), (0, x2), (0, 0), (9, 0)] [] (zset M 262 x50 x49) (fun r M' => Y G (d + 2) mX12_game 74 [(2, 234), (0, x1), (0, x2), (0, x3), (0, x4)] (zpush r [(0, x4), (2, 263)]) M' Q)) :
    Y G (d + 2) mX12_game 59 [(2, 234), (0, x1), (0, x2), (0, x3), (0, x4)] [(0, x49), (0, x50), (2, 262)] M Q := by
  obtain ⟨q1, h⟩ := h
  obtain ⟨q2, h⟩ := h
  refine y_zast hG dX12_game_59 sh262 q1 q2 ?_
  refine z_aloadn dX12_game_60 rfl (Or.inl rfl) ?_
  refine y_getr (v := 263) hG dX12_game_61 fX12_103 sh234 (by decide) rfl (by decide +kernel) (by decide) ?_
  refine z_iload dX12_game_64 rfl ?_
  refine z_aloadn dX12_game_66 rfl (Or.inl rfl) ?_
  refine z_iload dX12_game_67 rfl ?_
  refine z_iloadn dX12_game_69 rfl ?_
  refine z_iconst dX12_game_70 ki_0 ?_
  refine y_cv (mt2 := mX12_wins) (en := [(2, 234), (0, x4), (0, x2), (0, 0), (9, 0)]) (st := [(0, x4), (2, 263)]) (as := [(0, x4), (0, x2), (0, 0)]) dX12_game_71 lX12_541 kX12_wins iX12_wins eX12_wins rfl sh234 (by decide +kernel) (Nat.le_of_ble_eq_true rfl) (Nat.le_of_ble_eq_true rfl) rfl ?_
  exact h
set_option maxRecDepth 20000 in
set_option maxHeartbeats 4000000 in
theorem bX12_game_123 {G : zG} {d : Nat} {M : zM} {Q : zV → zM → Prop} (hG : zP G) {x1 x2 x3 x4 x49 : Int}
    (h : ((x49 = 0 → (-2147483648 ≤ x4 + 1 ∧ x4 + 1 ≤ 2147483647) ∧ Y G (d + 2) mX12_game 103 [(2, 234), (0, x1), (0, x2), (0, x3), (0, (x4 + 1))] [] M Q) ∧ (¬ x49 = 0 → Q (0, x4) M))) :
    Y G (d + 2) mX12_game 123 [(2, 234), (0, x1), (0, x2), (0, x3), (0, x4)] [(0, x49)] M Q := by
  refine z_ifeq (tgt := 129) dX12_game_123 rfl (fun q => ?_) (fun q => ?_)
  · replace h := h.1 q
    obtain ⟨q1, h⟩ := h
    refine y_iinc (ls' := [(2, 234), (0, x1), (0, x2), (0, x3), (0, (x4 + 1))]) dX12_game_129 rfl rfl q1 rfl ?_
    refine z_goto (tgt := 103) dX12_game_132 rfl ?_
    exact h
  · replace h := h.2 q
    refine z_iload dX12_game_126 rfl ?_
    exact z_ireturn dX12_game_128 (Or.inl rfl) rfl h
set_option maxRecDepth 20000 in
set_option maxHeartbeats 4000000 in
theorem bX12_game_74 {G : zG} {d : Nat} {M : zM} {Q : zV → zM → Prop} (hG : zP G) {x1 x2 x3 x4 x49 x50 : Int}
    (h : (0 ≤ x50 ∧ x50 < 4096) ∧ (0 ≤ x49 ∧ x49 ≤ 1) ∧ (-2147483648 ≤ x4 + (-1) ∧ x4 + (-1) ≤ 2147483647) ∧ Y G (d + 2) mX12_game 40 [(2, 234), (0, x1), (0, x2), (0, x3), (0, (x4 + (-1)))] [] (zset M 263 x50 x49) Q) :
    Y G (d + 2) mX12_game 74 [(2, 234), (0, x1), (0, x2), (0, x3), (0, x4)] [(0, x49), (0, x50), (2, 263)] M Q := by
  obtain ⟨q1, h⟩ := h
  obtain ⟨q2, h⟩ := h
  refine y_zast hG dX12_game_74 sh263 q1 q2 ?_
  obtain ⟨q3, h⟩ := h
  refine y_iinc (ls' := [(2, 234), (0, x1), (0, x2), (0, x3), (0, (x4 + (-1)))]) dX12_game_75 rfl rfl q3 rfl ?_
  refine z_goto (tgt := 40) dX12_game_78 rfl ?_
  exact h
set_option maxRecDepth 20000 in
set_option maxHeartbeats 4000000 in
theorem bX12_left_0 {G : zG} {d : Nat} {M : zM} {Q : zV → zM → Prop} (hG : zP G) {x1 : Int}
    (h : (-1000 ≤ (M 235 2) ∧ (M 235 2) ≤ 1000) ∧ ((0 ≤ x1 ∧ x1 < (M 235 2) → Y G (d + 2) mX12_left 14 [(2, 234), (0, x1), (0, (-1)), (0, 0)] [] M Q) ∧ (¬ (0 ≤ x1 ∧ x1 < (M 235 2)) → Q (0, (-1)) M))) :
    Y G (d + 2) mX12_left 0 [(2, 234), (0, x1), (9, 0), (9, 0)] [] M Q := by
  refine z_aloadn dX12_left_0 rfl (Or.inl rfl) ?_
  refine z_iloadn dX12_left_1 rfl ?_
  obtain ⟨q1, h⟩ := h
  refine y_cv (mt2 := mX12_isPupil) (en := [(2, 234), (0, x1)]) (st := []) (as := [(0, x1)]) dX12_left_2 lX12_480 kX12_isPupil iX12_isPupil eX12_isPupil rfl sh234 (by decide +kernel) (Nat.le_of_ble_eq_true rfl) (Nat.le_of_ble_eq_true rfl) rfl (s_misPupil hG rfl q1 (fun q => ?_) (fun q => ?_))
  · replace h := h.1 q
    show Y G (d + 2) mX12_left 5 [(2, 234), (0, x1), (9, 0), (9, 0)] [(0, 1)] M Q
    refine z_ifne (tgt := 10) dX12_left_5 rfl (fun _ => ?_) (fun q => absurd q (by decide))
    refine z_iconst dX12_left_10 ki_m1 ?_
    refine y_istoren (ls' := [(2, 234), (0, x1), (0, (-1)), (9, 0)]) dX12_left_11 rfl rfl ?_
    refine z_iconst dX12_left_12 ki_0 ?_
    refine y_istoren (ls' := [(2, 234), (0, x1), (0, (-1)), (0, 0)]) dX12_left_13 rfl rfl ?_
    exact h
  · replace h := h.2 q
    show Y G (d + 2) mX12_left 5 [(2, 234), (0, x1), (9, 0), (9, 0)] [(0, 0)] M Q
    refine z_ifne (tgt := 10) dX12_left_5 rfl (fun q => absurd q (by decide)) (fun _ => ?_)
    refine z_iconst dX12_left_8 ki_m1 ?_
    exact z_ireturn dX12_left_9 (Or.inl rfl) rfl h
set_option maxRecDepth 20000 in
set_option maxHeartbeats 4000000 in
theorem bX12_left_14 {G : zG} {d : Nat} {M : zM} {Q : zV → zM → Prop} (hG : zP G) {x1 x2 x3 : Int}
    (h : (((M 235 0) ≤ x3 → Q (0, x2) M) ∧ (x3 < (M 235 0) → Y G (d + 1) mX12_why 0 [(2, 234), (0, x1), (0, x3)] [] M (fun r M' => Y G (d + 2) mX12_left 30 [(2, 234), (0, x1), (0, x2), (0, x3)] (zpush r []) M' Q)))) :
    Y G (d + 2) mX12_left 14 [(2, 234), (0, x1), (0, x2), (0, x3)] [] M Q := by
  refine z_iloadn dX12_left_14 rfl ?_
  refine z_aloadn dX12_left_15 rfl (Or.inl rfl) ?_
  refine y_getr (v := 235) hG dX12_left_16 fX12_7 sh234 (by decide) rfl (by decide +kernel) (by decide) ?_
  refine z_iconst dX12_left_19 ki_0 ?_
  refine y_iald (x := (M 235 0)) dX12_left_20 sh235 ⟨by decide, by decide⟩ rfl ?_
  refine z_icmpge (tgt := 68) dX12_left_21 rfl (fun q => ?_) (fun q => ?_)
  · replace h := h.1 q
    refine z_iloadn dX12_left_68 rfl ?_
    exact z_ireturn dX12_left_69 (Or.inl rfl) rfl h
  · replace h := h.2 q
    refine z_aloadn dX12_left_24 rfl (Or.inl rfl) ?_
    refine z_iloadn dX12_left_25 rfl ?_
    refine z_iloadn dX12_left_26 rfl ?_
    refine y_cv (mt2 := mX12_why) (en := [(2, 234), (0, x1), (0, x3)]) (st := []) (as := [(0, x1), (0, x3)]) dX12_left_27 lX12_501 kX12_why iX12_why eX12_why rfl sh234 (by decide +kernel) (Nat.le_of_ble_eq_true rfl) (Nat.le_of_ble_eq_true rfl) rfl ?_
    exact h
set_option maxRecDepth 20000 in
set_option maxHeartbeats 4000000 in
theorem bX12_left_30 {G : zG} {d : Nat} {M : zM} {Q : zV → zM → Prop} (hG : zP G) {x1 x2 x3 x49 : Int}
    (h : ((¬ x49 = 0 → (-2147483648 ≤ x3 + 1 ∧ x3 + 1 ≤ 2147483647) ∧ Y G (d + 2) mX12_left 14 [(2, 234), (0, x1), (0, x2), (0, (x3 + 1))] [] M Q) ∧ (x49 = 0 → ((x2 < 0 → (-2147483648 ≤ x3 + 1 ∧ x3 + 1 ≤ 2147483647) ∧ Y G (d + 2) mX12_left 14 [(2, 234), (0, x1), (0, x3), (0, (x3 + 1))] [] M Q) ∧ (0 ≤ x2 → (-2147483648 ≤ 4 * x3 ∧ 4 * x3 ≤ 2147483647) ∧ (-2147483648 ≤ (4 * x3) + 2 ∧ (4 * x3) + 2 ≤ 2147483647) ∧ (0 ≤ ((4 * x3) + 2) ∧ ((4 * x3) + 2) < 48) ∧ (-2147483648 ≤ 4 * x2 ∧ 4 * x2 ≤ 2147483647) ∧ (-2147483648 ≤ (4 * x2) + 2 ∧ (4 * x2) + 2 ≤ 2147483647) ∧ (0 ≤ ((4 * x2) + 2) ∧ ((4 * x2) + 2) < 48) ∧ (((M 248 ((4 * x2) + 2)) ≤ (M 248 ((4 * x3) + 2)) → (-2147483648 ≤ x3 + 1 ∧ x3 + 1 ≤ 2147483647) ∧ Y G (d + 2) mX12_left 14 [(2, 234), (0, x1), (0, x2), (0, (x3 + 1))] [] M Q) ∧ ((M 248 ((4 * x3) + 2)) < (M 248 ((4 * x2) + 2)) → (-2147483648 ≤ x3 + 1 ∧ x3 + 1 ≤ 2147483647) ∧ Y G (d + 2) mX12_left 14 [(2, 234), (0, x1), (0, x3), (0, (x3 + 1))] [] M Q))))))) :
    Y G (d + 2) mX12_left 30 [(2, 234), (0, x1), (0, x2), (0, x3)] [(0, x49)] M Q := by
  refine z_ifne (tgt := 62) dX12_left_30 rfl (fun q => ?_) (fun q => ?_)
  · replace h := h.1 q
    obtain ⟨q1, h⟩ := h
    refine y_iinc (ls' := [(2, 234), (0, x1), (0, x2), (0, (x3 + 1))]) dX12_left_62 rfl rfl q1 rfl ?_
    refine z_goto (tgt := 14) dX12_left_65 rfl ?_
    exact h
  · replace h := h.2 q
    refine z_iloadn dX12_left_33 rfl ?_
    refine z_iflt (tgt := 60) dX12_left_34 rfl (fun q => ?_) (fun q => ?_)
    · replace h := h.1 q
      refine z_iloadn dX12_left_60 rfl ?_
      refine y_istoren (ls' := [(2, 234), (0, x1), (0, x3), (0, x3)]) dX12_left_61 rfl rfl ?_
      obtain ⟨q2, h⟩ := h
      refine y_iinc (ls' := [(2, 234), (0, x1), (0, x3), (0, (x3 + 1))]) dX12_left_62 rfl rfl q2 rfl ?_
      refine z_goto (tgt := 14) dX12_left_65 rfl ?_
      exact h
    · replace h := h.2 q
      refine z_aloadn dX12_left_37 rfl (Or.inl rfl) ?_
      refine y_getr (v := 248) hG dX12_left_38 fX12_56 sh234 (by decide) rfl (by decide +kernel) (by decide) ?_
      refine z_iconst dX12_left_41 ki_4 ?_
      refine z_iloadn dX12_left_42 rfl ?_
      obtain ⟨q3, h⟩ := h
      refine z_imul dX12_left_43 q3 ?_
      refine z_iconst dX12_left_44 ki_2 ?_
      obtain ⟨q4, h⟩ := h
      refine z_iadd dX12_left_45 q4 ?_
      obtain ⟨q5, h⟩ := h
      refine y_iald (x := (M 248 ((4 * x3) + 2))) dX12_left_46 sh248 q5 rfl ?_
      refine z_aloadn dX12_left_47 rfl (Or.inl rfl) ?_
      refine y_getr (v := 248) hG dX12_left_48 fX12_56 sh234 (by decide) rfl (by decide +kernel) (by decide) ?_
      refine z_iconst dX12_left_51 ki_4 ?_
      refine z_iloadn dX12_left_52 rfl ?_
      obtain ⟨q6, h⟩ := h
      refine z_imul dX12_left_53 q6 ?_
      refine z_iconst dX12_left_54 ki_2 ?_
      obtain ⟨q7, h⟩ := h
      refine z_iadd dX12_left_55 q7 ?_
      obtain ⟨q8, h⟩ := h
      refine y_iald (x := (M 248 ((4 * x2) + 2))) dX12_left_56 sh248 q8 rfl ?_
      refine z_icmpge (tgt := 62) dX12_left_57 rfl (fun q => ?_) (fun q => ?_)
      · replace h := h.1 q
        obtain ⟨q9, h⟩ := h
        refine y_iinc (ls' := [(2, 234), (0, x1), (0, x2), (0, (x3 + 1))]) dX12_left_62 rfl rfl q9 rfl ?_
        refine z_goto (tgt := 14) dX12_left_65 rfl ?_
        exact h
      · replace h := h.2 q
        refine z_iloadn dX12_left_60 rfl ?_
        refine y_istoren (ls' := [(2, 234), (0, x1), (0, x3), (0, x3)]) dX12_left_61 rfl rfl ?_
        obtain ⟨q10, h⟩ := h
        refine y_iinc (ls' := [(2, 234), (0, x1), (0, x3), (0, (x3 + 1))]) dX12_left_62 rfl rfl q10 rfl ?_
        refine z_goto (tgt := 14) dX12_left_65 rfl ?_
        exact h
set_option maxRecDepth 20000 in
set_option maxHeartbeats 4000000 in
theorem bX12_join_0 {G : zG} {d : Nat} {M : zM} {Q : zV → zM → Prop} (hG : zP G) {x1 x2 : Int}
    (h : Y G (d + 1) mX12_join 4 [(2, 234), (0, x1), (0, x2), (0, (-500)), (9, 0), (9, 0), (9, 0), (9, 0), (9, 0), (9, 0), (9, 0)] [] M Q) :
    Y G (d + 1) mX12_join 0 [(2, 234), (0, x1), (0, x2), (9, 0), (9, 0), (9, 0), (9, 0), (9, 0), (9, 0), (9, 0), (9, 0)] [] M Q := by
  refine z_sipush dX12_join_0 ks_m500 ?_
  refine y_istoren (ls' := [(2, 234), (0, x1), (0, x2), (0, (-500)), (9, 0), (9, 0), (9, 0), (9, 0), (9, 0), (9, 0), (9, 0)]) dX12_join_3 rfl rfl ?_
  exact h
set_option maxRecDepth 20000 in
set_option maxHeartbeats 4000000 in
theorem bX12_join_4 {G : zG} {d : Nat} {M : zM} {Q : zV → zM → Prop} (hG : zP G) {x1 x2 x3 : Int}
    (h : ((500 < x3 → Q (9, 0) M) ∧ (x3 ≤ 500 → (zcer x1 x3) ∧ (0 ≤ (zce x1 x3) ∧ (zce x1 x3) < 6006) ∧ ((¬ (zlcmp (M 264 (zce x1 x3)) 0) = 0 → Y G (d + 1) mX12_join 38 [(2, 234), (0, x1), (0, x2), (0, x3), (1, (M 264 (zce x1 x3))), (9, 0), (0, (-500)), (9, 0), (9, 0), (9, 0), (9, 0)] [] M Q) ∧ ((zlcmp (M 264 (zce x1 x3)) 0) = 0 → (-2147483648 ≤ x3 + 1 ∧ x3 + 1 ≤ 2147483647) ∧ Y G (d + 1) mX12_join 4 [(2, 234), (0, x1), (0, x2), (0, (x3 + 1)), (9, 0), (9, 0), (9, 0), (9, 0), (9, 0), (9, 0), (9, 0)] [] M Q))))) :
    Y G (d + 1) mX12_join 4 [(2, 234), (0, x1), (0, x2), (0, x3), (9, 0), (9, 0), (9, 0), (9, 0), (9, 0), (9, 0), (9, 0)] [] M Q := by
  refine z_iloadn dX12_join_4 rfl ?_
  refine z_sipush dX12_join_5 ks_500 ?_
  refine z_icmpgt (tgt := 141) dX12_join_8 rfl (fun q => ?_) (fun q => ?_)
  · replace h := h.1 q
    exact z_return dX12_join_141 rfl rfl h
  · replace h := h.2 q
    refine z_aloadn dX12_join_11 rfl (Or.inl rfl) ?_
    refine y_getr (v := 264) hG dX12_join_12 fX12_106 sh234 (by decide) rfl (by decide +kernel) (by decide) ?_
    refine z_iloadn dX12_join_15 rfl ?_
    refine z_iloadn dX12_join_16 rfl ?_
    obtain ⟨q1, h⟩ := h
    refine y_cs (mt2 := mX12_cell) (en := [(0, x1), (0, x3)]) (st := [(2, 264)]) (as := [(0, x1), (0, x3)]) dX12_join_17 lX12_545 kX12_cell tX12_cell rfl (Nat.le_of_ble_eq_true rfl) (Nat.le_of_ble_eq_true rfl) rfl (s_cell hG q1 ?_)
    show Y G (d + 1) mX12_join 20 [(2, 234), (0, x1), (0, x2), (0, x3), (9, 0), (9, 0), (9, 0), (9, 0), (9, 0), (9, 0), (9, 0)] [(0, (zce x1 x3)), (2, 264)] M Q
    obtain ⟨q2, h⟩ := h
    refine y_lald (x := (M 264 (zce x1 x3))) dX12_join_20 sh264 q2 rfl ?_
    refine y_lstore (ls' := [(2, 234), (0, x1), (0, x2), (0, x3), (1, (M 264 (zce x1 x3))), (9, 0), (9, 0), (9, 0), (9, 0), (9, 0), (9, 0)]) dX12_join_21 rfl (Nat.le_of_ble_eq_true rfl) rfl ?_
    refine z_lload dX12_join_23 rfl ?_
    refine z_lconst (k := 0) dX12_join_25 ⟨by decide, ⟨by decide, by decide⟩⟩ ?_
    refine z_lcmp dX12_join_26 ?_
    refine z_ifne (tgt := 33) dX12_join_27 rfl (fun q => ?_) (fun q => ?_)
    · replace h := h.1 q
      refine z_sipush dX12_join_33 ks_m500 ?_
      refine y_istore (ls' := [(2, 234), (0, x1), (0, x2), (0, x3), (1, (M 264 (zce x1 x3))), (9, 0), (0, (-500)), (9, 0), (9, 0), (9, 0), (9, 0)]) dX12_join_36 rfl rfl ?_
      exact h
    · replace h := h.2 q
      refine z_goto (tgt := 135) dX12_join_30 rfl ?_
      obtain ⟨q3, h⟩ := h
      refine y_iinc (ls' := [(2, 234), (0, x1), (0, x2), (0, (x3 + 1)), (1, (M 264 (zce x1 x3))), (9, 0), (9, 0), (9, 0), (9, 0), (9, 0), (9, 0)]) dX12_join_135 rfl rfl q3 rfl ?_
      refine z_goto (tgt := 4) dX12_join_138 rfl ?_
      refine z_sub (ls' := [(2, 234), (0, x1), (0, x2), (0, (x3 + 1)), (9, 0), (9, 0), (9, 0), (9, 0), (9, 0), (9, 0), (9, 0)]) ⟨Or.inl rfl, Or.inl rfl, Or.inl rfl, Or.inl rfl, Or.inr rfl, Or.inl rfl, Or.inl rfl, Or.inl rfl, Or.inl rfl, Or.inl rfl, Or.inl rfl, trivial⟩ ?_
      exact h
set_option maxRecDepth 20000 in
set_option maxHeartbeats 4000000 in
theorem bX12_join_38 {G : zG} {d : Nat} {M : zM} {Q : zV → zM → Prop} (hG : zP G) {x1 x2 x3 x4 x6 : Int}
    (h : ((500 < x6 → (-2147483648 ≤ x3 + 1 ∧ x3 + 1 ≤ 2147483647) ∧ Y G (d + 1) mX12_join 4 [(2, 234), (0, x1), (0, x2), (0, (x3 + 1)), (9, 0), (9, 0), (9, 0), (9, 0), (9, 0), (9, 0), (9, 0)] [] M Q) ∧ (x6 ≤ 500 → (zcer x2 x6) ∧ (0 ≤ (zce x2 x6) ∧ (zce x2 x6) < 6006) ∧ ((¬ (zlcmp (M 264 (zce x2 x6)) 0) = 0 → Y G (d + 1) mX12_join 72 [(2, 234), (0, x1), (0, x2), (0, x3), (1, x4), (9, 0), (0, x6), (1, (M 264 (zce x2 x6))), (9, 0), (0, 0), (9, 0)] [] M Q) ∧ ((zlcmp (M 264 (zce x2 x6)) 0) = 0 → (-2147483648 ≤ x6 + 1 ∧ x6 + 1 ≤ 2147483647) ∧ Y G (d + 1) mX12_join 38 [(2, 234), (0, x1), (0, x2), (0, x3), (1, x4), (9, 0), (0, (x6 + 1)), (9, 0), (9, 0), (9, 0), (9, 0)] [] M Q))))) :
    Y G (d + 1) mX12_join 38 [(2, 234), (0, x1), (0, x2), (0, x3), (1, x4), (9, 0), (0, x6), (9, 0), (9, 0), (9, 0), (9, 0)] [] M Q := by
  refine z_iload dX12_join_38 rfl ?_
  refine z_sipush dX12_join_40 ks_500 ?_
  refine z_icmpgt (tgt := 135) dX12_join_43 rfl (fun q => ?_) (fun q => ?_)
  · replace h := h.1 q
    obtain ⟨q1, h⟩ := h
    refine y_iinc (ls' := [(2, 234), (0, x1), (0, x2), (0, (x3 + 1)), (1, x4), (9, 0), (0, x6), (9, 0), (9, 0), (9, 0), (9, 0)]) dX12_join_135 rfl rfl q1 rfl ?_
    refine z_goto (tgt := 4) dX12_join_138 rfl ?_
    refine z_sub (ls' := [(2, 234), (0, x1), (0, x2), (0, (x3 + 1)), (9, 0), (9, 0), (9, 0), (9, 0), (9, 0), (9, 0), (9, 0)]) ⟨Or.inl rfl, Or.inl rfl, Or.inl rfl, Or.inl rfl, Or.inr rfl, Or.inl rfl, Or.inr rfl, Or.inl rfl, Or.inl rfl, Or.inl rfl, Or.inl rfl, trivial⟩ ?_
    exact h
  · replace h := h.2 q
    refine z_aloadn dX12_join_46 rfl (Or.inl rfl) ?_
    refine y_getr (v := 264) hG dX12_join_47 fX12_106 sh234 (by decide) rfl (by decide +kernel) (by decide) ?_
    refine z_iloadn dX12_join_50 rfl ?_
    refine z_iload dX12_join_51 rfl ?_
    obtain ⟨q2, h⟩ := h
    refine y_cs (mt2 := mX12_cell) (en := [(0, x2), (0, x6)]) (st := [(2, 264)]) (as := [(0, x2), (0, x6)]) dX12_join_53 lX12_545 kX12_cell tX12_cell rfl (Nat.le_of_ble_eq_true rfl) (Nat.le_of_ble_eq_true rfl) rfl (s_cell hG q2 ?_)
    show Y G (d + 1) mX12_join 56 [(2, 234), (0, x1), (0, x2), (0, x3), (1, x4), (9, 0), (0, x6), (9, 0), (9, 0), (9, 0), (9, 0)] [(0, (zce x2 x6)), (2, 264)] M Q
    obtain ⟨q3, h⟩ := h
    refine y_lald (x := (M 264 (zce x2 x6))) dX12_join_56 sh264 q3 rfl ?_
    refine y_lstore (ls' := [(2, 234), (0, x1), (0, x2), (0, x3), (1, x4), (9, 0), (0, x6), (1, (M 264 (zce x2 x6))), (9, 0), (9, 0), (9, 0)]) dX12_join_57 rfl (Nat.le_of_ble_eq_true rfl) rfl ?_
    refine z_lload dX12_join_59 rfl ?_
    refine z_lconst (k := 0) dX12_join_61 ⟨by decide, ⟨by decide, by decide⟩⟩ ?_
    refine z_lcmp dX12_join_62 ?_
    refine z_ifne (tgt := 69) dX12_join_63 rfl (fun q => ?_) (fun q => ?_)
    · replace h := h.1 q
      refine z_iconst dX12_join_69 ki_0 ?_
      refine y_istore (ls' := [(2, 234), (0, x1), (0, x2), (0, x3), (1, x4), (9, 0), (0, x6), (1, (M 264 (zce x2 x6))), (9, 0), (0, 0), (9, 0)]) dX12_join_70 rfl rfl ?_
      exact h
    · replace h := h.2 q
      refine z_goto (tgt := 129) dX12_join_66 rfl ?_
      obtain ⟨q4, h⟩ := h
      refine y_iinc (ls' := [(2, 234), (0, x1), (0, x2), (0, x3), (1, x4), (9, 0), (0, (x6 + 1)), (1, (M 264 (zce x2 x6))), (9, 0), (9, 0), (9, 0)]) dX12_join_129 rfl rfl q4 rfl ?_
      refine z_goto (tgt := 38) dX12_join_132 rfl ?_
      refine z_sub (ls' := [(2, 234), (0, x1), (0, x2), (0, x3), (1, x4), (9, 0), (0, (x6 + 1)), (9, 0), (9, 0), (9, 0), (9, 0)]) ⟨Or.inl rfl, Or.inl rfl, Or.inl rfl, Or.inl rfl, Or.inl rfl, Or.inl rfl, Or.inl rfl, Or.inr rfl, Or.inl rfl, Or.inl rfl, Or.inl rfl, trivial⟩ ?_
      exact h
set_option maxRecDepth 20000 in
set_option maxHeartbeats 4000000 in
theorem bX12_join_72 {G : zG} {d : Nat} {M : zM} {Q : zV → zM → Prop} (hG : zP G) {x1 x2 x3 x4 x6 x7 x9 : Int}
    (h : ((3 ≤ x9 → (-2147483648 ≤ x6 + 1 ∧ x6 + 1 ≤ 2147483647) ∧ Y G (d + 1) mX12_join 38 [(2, 234), (0, x1), (0, x2), (0, x3), (1, x4), (9, 0), (0, (x6 + 1)), (9, 0), (9, 0), (9, 0), (9, 0)] [] M Q) ∧ (x9 < 3 → Y G d mX12_two 0 [(0, x9), (0, x3), (0, x6)] [] M (fun r M' => Y G (d + 1) mX12_join 86 [(2, 234), (0, x1), (0, x2), (0, x3), (1, x4), (9, 0), (0, x6), (1, x7), (9, 0), (0, x9), (9, 0)] (zpush r []) M' Q)))) :
    Y G (d + 1) mX12_join 72 [(2, 234), (0, x1), (0, x2), (0, x3), (1, x4), (9, 0), (0, x6), (1, x7), (9, 0), (0, x9), (9, 0)] [] M Q := by
  refine z_iload dX12_join_72 rfl ?_
  refine z_iconst dX12_join_74 ki_3 ?_
  refine z_icmpge (tgt := 129) dX12_join_75 rfl (fun q => ?_) (fun q => ?_)
  · replace h := h.1 q
    obtain ⟨q1, h⟩ := h
    refine y_iinc (ls' := [(2, 234), (0, x1), (0, x2), (0, x3), (1, x4), (9, 0), (0, (x6 + 1)), (1, x7), (9, 0), (0, x9), (9, 0)]) dX12_join_129 rfl rfl q1 rfl ?_
    refine z_goto (tgt := 38) dX12_join_132 rfl ?_
    refine z_sub (ls' := [(2, 234), (0, x1), (0, x2), (0, x3), (1, x4), (9, 0), (0, (x6 + 1)), (9, 0), (9, 0), (9, 0), (9, 0)]) ⟨Or.inl rfl, Or.inl rfl, Or.inl rfl, Or.inl rfl, Or.inl rfl, Or.inl rfl, Or.inl rfl, Or.inr rfl, Or.inl rfl, Or.inr rfl, Or.inl rfl, trivial⟩ ?_
    exact h
  · replace h := h.2 q
    refine z_iload dX12_join_78 rfl ?_
    refine z_iloadn dX12_join_80 rfl ?_
    refine z_iload dX12_join_81 rfl ?_
    refine y_cs (mt2 := mX12_two) (en := [(0, x9), (0, x3), (0, x6)]) (st := []) (as := [(0, x9), (0, x3), (0, x6)]) dX12_join_83 lX12_548 kX12_two tX12_two rfl (Nat.le_of_ble_eq_true rfl) (Nat.le_of_ble_eq_true rfl) rfl ?_
    exact h
set_option maxRecDepth 20000 in
set_option maxHeartbeats 4000000 in
theorem bX12_join_86 {G : zG} {d : Nat} {M : zM} {Q : zV → zM → Prop} (hG : zP G) {x1 x2 x3 x4 x6 x7 x9 x49 : Int}
    (h : (((-500) ≤ x49 ∧ x49 ≤ 500 → (-2147483648 ≤ x1 + x2 ∧ x1 + x2 ≤ 2147483647) ∧ (zcer (x1 + x2) x49) ∧ (0 ≤ (zce (x1 + x2) x49) ∧ (zce (x1 + x2) x49) < 6006) ∧ (zin 1 (x4 * x7)) ∧ (zin 1 ((M 264 (zce (x1 + x2) x49)) + (x4 * x7))) ∧ (0 ≤ (zce (x1 + x2) x49) ∧ (zce (x1 + x2) x49) < 6006) ∧ (-2147483648 ≤ x9 + 1 ∧ x9 + 1 ≤ 2147483647) ∧ Y G (d + 1) mX12_join 72 [(2, 234), (0, x1), (0, x2), (0, x3), (1, x4), (9, 0), (0, x6), (1, x7), (9, 0), (0, (x9 + 1)), (9, 0)] [] (zset M 264 (zce (x1 + x2) x49) ((M 264 (zce (x1 + x2) x49)) + (x4 * x7))) Q) ∧ (¬ ((-500) ≤ x49 ∧ x49 ≤ 500) → (-2147483648 ≤ x9 + 1 ∧ x9 + 1 ≤ 2147483647) ∧ Y G (d + 1) mX12_join 72 [(2, 234), (0, x1), (0, x2), (0, x3), (1, x4), (9, 0), (0, x6), (1, x7), (9, 0), (0, (x9 + 1)), (9, 0)] [] M Q))) :
    Y G (d + 1) mX12_join 86 [(2, 234), (0, x1), (0, x2), (0, x3), (1, x4), (9, 0), (0, x6), (1, x7), (9, 0), (0, x9), (9, 0)] [(0, x49)] M Q := by
  refine y_istore (ls' := [(2, 234), (0, x1), (0, x2), (0, x3), (1, x4), (9, 0), (0, x6), (1, x7), (9, 0), (0, x9), (0, x49)]) dX12_join_86 rfl rfl ?_
  refine z_iload dX12_join_88 rfl ?_
  refine z_sipush dX12_join_90 ks_m500 ?_
  refine z_sipush dX12_join_93 ks_500 ?_
  refine y_cs (mt2 := mX12_isIn) (en := [(0, x49), (0, (-500)), (0, 500)]) (st := []) (as := [(0, x49), (0, (-500)), (0, 500)]) dX12_join_96 lX12_126 kX12_isIn tX12_isIn rfl (Nat.le_of_ble_eq_true rfl) (Nat.le_of_ble_eq_true rfl) rfl (s_isIn hG (fun q => ?_) (fun q => ?_))
  · replace h := h.1 q
    show Y G (d + 1) mX12_join 99 [(2, 234), (0, x1), (0, x2), (0, x3), (1, x4), (9, 0), (0, x6), (1, x7), (9, 0), (0, x9), (0, x49)] [(0, 1)] M Q
    refine z_ifeq (tgt := 123) dX12_join_99 rfl (fun q => absurd q (by decide)) (fun _ => ?_)
    refine z_aloadn dX12_join_102 rfl (Or.inl rfl) ?_
    refine y_getr (v := 264) hG dX12_join_103 fX12_106 sh234 (by decide) rfl (by decide +kernel) (by decide) ?_
    refine z_iloadn dX12_join_106 rfl ?_
    refine z_iloadn dX12_join_107 rfl ?_
    obtain ⟨q1, h⟩ := h
    refine z_iadd dX12_join_108 q1 ?_
    refine z_iload dX12_join_109 rfl ?_
    obtain ⟨q2, h⟩ := h
    refine y_cs (mt2 := mX12_cell) (en := [(0, (x1 + x2)), (0, x49)]) (st := [(2, 264)]) (as := [(0, (x1 + x2)), (0, x49)]) dX12_join_111 lX12_545 kX12_cell tX12_cell rfl (Nat.le_of_ble_eq_true rfl) (Nat.le_of_ble_eq_true rfl) rfl (s_cell hG q2 ?_)
    show Y G (d + 1) mX12_join 114 [(2, 234), (0, x1), (0, x2), (0, x3), (1, x4), (9, 0), (0, x6), (1, x7), (9, 0), (0, x9), (0, x49)] [(0, (zce (x1 + x2) x49)), (2, 264)] M Q
    refine z_dup2 dX12_join_114 (show (0 : Nat) ≠ 1 by decide) (show (2 : Nat) ≠ 1 by decide) ?_
    obtain ⟨q3, h⟩ := h
    refine y_lald (x := (M 264 (zce (x1 + x2) x49))) dX12_join_115 sh264 q3 rfl ?_
    refine z_lload dX12_join_116 rfl ?_
    refine z_lload dX12_join_118 rfl ?_
    obtain ⟨q4, h⟩ := h
    refine z_lmul dX12_join_120 q4 ?_
    obtain ⟨q5, h⟩ := h
    refine z_ladd dX12_join_121 q5 ?_
    obtain ⟨q6, h⟩ := h
    refine y_last hG dX12_join_122 sh264 q6 ?_
    obtain ⟨q7, h⟩ := h
    refine y_iinc (ls' := [(2, 234), (0, x1), (0, x2), (0, x3), (1, x4), (9, 0), (0, x6), (1, x7), (9, 0), (0, (x9 + 1)), (0, x49)]) dX12_join_123 rfl rfl q7 rfl ?_
    refine z_goto (tgt := 72) dX12_join_126 rfl ?_
    refine z_sub (ls' := [(2, 234), (0, x1), (0, x2), (0, x3), (1, x4), (9, 0), (0, x6), (1, x7), (9, 0), (0, (x9 + 1)), (9, 0)]) ⟨Or.inl rfl, Or.inl rfl, Or.inl rfl, Or.inl rfl, Or.inl rfl, Or.inl rfl, Or.inl rfl, Or.inl rfl, Or.inl rfl, Or.inl rfl, Or.inr rfl, trivial⟩ ?_
    exact h
  · replace h := h.2 q
    show Y G (d + 1) mX12_join 99 [(2, 234), (0, x1), (0, x2), (0, x3), (1, x4), (9, 0), (0, x6), (1, x7), (9, 0), (0, x9), (0, x49)] [(0, 0)] M Q
    refine z_ifeq (tgt := 123) dX12_join_99 rfl (fun _ => ?_) (fun q => absurd q (by decide))
    obtain ⟨q8, h⟩ := h
    refine y_iinc (ls' := [(2, 234), (0, x1), (0, x2), (0, x3), (1, x4), (9, 0), (0, x6), (1, x7), (9, 0), (0, (x9 + 1)), (0, x49)]) dX12_join_123 rfl rfl q8 rfl ?_
    refine z_goto (tgt := 72) dX12_join_126 rfl ?_
    refine z_sub (ls' := [(2, 234), (0, x1), (0, x2), (0, x3), (1, x4), (9, 0), (0, x6), (1, x7), (9, 0), (0, (x9 + 1)), (9, 0)]) ⟨Or.inl rfl, Or.inl rfl, Or.inl rfl, Or.inl rfl, Or.inl rfl, Or.inl rfl, Or.inl rfl, Or.inl rfl, Or.inl rfl, Or.inl rfl, Or.inr rfl, trivial⟩ ?_
    exact h
set_option maxRecDepth 20000 in
set_option maxHeartbeats 4000000 in
theorem bX12_findKinds_0 {G : zG} {d : Nat} {M : zM} {Q : zV → zM → Prop} (hG : zP G) {x1 x2 : Int}
    (h : Y G (d + 1) mX12_findKinds 2 [(2, 234), (0, x1), (0, x2), (0, 0), (9, 0)] [] M Q) :
    Y G (d + 1) mX12_findKinds 0 [(2, 234), (0, x1), (0, x2), (9, 0), (9, 0)] [] M Q := by
  refine z_iconst dX12_findKinds_0 ki_0 ?_
  refine y_istoren (ls' := [(2, 234), (0, x1), (0, x2), (0, 0), (9, 0)]) dX12_findKinds_1 rfl rfl ?_
  exact h
set_option maxRecDepth 20000 in
set_option maxHeartbeats 4000000 in
theorem bX12_findKinds_2 {G : zG} {d : Nat} {M : zM} {Q : zV → zM → Prop} (hG : zP G) {x1 x2 x3 : Int}
    (h : ((6006 ≤ x3 → Y G (d + 1) mX12_findKinds 24 [(2, 234), (0, x1), (0, x2), (0, 0), (9, 0)] [] M Q) ∧ (x3 < 6006 → (0 ≤ x3 ∧ x3 < 6006) ∧ (-2147483648 ≤ x3 + 1 ∧ x3 + 1 ≤ 2147483647) ∧ Y G (d + 1) mX12_findKinds 2 [(2, 234), (0, x1), (0, x2), (0, (x3 + 1)), (9, 0)] [] (zset M 264 x3 0) Q))) :
    Y G (d + 1) mX12_findKinds 2 [(2, 234), (0, x1), (0, x2), (0, x3), (9, 0)] [] M Q := by
  refine z_iloadn dX12_findKinds_2 rfl ?_
  refine z_sipush dX12_findKinds_3 ks_6006 ?_
  refine z_icmpge (tgt := 22) dX12_findKinds_6 rfl (fun q => ?_) (fun q => ?_)
  · replace h := h.1 q
    refine z_iconst dX12_findKinds_22 ki_0 ?_
    refine y_istoren (ls' := [(2, 234), (0, x1), (0, x2), (0, 0), (9, 0)]) dX12_findKinds_23 rfl rfl ?_
    exact h
  · replace h := h.2 q
    refine z_aloadn dX12_findKinds_9 rfl (Or.inl rfl) ?_
    refine y_getr (v := 264) hG dX12_findKinds_10 fX12_106 sh234 (by decide) rfl (by decide +kernel) (by decide) ?_
    refine z_iloadn dX12_findKinds_13 rfl ?_
    refine z_lconst (k := 0) dX12_findKinds_14 ⟨by decide, ⟨by decide, by decide⟩⟩ ?_
    obtain ⟨q1, h⟩ := h
    refine y_last hG dX12_findKinds_15 sh264 q1 ?_
    obtain ⟨q2, h⟩ := h
    refine y_iinc (ls' := [(2, 234), (0, x1), (0, x2), (0, (x3 + 1)), (9, 0)]) dX12_findKinds_16 rfl rfl q2 rfl ?_
    refine z_goto (tgt := 2) dX12_findKinds_19 rfl ?_
    exact h
set_option maxRecDepth 20000 in
set_option maxHeartbeats 4000000 in
theorem bX12_findKinds_24 {G : zG} {d : Nat} {M : zM} {Q : zV → zM → Prop} (hG : zP G) {x1 x2 x3 : Int}
    (h : ((4 ≤ x3 → Y G (d + 1) mX12_findKinds 59 [(2, 234), (0, x1), (0, x2), (0, 1), (9, 0)] [] M Q) ∧ (x3 < 4 → (-2147483648 ≤ 10 + x3 ∧ 10 + x3 ≤ 2147483647) ∧ (0 ≤ (10 + x3) ∧ (10 + x3) < 156) ∧ (zcer 1 (M 235 (10 + x3))) ∧ (0 ≤ (zce 1 (M 235 (10 + x3))) ∧ (zce 1 (M 235 (10 + x3))) < 6006) ∧ (zin 1 ((M 264 (zce 1 (M 235 (10 + x3)))) + 1)) ∧ (0 ≤ (zce 1 (M 235 (10 + x3))) ∧ (zce 1 (M 235 (10 + x3))) < 6006) ∧ (-2147483648 ≤ x3 + 1 ∧ x3 + 1 ≤ 2147483647) ∧ Y G (d + 1) mX12_findKinds 24 [(2, 234), (0, x1), (0, x2), (0, (x3 + 1)), (9, 0)] [] (zset M 264 (zce 1 (M 235 (10 + x3))) ((M 264 (zce 1 (M 235 (10 + x3)))) + 1)) Q))) :
    Y G (d + 1) mX12_findKinds 24 [(2, 234), (0, x1), (0, x2), (0, x3), (9, 0)] [] M Q := by
  refine z_iloadn dX12_findKinds_24 rfl ?_
  refine z_iconst dX12_findKinds_25 ki_4 ?_
  refine z_icmpge (tgt := 57) dX12_findKinds_26 rfl (fun q => ?_) (fun q => ?_)
  · replace h := h.1 q
    refine z_iconst dX12_findKinds_57 ki_1 ?_
    refine y_istoren (ls' := [(2, 234), (0, x1), (0, x2), (0, 1), (9, 0)]) dX12_findKinds_58 rfl rfl ?_
    exact h
  · replace h := h.2 q
    refine z_aloadn dX12_findKinds_29 rfl (Or.inl rfl) ?_
    refine y_getr (v := 264) hG dX12_findKinds_30 fX12_106 sh234 (by decide) rfl (by decide +kernel) (by decide) ?_
    refine z_iconst dX12_findKinds_33 ki_1 ?_
    refine z_aloadn dX12_findKinds_34 rfl (Or.inl rfl) ?_
    refine y_getr (v := 235) hG dX12_findKinds_35 fX12_7 sh234 (by decide) rfl (by decide +kernel) (by decide) ?_
    refine z_bipush dX12_findKinds_38 kb_10 ?_
    refine z_iloadn dX12_findKinds_40 rfl ?_
    obtain ⟨q1, h⟩ := h
    refine z_iadd dX12_findKinds_41 q1 ?_
    obtain ⟨q2, h⟩ := h
    refine y_iald (x := (M 235 (10 + x3))) dX12_findKinds_42 sh235 q2 rfl ?_
    obtain ⟨q3, h⟩ := h
    refine y_cs (mt2 := mX12_cell) (en := [(0, 1), (0, (M 235 (10 + x3)))]) (st := [(2, 264)]) (as := [(0, 1), (0, (M 235 (10 + x3)))]) dX12_findKinds_43 lX12_545 kX12_cell tX12_cell rfl (Nat.le_of_ble_eq_true rfl) (Nat.le_of_ble_eq_true rfl) rfl (s_cell hG q3 ?_)
    show Y G (d + 1) mX12_findKinds 46 [(2, 234), (0, x1), (0, x2), (0, x3), (9, 0)] [(0, (zce 1 (M 235 (10 + x3)))), (2, 264)] M Q
    refine z_dup2 dX12_findKinds_46 (show (0 : Nat) ≠ 1 by decide) (show (2 : Nat) ≠ 1 by decide) ?_
    obtain ⟨q4, h⟩ := h
    refine y_lald (x := (M 264 (zce 1 (M 235 (10 + x3))))) dX12_findKinds_47 sh264 q4 rfl ?_
    refine z_lconst (k := 1) dX12_findKinds_48 ⟨by decide, ⟨by decide, by decide⟩⟩ ?_
    obtain ⟨q5, h⟩ := h
    refine z_ladd dX12_findKinds_49 q5 ?_
    obtain ⟨q6, h⟩ := h
    refine y_last hG dX12_findKinds_50 sh264 q6 ?_
    obtain ⟨q7, h⟩ := h
    refine y_iinc (ls' := [(2, 234), (0, x1), (0, x2), (0, (x3 + 1)), (9, 0)]) dX12_findKinds_51 rfl rfl q7 rfl ?_
    refine z_goto (tgt := 24) dX12_findKinds_54 rfl ?_
    exact h
set_option maxRecDepth 20000 in
set_option maxHeartbeats 4000000 in
theorem bX12_findKinds_59 {G : zG} {d : Nat} {M : zM} {Q : zV → zM → Prop} (hG : zP G) {x1 x2 x3 : Int}
    (h : ((x2 < x3 → Y G (d + 1) mX12_findKinds 86 [(2, 234), (0, x1), (0, x2), (0, 2), (9, 0)] [] M Q) ∧ (x3 ≤ x2 → (zcer 1 x3) ∧ (0 ≤ (zce 1 x3) ∧ (zce 1 x3) < 6006) ∧ (zin 1 ((M 264 (zce 1 x3)) + 1)) ∧ (0 ≤ (zce 1 x3) ∧ (zce 1 x3) < 6006) ∧ (-2147483648 ≤ x3 + 1 ∧ x3 + 1 ≤ 2147483647) ∧ Y G (d + 1) mX12_findKinds 59 [(2, 234), (0, x1), (0, x2), (0, (x3 + 1)), (9, 0)] [] (zset M 264 (zce 1 x3) ((M 264 (zce 1 x3)) + 1)) Q))) :
    Y G (d + 1) mX12_findKinds 59 [(2, 234), (0, x1), (0, x2), (0, x3), (9, 0)] [] M Q := by
  refine z_iloadn dX12_findKinds_59 rfl ?_
  refine z_iloadn dX12_findKinds_60 rfl ?_
  refine z_icmpgt (tgt := 84) dX12_findKinds_61 rfl (fun q => ?_) (fun q => ?_)
  · replace h := h.1 q
    refine z_iconst dX12_findKinds_84 ki_2 ?_
    refine y_istoren (ls' := [(2, 234), (0, x1), (0, x2), (0, 2), (9, 0)]) dX12_findKinds_85 rfl rfl ?_
    exact h
  · replace h := h.2 q
    refine z_aloadn dX12_findKinds_64 rfl (Or.inl rfl) ?_
    refine y_getr (v := 264) hG dX12_findKinds_65 fX12_106 sh234 (by decide) rfl (by decide +kernel) (by decide) ?_
    refine z_iconst dX12_findKinds_68 ki_1 ?_
    refine z_iloadn dX12_findKinds_69 rfl ?_
    obtain ⟨q1, h⟩ := h
    refine y_cs (mt2 := mX12_cell) (en := [(0, 1), (0, x3)]) (st := [(2, 264)]) (as := [(0, 1), (0, x3)]) dX12_findKinds_70 lX12_545 kX12_cell tX12_cell rfl (Nat.le_of_ble_eq_true rfl) (Nat.le_of_ble_eq_true rfl) rfl (s_cell hG q1 ?_)
    show Y G (d + 1) mX12_findKinds 73 [(2, 234), (0, x1), (0, x2), (0, x3), (9, 0)] [(0, (zce 1 x3)), (2, 264)] M Q
    refine z_dup2 dX12_findKinds_73 (show (0 : Nat) ≠ 1 by decide) (show (2 : Nat) ≠ 1 by decide) ?_
    obtain ⟨q2, h⟩ := h
    refine y_lald (x := (M 264 (zce 1 x3))) dX12_findKinds_74 sh264 q2 rfl ?_
    refine z_lconst (k := 1) dX12_findKinds_75 ⟨by decide, ⟨by decide, by decide⟩⟩ ?_
    obtain ⟨q3, h⟩ := h
    refine z_ladd dX12_findKinds_76 q3 ?_
    obtain ⟨q4, h⟩ := h
    refine y_last hG dX12_findKinds_77 sh264 q4 ?_
    obtain ⟨q5, h⟩ := h
    refine y_iinc (ls' := [(2, 234), (0, x1), (0, x2), (0, (x3 + 1)), (9, 0)]) dX12_findKinds_78 rfl rfl q5 rfl ?_
    refine z_goto (tgt := 59) dX12_findKinds_81 rfl ?_
    exact h
set_option maxRecDepth 20000 in
set_option maxHeartbeats 4000000 in
theorem bX12_findKinds_86 {G : zG} {d : Nat} {M : zM} {Q : zV → zM → Prop} (hG : zP G) {x1 x2 x3 : Int}
    (h : ((x1 < x3 → Q (9, 0) M) ∧ (x3 ≤ x1 → Y G (d + 1) mX12_findKinds 94 [(2, 234), (0, x1), (0, x2), (0, x3), (0, 1)] [] M Q))) :
    Y G (d + 1) mX12_findKinds 86 [(2, 234), (0, x1), (0, x2), (0, x3), (9, 0)] [] M Q := by
  refine z_iloadn dX12_findKinds_86 rfl ?_
  refine z_iloadn dX12_findKinds_87 rfl ?_
  refine z_icmpgt (tgt := 122) dX12_findKinds_88 rfl (fun q => ?_) (fun q => ?_)
  · replace h := h.1 q
    exact z_return dX12_findKinds_122 rfl rfl h
  · replace h := h.2 q
    refine z_iconst dX12_findKinds_91 ki_1 ?_
    refine y_istore (ls' := [(2, 234), (0, x1), (0, x2), (0, x3), (0, 1)]) dX12_findKinds_92 rfl rfl ?_
    exact h
set_option maxRecDepth 20000 in
set_option maxHeartbeats 4000000 in
theorem bX12_findKinds_94 {G : zG} {d : Nat} {M : zM} {Q : zV → zM → Prop} (hG : zP G) {x1 x2 x3 x4 : Int}
    (h : ((x3 ≤ x4 → (-2147483648 ≤ x3 + 1 ∧ x3 + 1 ≤ 2147483647) ∧ Y G (d + 1) mX12_findKinds 86 [(2, 234), (0, x1), (0, x2), (0, (x3 + 1)), (9, 0)] [] M Q) ∧ (x4 < x3 → (-2147483648 ≤ x3 - x4 ∧ x3 - x4 ≤ 2147483647) ∧ Y G d mX12_join 0 [(2, 234), (0, x4), (0, (x3 - x4)), (9, 0), (9, 0), (9, 0), (9, 0), (9, 0), (9, 0), (9, 0), (9, 0)] [] M (fun r M' => Y G (d + 1) mX12_findKinds 110 [(2, 234), (0, x1), (0, x2), (0, x3), (0, x4)] (zpush r []) M' Q)))) :
    Y G (d + 1) mX12_findKinds 94 [(2, 234), (0, x1), (0, x2), (0, x3), (0, x4)] [] M Q := by
  refine z_iload dX12_findKinds_94 rfl ?_
  refine z_iloadn dX12_findKinds_96 rfl ?_
  refine z_icmpge (tgt := 116) dX12_findKinds_97 rfl (fun q => ?_) (fun q => ?_)
  · replace h := h.1 q
    obtain ⟨q1, h⟩ := h
    refine y_iinc (ls' := [(2, 234), (0, x1), (0, x2), (0, (x3 + 1)), (0, x4)]) dX12_findKinds_116 rfl rfl q1 rfl ?_
    refine z_goto (tgt := 86) dX12_findKinds_119 rfl ?_
    refine z_sub (ls' := [(2, 234), (0, x1), (0, x2), (0, (x3 + 1)), (9, 0)]) ⟨Or.inl rfl, Or.inl rfl, Or.inl rfl, Or.inl rfl, Or.inr rfl, trivial⟩ ?_
    exact h
  · replace h := h.2 q
    refine z_aloadn dX12_findKinds_100 rfl (Or.inl rfl) ?_
    refine z_iload dX12_findKinds_101 rfl ?_
    refine z_iloadn dX12_findKinds_103 rfl ?_
    refine z_iload dX12_findKinds_104 rfl ?_
    obtain ⟨q2, h⟩ := h
    refine z_isub dX12_findKinds_106 q2 ?_
    refine y_cv (mt2 := mX12_join) (en := [(2, 234), (0, x4), (0, (x3 - x4)), (9, 0), (9, 0), (9, 0), (9, 0), (9, 0), (9, 0), (9, 0), (9, 0)]) (st := []) (as := [(0, x4), (0, (x3 - x4))]) dX12_findKinds_107 lX12_551 kX12_join iX12_join eX12_join rfl sh234 (by decide +kernel) (Nat.le_of_ble_eq_true rfl) (Nat.le_of_ble_eq_true rfl) rfl ?_
    exact h
set_option maxRecDepth 20000 in
set_option maxHeartbeats 4000000 in
theorem bX12_findKinds_110 {G : zG} {d : Nat} {M : zM} {Q : zV → zM → Prop} (hG : zP G) {x1 x2 x3 x4 : Int}
    (h : (-2147483648 ≤ x4 + 1 ∧ x4 + 1 ≤ 2147483647) ∧ Y G (d + 1) mX12_findKinds 94 [(2, 234), (0, x1), (0, x2), (0, x3), (0, (x4 + 1))] [] M Q) :
    Y G (d + 1) mX12_findKinds 110 [(2, 234), (0, x1), (0, x2), (0, x3), (0, x4)] [] M Q := by
  obtain ⟨q1, h⟩ := h
  refine y_iinc (ls' := [(2, 234), (0, x1), (0, x2), (0, x3), (0, (x4 + 1))]) dX12_findKinds_110 rfl rfl q1 rfl ?_
  refine z_goto (tgt := 94) dX12_findKinds_113 rfl ?_
  exact h
set_option maxRecDepth 20000 in
set_option maxHeartbeats 4000000 in
theorem bX12_kinds_0 {G : zG} {d : Nat} {M : zM} {Q : zV → zM → Prop} (hG : zP G) {x1 x2 x3 : Int}
    (h : ((1 ≤ x1 ∧ x1 ≤ 5 → ((0 ≤ x2 ∧ x2 ≤ 9 → (((-500) ≤ x3 ∧ x3 ≤ 500 → Y G d mX12_findKinds 0 [(2, 234), (0, x1), (0, x2), (9, 0), (9, 0)] [] M (fun r M' => Y G (d + 1) mX12_kinds 42 [(2, 234), (0, x1), (0, x2), (0, x3)] (zpush r []) M' Q)) ∧ (¬ ((-500) ≤ x3 ∧ x3 ≤ 500) → Q (1, (-1)) M))) ∧ (¬ (0 ≤ x2 ∧ x2 ≤ 9) → Q (1, (-1)) M))) ∧ (¬ (1 ≤ x1 ∧ x1 ≤ 5) → Q (1, (-1)) M))) :
    Y G (d + 1) mX12_kinds 0 [(2, 234), (0, x1), (0, x2), (0, x3)] [] M Q := by
  refine z_iloadn dX12_kinds_0 rfl ?_
  refine z_iconst dX12_kinds_1 ki_1 ?_
  refine z_iconst dX12_kinds_2 ki_5 ?_
  refine y_cs (mt2 := mX12_isIn) (en := [(0, x1), (0, 1), (0, 5)]) (st := []) (as := [(0, x1), (0, 1), (0, 5)]) dX12_kinds_3 lX12_126 kX12_isIn tX12_isIn rfl (Nat.le_of_ble_eq_true rfl) (Nat.le_of_ble_eq_true rfl) rfl (s_isIn hG (fun q => ?_) (fun q => ?_))
  · replace h := h.1 q
    show Y G (d + 1) mX12_kinds 6 [(2, 234), (0, x1), (0, x2), (0, x3)] [(0, 1)] M Q
    refine z_ifeq (tgt := 32) dX12_kinds_6 rfl (fun q => absurd q (by decide)) (fun _ => ?_)
    refine z_iloadn dX12_kinds_9 rfl ?_
    refine z_iconst dX12_kinds_10 ki_0 ?_
    refine z_bipush dX12_kinds_11 kb_9 ?_
    refine y_cs (mt2 := mX12_isIn) (en := [(0, x2), (0, 0), (0, 9)]) (st := []) (as := [(0, x2), (0, 0), (0, 9)]) dX12_kinds_13 lX12_126 kX12_isIn tX12_isIn rfl (Nat.le_of_ble_eq_true rfl) (Nat.le_of_ble_eq_true rfl) rfl (s_isIn hG (fun q => ?_) (fun q => ?_))
    · replace h := h.1 q
      show Y G (d + 1) mX12_kinds 16 [(2, 234), (0, x1), (0, x2), (0, x3)] [(0, 1)] M Q
      refine z_ifeq (tgt := 32) dX12_kinds_16 rfl (fun q => absurd q (by decide)) (fun _ => ?_)
      refine z_iloadn dX12_kinds_19 rfl ?_
      refine z_sipush dX12_kinds_20 ks_m500 ?_
      refine z_sipush dX12_kinds_23 ks_500 ?_
      refine y_cs (mt2 := mX12_isIn) (en := [(0, x3), (0, (-500)), (0, 500)]) (st := []) (as := [(0, x3), (0, (-500)), (0, 500)]) dX12_kinds_26 lX12_126 kX12_isIn tX12_isIn rfl (Nat.le_of_ble_eq_true rfl) (Nat.le_of_ble_eq_true rfl) rfl (s_isIn hG (fun q => ?_) (fun q => ?_))
      · replace h := h.1 q
        show Y G (d + 1) mX12_kinds 29 [(2, 234), (0, x1), (0, x2), (0, x3)] [(0, 1)] M Q
        refine z_ifne (tgt := 36) dX12_kinds_29 rfl (fun _ => ?_) (fun q => absurd q (by decide))
        refine z_aloadn dX12_kinds_36 rfl (Or.inl rfl) ?_
        refine z_iloadn dX12_kinds_37 rfl ?_
        refine z_iloadn dX12_kinds_38 rfl ?_
        refine y_cv (mt2 := mX12_findKinds) (en := [(2, 234), (0, x1), (0, x2), (9, 0), (9, 0)]) (st := []) (as := [(0, x1), (0, x2)]) dX12_kinds_39 lX12_554 kX12_findKinds iX12_findKinds eX12_findKinds rfl sh234 (by decide +kernel) (Nat.le_of_ble_eq_true rfl) (Nat.le_of_ble_eq_true rfl) rfl ?_
        exact h
      · replace h := h.2 q
        show Y G (d + 1) mX12_kinds 29 [(2, 234), (0, x1), (0, x2), (0, x3)] [(0, 0)] M Q
        refine z_ifne (tgt := 36) dX12_kinds_29 rfl (fun q => absurd q (by decide)) (fun _ => ?_)
        refine z_ldc2 (k := (-1)) (v := (-1)) dX12_kinds_32 ⟨by decide, ⟨by decide, by decide⟩⟩ qlX12_369 ?_
        exact z_lreturn dX12_kinds_35 rfl rfl h
    · replace h := h.2 q
      show Y G (d + 1) mX12_kinds 16 [(2, 234), (0, x1), (0, x2), (0, x3)] [(0, 0)] M Q
      refine z_ifeq (tgt := 32) dX12_kinds_16 rfl (fun _ => ?_) (fun q => absurd q (by decide))
      refine z_ldc2 (k := (-1)) (v := (-1)) dX12_kinds_32 ⟨by decide, ⟨by decide, by decide⟩⟩ qlX12_369 ?_
      exact z_lreturn dX12_kinds_35 rfl rfl h
  · replace h := h.2 q
    show Y G (d + 1) mX12_kinds 6 [(2, 234), (0, x1), (0, x2), (0, x3)] [(0, 0)] M Q
    refine z_ifeq (tgt := 32) dX12_kinds_6 rfl (fun _ => ?_) (fun q => absurd q (by decide))
    refine z_ldc2 (k := (-1)) (v := (-1)) dX12_kinds_32 ⟨by decide, ⟨by decide, by decide⟩⟩ qlX12_369 ?_
    exact z_lreturn dX12_kinds_35 rfl rfl h
set_option maxRecDepth 20000 in
set_option maxHeartbeats 4000000 in
theorem bX12_kinds_42 {G : zG} {d : Nat} {M : zM} {Q : zV → zM → Prop} (hG : zP G) {x1 x2 x3 : Int}
    (h : (zcer x1 x3) ∧ (0 ≤ (zce x1 x3) ∧ (zce x1 x3) < 6006) ∧ Q (1, (M 264 (zce x1 x3))) M) :
    Y G (d + 1) mX12_kinds 42 [(2, 234), (0, x1), (0, x2), (0, x3)] [] M Q := by
  refine z_aloadn dX12_kinds_42 rfl (Or.inl rfl) ?_
  refine y_getr (v := 264) hG dX12_kinds_43 fX12_106 sh234 (by decide) rfl (by decide +kernel) (by decide) ?_
  refine z_iloadn dX12_kinds_46 rfl ?_
  refine z_iloadn dX12_kinds_47 rfl ?_
  obtain ⟨q1, h⟩ := h
  refine y_cs (mt2 := mX12_cell) (en := [(0, x1), (0, x3)]) (st := [(2, 264)]) (as := [(0, x1), (0, x3)]) dX12_kinds_48 lX12_545 kX12_cell tX12_cell rfl (Nat.le_of_ble_eq_true rfl) (Nat.le_of_ble_eq_true rfl) rfl (s_cell hG q1 ?_)
  show Y G (d + 1) mX12_kinds 51 [(2, 234), (0, x1), (0, x2), (0, x3)] [(0, (zce x1 x3)), (2, 264)] M Q
  obtain ⟨q2, h⟩ := h
  refine y_lald (x := (M 264 (zce x1 x3))) dX12_kinds_51 sh264 q2 rfl ?_
  exact z_lreturn dX12_kinds_52 rfl rfl h
set_option maxRecDepth 20000 in
set_option maxHeartbeats 4000000 in
theorem bX12_fewestOf_0 {G : zG} {d : Nat} {M : zM} {Q : zV → zM → Prop} (hG : zP G) {x1 x2 : Int}
    (h : Y G (d + 1) mX12_fewestOf 2 [(2, 234), (0, x1), (0, x2), (0, 1)] [] M Q) :
    Y G (d + 1) mX12_fewestOf 0 [(2, 234), (0, x1), (0, x2), (9, 0)] [] M Q := by
  refine z_iconst dX12_fewestOf_0 ki_1 ?_
  refine y_istoren (ls' := [(2, 234), (0, x1), (0, x2), (0, 1)]) dX12_fewestOf_1 rfl rfl ?_
  exact h
set_option maxRecDepth 20000 in
set_option maxHeartbeats 4000000 in
theorem bX12_fewestOf_2 {G : zG} {d : Nat} {M : zM} {Q : zV → zM → Prop} (hG : zP G) {x1 x2 x3 : Int}
    (h : ((x2 < x3 → Q (0, (-1)) M) ∧ (x3 ≤ x2 → (zcer x3 x1) ∧ (0 ≤ (zce x3 x1) ∧ (zce x3 x1) < 6006) ∧ (((zlcmp (M 264 (zce x3 x1)) 0) ≤ 0 → (-2147483648 ≤ x3 + 1 ∧ x3 + 1 ≤ 2147483647) ∧ Y G (d + 1) mX12_fewestOf 2 [(2, 234), (0, x1), (0, x2), (0, (x3 + 1))] [] M Q) ∧ (0 < (zlcmp (M 264 (zce x3 x1)) 0) → Q (0, x3) M))))) :
    Y G (d + 1) mX12_fewestOf 2 [(2, 234), (0, x1), (0, x2), (0, x3)] [] M Q := by
  refine z_iloadn dX12_fewestOf_2 rfl ?_
  refine z_iloadn dX12_fewestOf_3 rfl ?_
  refine z_icmpgt (tgt := 30) dX12_fewestOf_4 rfl (fun q => ?_) (fun q => ?_)
  · replace h := h.1 q
    refine z_iconst dX12_fewestOf_30 ki_m1 ?_
    exact z_ireturn dX12_fewestOf_31 (Or.inl rfl) rfl h
  · replace h := h.2 q
    refine z_aloadn dX12_fewestOf_7 rfl (Or.inl rfl) ?_
    refine y_getr (v := 264) hG dX12_fewestOf_8 fX12_106 sh234 (by decide) rfl (by decide +kernel) (by decide) ?_
    refine z_iloadn dX12_fewestOf_11 rfl ?_
    refine z_iloadn dX12_fewestOf_12 rfl ?_
    obtain ⟨q1, h⟩ := h
    refine y_cs (mt2 := mX12_cell) (en := [(0, x3), (0, x1)]) (st := [(2, 264)]) (as := [(0, x3), (0, x1)]) dX12_fewestOf_13 lX12_545 kX12_cell tX12_cell rfl (Nat.le_of_ble_eq_true rfl) (Nat.le_of_ble_eq_true rfl) rfl (s_cell hG q1 ?_)
    show Y G (d + 1) mX12_fewestOf 16 [(2, 234), (0, x1), (0, x2), (0, x3)] [(0, (zce x3 x1)), (2, 264)] M Q
    obtain ⟨q2, h⟩ := h
    refine y_lald (x := (M 264 (zce x3 x1))) dX12_fewestOf_16 sh264 q2 rfl ?_
    refine z_lconst (k := 0) dX12_fewestOf_17 ⟨by decide, ⟨by decide, by decide⟩⟩ ?_
    refine z_lcmp dX12_fewestOf_18 ?_
    refine z_ifle (tgt := 24) dX12_fewestOf_19 rfl (fun q => ?_) (fun q => ?_)
    · replace h := h.1 q
      obtain ⟨q3, h⟩ := h
      refine y_iinc (ls' := [(2, 234), (0, x1), (0, x2), (0, (x3 + 1))]) dX12_fewestOf_24 rfl rfl q3 rfl ?_
      refine z_goto (tgt := 2) dX12_fewestOf_27 rfl ?_
      exact h
    · replace h := h.2 q
      refine z_iloadn dX12_fewestOf_22 rfl ?_
      exact z_ireturn dX12_fewestOf_23 (Or.inl rfl) rfl h
set_option maxRecDepth 20000 in
set_option maxHeartbeats 4000000 in
theorem bX12_fewest_0 {G : zG} {d : Nat} {M : zM} {Q : zV → zM → Prop} (hG : zP G) {x1 x2 : Int}
    (h : ((0 ≤ x1 ∧ x1 ≤ 9 → (((-500) ≤ x2 ∧ x2 ≤ 500 → Y G d mX12_findKinds 0 [(2, 234), (0, 5), (0, x1), (9, 0), (9, 0)] [] M (fun r M' => Y G (d + 1) mX12_fewest 31 [(2, 234), (0, x1), (0, x2)] (zpush r []) M' Q)) ∧ (¬ ((-500) ≤ x2 ∧ x2 ≤ 500) → Q (0, (-1)) M))) ∧ (¬ (0 ≤ x1 ∧ x1 ≤ 9) → Q (0, (-1)) M))) :
    Y G (d + 1) mX12_fewest 0 [(2, 234), (0, x1), (0, x2)] [] M Q := by
  refine z_iloadn dX12_fewest_0 rfl ?_
  refine z_iconst dX12_fewest_1 ki_0 ?_
  refine z_bipush dX12_fewest_2 kb_9 ?_
  refine y_cs (mt2 := mX12_isIn) (en := [(0, x1), (0, 0), (0, 9)]) (st := []) (as := [(0, x1), (0, 0), (0, 9)]) dX12_fewest_4 lX12_126 kX12_isIn tX12_isIn rfl (Nat.le_of_ble_eq_true rfl) (Nat.le_of_ble_eq_true rfl) rfl (s_isIn hG (fun q => ?_) (fun q => ?_))
  · replace h := h.1 q
    show Y G (d + 1) mX12_fewest 7 [(2, 234), (0, x1), (0, x2)] [(0, 1)] M Q
    refine z_ifeq (tgt := 23) dX12_fewest_7 rfl (fun q => absurd q (by decide)) (fun _ => ?_)
    refine z_iloadn dX12_fewest_10 rfl ?_
    refine z_sipush dX12_fewest_11 ks_m500 ?_
    refine z_sipush dX12_fewest_14 ks_500 ?_
    refine y_cs (mt2 := mX12_isIn) (en := [(0, x2), (0, (-500)), (0, 500)]) (st := []) (as := [(0, x2), (0, (-500)), (0, 500)]) dX12_fewest_17 lX12_126 kX12_isIn tX12_isIn rfl (Nat.le_of_ble_eq_true rfl) (Nat.le_of_ble_eq_true rfl) rfl (s_isIn hG (fun q => ?_) (fun q => ?_))
    · replace h := h.1 q
      show Y G (d + 1) mX12_fewest 20 [(2, 234), (0, x1), (0, x2)] [(0, 1)] M Q
      refine z_ifne (tgt := 25) dX12_fewest_20 rfl (fun _ => ?_) (fun q => absurd q (by decide))
      refine z_aloadn dX12_fewest_25 rfl (Or.inl rfl) ?_
      refine z_iconst dX12_fewest_26 ki_5 ?_
      refine z_iloadn dX12_fewest_27 rfl ?_
      refine y_cv (mt2 := mX12_findKinds) (en := [(2, 234), (0, 5), (0, x1), (9, 0), (9, 0)]) (st := []) (as := [(0, 5), (0, x1)]) dX12_fewest_28 lX12_554 kX12_findKinds iX12_findKinds eX12_findKinds rfl sh234 (by decide +kernel) (Nat.le_of_ble_eq_true rfl) (Nat.le_of_ble_eq_true rfl) rfl ?_
      exact h
    · replace h := h.2 q
      show Y G (d + 1) mX12_fewest 20 [(2, 234), (0, x1), (0, x2)] [(0, 0)] M Q
      refine z_ifne (tgt := 25) dX12_fewest_20 rfl (fun q => absurd q (by decide)) (fun _ => ?_)
      refine z_iconst dX12_fewest_23 ki_m1 ?_
      exact z_ireturn dX12_fewest_24 (Or.inl rfl) rfl h
  · replace h := h.2 q
    show Y G (d + 1) mX12_fewest 7 [(2, 234), (0, x1), (0, x2)] [(0, 0)] M Q
    refine z_ifeq (tgt := 23) dX12_fewest_7 rfl (fun _ => ?_) (fun q => absurd q (by decide))
    refine z_iconst dX12_fewest_23 ki_m1 ?_
    exact z_ireturn dX12_fewest_24 (Or.inl rfl) rfl h
set_option maxRecDepth 20000 in
set_option maxHeartbeats 4000000 in
theorem bX12_fewest_31 {G : zG} {d : Nat} {M : zM} {Q : zV → zM → Prop} (hG : zP G) {x1 x2 : Int}
    (h : Y G d mX12_fewestOf 0 [(2, 234), (0, x2), (0, 5), (9, 0)] [] M (fun r M' => Y G (d + 1) mX12_fewest 37 [(2, 234), (0, x1), (0, x2)] (zpush r []) M' Q)) :
    Y G (d + 1) mX12_fewest 31 [(2, 234), (0, x1), (0, x2)] [] M Q := by
  refine z_aloadn dX12_fewest_31 rfl (Or.inl rfl) ?_
  refine z_iloadn dX12_fewest_32 rfl ?_
  refine z_iconst dX12_fewest_33 ki_5 ?_
  refine y_cv (mt2 := mX12_fewestOf) (en := [(2, 234), (0, x2), (0, 5), (9, 0)]) (st := []) (as := [(0, x2), (0, 5)]) dX12_fewest_34 lX12_557 kX12_fewestOf iX12_fewestOf eX12_fewestOf rfl sh234 (by decide +kernel) (Nat.le_of_ble_eq_true rfl) (Nat.le_of_ble_eq_true rfl) rfl ?_
  exact h
set_option maxRecDepth 20000 in
set_option maxHeartbeats 4000000 in
theorem bX12_fewest_37 {G : zG} {d : Nat} {M : zM} {Q : zV → zM → Prop} (hG : zP G) {x1 x2 x49 : Int}
    (h : Q (0, x49) M) :
    Y G (d + 1) mX12_fewest 37 [(2, 234), (0, x1), (0, x2)] [(0, x49)] M Q := by
  exact z_ireturn dX12_fewest_37 (Or.inl rfl) rfl h
set_option maxRecDepth 20000 in
set_option maxHeartbeats 4000000 in
theorem bX12_await0_0 {G : zG} {d : Nat} {M : zM} {Q : zV → zM → Prop} (hG : zP G) {x1 x2 : Int}
    (h : (0 ≤ (M 234 52) ∧ (M 234 52) < 10) ∧ (0 ≤ (M 234 52) ∧ (M 234 52) < 10) ∧ (-2147483648 ≤ (M 234 52) + 1 ∧ (M 234 52) + 1 ≤ 2147483647) ∧ Q (9, 0) (zset (zset (zset M 265 (M 234 52) x1) 266 (M 234 52) x2) 234 52 ((M 234 52) + 1))) :
    Y G d mX12_await0 0 [(2, 234), (0, x1), (0, x2)] [] M Q := by
  refine z_aloadn dX12_await0_0 rfl (Or.inl rfl) ?_
  refine y_getr (v := 265) hG dX12_await0_1 fX12_109 sh234 (by decide) rfl (by decide +kernel) (by decide) ?_
  refine z_aloadn dX12_await0_4 rfl (Or.inl rfl) ?_
  refine y_getf (x := (M 234 52)) dX12_await0_5 fX12_560 sh234 (by decide) rfl rfl ?_
  refine z_iloadn dX12_await0_8 rfl ?_
  obtain ⟨q1, h⟩ := h
  refine y_iast hG dX12_await0_9 sh265 q1 ?_
  refine z_aloadn dX12_await0_10 rfl (Or.inl rfl) ?_
  refine y_getr (v := 266) hG dX12_await0_11 fX12_112 sh234 (by decide) rfl (by decide +kernel) (by decide) ?_
  refine z_aloadn dX12_await0_14 rfl (Or.inl rfl) ?_
  refine y_getf (x := (M 234 52)) dX12_await0_15 fX12_560 sh234 (by decide) rfl (zset_ne (fun q => absurd q.1 (by decide))) ?_
  refine z_iloadn dX12_await0_18 rfl ?_
  obtain ⟨q2, h⟩ := h
  refine y_iast hG dX12_await0_19 sh266 q2 ?_
  refine z_aloadn dX12_await0_20 rfl (Or.inl rfl) ?_
  refine z_dup dX12_await0_21 (show (2 : Nat) ≠ 1 by decide) ?_
  refine y_getf (x := (M 234 52)) dX12_await0_22 fX12_560 sh234 (by decide) rfl (((zset_ne (fun q => absurd q.1 (by decide))).trans (zset_ne (fun q => absurd q.1 (by decide))))) ?_
  refine z_iconst dX12_await0_25 ki_1 ?_
  obtain ⟨q3, h⟩ := h
  refine z_iadd dX12_await0_26 q3 ?_
  refine y_putf (M' := zset (zset (zset M 265 (M 234 52) x1) 266 (M 234 52) x2) 234 52 ((M 234 52) + 1)) hG dX12_await0_27 fX12_560 sh234 (by decide) ⟨rfl, rfl⟩ p12_52 (fun q => absurd q (by decide)) (by decide) rfl ?_
  exact z_return dX12_await0_30 rfl rfl h
set_option maxRecDepth 20000 in
set_option maxHeartbeats 4000000 in
theorem bX12_leafOf_0 {G : zG} {d : Nat} {M : zM} {Q : zV → zM → Prop} (hG : zP G) {x1 x2 : Int}
    (h : ((1 ≤ x1 ∧ x1 ≤ x2 → Q (0, x1) M) ∧ (¬ (1 ≤ x1 ∧ x1 ≤ x2) → Y G (d + 1) mX12_leafOf 13 [(2, 234), (0, x1), (0, x2), (0, 0)] [] M Q))) :
    Y G (d + 1) mX12_leafOf 0 [(2, 234), (0, x1), (0, x2), (9, 0)] [] M Q := by
  refine z_iloadn dX12_leafOf_0 rfl ?_
  refine z_iconst dX12_leafOf_1 ki_1 ?_
  refine z_iloadn dX12_leafOf_2 rfl ?_
  refine y_cs (mt2 := mX12_isIn) (en := [(0, x1), (0, 1), (0, x2)]) (st := []) (as := [(0, x1), (0, 1), (0, x2)]) dX12_leafOf_3 lX12_126 kX12_isIn tX12_isIn rfl (Nat.le_of_ble_eq_true rfl) (Nat.le_of_ble_eq_true rfl) rfl (s_isIn hG (fun q => ?_) (fun q => ?_))
  · replace h := h.1 q
    show Y G (d + 1) mX12_leafOf 6 [(2, 234), (0, x1), (0, x2), (9, 0)] [(0, 1)] M Q
    refine z_ifeq (tgt := 11) dX12_leafOf_6 rfl (fun q => absurd q (by decide)) (fun _ => ?_)
    refine z_iloadn dX12_leafOf_9 rfl ?_
    exact z_ireturn dX12_leafOf_10 (Or.inl rfl) rfl h
  · replace h := h.2 q
    show Y G (d + 1) mX12_leafOf 6 [(2, 234), (0, x1), (0, x2), (9, 0)] [(0, 0)] M Q
    refine z_ifeq (tgt := 11) dX12_leafOf_6 rfl (fun _ => ?_) (fun q => absurd q (by decide))
    refine z_iconst dX12_leafOf_11 ki_0 ?_
    refine y_istoren (ls' := [(2, 234), (0, x1), (0, x2), (0, 0)]) dX12_leafOf_12 rfl rfl ?_
    exact h
set_option maxRecDepth 20000 in
set_option maxHeartbeats 4000000 in
theorem bX12_leafOf_13 {G : zG} {d : Nat} {M : zM} {Q : zV → zM → Prop} (hG : zP G) {x1 x2 x3 : Int}
    (h : ((4 ≤ x3 → Q (0, (-1)) M) ∧ (x3 < 4 → (-2147483648 ≤ 10 + x3 ∧ 10 + x3 ≤ 2147483647) ∧ (0 ≤ (10 + x3) ∧ (10 + x3) < 156) ∧ ((¬ (M 235 (10 + x3)) = x1 → (-2147483648 ≤ x3 + 1 ∧ x3 + 1 ≤ 2147483647) ∧ Y G (d + 1) mX12_leafOf 13 [(2, 234), (0, x1), (0, x2), (0, (x3 + 1))] [] M Q) ∧ ((M 235 (10 + x3)) = x1 → (-2147483648 ≤ 2000 + x3 ∧ 2000 + x3 ≤ 2147483647) ∧ Q (0, (2000 + x3)) M))))) :
    Y G (d + 1) mX12_leafOf 13 [(2, 234), (0, x1), (0, x2), (0, x3)] [] M Q := by
  refine z_iloadn dX12_leafOf_13 rfl ?_
  refine z_iconst dX12_leafOf_14 ki_4 ?_
  refine z_icmpge (tgt := 43) dX12_leafOf_15 rfl (fun q => ?_) (fun q => ?_)
  · replace h := h.1 q
    refine z_iconst dX12_leafOf_43 ki_m1 ?_
    exact z_ireturn dX12_leafOf_44 (Or.inl rfl) rfl h
  · replace h := h.2 q
    refine z_aloadn dX12_leafOf_18 rfl (Or.inl rfl) ?_
    refine y_getr (v := 235) hG dX12_leafOf_19 fX12_7 sh234 (by decide) rfl (by decide +kernel) (by decide) ?_
    refine z_bipush dX12_leafOf_22 kb_10 ?_
    refine z_iloadn dX12_leafOf_24 rfl ?_
    obtain ⟨q1, h⟩ := h
    refine z_iadd dX12_leafOf_25 q1 ?_
    obtain ⟨q2, h⟩ := h
    refine y_iald (x := (M 235 (10 + x3))) dX12_leafOf_26 sh235 q2 rfl ?_
    refine z_iloadn dX12_leafOf_27 rfl ?_
    refine z_icmpne (tgt := 37) dX12_leafOf_28 rfl (fun q => ?_) (fun q => ?_)
    · replace h := h.1 q
      obtain ⟨q3, h⟩ := h
      refine y_iinc (ls' := [(2, 234), (0, x1), (0, x2), (0, (x3 + 1))]) dX12_leafOf_37 rfl rfl q3 rfl ?_
      refine z_goto (tgt := 13) dX12_leafOf_40 rfl ?_
      exact h
    · replace h := h.2 q
      refine z_sipush dX12_leafOf_31 ks_2000 ?_
      refine z_iloadn dX12_leafOf_34 rfl ?_
      obtain ⟨q4, h⟩ := h
      refine z_iadd dX12_leafOf_35 q4 ?_
      exact z_ireturn dX12_leafOf_36 (Or.inl rfl) rfl h
set_option maxRecDepth 20000 in
set_option maxHeartbeats 4000000 in
theorem bX12_split_0 {G : zG} {d : Nat} {M : zM} {Q : zV → zM → Prop} (hG : zP G) {x1 x2 : Int}
    (h : Y G (d + 1) mX12_split 2 [(2, 234), (0, x1), (0, x2), (0, 1), (9, 0), (9, 0), (9, 0)] [] M Q) :
    Y G (d + 1) mX12_split 0 [(2, 234), (0, x1), (0, x2), (9, 0), (9, 0), (9, 0), (9, 0)] [] M Q := by
  refine z_iconst dX12_split_0 ki_1 ?_
  refine y_istoren (ls' := [(2, 234), (0, x1), (0, x2), (0, 1), (9, 0), (9, 0), (9, 0)]) dX12_split_1 rfl rfl ?_
  exact h
set_option maxRecDepth 20000 in
set_option maxHeartbeats 4000000 in
theorem bX12_split_2 {G : zG} {d : Nat} {M : zM} {Q : zV → zM → Prop} (hG : zP G) {x1 x2 x3 : Int}
    (h : ((x1 ≤ x3 → Q (0, (-1)) M) ∧ (x3 < x1 → Y G (d + 1) mX12_split 10 [(2, 234), (0, x1), (0, x2), (0, x3), (0, 0), (9, 0), (9, 0)] [] M Q))) :
    Y G (d + 1) mX12_split 2 [(2, 234), (0, x1), (0, x2), (0, x3), (9, 0), (9, 0), (9, 0)] [] M Q := by
  refine z_iloadn dX12_split_2 rfl ?_
  refine z_iloadn dX12_split_3 rfl ?_
  refine z_icmpge (tgt := 138) dX12_split_4 rfl (fun q => ?_) (fun q => ?_)
  · replace h := h.1 q
    refine z_iconst dX12_split_138 ki_m1 ?_
    exact z_ireturn dX12_split_139 (Or.inl rfl) rfl h
  · replace h := h.2 q
    refine z_iconst dX12_split_7 ki_0 ?_
    refine y_istore (ls' := [(2, 234), (0, x1), (0, x2), (0, x3), (0, 0), (9, 0), (9, 0)]) dX12_split_8 rfl rfl ?_
    exact h
set_option maxRecDepth 20000 in
set_option maxHeartbeats 4000000 in
theorem bX12_split_10 {G : zG} {d : Nat} {M : zM} {Q : zV → zM → Prop} (hG : zP G) {x1 x2 x3 x4 : Int}
    (h : ((3 ≤ x4 → (-2147483648 ≤ x3 + 1 ∧ x3 + 1 ≤ 2147483647) ∧ Y G (d + 1) mX12_split 2 [(2, 234), (0, x1), (0, x2), (0, (x3 + 1)), (9, 0), (9, 0), (9, 0)] [] M Q) ∧ (x4 < 3 → Y G (d + 1) mX12_split 21 [(2, 234), (0, x1), (0, x2), (0, x3), (0, x4), (0, (-500)), (9, 0)] [] M Q))) :
    Y G (d + 1) mX12_split 10 [(2, 234), (0, x1), (0, x2), (0, x3), (0, x4), (9, 0), (9, 0)] [] M Q := by
  refine z_iload dX12_split_10 rfl ?_
  refine z_iconst dX12_split_12 ki_3 ?_
  refine z_icmpge (tgt := 132) dX12_split_13 rfl (fun q => ?_) (fun q => ?_)
  · replace h := h.1 q
    obtain ⟨q1, h⟩ := h
    refine y_iinc (ls' := [(2, 234), (0, x1), (0, x2), (0, (x3 + 1)), (0, x4), (9, 0), (9, 0)]) dX12_split_132 rfl rfl q1 rfl ?_
    refine z_goto (tgt := 2) dX12_split_135 rfl ?_
    refine z_sub (ls' := [(2, 234), (0, x1), (0, x2), (0, (x3 + 1)), (9, 0), (9, 0), (9, 0)]) ⟨Or.inl rfl, Or.inl rfl, Or.inl rfl, Or.inl rfl, Or.inr rfl, Or.inl rfl, Or.inl rfl, trivial⟩ ?_
    exact h
  · replace h := h.2 q
    refine z_sipush dX12_split_16 ks_m500 ?_
    refine y_istore (ls' := [(2, 234), (0, x1), (0, x2), (0, x3), (0, x4), (0, (-500)), (9, 0)]) dX12_split_19 rfl rfl ?_
    exact h
set_option maxRecDepth 20000 in
set_option maxHeartbeats 4000000 in
theorem bX12_split_21 {G : zG} {d : Nat} {M : zM} {Q : zV → zM → Prop} (hG : zP G) {x1 x2 x3 x4 x5 : Int}
    (h : ((500 < x5 → (-2147483648 ≤ x4 + 1 ∧ x4 + 1 ≤ 2147483647) ∧ Y G (d + 1) mX12_split 10 [(2, 234), (0, x1), (0, x2), (0, x3), (0, (x4 + 1)), (9, 0), (9, 0)] [] M Q) ∧ (x5 ≤ 500 → (zcer x3 x5) ∧ (0 ≤ (zce x3 x5) ∧ (zce x3 x5) < 6006) ∧ ((¬ (zlcmp (M 264 (zce x3 x5)) 0) = 0 → Y G (d + 1) mX12_split 53 [(2, 234), (0, x1), (0, x2), (0, x3), (0, x4), (0, x5), (0, (-500))] [] M Q) ∧ ((zlcmp (M 264 (zce x3 x5)) 0) = 0 → (-2147483648 ≤ x5 + 1 ∧ x5 + 1 ≤ 2147483647) ∧ Y G (d + 1) mX12_split 21 [(2, 234), (0, x1), (0, x2), (0, x3), (0, x4), (0, (x5 + 1)), (9, 0)] [] M Q))))) :
    Y G (d + 1) mX12_split 21 [(2, 234), (0, x1), (0, x2), (0, x3), (0, x4), (0, x5), (9, 0)] [] M Q := by
  refine z_iload dX12_split_21 rfl ?_
  refine z_sipush dX12_split_23 ks_500 ?_
  refine z_icmpgt (tgt := 126) dX12_split_26 rfl (fun q => ?_) (fun q => ?_)
  · replace h := h.1 q
    obtain ⟨q1, h⟩ := h
    refine y_iinc (ls' := [(2, 234), (0, x1), (0, x2), (0, x3), (0, (x4 + 1)), (0, x5), (9, 0)]) dX12_split_126 rfl rfl q1 rfl ?_
    refine z_goto (tgt := 10) dX12_split_129 rfl ?_
    refine z_sub (ls' := [(2, 234), (0, x1), (0, x2), (0, x3), (0, (x4 + 1)), (9, 0), (9, 0)]) ⟨Or.inl rfl, Or.inl rfl, Or.inl rfl, Or.inl rfl, Or.inl rfl, Or.inr rfl, Or.inl rfl, trivial⟩ ?_
    exact h
  · replace h := h.2 q
    refine z_aloadn dX12_split_29 rfl (Or.inl rfl) ?_
    refine y_getr (v := 264) hG dX12_split_30 fX12_106 sh234 (by decide) rfl (by decide +kernel) (by decide) ?_
    refine z_iloadn dX12_split_33 rfl ?_
    refine z_iload dX12_split_34 rfl ?_
    obtain ⟨q2, h⟩ := h
    refine y_cs (mt2 := mX12_cell) (en := [(0, x3), (0, x5)]) (st := [(2, 264)]) (as := [(0, x3), (0, x5)]) dX12_split_36 lX12_545 kX12_cell tX12_cell rfl (Nat.le_of_ble_eq_true rfl) (Nat.le_of_ble_eq_true rfl) rfl (s_cell hG q2 ?_)
    show Y G (d + 1) mX12_split 39 [(2, 234), (0, x1), (0, x2), (0, x3), (0, x4), (0, x5), (9, 0)] [(0, (zce x3 x5)), (2, 264)] M Q
    obtain ⟨q3, h⟩ := h
    refine y_lald (x := (M 264 (zce x3 x5))) dX12_split_39 sh264 q3 rfl ?_
    refine z_lconst (k := 0) dX12_split_40 ⟨by decide, ⟨by decide, by decide⟩⟩ ?_
    refine z_lcmp dX12_split_41 ?_
    refine z_ifne (tgt := 48) dX12_split_42 rfl (fun q => ?_) (fun q => ?_)
    · replace h := h.1 q
      refine z_sipush dX12_split_48 ks_m500 ?_
      refine y_istore (ls' := [(2, 234), (0, x1), (0, x2), (0, x3), (0, x4), (0, x5), (0, (-500))]) dX12_split_51 rfl rfl ?_
      exact h
    · replace h := h.2 q
      refine z_goto (tgt := 120) dX12_split_45 rfl ?_
      obtain ⟨q4, h⟩ := h
      refine y_iinc (ls' := [(2, 234), (0, x1), (0, x2), (0, x3), (0, x4), (0, (x5 + 1)), (9, 0)]) dX12_split_120 rfl rfl q4 rfl ?_
      refine z_goto (tgt := 21) dX12_split_123 rfl ?_
      exact h
set_option maxRecDepth 20000 in
set_option maxHeartbeats 4000000 in
theorem bX12_split_53 {G : zG} {d : Nat} {M : zM} {Q : zV → zM → Prop} (hG : zP G) {x1 x2 x3 x4 x5 x6 : Int}
    (h : ((500 < x6 → (-2147483648 ≤ x5 + 1 ∧ x5 + 1 ≤ 2147483647) ∧ Y G (d + 1) mX12_split 21 [(2, 234), (0, x1), (0, x2), (0, x3), (0, x4), (0, (x5 + 1)), (9, 0)] [] M Q) ∧ (x6 ≤ 500 → Y G d mX12_two 0 [(0, x4), (0, x5), (0, x6)] [] M (fun r M' => Y G (d + 1) mX12_split 70 [(2, 234), (0, x1), (0, x2), (0, x3), (0, x4), (0, x5), (0, x6)] (zpush r []) M' Q)))) :
    Y G (d + 1) mX12_split 53 [(2, 234), (0, x1), (0, x2), (0, x3), (0, x4), (0, x5), (0, x6)] [] M Q := by
  refine z_iload dX12_split_53 rfl ?_
  refine z_sipush dX12_split_55 ks_500 ?_
  refine z_icmpgt (tgt := 120) dX12_split_58 rfl (fun q => ?_) (fun q => ?_)
  · replace h := h.1 q
    obtain ⟨q1, h⟩ := h
    refine y_iinc (ls' := [(2, 234), (0, x1), (0, x2), (0, x3), (0, x4), (0, (x5 + 1)), (0, x6)]) dX12_split_120 rfl rfl q1 rfl ?_
    refine z_goto (tgt := 21) dX12_split_123 rfl ?_
    refine z_sub (ls' := [(2, 234), (0, x1), (0, x2), (0, x3), (0, x4), (0, (x5 + 1)), (9, 0)]) ⟨Or.inl rfl, Or.inl rfl, Or.inl rfl, Or.inl rfl, Or.inl rfl, Or.inl rfl, Or.inr rfl, trivial⟩ ?_
    exact h
  · replace h := h.2 q
    refine z_iload dX12_split_61 rfl ?_
    refine z_iload dX12_split_63 rfl ?_
    refine z_iload dX12_split_65 rfl ?_
    refine y_cs (mt2 := mX12_two) (en := [(0, x4), (0, x5), (0, x6)]) (st := []) (as := [(0, x4), (0, x5), (0, x6)]) dX12_split_67 lX12_548 kX12_two tX12_two rfl (Nat.le_of_ble_eq_true rfl) (Nat.le_of_ble_eq_true rfl) rfl ?_
    exact h
set_option maxRecDepth 20000 in
set_option maxHeartbeats 4000000 in
theorem bX12_split_70 {G : zG} {d : Nat} {M : zM} {Q : zV → zM → Prop} (hG : zP G) {x1 x2 x3 x4 x5 x6 x49 : Int}
    (h : ((¬ x49 = x2 → (-2147483648 ≤ x6 + 1 ∧ x6 + 1 ≤ 2147483647) ∧ Y G (d + 1) mX12_split 53 [(2, 234), (0, x1), (0, x2), (0, x3), (0, x4), (0, x5), (0, (x6 + 1))] [] M Q) ∧ (x49 = x2 → (-2147483648 ≤ x1 - x3 ∧ x1 - x3 ≤ 2147483647) ∧ (zcer (x1 - x3) x6) ∧ (0 ≤ (zce (x1 - x3) x6) ∧ (zce (x1 - x3) x6) < 6006) ∧ ((¬ (zlcmp (M 264 (zce (x1 - x3) x6)) 0) = 0 → (-2147483648 ≤ x1 - x3 ∧ x1 - x3 ≤ 2147483647) ∧ Y G d mX12_await0 0 [(2, 234), (0, (x1 - x3)), (0, x6)] [] M (fun r M' => Y G (d + 1) mX12_split 104 [(2, 234), (0, x1), (0, x2), (0, x3), (0, x4), (0, x5), (0, x6)] (zpush r []) M' Q)) ∧ ((zlcmp (M 264 (zce (x1 - x3) x6)) 0) = 0 → (-2147483648 ≤ x6 + 1 ∧ x6 + 1 ≤ 2147483647) ∧ Y G (d + 1) mX12_split 53 [(2, 234), (0, x1), (0, x2), (0, x3), (0, x4), (0, x5), (0, (x6 + 1))] [] M Q))))) :
    Y G (d + 1) mX12_split 70 [(2, 234), (0, x1), (0, x2), (0, x3), (0, x4), (0, x5), (0, x6)] [(0, x49)] M Q := by
  refine z_iloadn dX12_split_70 rfl ?_
  refine z_icmpne (tgt := 114) dX12_split_71 rfl (fun q => ?_) (fun q => ?_)
  · replace h := h.1 q
    obtain ⟨q1, h⟩ := h
    refine y_iinc (ls' := [(2, 234), (0, x1), (0, x2), (0, x3), (0, x4), (0, x5), (0, (x6 + 1))]) dX12_split_114 rfl rfl q1 rfl ?_
    refine z_goto (tgt := 53) dX12_split_117 rfl ?_
    exact h
  · replace h := h.2 q
    refine z_aloadn dX12_split_74 rfl (Or.inl rfl) ?_
    refine y_getr (v := 264) hG dX12_split_75 fX12_106 sh234 (by decide) rfl (by decide +kernel) (by decide) ?_
    refine z_iloadn dX12_split_78 rfl ?_
    refine z_iloadn dX12_split_79 rfl ?_
    obtain ⟨q2, h⟩ := h
    refine z_isub dX12_split_80 q2 ?_
    refine z_iload dX12_split_81 rfl ?_
    obtain ⟨q3, h⟩ := h
    refine y_cs (mt2 := mX12_cell) (en := [(0, (x1 - x3)), (0, x6)]) (st := [(2, 264)]) (as := [(0, (x1 - x3)), (0, x6)]) dX12_split_83 lX12_545 kX12_cell tX12_cell rfl (Nat.le_of_ble_eq_true rfl) (Nat.le_of_ble_eq_true rfl) rfl (s_cell hG q3 ?_)
    show Y G (d + 1) mX12_split 86 [(2, 234), (0, x1), (0, x2), (0, x3), (0, x4), (0, x5), (0, x6)] [(0, (zce (x1 - x3) x6)), (2, 264)] M Q
    obtain ⟨q4, h⟩ := h
    refine y_lald (x := (M 264 (zce (x1 - x3) x6))) dX12_split_86 sh264 q4 rfl ?_
    refine z_lconst (k := 0) dX12_split_87 ⟨by decide, ⟨by decide, by decide⟩⟩ ?_
    refine z_lcmp dX12_split_88 ?_
    refine z_ifne (tgt := 95) dX12_split_89 rfl (fun q => ?_) (fun q => ?_)
    · replace h := h.1 q
      refine z_aloadn dX12_split_95 rfl (Or.inl rfl) ?_
      refine z_iloadn dX12_split_96 rfl ?_
      refine z_iloadn dX12_split_97 rfl ?_
      obtain ⟨q5, h⟩ := h
      refine z_isub dX12_split_98 q5 ?_
      refine z_iload dX12_split_99 rfl ?_
      refine y_cv (mt2 := mX12_await0) (en := [(2, 234), (0, (x1 - x3)), (0, x6)]) (st := []) (as := [(0, (x1 - x3)), (0, x6)]) dX12_split_101 lX12_563 kX12_await0 iX12_await0 eX12_await0 rfl sh234 (by decide +kernel) (Nat.le_of_ble_eq_true rfl) (Nat.le_of_ble_eq_true rfl) rfl ?_
      exact h
    · replace h := h.2 q
      refine z_goto (tgt := 114) dX12_split_92 rfl ?_
      obtain ⟨q6, h⟩ := h
      refine y_iinc (ls' := [(2, 234), (0, x1), (0, x2), (0, x3), (0, x4), (0, x5), (0, (x6 + 1))]) dX12_split_114 rfl rfl q6 rfl ?_
      refine z_goto (tgt := 53) dX12_split_117 rfl ?_
      exact h
set_option maxRecDepth 20000 in
set_option maxHeartbeats 4000000 in
theorem bX12_split_104 {G : zG} {d : Nat} {M : zM} {Q : zV → zM → Prop} (hG : zP G) {x1 x2 x3 x4 x5 x6 : Int}
    (h : Y G d mX12_await0 0 [(2, 234), (0, x3), (0, x5)] [] M (fun r M' => Y G (d + 1) mX12_split 111 [(2, 234), (0, x1), (0, x2), (0, x3), (0, x4), (0, x5), (0, x6)] (zpush r []) M' Q)) :
    Y G (d + 1) mX12_split 104 [(2, 234), (0, x1), (0, x2), (0, x3), (0, x4), (0, x5), (0, x6)] [] M Q := by
  refine z_aloadn dX12_split_104 rfl (Or.inl rfl) ?_
  refine z_iloadn dX12_split_105 rfl ?_
  refine z_iload dX12_split_106 rfl ?_
  refine y_cv (mt2 := mX12_await0) (en := [(2, 234), (0, x3), (0, x5)]) (st := []) (as := [(0, x3), (0, x5)]) dX12_split_108 lX12_563 kX12_await0 iX12_await0 eX12_await0 rfl sh234 (by decide +kernel) (Nat.le_of_ble_eq_true rfl) (Nat.le_of_ble_eq_true rfl) rfl ?_
  exact h
set_option maxRecDepth 20000 in
set_option maxHeartbeats 4000000 in
theorem bX12_split_111 {G : zG} {d : Nat} {M : zM} {Q : zV → zM → Prop} (hG : zP G) {x1 x2 x3 x4 x5 x6 : Int}
    (h : Q (0, x4) M) :
    Y G (d + 1) mX12_split 111 [(2, 234), (0, x1), (0, x2), (0, x3), (0, x4), (0, x5), (0, x6)] [] M Q := by
  refine z_iload dX12_split_111 rfl ?_
  exact z_ireturn dX12_split_113 (Or.inl rfl) rfl h
set_option maxRecDepth 20000 in
set_option maxHeartbeats 4000000 in
theorem bX12_shortest_0 {G : zG} {d : Nat} {M : zM} {Q : zV → zM → Prop} (hG : zP G) {x1 x2 x3 : Int}
    (h : ((0 ≤ x1 ∧ x1 ≤ 9 → (((-500) ≤ x2 ∧ x2 ≤ 500 → (((-1) ≤ x3 → Y G d mX12_findKinds 0 [(2, 234), (0, 5), (0, x1), (9, 0), (9, 0)] [] M (fun r M' => Y G (d + 1) mX12_shortest 36 [(2, 234), (0, x1), (0, x2), (0, x3), (9, 0), (9, 0)] (zpush r []) M' Q)) ∧ (x3 < (-1) → Q (0, (-1)) M))) ∧ (¬ ((-500) ≤ x2 ∧ x2 ≤ 500) → Q (0, (-1)) M))) ∧ (¬ (0 ≤ x1 ∧ x1 ≤ 9) → Q (0, (-1)) M))) :
    Y G (d + 1) mX12_shortest 0 [(2, 234), (0, x1), (0, x2), (0, x3), (9, 0), (9, 0)] [] M Q := by
  refine z_iloadn dX12_shortest_0 rfl ?_
  refine z_iconst dX12_shortest_1 ki_0 ?_
  refine z_bipush dX12_shortest_2 kb_9 ?_
  refine y_cs (mt2 := mX12_isIn) (en := [(0, x1), (0, 0), (0, 9)]) (st := []) (as := [(0, x1), (0, 0), (0, 9)]) dX12_shortest_4 lX12_126 kX12_isIn tX12_isIn rfl (Nat.le_of_ble_eq_true rfl) (Nat.le_of_ble_eq_true rfl) rfl (s_isIn hG (fun q => ?_) (fun q => ?_))
  · replace h := h.1 q
    show Y G (d + 1) mX12_shortest 7 [(2, 234), (0, x1), (0, x2), (0, x3), (9, 0), (9, 0)] [(0, 1)] M Q
    refine z_ifeq (tgt := 28) dX12_shortest_7 rfl (fun q => absurd q (by decide)) (fun _ => ?_)
    refine z_iloadn dX12_shortest_10 rfl ?_
    refine z_sipush dX12_shortest_11 ks_m500 ?_
    refine z_sipush dX12_shortest_14 ks_500 ?_
    refine y_cs (mt2 := mX12_isIn) (en := [(0, x2), (0, (-500)), (0, 500)]) (st := []) (as := [(0, x2), (0, (-500)), (0, 500)]) dX12_shortest_17 lX12_126 kX12_isIn tX12_isIn rfl (Nat.le_of_ble_eq_true rfl) (Nat.le_of_ble_eq_true rfl) rfl (s_isIn hG (fun q => ?_) (fun q => ?_))
    · replace h := h.1 q
      show Y G (d + 1) mX12_shortest 20 [(2, 234), (0, x1), (0, x2), (0, x3), (9, 0), (9, 0)] [(0, 1)] M Q
      refine z_ifeq (tgt := 28) dX12_shortest_20 rfl (fun q => absurd q (by decide)) (fun _ => ?_)
      refine z_iloadn dX12_shortest_23 rfl ?_
      refine z_iconst dX12_shortest_24 ki_m1 ?_
      refine z_icmpge (tgt := 30) dX12_shortest_25 rfl (fun q => ?_) (fun q => ?_)
      · replace h := h.1 q
        refine z_aloadn dX12_shortest_30 rfl (Or.inl rfl) ?_
        refine z_iconst dX12_shortest_31 ki_5 ?_
        refine z_iloadn dX12_shortest_32 rfl ?_
        refine y_cv (mt2 := mX12_findKinds) (en := [(2, 234), (0, 5), (0, x1), (9, 0), (9, 0)]) (st := []) (as := [(0, 5), (0, x1)]) dX12_shortest_33 lX12_554 kX12_findKinds iX12_findKinds eX12_findKinds rfl sh234 (by decide +kernel) (Nat.le_of_ble_eq_true rfl) (Nat.le_of_ble_eq_true rfl) rfl ?_
        exact h
      · replace h := h.2 q
        refine z_iconst dX12_shortest_28 ki_m1 ?_
        exact z_ireturn dX12_shortest_29 (Or.inl rfl) rfl h
    · replace h := h.2 q
      show Y G (d + 1) mX12_shortest 20 [(2, 234), (0, x1), (0, x2), (0, x3), (9, 0), (9, 0)] [(0, 0)] M Q
      refine z_ifeq (tgt := 28) dX12_shortest_20 rfl (fun _ => ?_) (fun q => absurd q (by decide))
      refine z_iconst dX12_shortest_28 ki_m1 ?_
      exact z_ireturn dX12_shortest_29 (Or.inl rfl) rfl h
  · replace h := h.2 q
    show Y G (d + 1) mX12_shortest 7 [(2, 234), (0, x1), (0, x2), (0, x3), (9, 0), (9, 0)] [(0, 0)] M Q
    refine z_ifeq (tgt := 28) dX12_shortest_7 rfl (fun _ => ?_) (fun q => absurd q (by decide))
    refine z_iconst dX12_shortest_28 ki_m1 ?_
    exact z_ireturn dX12_shortest_29 (Or.inl rfl) rfl h
set_option maxRecDepth 20000 in
set_option maxHeartbeats 4000000 in
theorem bX12_shortest_90 {G : zG} {d : Nat} {M : zM} {Q : zV → zM → Prop} (hG : zP G) {x1 x2 x3 x4 x5 : Int}
    (h : (((M 234 52) ≤ 0 → (0 ≤ x3 ∧ x3 < 9) ∧ Q (0, (M 267 x3)) M) ∧ (0 < (M 234 52) → (-2147483648 ≤ (M 234 52) - 1 ∧ (M 234 52) - 1 ≤ 2147483647) ∧ (0 ≤ ((M 234 52) - 1) ∧ ((M 234 52) - 1) < 10) ∧ ((¬ (M 265 ((M 234 52) - 1)) = 1 → (0 ≤ ((M 234 52) - 1) ∧ ((M 234 52) - 1) < 10) ∧ (0 ≤ ((M 234 52) - 1) ∧ ((M 234 52) - 1) < 10) ∧ Y G d mX12_split 0 [(2, 234), (0, (M 265 ((M 234 52) - 1))), (0, (M 266 ((M 234 52) - 1))), (9, 0), (9, 0), (9, 0), (9, 0)] [] (zset M 234 52 ((M 234 52) - 1)) (fun r M' => Y G (d + 1) mX12_shortest 168 [(2, 234), (0, x1), (0, x2), (0, x3), (0, x4), (0, x5)] (zpush r [(0, 1000), (0, x5), (2, 267)]) M' Q)) ∧ ((M 265 ((M 234 52) - 1)) = 1 → (0 ≤ ((M 234 52) - 1) ∧ ((M 234 52) - 1) < 10) ∧ Y G d mX12_leafOf 0 [(2, 234), (0, (M 266 ((M 234 52) - 1))), (0, x1), (9, 0)] [] (zset M 234 52 ((M 234 52) - 1)) (fun r M' => Y G (d + 1) mX12_shortest 140 [(2, 234), (0, x1), (0, x2), (0, x3), (0, x4), (0, x5)] (zpush r [(0, x5), (2, 267)]) M' Q)))))) :
    Y G (d + 1) mX12_shortest 90 [(2, 234), (0, x1), (0, x2), (0, x3), (0, x4), (0, x5)] [] M Q := by
  refine z_aloadn dX12_shortest_90 rfl (Or.inl rfl) ?_
  refine y_getf (x := (M 234 52)) dX12_shortest_91 fX12_560 sh234 (by decide) rfl rfl ?_
  refine z_ifle (tgt := 176) dX12_shortest_94 rfl (fun q => ?_) (fun q => ?_)
  · replace h := h.1 q
    refine z_aloadn dX12_shortest_176 rfl (Or.inl rfl) ?_
    refine y_getr (v := 267) hG dX12_shortest_177 fX12_115 sh234 (by decide) rfl (by decide +kernel) (by decide) ?_
    refine z_iloadn dX12_shortest_180 rfl ?_
    obtain ⟨q1, h⟩ := h
    refine y_iald (x := (M 267 x3)) dX12_shortest_181 sh267 q1 rfl ?_
    exact z_ireturn dX12_shortest_182 (Or.inl rfl) rfl h
  · replace h := h.2 q
    refine z_aloadn dX12_shortest_97 rfl (Or.inl rfl) ?_
    refine z_dup dX12_shortest_98 (show (2 : Nat) ≠ 1 by decide) ?_
    refine y_getf (x := (M 234 52)) dX12_shortest_99 fX12_560 sh234 (by decide) rfl rfl ?_
    refine z_iconst dX12_shortest_102 ki_1 ?_
    obtain ⟨q2, h⟩ := h
    refine z_isub dX12_shortest_103 q2 ?_
    refine y_putf (M' := zset M 234 52 ((M 234 52) - 1)) hG dX12_shortest_104 fX12_560 sh234 (by decide) ⟨rfl, rfl⟩ p12_52 (fun q => absurd q (by decide)) (by decide) rfl ?_
    refine z_aloadn dX12_shortest_107 rfl (Or.inl rfl) ?_
    refine y_getr (v := 267) hG dX12_shortest_108 fX12_115 sh234 (by decide) rfl (by decide +kernel) (by decide) ?_
    refine z_iload dX12_shortest_111 rfl ?_
    refine z_aloadn dX12_shortest_113 rfl (Or.inl rfl) ?_
    refine y_getr (v := 265) hG dX12_shortest_114 fX12_109 sh234 (by decide) rfl (by decide +kernel) (by decide) ?_
    refine z_aloadn dX12_shortest_117 rfl (Or.inl rfl) ?_
    refine y_getf (x := ((M 234 52) - 1)) dX12_shortest_118 fX12_560 sh234 (by decide) rfl zset_same ?_
    obtain ⟨q3, h⟩ := h
    refine y_iald (x := (M 265 ((M 234 52) - 1))) dX12_shortest_121 sh265 q3 (zset_ne (fun q => absurd q.1 (by decide))) ?_
    refine z_iconst dX12_shortest_122 ki_1 ?_
    refine z_icmpne (tgt := 143) dX12_shortest_123 rfl (fun q => ?_) (fun q => ?_)
    · replace h := h.1 q
      refine z_sipush dX12_shortest_143 ks_1000 ?_
      refine z_aloadn dX12_shortest_146 rfl (Or.inl rfl) ?_
      refine z_aloadn dX12_shortest_147 rfl (Or.inl rfl) ?_
      refine y_getr (v := 265) hG dX12_shortest_148 fX12_109 sh234 (by decide) rfl (by decide +kernel) (by decide) ?_
      refine z_aloadn dX12_shortest_151 rfl (Or.inl rfl) ?_
      refine y_getf (x := ((M 234 52) - 1)) dX12_shortest_152 fX12_560 sh234 (by decide) rfl zset_same ?_
      obtain ⟨q4, h⟩ := h
      refine y_iald (x := (M 265 ((M 234 52) - 1))) dX12_shortest_155 sh265 q4 (zset_ne (fun q => absurd q.1 (by decide))) ?_
      refine z_aloadn dX12_shortest_156 rfl (Or.inl rfl) ?_
      refine y_getr (v := 266) hG dX12_shortest_157 fX12_112 sh234 (by decide) rfl (by decide +kernel) (by decide) ?_
      refine z_aloadn dX12_shortest_160 rfl (Or.inl rfl) ?_
      refine y_getf (x := ((M 234 52) - 1)) dX12_shortest_161 fX12_560 sh234 (by decide) rfl zset_same ?_
      obtain ⟨q5, h⟩ := h
      refine y_iald (x := (M 266 ((M 234 52) - 1))) dX12_shortest_164 sh266 q5 (zset_ne (fun q => absurd q.1 (by decide))) ?_
      refine y_cv (mt2 := mX12_split) (en := [(2, 234), (0, (M 265 ((M 234 52) - 1))), (0, (M 266 ((M 234 52) - 1))), (9, 0), (9, 0), (9, 0), (9, 0)]) (st := [(0, 1000), (0, x5), (2, 267)]) (as := [(0, (M 265 ((M 234 52) - 1))), (0, (M 266 ((M 234 52) - 1)))]) dX12_shortest_165 lX12_569 kX12_split iX12_split eX12_split rfl sh234 (by decide +kernel) (Nat.le_of_ble_eq_true rfl) (Nat.le_of_ble_eq_true rfl) rfl ?_
      exact h
    · replace h := h.2 q
      refine z_aloadn dX12_shortest_126 rfl (Or.inl rfl) ?_
      refine z_aloadn dX12_shortest_127 rfl (Or.inl rfl) ?_
      refine y_getr (v := 266) hG dX12_shortest_128 fX12_112 sh234 (by decide) rfl (by decide +kernel) (by decide) ?_
      refine z_aloadn dX12_shortest_131 rfl (Or.inl rfl) ?_
      refine y_getf (x := ((M 234 52) - 1)) dX12_shortest_132 fX12_560 sh234 (by decide) rfl zset_same ?_
      obtain ⟨q6, h⟩ := h
      refine y_iald (x := (M 266 ((M 234 52) - 1))) dX12_shortest_135 sh266 q6 (zset_ne (fun q => absurd q.1 (by decide))) ?_
      refine z_iloadn dX12_shortest_136 rfl ?_
      refine y_cv (mt2 := mX12_leafOf) (en := [(2, 234), (0, (M 266 ((M 234 52) - 1))), (0, x1), (9, 0)]) (st := [(0, x5), (2, 267)]) (as := [(0, (M 266 ((M 234 52) - 1))), (0, x1)]) dX12_shortest_137 lX12_566 kX12_leafOf iX12_leafOf eX12_leafOf rfl sh234 (by decide +kernel) (Nat.le_of_ble_eq_true rfl) (Nat.le_of_ble_eq_true rfl) rfl ?_
      exact h
set_option maxRecDepth 20000 in
set_option maxHeartbeats 4000000 in
theorem bX12_shortest_36 {G : zG} {d : Nat} {M : zM} {Q : zV → zM → Prop} (hG : zP G) {x1 x2 x3 : Int}
    (h : Y G d mX12_fewestOf 0 [(2, 234), (0, x2), (0, 5), (9, 0)] [] M (fun r M' => Y G (d + 1) mX12_shortest 42 [(2, 234), (0, x1), (0, x2), (0, x3), (9, 0), (9, 0)] (zpush r []) M' Q)) :
    Y G (d + 1) mX12_shortest 36 [(2, 234), (0, x1), (0, x2), (0, x3), (9, 0), (9, 0)] [] M Q := by
  refine z_aloadn dX12_shortest_36 rfl (Or.inl rfl) ?_
  refine z_iloadn dX12_shortest_37 rfl ?_
  refine z_iconst dX12_shortest_38 ki_5 ?_
  refine y_cv (mt2 := mX12_fewestOf) (en := [(2, 234), (0, x2), (0, 5), (9, 0)]) (st := []) (as := [(0, x2), (0, 5)]) dX12_shortest_39 lX12_557 kX12_fewestOf iX12_fewestOf eX12_fewestOf rfl sh234 (by decide +kernel) (Nat.le_of_ble_eq_true rfl) (Nat.le_of_ble_eq_true rfl) rfl ?_
  exact h
set_option maxRecDepth 20000 in
set_option maxHeartbeats 4000000 in
theorem bX12_shortest_168 {G : zG} {d : Nat} {M : zM} {Q : zV → zM → Prop} (hG : zP G) {x1 x2 x3 x4 x5 x49 x51 : Int}
    (h : (-2147483648 ≤ 1000 + x49 ∧ 1000 + x49 ≤ 2147483647) ∧ (0 ≤ x51 ∧ x51 < 9) ∧ (-2147483648 ≤ x5 + 1 ∧ x5 + 1 ≤ 2147483647) ∧ Y G (d + 1) mX12_shortest 90 [(2, 234), (0, x1), (0, x2), (0, x3), (0, x4), (0, (x5 + 1))] [] (zset M 267 x51 (1000 + x49)) Q) :
    Y G (d + 1) mX12_shortest 168 [(2, 234), (0, x1), (0, x2), (0, x3), (0, x4), (0, x5)] [(0, x49), (0, 1000), (0, x51), (2, 267)] M Q := by
  obtain ⟨q1, h⟩ := h
  refine z_iadd dX12_shortest_168 q1 ?_
  obtain ⟨q2, h⟩ := h
  refine y_iast hG dX12_shortest_169 sh267 q2 ?_
  obtain ⟨q3, h⟩ := h
  refine y_iinc (ls' := [(2, 234), (0, x1), (0, x2), (0, x3), (0, x4), (0, (x5 + 1))]) dX12_shortest_170 rfl rfl q3 rfl ?_
  refine z_goto (tgt := 90) dX12_shortest_173 rfl ?_
  exact h
set_option maxRecDepth 20000 in
set_option maxHeartbeats 4000000 in
theorem bX12_shortest_140 {G : zG} {d : Nat} {M : zM} {Q : zV → zM → Prop} (hG : zP G) {x1 x2 x3 x4 x5 x49 x50 : Int}
    (h : (0 ≤ x50 ∧ x50 < 9) ∧ (-2147483648 ≤ x5 + 1 ∧ x5 + 1 ≤ 2147483647) ∧ Y G (d + 1) mX12_shortest 90 [(2, 234), (0, x1), (0, x2), (0, x3), (0, x4), (0, (x5 + 1))] [] (zset M 267 x50 x49) Q) :
    Y G (d + 1) mX12_shortest 140 [(2, 234), (0, x1), (0, x2), (0, x3), (0, x4), (0, x5)] [(0, x49), (0, x50), (2, 267)] M Q := by
  refine z_goto (tgt := 169) dX12_shortest_140 rfl ?_
  obtain ⟨q1, h⟩ := h
  refine y_iast hG dX12_shortest_169 sh267 q1 ?_
  obtain ⟨q2, h⟩ := h
  refine y_iinc (ls' := [(2, 234), (0, x1), (0, x2), (0, x3), (0, x4), (0, (x5 + 1))]) dX12_shortest_170 rfl rfl q2 rfl ?_
  refine z_goto (tgt := 90) dX12_shortest_173 rfl ?_
  exact h
set_option maxRecDepth 20000 in
set_option maxHeartbeats 4000000 in
theorem bX12_shortest_42 {G : zG} {d : Nat} {M : zM} {Q : zV → zM → Prop} (hG : zP G) {x1 x2 x3 x49 : Int}
    (h : ((0 ≤ x49 → ((¬ x3 = (-1) → (-2147483648 ≤ 2 * x49 ∧ 2 * x49 ≤ 2147483647) ∧ (-2147483648 ≤ (2 * x49) - 2 ∧ (2 * x49) - 2 ≤ 2147483647) ∧ ((x3 ≤ ((2 * x49) - 2) → Y G d mX12_await0 0 [(2, 234), (0, x49), (0, x2)] [] (zset M 234 52 0) (fun r M' => Y G (d + 1) mX12_shortest 87 [(2, 234), (0, x1), (0, x2), (0, x3), (0, x49), (9, 0)] (zpush r []) M' Q)) ∧ (((2 * x49) - 2) < x3 → Q (0, (-1)) M))) ∧ (x3 = (-1) → (-2147483648 ≤ 2 * x49 ∧ 2 * x49 ≤ 2147483647) ∧ (-2147483648 ≤ (2 * x49) - 1 ∧ (2 * x49) - 1 ≤ 2147483647) ∧ Q (0, ((2 * x49) - 1)) M))) ∧ (x49 < 0 → Q (0, (-1)) M))) :
    Y G (d + 1) mX12_shortest 42 [(2, 234), (0, x1), (0, x2), (0, x3), (9, 0), (9, 0)] [(0, x49)] M Q := by
  refine y_istore (ls' := [(2, 234), (0, x1), (0, x2), (0, x3), (0, x49), (9, 0)]) dX12_shortest_42 rfl rfl ?_
  refine z_iload dX12_shortest_44 rfl ?_
  refine z_ifge (tgt := 51) dX12_shortest_46 rfl (fun q => ?_) (fun q => ?_)
  · replace h := h.1 q
    refine z_iloadn dX12_shortest_51 rfl ?_
    refine z_iconst dX12_shortest_52 ki_m1 ?_
    refine z_icmpne (tgt := 63) dX12_shortest_53 rfl (fun q => ?_) (fun q => ?_)
    · replace h := h.1 q
      refine z_iloadn dX12_shortest_63 rfl ?_
      refine z_iconst dX12_shortest_64 ki_2 ?_
      refine z_iload dX12_shortest_65 rfl ?_
      obtain ⟨q1, h⟩ := h
      refine z_imul dX12_shortest_67 q1 ?_
      refine z_iconst dX12_shortest_68 ki_2 ?_
      obtain ⟨q2, h⟩ := h
      refine z_isub dX12_shortest_69 q2 ?_
      refine z_icmple (tgt := 75) dX12_shortest_70 rfl (fun q => ?_) (fun q => ?_)
      · replace h := h.1 q
        refine z_aloadn dX12_shortest_75 rfl (Or.inl rfl) ?_
        refine z_iconst dX12_shortest_76 ki_0 ?_
        refine y_putf (M' := zset M 234 52 0) hG dX12_shortest_77 fX12_560 sh234 (by decide) ⟨rfl, rfl⟩ p12_52 (fun q => absurd q (by decide)) (by decide) rfl ?_
        refine z_aloadn dX12_shortest_80 rfl (Or.inl rfl) ?_
        refine z_iload dX12_shortest_81 rfl ?_
        refine z_iloadn dX12_shortest_83 rfl ?_
        refine y_cv (mt2 := mX12_await0) (en := [(2, 234), (0, x49), (0, x2)]) (st := []) (as := [(0, x49), (0, x2)]) dX12_shortest_84 lX12_563 kX12_await0 iX12_await0 eX12_await0 rfl sh234 (by decide +kernel) (Nat.le_of_ble_eq_true rfl) (Nat.le_of_ble_eq_true rfl) rfl ?_
        exact h
      · replace h := h.2 q
        refine z_iconst dX12_shortest_73 ki_m1 ?_
        exact z_ireturn dX12_shortest_74 (Or.inl rfl) rfl h
    · replace h := h.2 q
      refine z_iconst dX12_shortest_56 ki_2 ?_
      refine z_iload dX12_shortest_57 rfl ?_
      obtain ⟨q3, h⟩ := h
      refine z_imul dX12_shortest_59 q3 ?_
      refine z_iconst dX12_shortest_60 ki_1 ?_
      obtain ⟨q4, h⟩ := h
      refine z_isub dX12_shortest_61 q4 ?_
      exact z_ireturn dX12_shortest_62 (Or.inl rfl) rfl h
  · replace h := h.2 q
    refine z_iconst dX12_shortest_49 ki_m1 ?_
    exact z_ireturn dX12_shortest_50 (Or.inl rfl) rfl h
set_option maxRecDepth 20000 in
set_option maxHeartbeats 4000000 in
theorem bX12_shortest_87 {G : zG} {d : Nat} {M : zM} {Q : zV → zM → Prop} (hG : zP G) {x1 x2 x3 x4 : Int}
    (h : Y G (d + 1) mX12_shortest 90 [(2, 234), (0, x1), (0, x2), (0, x3), (0, x4), (0, 0)] [] M Q) :
    Y G (d + 1) mX12_shortest 87 [(2, 234), (0, x1), (0, x2), (0, x3), (0, x4), (9, 0)] [] M Q := by
  refine z_iconst dX12_shortest_87 ki_0 ?_
  refine y_istore (ls' := [(2, 234), (0, x1), (0, x2), (0, x3), (0, x4), (0, 0)]) dX12_shortest_88 rfl rfl ?_
  exact h
set_option maxRecDepth 20000 in
set_option maxHeartbeats 4000000 in
theorem bX12_rarest_0 {G : zG} {d : Nat} {M : zM} {Q : zV → zM → Prop} (hG : zP G) {x1 x2 x3 x4 : Int}
    (h : ((1 ≤ x1 ∧ x1 ≤ 5 → ((0 ≤ x2 ∧ x2 ≤ 9 → Y G d mX12_areValues 0 [(0, x3), (0, x4)] [] M (fun r M' => Y G (d + 1) mX12_rarest 25 [(2, 234), (0, x1), (0, x2), (0, x3), (0, x4), (9, 0), (9, 0), (9, 0), (9, 0)] (zpush r []) M' Q)) ∧ (¬ (0 ≤ x2 ∧ x2 ≤ 9) → Q (0, (-1000)) M))) ∧ (¬ (1 ≤ x1 ∧ x1 ≤ 5) → Q (0, (-1000)) M))) :
    Y G (d + 1) mX12_rarest 0 [(2, 234), (0, x1), (0, x2), (0, x3), (0, x4), (9, 0), (9, 0), (9, 0), (9, 0)] [] M Q := by
  refine z_iloadn dX12_rarest_0 rfl ?_
  refine z_iconst dX12_rarest_1 ki_1 ?_
  refine z_iconst dX12_rarest_2 ki_5 ?_
  refine y_cs (mt2 := mX12_isIn) (en := [(0, x1), (0, 1), (0, 5)]) (st := []) (as := [(0, x1), (0, 1), (0, 5)]) dX12_rarest_3 lX12_126 kX12_isIn tX12_isIn rfl (Nat.le_of_ble_eq_true rfl) (Nat.le_of_ble_eq_true rfl) rfl (s_isIn hG (fun q => ?_) (fun q => ?_))
  · replace h := h.1 q
    show Y G (d + 1) mX12_rarest 6 [(2, 234), (0, x1), (0, x2), (0, x3), (0, x4), (9, 0), (9, 0), (9, 0), (9, 0)] [(0, 1)] M Q
    refine z_ifeq (tgt := 28) dX12_rarest_6 rfl (fun q => absurd q (by decide)) (fun _ => ?_)
    refine z_iloadn dX12_rarest_9 rfl ?_
    refine z_iconst dX12_rarest_10 ki_0 ?_
    refine z_bipush dX12_rarest_11 kb_9 ?_
    refine y_cs (mt2 := mX12_isIn) (en := [(0, x2), (0, 0), (0, 9)]) (st := []) (as := [(0, x2), (0, 0), (0, 9)]) dX12_rarest_13 lX12_126 kX12_isIn tX12_isIn rfl (Nat.le_of_ble_eq_true rfl) (Nat.le_of_ble_eq_true rfl) rfl (s_isIn hG (fun q => ?_) (fun q => ?_))
    · replace h := h.1 q
      show Y G (d + 1) mX12_rarest 16 [(2, 234), (0, x1), (0, x2), (0, x3), (0, x4), (9, 0), (9, 0), (9, 0), (9, 0)] [(0, 1)] M Q
      refine z_ifeq (tgt := 28) dX12_rarest_16 rfl (fun q => absurd q (by decide)) (fun _ => ?_)
      refine z_iloadn dX12_rarest_19 rfl ?_
      refine z_iload dX12_rarest_20 rfl ?_
      refine y_cs (mt2 := mX12_areValues) (en := [(0, x3), (0, x4)]) (st := []) (as := [(0, x3), (0, x4)]) dX12_rarest_22 lX12_572 kX12_areValues tX12_areValues rfl (Nat.le_of_ble_eq_true rfl) (Nat.le_of_ble_eq_true rfl) rfl ?_
      exact h
    · replace h := h.2 q
      show Y G (d + 1) mX12_rarest 16 [(2, 234), (0, x1), (0, x2), (0, x3), (0, x4), (9, 0), (9, 0), (9, 0), (9, 0)] [(0, 0)] M Q
      refine z_ifeq (tgt := 28) dX12_rarest_16 rfl (fun _ => ?_) (fun q => absurd q (by decide))
      refine z_sipush dX12_rarest_28 ks_m1000 ?_
      exact z_ireturn dX12_rarest_31 (Or.inl rfl) rfl h
  · replace h := h.2 q
    show Y G (d + 1) mX12_rarest 6 [(2, 234), (0, x1), (0, x2), (0, x3), (0, x4), (9, 0), (9, 0), (9, 0), (9, 0)] [(0, 0)] M Q
    refine z_ifeq (tgt := 28) dX12_rarest_6 rfl (fun _ => ?_) (fun q => absurd q (by decide))
    refine z_sipush dX12_rarest_28 ks_m1000 ?_
    exact z_ireturn dX12_rarest_31 (Or.inl rfl) rfl h
set_option maxRecDepth 20000 in
set_option maxHeartbeats 4000000 in
theorem bX12_rarest_46 {G : zG} {d : Nat} {M : zM} {Q : zV → zM → Prop} (hG : zP G) {x1 x2 x3 x4 x5 x6 : Int}
    (h : ((x4 < x6 → Q (0, x5) M) ∧ (x6 ≤ x4 → (zcer x1 x6) ∧ (0 ≤ (zce x1 x6) ∧ (zce x1 x6) < 6006) ∧ (((zlcmp (M 264 (zce x1 x6)) 0) ≤ 0 → (-2147483648 ≤ x6 + 1 ∧ x6 + 1 ≤ 2147483647) ∧ Y G (d + 1) mX12_rarest 46 [(2, 234), (0, x1), (0, x2), (0, x3), (0, x4), (0, x5), (0, (x6 + 1)), (9, 0), (9, 0)] [] M Q) ∧ (0 < (zlcmp (M 264 (zce x1 x6)) 0) → ((x5 = (-1000) → (-2147483648 ≤ x6 + 1 ∧ x6 + 1 ≤ 2147483647) ∧ Y G (d + 1) mX12_rarest 46 [(2, 234), (0, x1), (0, x2), (0, x3), (0, x4), (0, x6), (0, (x6 + 1)), (9, 0), (9, 0)] [] M Q) ∧ (¬ x5 = (-1000) → (zcer x1 x5) ∧ (0 ≤ (zce x1 x5) ∧ (zce x1 x5) < 6006) ∧ ((0 ≤ (zlcmp (M 264 (zce x1 x6)) (M 264 (zce x1 x5))) → (-2147483648 ≤ x6 + 1 ∧ x6 + 1 ≤ 2147483647) ∧ Y G (d + 1) mX12_rarest 46 [(2, 234), (0, x1), (0, x2), (0, x3), (0, x4), (0, x5), (0, (x6 + 1)), (9, 0), (9, 0)] [] M Q) ∧ ((zlcmp (M 264 (zce x1 x6)) (M 264 (zce x1 x5))) < 0 → (-2147483648 ≤ x6 + 1 ∧ x6 + 1 ≤ 2147483647) ∧ Y G (d + 1) mX12_rarest 46 [(2, 234), (0, x1), (0, x2), (0, x3), (0, x4), (0, x6), (0, (x6 + 1)), (9, 0), (9, 0)] [] M Q))))))))) :
    Y G (d + 1) mX12_rarest 46 [(2, 234), (0, x1), (0, x2), (0, x3), (0, x4), (0, x5), (0, x6), (9, 0), (9, 0)] [] M Q := by
  refine z_iload dX12_rarest_46 rfl ?_
  refine z_iload dX12_rarest_48 rfl ?_
  refine z_icmpgt (tgt := 108) dX12_rarest_50 rfl (fun q => ?_) (fun q => ?_)
  · replace h := h.1 q
    refine z_iload dX12_rarest_108 rfl ?_
    exact z_ireturn dX12_rarest_110 (Or.inl rfl) rfl h
  · replace h := h.2 q
    refine z_aloadn dX12_rarest_53 rfl (Or.inl rfl) ?_
    refine y_getr (v := 264) hG dX12_rarest_54 fX12_106 sh234 (by decide) rfl (by decide +kernel) (by decide) ?_
    refine z_iloadn dX12_rarest_57 rfl ?_
    refine z_iload dX12_rarest_58 rfl ?_
    obtain ⟨q1, h⟩ := h
    refine y_cs (mt2 := mX12_cell) (en := [(0, x1), (0, x6)]) (st := [(2, 264)]) (as := [(0, x1), (0, x6)]) dX12_rarest_60 lX12_545 kX12_cell tX12_cell rfl (Nat.le_of_ble_eq_true rfl) (Nat.le_of_ble_eq_true rfl) rfl (s_cell hG q1 ?_)
    show Y G (d + 1) mX12_rarest 63 [(2, 234), (0, x1), (0, x2), (0, x3), (0, x4), (0, x5), (0, x6), (9, 0), (9, 0)] [(0, (zce x1 x6)), (2, 264)] M Q
    obtain ⟨q2, h⟩ := h
    refine y_lald (x := (M 264 (zce x1 x6))) dX12_rarest_63 sh264 q2 rfl ?_
    refine y_lstore (ls' := [(2, 234), (0, x1), (0, x2), (0, x3), (0, x4), (0, x5), (0, x6), (1, (M 264 (zce x1 x6))), (9, 0)]) dX12_rarest_64 rfl (Nat.le_of_ble_eq_true rfl) rfl ?_
    refine z_lload dX12_rarest_66 rfl ?_
    refine z_lconst (k := 0) dX12_rarest_68 ⟨by decide, ⟨by decide, by decide⟩⟩ ?_
    refine z_lcmp dX12_rarest_69 ?_
    refine z_ifle (tgt := 102) dX12_rarest_70 rfl (fun q => ?_) (fun q => ?_)
    · replace h := h.1 q
      obtain ⟨q3, h⟩ := h
      refine y_iinc (ls' := [(2, 234), (0, x1), (0, x2), (0, x3), (0, x4), (0, x5), (0, (x6 + 1)), (1, (M 264 (zce x1 x6))), (9, 0)]) dX12_rarest_102 rfl rfl q3 rfl ?_
      refine z_goto (tgt := 46) dX12_rarest_105 rfl ?_
      refine z_sub (ls' := [(2, 234), (0, x1), (0, x2), (0, x3), (0, x4), (0, x5), (0, (x6 + 1)), (9, 0), (9, 0)]) ⟨Or.inl rfl, Or.inl rfl, Or.inl rfl, Or.inl rfl, Or.inl rfl, Or.inl rfl, Or.inl rfl, Or.inr rfl, Or.inl rfl, trivial⟩ ?_
      exact h
    · replace h := h.2 q
      refine z_iload dX12_rarest_73 rfl ?_
      refine z_sipush dX12_rarest_75 ks_m1000 ?_
      refine z_icmpeq (tgt := 98) dX12_rarest_78 rfl (fun q => ?_) (fun q => ?_)
      · replace h := h.1 q
        refine z_iload dX12_rarest_98 rfl ?_
        refine y_istore (ls' := [(2, 234), (0, x1), (0, x2), (0, x3), (0, x4), (0, x6), (0, x6), (1, (M 264 (zce x1 x6))), (9, 0)]) dX12_rarest_100 rfl rfl ?_
        obtain ⟨q4, h⟩ := h
        refine y_iinc (ls' := [(2, 234), (0, x1), (0, x2), (0, x3), (0, x4), (0, x6), (0, (x6 + 1)), (1, (M 264 (zce x1 x6))), (9, 0)]) dX12_rarest_102 rfl rfl q4 rfl ?_
        refine z_goto (tgt := 46) dX12_rarest_105 rfl ?_
        refine z_sub (ls' := [(2, 234), (0, x1), (0, x2), (0, x3), (0, x4), (0, x6), (0, (x6 + 1)), (9, 0), (9, 0)]) ⟨Or.inl rfl, Or.inl rfl, Or.inl rfl, Or.inl rfl, Or.inl rfl, Or.inl rfl, Or.inl rfl, Or.inr rfl, Or.inl rfl, trivial⟩ ?_
        exact h
      · replace h := h.2 q
        refine z_lload dX12_rarest_81 rfl ?_
        refine z_aloadn dX12_rarest_83 rfl (Or.inl rfl) ?_
        refine y_getr (v := 264) hG dX12_rarest_84 fX12_106 sh234 (by decide) rfl (by decide +kernel) (by decide) ?_
        refine z_iloadn dX12_rarest_87 rfl ?_
        refine z_iload dX12_rarest_88 rfl ?_
        obtain ⟨q5, h⟩ := h
        refine y_cs (mt2 := mX12_cell) (en := [(0, x1), (0, x5)]) (st := [(2, 264), (1, (M 264 (zce x1 x6)))]) (as := [(0, x1), (0, x5)]) dX12_rarest_90 lX12_545 kX12_cell tX12_cell rfl (Nat.le_of_ble_eq_true rfl) (Nat.le_of_ble_eq_true rfl) rfl (s_cell hG q5 ?_)
        show Y G (d + 1) mX12_rarest 93 [(2, 234), (0, x1), (0, x2), (0, x3), (0, x4), (0, x5), (0, x6), (1, (M 264 (zce x1 x6))), (9, 0)] [(0, (zce x1 x5)), (2, 264), (1, (M 264 (zce x1 x6)))] M Q
        obtain ⟨q6, h⟩ := h
        refine y_lald (x := (M 264 (zce x1 x5))) dX12_rarest_93 sh264 q6 rfl ?_
        refine z_lcmp dX12_rarest_94 ?_
        refine z_ifge (tgt := 102) dX12_rarest_95 rfl (fun q => ?_) (fun q => ?_)
        · replace h := h.1 q
          obtain ⟨q7, h⟩ := h
          refine y_iinc (ls' := [(2, 234), (0, x1), (0, x2), (0, x3), (0, x4), (0, x5), (0, (x6 + 1)), (1, (M 264 (zce x1 x6))), (9, 0)]) dX12_rarest_102 rfl rfl q7 rfl ?_
          refine z_goto (tgt := 46) dX12_rarest_105 rfl ?_
          refine z_sub (ls' := [(2, 234), (0, x1), (0, x2), (0, x3), (0, x4), (0, x5), (0, (x6 + 1)), (9, 0), (9, 0)]) ⟨Or.inl rfl, Or.inl rfl, Or.inl rfl, Or.inl rfl, Or.inl rfl, Or.inl rfl, Or.inl rfl, Or.inr rfl, Or.inl rfl, trivial⟩ ?_
          exact h
        · replace h := h.2 q
          refine z_iload dX12_rarest_98 rfl ?_
          refine y_istore (ls' := [(2, 234), (0, x1), (0, x2), (0, x3), (0, x4), (0, x6), (0, x6), (1, (M 264 (zce x1 x6))), (9, 0)]) dX12_rarest_100 rfl rfl ?_
          obtain ⟨q8, h⟩ := h
          refine y_iinc (ls' := [(2, 234), (0, x1), (0, x2), (0, x3), (0, x4), (0, x6), (0, (x6 + 1)), (1, (M 264 (zce x1 x6))), (9, 0)]) dX12_rarest_102 rfl rfl q8 rfl ?_
          refine z_goto (tgt := 46) dX12_rarest_105 rfl ?_
          refine z_sub (ls' := [(2, 234), (0, x1), (0, x2), (0, x3), (0, x4), (0, x6), (0, (x6 + 1)), (9, 0), (9, 0)]) ⟨Or.inl rfl, Or.inl rfl, Or.inl rfl, Or.inl rfl, Or.inl rfl, Or.inl rfl, Or.inl rfl, Or.inr rfl, Or.inl rfl, trivial⟩ ?_
          exact h
set_option maxRecDepth 20000 in
set_option maxHeartbeats 4000000 in
theorem bX12_rarest_25 {G : zG} {d : Nat} {M : zM} {Q : zV → zM → Prop} (hG : zP G) {x1 x2 x3 x4 x49 : Int}
    (h : ((¬ x49 = 0 → Y G d mX12_findKinds 0 [(2, 234), (0, x1), (0, x2), (9, 0), (9, 0)] [] M (fun r M' => Y G (d + 1) mX12_rarest 38 [(2, 234), (0, x1), (0, x2), (0, x3), (0, x4), (9, 0), (9, 0), (9, 0), (9, 0)] (zpush r []) M' Q)) ∧ (x49 = 0 → Q (0, (-1000)) M))) :
    Y G (d + 1) mX12_rarest 25 [(2, 234), (0, x1), (0, x2), (0, x3), (0, x4), (9, 0), (9, 0), (9, 0), (9, 0)] [(0, x49)] M Q := by
  refine z_ifne (tgt := 32) dX12_rarest_25 rfl (fun q => ?_) (fun q => ?_)
  · replace h := h.1 q
    refine z_aloadn dX12_rarest_32 rfl (Or.inl rfl) ?_
    refine z_iloadn dX12_rarest_33 rfl ?_
    refine z_iloadn dX12_rarest_34 rfl ?_
    refine y_cv (mt2 := mX12_findKinds) (en := [(2, 234), (0, x1), (0, x2), (9, 0), (9, 0)]) (st := []) (as := [(0, x1), (0, x2)]) dX12_rarest_35 lX12_554 kX12_findKinds iX12_findKinds eX12_findKinds rfl sh234 (by decide +kernel) (Nat.le_of_ble_eq_true rfl) (Nat.le_of_ble_eq_true rfl) rfl ?_
    exact h
  · replace h := h.2 q
    refine z_sipush dX12_rarest_28 ks_m1000 ?_
    exact z_ireturn dX12_rarest_31 (Or.inl rfl) rfl h
set_option maxRecDepth 20000 in
set_option maxHeartbeats 4000000 in
theorem bX12_rarest_38 {G : zG} {d : Nat} {M : zM} {Q : zV → zM → Prop} (hG : zP G) {x1 x2 x3 x4 : Int}
    (h : Y G (d + 1) mX12_rarest 46 [(2, 234), (0, x1), (0, x2), (0, x3), (0, x4), (0, (-1000)), (0, x3), (9, 0), (9, 0)] [] M Q) :
    Y G (d + 1) mX12_rarest 38 [(2, 234), (0, x1), (0, x2), (0, x3), (0, x4), (9, 0), (9, 0), (9, 0), (9, 0)] [] M Q := by
  refine z_sipush dX12_rarest_38 ks_m1000 ?_
  refine y_istore (ls' := [(2, 234), (0, x1), (0, x2), (0, x3), (0, x4), (0, (-1000)), (9, 0), (9, 0), (9, 0)]) dX12_rarest_41 rfl rfl ?_
  refine z_iloadn dX12_rarest_43 rfl ?_
  refine y_istore (ls' := [(2, 234), (0, x1), (0, x2), (0, x3), (0, x4), (0, (-1000)), (0, x3), (9, 0), (9, 0)]) dX12_rarest_44 rfl rfl ?_
  exact h
set_option maxRecDepth 20000 in
set_option maxHeartbeats 4000000 in
theorem bX12_fair_0 {G : zG} {d : Nat} {M : zM} {Q : zV → zM → Prop} (hG : zP G) {x1 x2 x3 : Int}
    (h : (-1000 ≤ (M 235 2) ∧ (M 235 2) ≤ 1000) ∧ ((0 ≤ x1 ∧ x1 < (M 235 2) → Y G (d + 1) mX12_areValues 0 [(0, x2), (0, x3)] [] M (fun r M' => Y G (d + 2) mX12_fair 13 [(2, 234), (0, x1), (0, x2), (0, x3), (9, 0), (9, 0), (9, 0), (9, 0), (9, 0)] (zpush r []) M' Q)) ∧ (¬ (0 ≤ x1 ∧ x1 < (M 235 2)) → Q (0, (-1000)) M))) :
    Y G (d + 2) mX12_fair 0 [(2, 234), (0, x1), (0, x2), (0, x3), (9, 0), (9, 0), (9, 0), (9, 0), (9, 0)] [] M Q := by
  refine z_aloadn dX12_fair_0 rfl (Or.inl rfl) ?_
  refine z_iloadn dX12_fair_1 rfl ?_
  obtain ⟨q1, h⟩ := h
  refine y_cv (mt2 := mX12_isPupil) (en := [(2, 234), (0, x1)]) (st := []) (as := [(0, x1)]) dX12_fair_2 lX12_480 kX12_isPupil iX12_isPupil eX12_isPupil rfl sh234 (by decide +kernel) (Nat.le_of_ble_eq_true rfl) (Nat.le_of_ble_eq_true rfl) rfl (s_misPupil hG rfl q1 (fun q => ?_) (fun q => ?_))
  · replace h := h.1 q
    show Y G (d + 2) mX12_fair 5 [(2, 234), (0, x1), (0, x2), (0, x3), (9, 0), (9, 0), (9, 0), (9, 0), (9, 0)] [(0, 1)] M Q
    refine z_ifeq (tgt := 16) dX12_fair_5 rfl (fun q => absurd q (by decide)) (fun _ => ?_)
    refine z_iloadn dX12_fair_8 rfl ?_
    refine z_iloadn dX12_fair_9 rfl ?_
    refine y_cs (mt2 := mX12_areValues) (en := [(0, x2), (0, x3)]) (st := []) (as := [(0, x2), (0, x3)]) dX12_fair_10 lX12_572 kX12_areValues tX12_areValues rfl (Nat.le_of_ble_eq_true rfl) (Nat.le_of_ble_eq_true rfl) rfl ?_
    exact h
  · replace h := h.2 q
    show Y G (d + 2) mX12_fair 5 [(2, 234), (0, x1), (0, x2), (0, x3), (9, 0), (9, 0), (9, 0), (9, 0), (9, 0)] [(0, 0)] M Q
    refine z_ifeq (tgt := 16) dX12_fair_5 rfl (fun _ => ?_) (fun q => absurd q (by decide))
    refine z_sipush dX12_fair_16 ks_m1000 ?_
    exact z_ireturn dX12_fair_19 (Or.inl rfl) rfl h
set_option maxRecDepth 20000 in
set_option maxHeartbeats 4000000 in
theorem bX12_fair_58 {G : zG} {d : Nat} {M : zM} {Q : zV → zM → Prop} (hG : zP G) {x1 x2 x3 x4 x5 x6 x7 : Int}
    (h : ((x3 < x7 → Q (0, x5) M) ∧ (x7 ≤ x3 → Y G (d + 1) mX12_fewestOf 0 [(2, 234), (0, x7), (0, 5), (9, 0)] [] M (fun r M' => Y G (d + 2) mX12_fair 71 [(2, 234), (0, x1), (0, x2), (0, x3), (0, x4), (0, x5), (0, x6), (0, x7), (9, 0)] (zpush r []) M' Q)))) :
    Y G (d + 2) mX12_fair 58 [(2, 234), (0, x1), (0, x2), (0, x3), (0, x4), (0, x5), (0, x6), (0, x7), (9, 0)] [] M Q := by
  refine z_iload dX12_fair_58 rfl ?_
  refine z_iloadn dX12_fair_60 rfl ?_
  refine z_icmpgt (tgt := 108) dX12_fair_61 rfl (fun q => ?_) (fun q => ?_)
  · replace h := h.1 q
    refine z_iload dX12_fair_108 rfl ?_
    exact z_ireturn dX12_fair_110 (Or.inl rfl) rfl h
  · replace h := h.2 q
    refine z_aloadn dX12_fair_64 rfl (Or.inl rfl) ?_
    refine z_iload dX12_fair_65 rfl ?_
    refine z_iconst dX12_fair_67 ki_5 ?_
    refine y_cv (mt2 := mX12_fewestOf) (en := [(2, 234), (0, x7), (0, 5), (9, 0)]) (st := []) (as := [(0, x7), (0, 5)]) dX12_fair_68 lX12_557 kX12_fewestOf iX12_fewestOf eX12_fewestOf rfl sh234 (by decide +kernel) (Nat.le_of_ble_eq_true rfl) (Nat.le_of_ble_eq_true rfl) rfl ?_
    exact h
set_option maxRecDepth 20000 in
set_option maxHeartbeats 4000000 in
theorem bX12_fair_13 {G : zG} {d : Nat} {M : zM} {Q : zV → zM → Prop} (hG : zP G) {x1 x2 x3 x49 : Int}
    (h : ((¬ x49 = 0 → ((0 ≤ x1 ∧ x1 < 6) ∧ (0 : Int) ≤ 2 ∧ 2 < (5 : Int)) ∧ (((M 235 (74 + 5 * x1 + 2)) ≤ 9 → Y G (d + 1) mX12_findKinds 0 [(2, 234), (0, 5), (0, (M 235 (74 + 5 * x1 + 2))), (9, 0), (9, 0)] [] M (fun r M' => Y G (d + 2) mX12_fair 47 [(2, 234), (0, x1), (0, x2), (0, x3), (0, (M 235 (74 + 5 * x1 + 2))), (9, 0), (9, 0), (9, 0), (9, 0)] (zpush r []) M' Q)) ∧ (9 < (M 235 (74 + 5 * x1 + 2)) → Y G (d + 1) mX12_findKinds 0 [(2, 234), (0, 5), (0, 9), (9, 0), (9, 0)] [] M (fun r M' => Y G (d + 2) mX12_fair 47 [(2, 234), (0, x1), (0, x2), (0, x3), (0, (M 235 (74 + 5 * x1 + 2))), (9, 0), (9, 0), (9, 0), (9, 0)] (zpush r []) M' Q)))) ∧ (x49 = 0 → Q (0, (-1000)) M))) :
    Y G (d + 2) mX12_fair 13 [(2, 234), (0, x1), (0, x2), (0, x3), (9, 0), (9, 0), (9, 0), (9, 0), (9, 0)] [(0, x49)] M Q := by
  refine z_ifne (tgt := 20) dX12_fair_13 rfl (fun q => ?_) (fun q => ?_)
  · replace h := h.1 q
    refine z_aloadn dX12_fair_20 rfl (Or.inl rfl) ?_
    refine z_iloadn dX12_fair_21 rfl ?_
    refine z_iconst dX12_fair_22 ki_2 ?_
    obtain ⟨q1, h⟩ := h
    refine y_cv (mt2 := mX12_pupilOf) (en := [(2, 234), (0, x1), (0, 2)]) (st := []) (as := [(0, x1), (0, 2)]) dX12_fair_23 lX12_483 kX12_pupilOf iX12_pupilOf eX12_pupilOf rfl sh234 (by decide +kernel) (Nat.le_of_ble_eq_true rfl) (Nat.le_of_ble_eq_true rfl) rfl (s_pupilOf hG rfl q1 ?_)
    show Y G (d + 2) mX12_fair 26 [(2, 234), (0, x1), (0, x2), (0, x3), (9, 0), (9, 0), (9, 0), (9, 0), (9, 0)] [(0, (M 235 (74 + 5 * x1 + 2)))] M Q
    refine y_istore (ls' := [(2, 234), (0, x1), (0, x2), (0, x3), (0, (M 235 (74 + 5 * x1 + 2))), (9, 0), (9, 0), (9, 0), (9, 0)]) dX12_fair_26 rfl rfl ?_
    refine z_aloadn dX12_fair_28 rfl (Or.inl rfl) ?_
    refine z_iconst dX12_fair_29 ki_5 ?_
    refine z_iload dX12_fair_30 rfl ?_
    refine z_bipush dX12_fair_32 kb_9 ?_
    refine z_icmple (tgt := 42) dX12_fair_34 rfl (fun q => ?_) (fun q => ?_)
    · replace h := h.1 q
      refine z_iload dX12_fair_42 rfl ?_
      refine y_cv (mt2 := mX12_findKinds) (en := [(2, 234), (0, 5), (0, (M 235 (74 + 5 * x1 + 2))), (9, 0), (9, 0)]) (st := []) (as := [(0, 5), (0, (M 235 (74 + 5 * x1 + 2)))]) dX12_fair_44 lX12_554 kX12_findKinds iX12_findKinds eX12_findKinds rfl sh234 (by decide +kernel) (Nat.le_of_ble_eq_true rfl) (Nat.le_of_ble_eq_true rfl) rfl ?_
      exact h
    · replace h := h.2 q
      refine z_bipush dX12_fair_37 kb_9 ?_
      refine z_goto (tgt := 44) dX12_fair_39 rfl ?_
      refine y_cv (mt2 := mX12_findKinds) (en := [(2, 234), (0, 5), (0, 9), (9, 0), (9, 0)]) (st := []) (as := [(0, 5), (0, 9)]) dX12_fair_44 lX12_554 kX12_findKinds iX12_findKinds eX12_findKinds rfl sh234 (by decide +kernel) (Nat.le_of_ble_eq_true rfl) (Nat.le_of_ble_eq_true rfl) rfl ?_
      exact h
  · replace h := h.2 q
    refine z_sipush dX12_fair_16 ks_m1000 ?_
    exact z_ireturn dX12_fair_19 (Or.inl rfl) rfl h
set_option maxRecDepth 20000 in
set_option maxHeartbeats 4000000 in
theorem bX12_fair_71 {G : zG} {d : Nat} {M : zM} {Q : zV → zM → Prop} (hG : zP G) {x1 x2 x3 x4 x5 x6 x7 x49 : Int}
    (h : ((x49 ≤ x6 → (-2147483648 ≤ x7 + 1 ∧ x7 + 1 ≤ 2147483647) ∧ Y G (d + 2) mX12_fair 58 [(2, 234), (0, x1), (0, x2), (0, x3), (0, x4), (0, x5), (0, x6), (0, (x7 + 1)), (9, 0)] [] M Q) ∧ (x6 < x49 → ((0 ≤ x1 ∧ x1 < 6) ∧ (0 : Int) ≤ 4 ∧ 4 < (5 : Int)) ∧ ((x49 ≤ (M 235 (74 + 5 * x1 + 4)) → (-2147483648 ≤ x7 + 1 ∧ x7 + 1 ≤ 2147483647) ∧ Y G (d + 2) mX12_fair 58 [(2, 234), (0, x1), (0, x2), (0, x3), (0, x4), (0, x7), (0, x49), (0, (x7 + 1)), (9, 0)] [] M Q) ∧ ((M 235 (74 + 5 * x1 + 4)) < x49 → (-2147483648 ≤ x7 + 1 ∧ x7 + 1 ≤ 2147483647) ∧ Y G (d + 2) mX12_fair 58 [(2, 234), (0, x1), (0, x2), (0, x3), (0, x4), (0, x5), (0, x6), (0, (x7 + 1)), (9, 0)] [] M Q))))) :
    Y G (d + 2) mX12_fair 71 [(2, 234), (0, x1), (0, x2), (0, x3), (0, x4), (0, x5), (0, x6), (0, x7), (9, 0)] [(0, x49)] M Q := by
  refine y_istore (ls' := [(2, 234), (0, x1), (0, x2), (0, x3), (0, x4), (0, x5), (0, x6), (0, x7), (0, x49)]) dX12_fair_71 rfl rfl ?_
  refine z_iload dX12_fair_73 rfl ?_
  refine z_iload dX12_fair_75 rfl ?_
  refine z_icmple (tgt := 102) dX12_fair_77 rfl (fun q => ?_) (fun q => ?_)
  · replace h := h.1 q
    obtain ⟨q1, h⟩ := h
    refine y_iinc (ls' := [(2, 234), (0, x1), (0, x2), (0, x3), (0, x4), (0, x5), (0, x6), (0, (x7 + 1)), (0, x49)]) dX12_fair_102 rfl rfl q1 rfl ?_
    refine z_goto (tgt := 58) dX12_fair_105 rfl ?_
    refine z_sub (ls' := [(2, 234), (0, x1), (0, x2), (0, x3), (0, x4), (0, x5), (0, x6), (0, (x7 + 1)), (9, 0)]) ⟨Or.inl rfl, Or.inl rfl, Or.inl rfl, Or.inl rfl, Or.inl rfl, Or.inl rfl, Or.inl rfl, Or.inl rfl, Or.inr rfl, trivial⟩ ?_
    exact h
  · replace h := h.2 q
    refine z_iload dX12_fair_80 rfl ?_
    refine z_aloadn dX12_fair_82 rfl (Or.inl rfl) ?_
    refine z_iloadn dX12_fair_83 rfl ?_
    refine z_iconst dX12_fair_84 ki_4 ?_
    obtain ⟨q2, h⟩ := h
    refine y_cv (mt2 := mX12_pupilOf) (en := [(2, 234), (0, x1), (0, 4)]) (st := [(0, x49)]) (as := [(0, x1), (0, 4)]) dX12_fair_85 lX12_483 kX12_pupilOf iX12_pupilOf eX12_pupilOf rfl sh234 (by decide +kernel) (Nat.le_of_ble_eq_true rfl) (Nat.le_of_ble_eq_true rfl) rfl (s_pupilOf hG rfl q2 ?_)
    show Y G (d + 2) mX12_fair 88 [(2, 234), (0, x1), (0, x2), (0, x3), (0, x4), (0, x5), (0, x6), (0, x7), (0, x49)] [(0, (M 235 (74 + 5 * x1 + 4))), (0, x49)] M Q
    refine z_icmple (tgt := 94) dX12_fair_88 rfl (fun q => ?_) (fun q => ?_)
    · replace h := h.1 q
      refine z_iload dX12_fair_94 rfl ?_
      refine y_istore (ls' := [(2, 234), (0, x1), (0, x2), (0, x3), (0, x4), (0, x7), (0, x6), (0, x7), (0, x49)]) dX12_fair_96 rfl rfl ?_
      refine z_iload dX12_fair_98 rfl ?_
      refine y_istore (ls' := [(2, 234), (0, x1), (0, x2), (0, x3), (0, x4), (0, x7), (0, x49), (0, x7), (0, x49)]) dX12_fair_100 rfl rfl ?_
      obtain ⟨q3, h⟩ := h
      refine y_iinc (ls' := [(2, 234), (0, x1), (0, x2), (0, x3), (0, x4), (0, x7), (0, x49), (0, (x7 + 1)), (0, x49)]) dX12_fair_102 rfl rfl q3 rfl ?_
      refine z_goto (tgt := 58) dX12_fair_105 rfl ?_
      refine z_sub (ls' := [(2, 234), (0, x1), (0, x2), (0, x3), (0, x4), (0, x7), (0, x49), (0, (x7 + 1)), (9, 0)]) ⟨Or.inl rfl, Or.inl rfl, Or.inl rfl, Or.inl rfl, Or.inl rfl, Or.inl rfl, Or.inl rfl, Or.inl rfl, Or.inr rfl, trivial⟩ ?_
      exact h
    · replace h := h.2 q
      refine z_goto (tgt := 102) dX12_fair_91 rfl ?_
      obtain ⟨q4, h⟩ := h
      refine y_iinc (ls' := [(2, 234), (0, x1), (0, x2), (0, x3), (0, x4), (0, x5), (0, x6), (0, (x7 + 1)), (0, x49)]) dX12_fair_102 rfl rfl q4 rfl ?_
      refine z_goto (tgt := 58) dX12_fair_105 rfl ?_
      refine z_sub (ls' := [(2, 234), (0, x1), (0, x2), (0, x3), (0, x4), (0, x5), (0, x6), (0, (x7 + 1)), (9, 0)]) ⟨Or.inl rfl, Or.inl rfl, Or.inl rfl, Or.inl rfl, Or.inl rfl, Or.inl rfl, Or.inl rfl, Or.inl rfl, Or.inr rfl, trivial⟩ ?_
      exact h
set_option maxRecDepth 20000 in
set_option maxHeartbeats 4000000 in
theorem bX12_fair_47 {G : zG} {d : Nat} {M : zM} {Q : zV → zM → Prop} (hG : zP G) {x1 x2 x3 x4 : Int}
    (h : Y G (d + 2) mX12_fair 58 [(2, 234), (0, x1), (0, x2), (0, x3), (0, x4), (0, (-1000)), (0, 0), (0, x2), (9, 0)] [] M Q) :
    Y G (d + 2) mX12_fair 47 [(2, 234), (0, x1), (0, x2), (0, x3), (0, x4), (9, 0), (9, 0), (9, 0), (9, 0)] [] M Q := by
  refine z_sipush dX12_fair_47 ks_m1000 ?_
  refine y_istore (ls' := [(2, 234), (0, x1), (0, x2), (0, x3), (0, x4), (0, (-1000)), (9, 0), (9, 0), (9, 0)]) dX12_fair_50 rfl rfl ?_
  refine z_iconst dX12_fair_52 ki_0 ?_
  refine y_istore (ls' := [(2, 234), (0, x1), (0, x2), (0, x3), (0, x4), (0, (-1000)), (0, 0), (9, 0), (9, 0)]) dX12_fair_53 rfl rfl ?_
  refine z_iloadn dX12_fair_55 rfl ?_
  refine y_istore (ls' := [(2, 234), (0, x1), (0, x2), (0, x3), (0, x4), (0, (-1000)), (0, 0), (0, x2), (9, 0)]) dX12_fair_56 rfl rfl ?_
  exact h
set_option maxRecDepth 20000 in
set_option maxHeartbeats 4000000 in
theorem bX12_unasked_0 {G : zG} {d : Nat} {M : zM} {Q : zV → zM → Prop} (hG : zP G) {x1 x2 : Int}
    (h : ((1 ≤ x1 ∧ x1 ≤ 5 → ((0 ≤ x2 ∧ x2 ≤ 9 → Y G d mX12_findKinds 0 [(2, 234), (0, x1), (0, x2), (9, 0), (9, 0)] [] M (fun r M' => Y G (d + 1) mX12_unasked 27 [(2, 234), (0, x1), (0, x2), (9, 0)] (zpush r []) M' Q)) ∧ (¬ (0 ≤ x2 ∧ x2 ≤ 9) → Q (0, (-1)) M))) ∧ (¬ (1 ≤ x1 ∧ x1 ≤ 5) → Q (0, (-1)) M))) :
    Y G (d + 1) mX12_unasked 0 [(2, 234), (0, x1), (0, x2), (9, 0)] [] M Q := by
  refine z_iloadn dX12_unasked_0 rfl ?_
  refine z_iconst dX12_unasked_1 ki_1 ?_
  refine z_iconst dX12_unasked_2 ki_5 ?_
  refine y_cs (mt2 := mX12_isIn) (en := [(0, x1), (0, 1), (0, 5)]) (st := []) (as := [(0, x1), (0, 1), (0, 5)]) dX12_unasked_3 lX12_126 kX12_isIn tX12_isIn rfl (Nat.le_of_ble_eq_true rfl) (Nat.le_of_ble_eq_true rfl) rfl (s_isIn hG (fun q => ?_) (fun q => ?_))
  · replace h := h.1 q
    show Y G (d + 1) mX12_unasked 6 [(2, 234), (0, x1), (0, x2), (9, 0)] [(0, 1)] M Q
    refine z_ifeq (tgt := 19) dX12_unasked_6 rfl (fun q => absurd q (by decide)) (fun _ => ?_)
    refine z_iloadn dX12_unasked_9 rfl ?_
    refine z_iconst dX12_unasked_10 ki_0 ?_
    refine z_bipush dX12_unasked_11 kb_9 ?_
    refine y_cs (mt2 := mX12_isIn) (en := [(0, x2), (0, 0), (0, 9)]) (st := []) (as := [(0, x2), (0, 0), (0, 9)]) dX12_unasked_13 lX12_126 kX12_isIn tX12_isIn rfl (Nat.le_of_ble_eq_true rfl) (Nat.le_of_ble_eq_true rfl) rfl (s_isIn hG (fun q => ?_) (fun q => ?_))
    · replace h := h.1 q
      show Y G (d + 1) mX12_unasked 16 [(2, 234), (0, x1), (0, x2), (9, 0)] [(0, 1)] M Q
      refine z_ifne (tgt := 21) dX12_unasked_16 rfl (fun _ => ?_) (fun q => absurd q (by decide))
      refine z_aloadn dX12_unasked_21 rfl (Or.inl rfl) ?_
      refine z_iloadn dX12_unasked_22 rfl ?_
      refine z_iloadn dX12_unasked_23 rfl ?_
      refine y_cv (mt2 := mX12_findKinds) (en := [(2, 234), (0, x1), (0, x2), (9, 0), (9, 0)]) (st := []) (as := [(0, x1), (0, x2)]) dX12_unasked_24 lX12_554 kX12_findKinds iX12_findKinds eX12_findKinds rfl sh234 (by decide +kernel) (Nat.le_of_ble_eq_true rfl) (Nat.le_of_ble_eq_true rfl) rfl ?_
      exact h
    · replace h := h.2 q
      show Y G (d + 1) mX12_unasked 16 [(2, 234), (0, x1), (0, x2), (9, 0)] [(0, 0)] M Q
      refine z_ifne (tgt := 21) dX12_unasked_16 rfl (fun q => absurd q (by decide)) (fun _ => ?_)
      refine z_iconst dX12_unasked_19 ki_m1 ?_
      exact z_ireturn dX12_unasked_20 (Or.inl rfl) rfl h
  · replace h := h.2 q
    show Y G (d + 1) mX12_unasked 6 [(2, 234), (0, x1), (0, x2), (9, 0)] [(0, 0)] M Q
    refine z_ifeq (tgt := 19) dX12_unasked_6 rfl (fun _ => ?_) (fun q => absurd q (by decide))
    refine z_iconst dX12_unasked_19 ki_m1 ?_
    exact z_ireturn dX12_unasked_20 (Or.inl rfl) rfl h
set_option maxRecDepth 20000 in
set_option maxHeartbeats 4000000 in
theorem bX12_unasked_29 {G : zG} {d : Nat} {M : zM} {Q : zV → zM → Prop} (hG : zP G) {x1 x2 x3 : Int}
    (h : ((500 < x3 → Q (0, (-1)) M) ∧ (x3 ≤ 500 → Y G d mX12_fewestOf 0 [(2, 234), (0, x3), (0, x1), (9, 0)] [] M (fun r M' => Y G (d + 1) mX12_unasked 42 [(2, 234), (0, x1), (0, x2), (0, x3)] (zpush r []) M' Q)))) :
    Y G (d + 1) mX12_unasked 29 [(2, 234), (0, x1), (0, x2), (0, x3)] [] M Q := by
  refine z_iloadn dX12_unasked_29 rfl ?_
  refine z_sipush dX12_unasked_30 ks_500 ?_
  refine z_icmpgt (tgt := 53) dX12_unasked_33 rfl (fun q => ?_) (fun q => ?_)
  · replace h := h.1 q
    refine z_iconst dX12_unasked_53 ki_m1 ?_
    exact z_ireturn dX12_unasked_54 (Or.inl rfl) rfl h
  · replace h := h.2 q
    refine z_aloadn dX12_unasked_36 rfl (Or.inl rfl) ?_
    refine z_iloadn dX12_unasked_37 rfl ?_
    refine z_iloadn dX12_unasked_38 rfl ?_
    refine y_cv (mt2 := mX12_fewestOf) (en := [(2, 234), (0, x3), (0, x1), (9, 0)]) (st := []) (as := [(0, x3), (0, x1)]) dX12_unasked_39 lX12_557 kX12_fewestOf iX12_fewestOf eX12_fewestOf rfl sh234 (by decide +kernel) (Nat.le_of_ble_eq_true rfl) (Nat.le_of_ble_eq_true rfl) rfl ?_
    exact h
set_option maxRecDepth 20000 in
set_option maxHeartbeats 4000000 in
theorem bX12_unasked_27 {G : zG} {d : Nat} {M : zM} {Q : zV → zM → Prop} (hG : zP G) {x1 x2 : Int}
    (h : Y G (d + 1) mX12_unasked 29 [(2, 234), (0, x1), (0, x2), (0, 0)] [] M Q) :
    Y G (d + 1) mX12_unasked 27 [(2, 234), (0, x1), (0, x2), (9, 0)] [] M Q := by
  refine z_iconst dX12_unasked_27 ki_0 ?_
  refine y_istoren (ls' := [(2, 234), (0, x1), (0, x2), (0, 0)]) dX12_unasked_28 rfl rfl ?_
  exact h
set_option maxRecDepth 20000 in
set_option maxHeartbeats 4000000 in
theorem bX12_unasked_42 {G : zG} {d : Nat} {M : zM} {Q : zV → zM → Prop} (hG : zP G) {x1 x2 x3 x49 : Int}
    (h : ((0 ≤ x49 → (-2147483648 ≤ x3 + 1 ∧ x3 + 1 ≤ 2147483647) ∧ Y G (d + 1) mX12_unasked 29 [(2, 234), (0, x1), (0, x2), (0, (x3 + 1))] [] M Q) ∧ (x49 < 0 → Q (0, x3) M))) :
    Y G (d + 1) mX12_unasked 42 [(2, 234), (0, x1), (0, x2), (0, x3)] [(0, x49)] M Q := by
  refine z_ifge (tgt := 47) dX12_unasked_42 rfl (fun q => ?_) (fun q => ?_)
  · replace h := h.1 q
    obtain ⟨q1, h⟩ := h
    refine y_iinc (ls' := [(2, 234), (0, x1), (0, x2), (0, (x3 + 1))]) dX12_unasked_47 rfl rfl q1 rfl ?_
    refine z_goto (tgt := 29) dX12_unasked_50 rfl ?_
    exact h
  · replace h := h.2 q
    refine z_iloadn dX12_unasked_45 rfl ?_
    exact z_ireturn dX12_unasked_46 (Or.inl rfl) rfl h
set_option maxRecDepth 20000 in
set_option maxHeartbeats 4000000 in
theorem bX12_person_0 {G : zG} {d : Nat} {M : zM} {Q : zV → zM → Prop} (hG : zP G) {x1 x2 x3 : Int}
    (h : ((0 ≤ x1 ∧ x1 ≤ 99 → Y G d mX12_isParent 0 [(2, 234), (0, x2)] [] M (fun r M' => Y G (d + 1) mX12_person 15 [(2, 234), (0, x1), (0, x2), (0, x3), (9, 0)] (zpush r []) M' Q)) ∧ (¬ (0 ≤ x1 ∧ x1 ≤ 99) → Q (0, (-1)) M))) :
    Y G (d + 1) mX12_person 0 [(2, 234), (0, x1), (0, x2), (0, x3), (9, 0)] [] M Q := by
  refine z_iloadn dX12_person_0 rfl ?_
  refine z_iconst dX12_person_1 ki_0 ?_
  refine z_bipush dX12_person_2 kb_99 ?_
  refine y_cs (mt2 := mX12_isIn) (en := [(0, x1), (0, 0), (0, 99)]) (st := []) (as := [(0, x1), (0, 0), (0, 99)]) dX12_person_4 lX12_126 kX12_isIn tX12_isIn rfl (Nat.le_of_ble_eq_true rfl) (Nat.le_of_ble_eq_true rfl) rfl (s_isIn hG (fun q => ?_) (fun q => ?_))
  · replace h := h.1 q
    show Y G (d + 1) mX12_person 7 [(2, 234), (0, x1), (0, x2), (0, x3), (9, 0)] [(0, 1)] M Q
    refine z_ifeq (tgt := 46) dX12_person_7 rfl (fun q => absurd q (by decide)) (fun _ => ?_)
    refine z_aloadn dX12_person_10 rfl (Or.inl rfl) ?_
    refine z_iloadn dX12_person_11 rfl ?_
    refine y_cv (mt2 := mX12_isParent) (en := [(2, 234), (0, x2)]) (st := []) (as := [(0, x2)]) dX12_person_12 lX12_134 kX12_isParent iX12_isParent eX12_isParent rfl sh234 (by decide +kernel) (Nat.le_of_ble_eq_true rfl) (Nat.le_of_ble_eq_true rfl) rfl ?_
    exact h
  · replace h := h.2 q
    show Y G (d + 1) mX12_person 7 [(2, 234), (0, x1), (0, x2), (0, x3), (9, 0)] [(0, 0)] M Q
    refine z_ifeq (tgt := 46) dX12_person_7 rfl (fun _ => ?_) (fun q => absurd q (by decide))
    refine z_iconst dX12_person_46 ki_m1 ?_
    exact z_ireturn dX12_person_47 (Or.inl rfl) rfl h
set_option maxRecDepth 20000 in
set_option maxHeartbeats 4000000 in
theorem bX12_person_15 {G : zG} {d : Nat} {M : zM} {Q : zV → zM → Prop} (hG : zP G) {x1 x2 x3 x49 : Int}
    (h : ((x49 = 0 → Q (0, (-1)) M) ∧ (¬ x49 = 0 → Y G d mX12_isParent 0 [(2, 234), (0, x3)] [] M (fun r M' => Y G (d + 1) mX12_person 23 [(2, 234), (0, x1), (0, x2), (0, x3), (9, 0)] (zpush r []) M' Q)))) :
    Y G (d + 1) mX12_person 15 [(2, 234), (0, x1), (0, x2), (0, x3), (9, 0)] [(0, x49)] M Q := by
  refine z_ifeq (tgt := 46) dX12_person_15 rfl (fun q => ?_) (fun q => ?_)
  · replace h := h.1 q
    refine z_iconst dX12_person_46 ki_m1 ?_
    exact z_ireturn dX12_person_47 (Or.inl rfl) rfl h
  · replace h := h.2 q
    refine z_aloadn dX12_person_18 rfl (Or.inl rfl) ?_
    refine z_iloadn dX12_person_19 rfl ?_
    refine y_cv (mt2 := mX12_isParent) (en := [(2, 234), (0, x3)]) (st := []) (as := [(0, x3)]) dX12_person_20 lX12_134 kX12_isParent iX12_isParent eX12_isParent rfl sh234 (by decide +kernel) (Nat.le_of_ble_eq_true rfl) (Nat.le_of_ble_eq_true rfl) rfl ?_
    exact h
set_option maxRecDepth 20000 in
set_option maxHeartbeats 4000000 in
theorem bX12_person_23 {G : zG} {d : Nat} {M : zM} {Q : zV → zM → Prop} (hG : zP G) {x1 x2 x3 x49 : Int}
    (h : ((x49 = 0 → Q (0, (-1)) M) ∧ (¬ x49 = 0 → ((x2 < 0 → ((¬ (M 235 1) = 8 → (-2147483648 ≤ 3 * (M 235 1) ∧ 3 * (M 235 1) ≤ 2147483647) ∧ (-2147483648 ≤ 14 + (3 * (M 235 1)) ∧ 14 + (3 * (M 235 1)) ≤ 2147483647) ∧ (0 ≤ (14 + (3 * (M 235 1))) ∧ (14 + (3 * (M 235 1))) < 156) ∧ (-2147483648 ≤ (14 + (3 * (M 235 1))) + 1 ∧ (14 + (3 * (M 235 1))) + 1 ≤ 2147483647) ∧ (0 ≤ ((14 + (3 * (M 235 1))) + 1) ∧ ((14 + (3 * (M 235 1))) + 1) < 156) ∧ (-2147483648 ≤ (14 + (3 * (M 235 1))) + 2 ∧ (14 + (3 * (M 235 1))) + 2 ≤ 2147483647) ∧ (0 ≤ ((14 + (3 * (M 235 1))) + 2) ∧ ((14 + (3 * (M 235 1))) + 2) < 156) ∧ (¬ 1 = ((14 + (3 * (M 235 1))) + 2)) ∧ (¬ 1 = ((14 + (3 * (M 235 1))) + 1)) ∧ (¬ 1 = (14 + (3 * (M 235 1)))) ∧ (-2147483648 ≤ (M 235 1) + 1 ∧ (M 235 1) + 1 ≤ 2147483647) ∧ (-2147483648 ≤ ((M 235 1) + 1) - 1 ∧ ((M 235 1) + 1) - 1 ≤ 2147483647) ∧ Q (0, (((M 235 1) + 1) - 1)) (zset (zset (zset (zset M 235 (14 + (3 * (M 235 1))) x1) 235 ((14 + (3 * (M 235 1))) + 1) x2) 235 ((14 + (3 * (M 235 1))) + 2) x3) 235 1 ((M 235 1) + 1))) ∧ ((M 235 1) = 8 → Q (0, (-1)) M))) ∧ (0 ≤ x2 → ((x2 = x3 → Q (0, (-1)) M) ∧ (¬ x2 = x3 → ((¬ (M 235 1) = 8 → (-2147483648 ≤ 3 * (M 235 1) ∧ 3 * (M 235 1) ≤ 2147483647) ∧ (-2147483648 ≤ 14 + (3 * (M 235 1)) ∧ 14 + (3 * (M 235 1)) ≤ 2147483647) ∧ (0 ≤ (14 + (3 * (M 235 1))) ∧ (14 + (3 * (M 235 1))) < 156) ∧ (-2147483648 ≤ (14 + (3 * (M 235 1))) + 1 ∧ (14 + (3 * (M 235 1))) + 1 ≤ 2147483647) ∧ (0 ≤ ((14 + (3 * (M 235 1))) + 1) ∧ ((14 + (3 * (M 235 1))) + 1) < 156) ∧ (-2147483648 ≤ (14 + (3 * (M 235 1))) + 2 ∧ (14 + (3 * (M 235 1))) + 2 ≤ 2147483647) ∧ (0 ≤ ((14 + (3 * (M 235 1))) + 2) ∧ ((14 + (3 * (M 235 1))) + 2) < 156) ∧ (¬ 1 = ((14 + (3 * (M 235 1))) + 2)) ∧ (¬ 1 = ((14 + (3 * (M 235 1))) + 1)) ∧ (¬ 1 = (14 + (3 * (M 235 1)))) ∧ (-2147483648 ≤ (M 235 1) + 1 ∧ (M 235 1) + 1 ≤ 2147483647) ∧ (-2147483648 ≤ ((M 235 1) + 1) - 1 ∧ ((M 235 1) + 1) - 1 ≤ 2147483647) ∧ Q (0, (((M 235 1) + 1) - 1)) (zset (zset (zset (zset M 235 (14 + (3 * (M 235 1))) x1) 235 ((14 + (3 * (M 235 1))) + 1) x2) 235 ((14 + (3 * (M 235 1))) + 2) x3) 235 1 ((M 235 1) + 1))) ∧ ((M 235 1) = 8 → Q (0, (-1)) M))))))))) :
    Y G (d + 1) mX12_person 23 [(2, 234), (0, x1), (0, x2), (0, x3), (9, 0)] [(0, x49)] M Q := by
  refine z_ifeq (tgt := 46) dX12_person_23 rfl (fun q => ?_) (fun q => ?_)
  · replace h := h.1 q
    refine z_iconst dX12_person_46 ki_m1 ?_
    exact z_ireturn dX12_person_47 (Or.inl rfl) rfl h
  · replace h := h.2 q
    refine z_iloadn dX12_person_26 rfl ?_
    refine z_iflt (tgt := 35) dX12_person_27 rfl (fun q => ?_) (fun q => ?_)
    · replace h := h.1 q
      refine z_aloadn dX12_person_35 rfl (Or.inl rfl) ?_
      refine y_getr (v := 235) hG dX12_person_36 fX12_7 sh234 (by decide) rfl (by decide +kernel) (by decide) ?_
      refine z_iconst dX12_person_39 ki_1 ?_
      refine y_iald (x := (M 235 1)) dX12_person_40 sh235 ⟨by decide, by decide⟩ rfl ?_
      refine z_bipush dX12_person_41 kb_8 ?_
      refine z_icmpne (tgt := 48) dX12_person_43 rfl (fun q => ?_) (fun q => ?_)
      · replace h := h.1 q
        refine z_bipush dX12_person_48 kb_14 ?_
        refine z_iconst dX12_person_50 ki_3 ?_
        refine z_aloadn dX12_person_51 rfl (Or.inl rfl) ?_
        refine y_getr (v := 235) hG dX12_person_52 fX12_7 sh234 (by decide) rfl (by decide +kernel) (by decide) ?_
        refine z_iconst dX12_person_55 ki_1 ?_
        refine y_iald (x := (M 235 1)) dX12_person_56 sh235 ⟨by decide, by decide⟩ rfl ?_
        obtain ⟨q1, h⟩ := h
        refine z_imul dX12_person_57 q1 ?_
        obtain ⟨q2, h⟩ := h
        refine z_iadd dX12_person_58 q2 ?_
        refine y_istore (ls' := [(2, 234), (0, x1), (0, x2), (0, x3), (0, (14 + (3 * (M 235 1))))]) dX12_person_59 rfl rfl ?_
        refine z_aloadn dX12_person_61 rfl (Or.inl rfl) ?_
        refine y_getr (v := 235) hG dX12_person_62 fX12_7 sh234 (by decide) rfl (by decide +kernel) (by decide) ?_
        refine z_iload dX12_person_65 rfl ?_
        refine z_iloadn dX12_person_67 rfl ?_
        obtain ⟨q3, h⟩ := h
        refine y_iast hG dX12_person_68 sh235 q3 ?_
        refine z_aloadn dX12_person_69 rfl (Or.inl rfl) ?_
        refine y_getr (v := 235) hG dX12_person_70 fX12_7 sh234 (by decide) rfl (by decide +kernel) (by decide) ?_
        refine z_iload dX12_person_73 rfl ?_
        refine z_iconst dX12_person_75 ki_1 ?_
        obtain ⟨q4, h⟩ := h
        refine z_iadd dX12_person_76 q4 ?_
        refine z_iloadn dX12_person_77 rfl ?_
        obtain ⟨q5, h⟩ := h
        refine y_iast hG dX12_person_78 sh235 q5 ?_
        refine z_aloadn dX12_person_79 rfl (Or.inl rfl) ?_
        refine y_getr (v := 235) hG dX12_person_80 fX12_7 sh234 (by decide) rfl (by decide +kernel) (by decide) ?_
        refine z_iload dX12_person_83 rfl ?_
        refine z_iconst dX12_person_85 ki_2 ?_
        obtain ⟨q6, h⟩ := h
        refine z_iadd dX12_person_86 q6 ?_
        refine z_iloadn dX12_person_87 rfl ?_
        obtain ⟨q7, h⟩ := h
        refine y_iast hG dX12_person_88 sh235 q7 ?_
        refine z_aloadn dX12_person_89 rfl (Or.inl rfl) ?_
        refine y_getr (v := 235) hG dX12_person_90 fX12_7 sh234 (by decide) rfl (by decide +kernel) (by decide) ?_
        refine z_iconst dX12_person_93 ki_1 ?_
        refine z_dup2 dX12_person_94 (show (0 : Nat) ≠ 1 by decide) (show (2 : Nat) ≠ 1 by decide) ?_
        obtain ⟨q8, h⟩ := h
        obtain ⟨q9, h⟩ := h
        obtain ⟨q10, h⟩ := h
        refine y_iald (x := (M 235 1)) dX12_person_95 sh235 ⟨by decide, by decide⟩ (((zset_ne (fun q => absurd q.2 q8)).trans (((zset_ne (fun q => absurd q.2 q9)).trans (zset_ne (fun q => absurd q.2 q10)))))) ?_
        refine z_iconst dX12_person_96 ki_1 ?_
        obtain ⟨q11, h⟩ := h
        refine z_iadd dX12_person_97 q11 ?_
        refine y_iast hG dX12_person_98 sh235 ⟨by decide, by decide⟩ ?_
        refine z_aloadn dX12_person_99 rfl (Or.inl rfl) ?_
        refine y_getr (v := 235) hG dX12_person_100 fX12_7 sh234 (by decide) rfl (by decide +kernel) (by decide) ?_
        refine z_iconst dX12_person_103 ki_1 ?_
        refine y_iald (x := ((M 235 1) + 1)) dX12_person_104 sh235 ⟨by decide, by decide⟩ zset_same ?_
        refine z_iconst dX12_person_105 ki_1 ?_
        obtain ⟨q12, h⟩ := h
        refine z_isub dX12_person_106 q12 ?_
        exact z_ireturn dX12_person_107 (Or.inl rfl) rfl h
      · replace h := h.2 q
        refine z_iconst dX12_person_46 ki_m1 ?_
        exact z_ireturn dX12_person_47 (Or.inl rfl) rfl h
    · replace h := h.2 q
      refine z_iloadn dX12_person_30 rfl ?_
      refine z_iloadn dX12_person_31 rfl ?_
      refine z_icmpeq (tgt := 46) dX12_person_32 rfl (fun q => ?_) (fun q => ?_)
      · replace h := h.1 q
        refine z_iconst dX12_person_46 ki_m1 ?_
        exact z_ireturn dX12_person_47 (Or.inl rfl) rfl h
      · replace h := h.2 q
        refine z_aloadn dX12_person_35 rfl (Or.inl rfl) ?_
        refine y_getr (v := 235) hG dX12_person_36 fX12_7 sh234 (by decide) rfl (by decide +kernel) (by decide) ?_
        refine z_iconst dX12_person_39 ki_1 ?_
        refine y_iald (x := (M 235 1)) dX12_person_40 sh235 ⟨by decide, by decide⟩ rfl ?_
        refine z_bipush dX12_person_41 kb_8 ?_
        refine z_icmpne (tgt := 48) dX12_person_43 rfl (fun q => ?_) (fun q => ?_)
        · replace h := h.1 q
          refine z_bipush dX12_person_48 kb_14 ?_
          refine z_iconst dX12_person_50 ki_3 ?_
          refine z_aloadn dX12_person_51 rfl (Or.inl rfl) ?_
          refine y_getr (v := 235) hG dX12_person_52 fX12_7 sh234 (by decide) rfl (by decide +kernel) (by decide) ?_
          refine z_iconst dX12_person_55 ki_1 ?_
          refine y_iald (x := (M 235 1)) dX12_person_56 sh235 ⟨by decide, by decide⟩ rfl ?_
          obtain ⟨q13, h⟩ := h
          refine z_imul dX12_person_57 q13 ?_
          obtain ⟨q14, h⟩ := h
          refine z_iadd dX12_person_58 q14 ?_
          refine y_istore (ls' := [(2, 234), (0, x1), (0, x2), (0, x3), (0, (14 + (3 * (M 235 1))))]) dX12_person_59 rfl rfl ?_
          refine z_aloadn dX12_person_61 rfl (Or.inl rfl) ?_
          refine y_getr (v := 235) hG dX12_person_62 fX12_7 sh234 (by decide) rfl (by decide +kernel) (by decide) ?_
          refine z_iload dX12_person_65 rfl ?_
          refine z_iloadn dX12_person_67 rfl ?_
          obtain ⟨q15, h⟩ := h
          refine y_iast hG dX12_person_68 sh235 q15 ?_
          refine z_aloadn dX12_person_69 rfl (Or.inl rfl) ?_
          refine y_getr (v := 235) hG dX12_person_70 fX12_7 sh234 (by decide) rfl (by decide +kernel) (by decide) ?_
          refine z_iload dX12_person_73 rfl ?_
          refine z_iconst dX12_person_75 ki_1 ?_
          obtain ⟨q16, h⟩ := h
          refine z_iadd dX12_person_76 q16 ?_
          refine z_iloadn dX12_person_77 rfl ?_
          obtain ⟨q17, h⟩ := h
          refine y_iast hG dX12_person_78 sh235 q17 ?_
          refine z_aloadn dX12_person_79 rfl (Or.inl rfl) ?_
          refine y_getr (v := 235) hG dX12_person_80 fX12_7 sh234 (by decide) rfl (by decide +kernel) (by decide) ?_
          refine z_iload dX12_person_83 rfl ?_
          refine z_iconst dX12_person_85 ki_2 ?_
          obtain ⟨q18, h⟩ := h
          refine z_iadd dX12_person_86 q18 ?_
          refine z_iloadn dX12_person_87 rfl ?_
          obtain ⟨q19, h⟩ := h
          refine y_iast hG dX12_person_88 sh235 q19 ?_
          refine z_aloadn dX12_person_89 rfl (Or.inl rfl) ?_
          refine y_getr (v := 235) hG dX12_person_90 fX12_7 sh234 (by decide) rfl (by decide +kernel) (by decide) ?_
          refine z_iconst dX12_person_93 ki_1 ?_
          refine z_dup2 dX12_person_94 (show (0 : Nat) ≠ 1 by decide) (show (2 : Nat) ≠ 1 by decide) ?_
          obtain ⟨q20, h⟩ := h
          obtain ⟨q21, h⟩ := h
          obtain ⟨q22, h⟩ := h
          refine y_iald (x := (M 235 1)) dX12_person_95 sh235 ⟨by decide, by decide⟩ (((zset_ne (fun q => absurd q.2 q20)).trans (((zset_ne (fun q => absurd q.2 q21)).trans (zset_ne (fun q => absurd q.2 q22)))))) ?_
          refine z_iconst dX12_person_96 ki_1 ?_
          obtain ⟨q23, h⟩ := h
          refine z_iadd dX12_person_97 q23 ?_
          refine y_iast hG dX12_person_98 sh235 ⟨by decide, by decide⟩ ?_
          refine z_aloadn dX12_person_99 rfl (Or.inl rfl) ?_
          refine y_getr (v := 235) hG dX12_person_100 fX12_7 sh234 (by decide) rfl (by decide +kernel) (by decide) ?_
          refine z_iconst dX12_person_103 ki_1 ?_
          refine y_iald (x := ((M 235 1) + 1)) dX12_person_104 sh235 ⟨by decide, by decide⟩ zset_same ?_
          refine z_iconst dX12_person_105 ki_1 ?_
          obtain ⟨q24, h⟩ := h
          refine z_isub dX12_person_106 q24 ?_
          exact z_ireturn dX12_person_107 (Or.inl rfl) rfl h
        · replace h := h.2 q
          refine z_iconst dX12_person_46 ki_m1 ?_
          exact z_ireturn dX12_person_47 (Or.inl rfl) rfl h
set_option maxRecDepth 20000 in
set_option maxHeartbeats 4000000 in
theorem bX12_hear_0 {G : zG} {d : Nat} {M : zM} {Q : zV → zM → Prop} (hG : zP G) {x1 x2 : Int}
    (h : ((¬ x1 = (-1) → (-1000 ≤ (M 235 2) ∧ (M 235 2) ≤ 1000) ∧ ((0 ≤ x1 ∧ x1 < (M 235 2) → (-1000 ≤ (M 235 0) ∧ (M 235 0) ≤ 1000) ∧ ((0 ≤ x2 ∧ x2 < (M 235 0) → ((¬ (M 235 7) = 8 → (-2147483648 ≤ 2 * (M 235 7) ∧ 2 * (M 235 7) ≤ 2147483647) ∧ (-2147483648 ≤ 116 + (2 * (M 235 7)) ∧ 116 + (2 * (M 235 7)) ≤ 2147483647) ∧ (0 ≤ (116 + (2 * (M 235 7))) ∧ (116 + (2 * (M 235 7))) < 156) ∧ (¬ 7 = (116 + (2 * (M 235 7)))) ∧ (-2147483648 ≤ 2 * (M 235 7) ∧ 2 * (M 235 7) ≤ 2147483647) ∧ (-2147483648 ≤ 116 + (2 * (M 235 7)) ∧ 116 + (2 * (M 235 7)) ≤ 2147483647) ∧ (-2147483648 ≤ (116 + (2 * (M 235 7))) + 1 ∧ (116 + (2 * (M 235 7))) + 1 ≤ 2147483647) ∧ (0 ≤ ((116 + (2 * (M 235 7))) + 1) ∧ ((116 + (2 * (M 235 7))) + 1) < 156) ∧ (¬ 7 = ((116 + (2 * (M 235 7))) + 1)) ∧ (¬ 7 = (116 + (2 * (M 235 7)))) ∧ (-2147483648 ≤ (M 235 7) + 1 ∧ (M 235 7) + 1 ≤ 2147483647) ∧ Q (0, ((M 235 7) + 1)) (zset (zset (zset M 235 (116 + (2 * (M 235 7))) x1) 235 ((116 + (2 * (M 235 7))) + 1) x2) 235 7 ((M 235 7) + 1))) ∧ ((M 235 7) = 8 → Q (0, (-2)) M))) ∧ (¬ (0 ≤ x2 ∧ x2 < (M 235 0)) → Q (0, (-2)) M))) ∧ (¬ (0 ≤ x1 ∧ x1 < (M 235 2)) → Q (0, (-2)) M))) ∧ (x1 = (-1) → Q (0, 0) (zset M 235 7 0)))) :
    Y G (d + 2) mX12_hear 0 [(2, 234), (0, x1), (0, x2)] [] M Q := by
  refine z_iloadn dX12_hear_0 rfl ?_
  refine z_iconst dX12_hear_1 ki_m1 ?_
  refine z_icmpne (tgt := 15) dX12_hear_2 rfl (fun q => ?_) (fun q => ?_)
  · replace h := h.1 q
    refine z_aloadn dX12_hear_15 rfl (Or.inl rfl) ?_
    refine z_iloadn dX12_hear_16 rfl ?_
    obtain ⟨q1, h⟩ := h
    refine y_cv (mt2 := mX12_isPupil) (en := [(2, 234), (0, x1)]) (st := []) (as := [(0, x1)]) dX12_hear_17 lX12_480 kX12_isPupil iX12_isPupil eX12_isPupil rfl sh234 (by decide +kernel) (Nat.le_of_ble_eq_true rfl) (Nat.le_of_ble_eq_true rfl) rfl (s_misPupil hG rfl q1 (fun q => ?_) (fun q => ?_))
    · replace h := h.1 q
      show Y G (d + 2) mX12_hear 20 [(2, 234), (0, x1), (0, x2)] [(0, 1)] M Q
      refine z_ifeq (tgt := 43) dX12_hear_20 rfl (fun q => absurd q (by decide)) (fun _ => ?_)
      refine z_aloadn dX12_hear_23 rfl (Or.inl rfl) ?_
      refine z_iloadn dX12_hear_24 rfl ?_
      obtain ⟨q2, h⟩ := h
      refine y_cv (mt2 := mX12_isQuestion) (en := [(2, 234), (0, x2)]) (st := []) (as := [(0, x2)]) dX12_hear_25 lX12_392 kX12_isQuestion iX12_isQuestion eX12_isQuestion rfl sh234 (by decide +kernel) (Nat.le_of_ble_eq_true rfl) (Nat.le_of_ble_eq_true rfl) rfl (s_misQuestion hG rfl q2 (fun q => ?_) (fun q => ?_))
      · replace h := h.1 q
        show Y G (d + 2) mX12_hear 28 [(2, 234), (0, x1), (0, x2)] [(0, 1)] M Q
        refine z_ifeq (tgt := 43) dX12_hear_28 rfl (fun q => absurd q (by decide)) (fun _ => ?_)
        refine z_aloadn dX12_hear_31 rfl (Or.inl rfl) ?_
        refine y_getr (v := 235) hG dX12_hear_32 fX12_7 sh234 (by decide) rfl (by decide +kernel) (by decide) ?_
        refine z_bipush dX12_hear_35 kb_7 ?_
        refine y_iald (x := (M 235 7)) dX12_hear_37 sh235 ⟨by decide, by decide⟩ rfl ?_
        refine z_bipush dX12_hear_38 kb_8 ?_
        refine z_icmpne (tgt := 46) dX12_hear_40 rfl (fun q => ?_) (fun q => ?_)
        · replace h := h.1 q
          refine z_aloadn dX12_hear_46 rfl (Or.inl rfl) ?_
          refine y_getr (v := 235) hG dX12_hear_47 fX12_7 sh234 (by decide) rfl (by decide +kernel) (by decide) ?_
          refine z_bipush dX12_hear_50 kb_116 ?_
          refine z_iconst dX12_hear_52 ki_2 ?_
          refine z_aloadn dX12_hear_53 rfl (Or.inl rfl) ?_
          refine y_getr (v := 235) hG dX12_hear_54 fX12_7 sh234 (by decide) rfl (by decide +kernel) (by decide) ?_
          refine z_bipush dX12_hear_57 kb_7 ?_
          refine y_iald (x := (M 235 7)) dX12_hear_59 sh235 ⟨by decide, by decide⟩ rfl ?_
          obtain ⟨q3, h⟩ := h
          refine z_imul dX12_hear_60 q3 ?_
          obtain ⟨q4, h⟩ := h
          refine z_iadd dX12_hear_61 q4 ?_
          refine z_iloadn dX12_hear_62 rfl ?_
          obtain ⟨q5, h⟩ := h
          refine y_iast hG dX12_hear_63 sh235 q5 ?_
          refine z_aloadn dX12_hear_64 rfl (Or.inl rfl) ?_
          refine y_getr (v := 235) hG dX12_hear_65 fX12_7 sh234 (by decide) rfl (by decide +kernel) (by decide) ?_
          refine z_bipush dX12_hear_68 kb_116 ?_
          refine z_iconst dX12_hear_70 ki_2 ?_
          refine z_aloadn dX12_hear_71 rfl (Or.inl rfl) ?_
          refine y_getr (v := 235) hG dX12_hear_72 fX12_7 sh234 (by decide) rfl (by decide +kernel) (by decide) ?_
          refine z_bipush dX12_hear_75 kb_7 ?_
          obtain ⟨q6, h⟩ := h
          refine y_iald (x := (M 235 7)) dX12_hear_77 sh235 ⟨by decide, by decide⟩ (zset_ne (fun q => absurd q.2 q6)) ?_
          obtain ⟨q7, h⟩ := h
          refine z_imul dX12_hear_78 q7 ?_
          obtain ⟨q8, h⟩ := h
          refine z_iadd dX12_hear_79 q8 ?_
          refine z_iconst dX12_hear_80 ki_1 ?_
          obtain ⟨q9, h⟩ := h
          refine z_iadd dX12_hear_81 q9 ?_
          refine z_iloadn dX12_hear_82 rfl ?_
          obtain ⟨q10, h⟩ := h
          refine y_iast hG dX12_hear_83 sh235 q10 ?_
          refine z_aloadn dX12_hear_84 rfl (Or.inl rfl) ?_
          refine y_getr (v := 235) hG dX12_hear_85 fX12_7 sh234 (by decide) rfl (by decide +kernel) (by decide) ?_
          refine z_bipush dX12_hear_88 kb_7 ?_
          refine z_dup2 dX12_hear_90 (show (0 : Nat) ≠ 1 by decide) (show (2 : Nat) ≠ 1 by decide) ?_
          obtain ⟨q11, h⟩ := h
          obtain ⟨q12, h⟩ := h
          refine y_iald (x := (M 235 7)) dX12_hear_91 sh235 ⟨by decide, by decide⟩ (((zset_ne (fun q => absurd q.2 q11)).trans (zset_ne (fun q => absurd q.2 q12)))) ?_
          refine z_iconst dX12_hear_92 ki_1 ?_
          obtain ⟨q13, h⟩ := h
          refine z_iadd dX12_hear_93 q13 ?_
          refine y_iast hG dX12_hear_94 sh235 ⟨by decide, by decide⟩ ?_
          refine z_aloadn dX12_hear_95 rfl (Or.inl rfl) ?_
          refine y_getr (v := 235) hG dX12_hear_96 fX12_7 sh234 (by decide) rfl (by decide +kernel) (by decide) ?_
          refine z_bipush dX12_hear_99 kb_7 ?_
          refine y_iald (x := ((M 235 7) + 1)) dX12_hear_101 sh235 ⟨by decide, by decide⟩ zset_same ?_
          exact z_ireturn dX12_hear_102 (Or.inl rfl) rfl h
        · replace h := h.2 q
          refine z_bipush dX12_hear_43 kb_m2 ?_
          exact z_ireturn dX12_hear_45 (Or.inl rfl) rfl h
      · replace h := h.2 q
        show Y G (d + 2) mX12_hear 28 [(2, 234), (0, x1), (0, x2)] [(0, 0)] M Q
        refine z_ifeq (tgt := 43) dX12_hear_28 rfl (fun _ => ?_) (fun q => absurd q (by decide))
        refine z_bipush dX12_hear_43 kb_m2 ?_
        exact z_ireturn dX12_hear_45 (Or.inl rfl) rfl h
    · replace h := h.2 q
      show Y G (d + 2) mX12_hear 20 [(2, 234), (0, x1), (0, x2)] [(0, 0)] M Q
      refine z_ifeq (tgt := 43) dX12_hear_20 rfl (fun _ => ?_) (fun q => absurd q (by decide))
      refine z_bipush dX12_hear_43 kb_m2 ?_
      exact z_ireturn dX12_hear_45 (Or.inl rfl) rfl h
  · replace h := h.2 q
    refine z_aloadn dX12_hear_5 rfl (Or.inl rfl) ?_
    refine y_getr (v := 235) hG dX12_hear_6 fX12_7 sh234 (by decide) rfl (by decide +kernel) (by decide) ?_
    refine z_bipush dX12_hear_9 kb_7 ?_
    refine z_iconst dX12_hear_11 ki_0 ?_
    refine y_iast hG dX12_hear_12 sh235 ⟨by decide, by decide⟩ ?_
    refine z_iconst dX12_hear_13 ki_0 ?_
    exact z_ireturn dX12_hear_14 (Or.inl rfl) rfl h
set_option maxRecDepth 20000 in
set_option maxHeartbeats 4000000 in
theorem bX12_isOneAnswer_0 {G : zG} {d : Nat} {M : zM} {Q : zV → zM → Prop} (hG : zP G)
    (h : Y G (d + 1) mX12_isOneAnswer 4 [(2, 234), (1, 0), (9, 0), (0, 0), (9, 0), (9, 0)] [] M Q) :
    Y G (d + 1) mX12_isOneAnswer 0 [(2, 234), (9, 0), (9, 0), (9, 0), (9, 0), (9, 0)] [] M Q := by
  refine z_lconst (k := 0) dX12_isOneAnswer_0 ⟨by decide, ⟨by decide, by decide⟩⟩ ?_
  refine y_lstoren (ls' := [(2, 234), (1, 0), (9, 0), (9, 0), (9, 0), (9, 0)]) dX12_isOneAnswer_1 rfl (Nat.le_of_ble_eq_true rfl) rfl ?_
  refine z_iconst dX12_isOneAnswer_2 ki_0 ?_
  refine y_istoren (ls' := [(2, 234), (1, 0), (9, 0), (0, 0), (9, 0), (9, 0)]) dX12_isOneAnswer_3 rfl rfl ?_
  exact h
set_option maxRecDepth 20000 in
set_option maxHeartbeats 4000000 in
theorem bX12_isOneAnswer_4 {G : zG} {d : Nat} {M : zM} {Q : zV → zM → Prop} (hG : zP G) {x1 x3 : Int}
    (h : (((M 235 7) ≤ x3 → Q (0, 1) M) ∧ (x3 < (M 235 7) → (-2147483648 ≤ 2 * x3 ∧ 2 * x3 ≤ 2147483647) ∧ (-2147483648 ≤ 116 + (2 * x3) ∧ 116 + (2 * x3) ≤ 2147483647) ∧ (-2147483648 ≤ (116 + (2 * x3)) + 1 ∧ (116 + (2 * x3)) + 1 ≤ 2147483647) ∧ (0 ≤ ((116 + (2 * x3)) + 1) ∧ ((116 + (2 * x3)) + 1) < 156) ∧ Y G d mX12_answerOf 0 [(2, 234), (0, (M 235 ((116 + (2 * x3)) + 1))), (9, 0), (9, 0), (9, 0), (9, 0), (9, 0), (9, 0), (9, 0), (9, 0)] [] M (fun r M' => Y G (d + 1) mX12_isOneAnswer 32 [(2, 234), (1, x1), (9, 0), (0, x3), (9, 0), (9, 0)] (zpush r []) M' Q)))) :
    Y G (d + 1) mX12_isOneAnswer 4 [(2, 234), (1, x1), (9, 0), (0, x3), (9, 0), (9, 0)] [] M Q := by
  refine z_iloadn dX12_isOneAnswer_4 rfl ?_
  refine z_aloadn dX12_isOneAnswer_5 rfl (Or.inl rfl) ?_
  refine y_getr (v := 235) hG dX12_isOneAnswer_6 fX12_7 sh234 (by decide) rfl (by decide +kernel) (by decide) ?_
  refine z_bipush dX12_isOneAnswer_9 kb_7 ?_
  refine y_iald (x := (M 235 7)) dX12_isOneAnswer_11 sh235 ⟨by decide, by decide⟩ rfl ?_
  refine z_icmpge (tgt := 56) dX12_isOneAnswer_12 rfl (fun q => ?_) (fun q => ?_)
  · replace h := h.1 q
    refine z_iconst dX12_isOneAnswer_56 ki_1 ?_
    exact z_ireturn dX12_isOneAnswer_57 (Or.inr ⟨rfl, ⟨by decide, by decide⟩⟩) rfl h
  · replace h := h.2 q
    refine z_aloadn dX12_isOneAnswer_15 rfl (Or.inl rfl) ?_
    refine z_aloadn dX12_isOneAnswer_16 rfl (Or.inl rfl) ?_
    refine y_getr (v := 235) hG dX12_isOneAnswer_17 fX12_7 sh234 (by decide) rfl (by decide +kernel) (by decide) ?_
    refine z_bipush dX12_isOneAnswer_20 kb_116 ?_
    refine z_iconst dX12_isOneAnswer_22 ki_2 ?_
    refine z_iloadn dX12_isOneAnswer_23 rfl ?_
    obtain ⟨q1, h⟩ := h
    refine z_imul dX12_isOneAnswer_24 q1 ?_
    obtain ⟨q2, h⟩ := h
    refine z_iadd dX12_isOneAnswer_25 q2 ?_
    refine z_iconst dX12_isOneAnswer_26 ki_1 ?_
    obtain ⟨q3, h⟩ := h
    refine z_iadd dX12_isOneAnswer_27 q3 ?_
    obtain ⟨q4, h⟩ := h
    refine y_iald (x := (M 235 ((116 + (2 * x3)) + 1))) dX12_isOneAnswer_28 sh235 q4 rfl ?_
    refine y_cv (mt2 := mX12_answerOf) (en := [(2, 234), (0, (M 235 ((116 + (2 * x3)) + 1))), (9, 0), (9, 0), (9, 0), (9, 0), (9, 0), (9, 0), (9, 0), (9, 0)]) (st := []) (as := [(0, (M 235 ((116 + (2 * x3)) + 1)))]) dX12_isOneAnswer_29 lX12_399 kX12_answerOf iX12_answerOf eX12_answerOf rfl sh234 (by decide +kernel) (Nat.le_of_ble_eq_true rfl) (Nat.le_of_ble_eq_true rfl) rfl ?_
    exact h
set_option maxRecDepth 20000 in
set_option maxHeartbeats 4000000 in
theorem bX12_isOneAnswer_32 {G : zG} {d : Nat} {M : zM} {Q : zV → zM → Prop} (hG : zP G) {x1 x3 x49 : Int}
    (h : ((x3 ≤ 0 → (-2147483648 ≤ x3 + 1 ∧ x3 + 1 ≤ 2147483647) ∧ Y G (d + 1) mX12_isOneAnswer 4 [(2, 234), (1, x49), (9, 0), (0, (x3 + 1)), (9, 0), (9, 0)] [] M Q) ∧ (0 < x3 → (((zlcmp x49 x1) = 0 → (-2147483648 ≤ x3 + 1 ∧ x3 + 1 ≤ 2147483647) ∧ Y G (d + 1) mX12_isOneAnswer 4 [(2, 234), (1, x49), (9, 0), (0, (x3 + 1)), (9, 0), (9, 0)] [] M Q) ∧ (¬ (zlcmp x49 x1) = 0 → Q (0, 0) M))))) :
    Y G (d + 1) mX12_isOneAnswer 32 [(2, 234), (1, x1), (9, 0), (0, x3), (9, 0), (9, 0)] [(1, x49)] M Q := by
  refine y_lstore (ls' := [(2, 234), (1, x1), (9, 0), (0, x3), (1, x49), (9, 0)]) dX12_isOneAnswer_32 rfl (Nat.le_of_ble_eq_true rfl) rfl ?_
  refine z_iloadn dX12_isOneAnswer_34 rfl ?_
  refine z_ifle (tgt := 47) dX12_isOneAnswer_35 rfl (fun q => ?_) (fun q => ?_)
  · replace h := h.1 q
    refine z_lload dX12_isOneAnswer_47 rfl ?_
    refine y_lstoren (ls' := [(2, 234), (1, x49), (9, 0), (0, x3), (1, x49), (9, 0)]) dX12_isOneAnswer_49 rfl (Nat.le_of_ble_eq_true rfl) rfl ?_
    obtain ⟨q1, h⟩ := h
    refine y_iinc (ls' := [(2, 234), (1, x49), (9, 0), (0, (x3 + 1)), (1, x49), (9, 0)]) dX12_isOneAnswer_50 rfl rfl q1 rfl ?_
    refine z_goto (tgt := 4) dX12_isOneAnswer_53 rfl ?_
    refine z_sub (ls' := [(2, 234), (1, x49), (9, 0), (0, (x3 + 1)), (9, 0), (9, 0)]) ⟨Or.inl rfl, Or.inl rfl, Or.inl rfl, Or.inl rfl, Or.inr rfl, Or.inl rfl, trivial⟩ ?_
    exact h
  · replace h := h.2 q
    refine z_lload dX12_isOneAnswer_38 rfl ?_
    refine z_lloadn dX12_isOneAnswer_40 rfl ?_
    refine z_lcmp dX12_isOneAnswer_41 ?_
    refine z_ifeq (tgt := 47) dX12_isOneAnswer_42 rfl (fun q => ?_) (fun q => ?_)
    · replace h := h.1 q
      refine z_lload dX12_isOneAnswer_47 rfl ?_
      refine y_lstoren (ls' := [(2, 234), (1, x49), (9, 0), (0, x3), (1, x49), (9, 0)]) dX12_isOneAnswer_49 rfl (Nat.le_of_ble_eq_true rfl) rfl ?_
      obtain ⟨q2, h⟩ := h
      refine y_iinc (ls' := [(2, 234), (1, x49), (9, 0), (0, (x3 + 1)), (1, x49), (9, 0)]) dX12_isOneAnswer_50 rfl rfl q2 rfl ?_
      refine z_goto (tgt := 4) dX12_isOneAnswer_53 rfl ?_
      refine z_sub (ls' := [(2, 234), (1, x49), (9, 0), (0, (x3 + 1)), (9, 0), (9, 0)]) ⟨Or.inl rfl, Or.inl rfl, Or.inl rfl, Or.inl rfl, Or.inr rfl, Or.inl rfl, trivial⟩ ?_
      exact h
    · replace h := h.2 q
      refine z_iconst dX12_isOneAnswer_45 ki_0 ?_
      exact z_ireturn dX12_isOneAnswer_46 (Or.inr ⟨rfl, ⟨by decide, by decide⟩⟩) rfl h
set_option maxRecDepth 20000 in
set_option maxHeartbeats 4000000 in
theorem bX12_worlds_0 {G : zG} {d : Nat} {M : zM} {Q : zV → zM → Prop} (hG : zP G) {x1 : Int}
    (h : (((-1) ≤ x1 → Y G (d + 1) mX12_worlds 11 [(2, 234), (0, x1), (0, 0), (0, 0), (9, 0)] [] M Q) ∧ (x1 < (-1) → Q (0, (-1)) M))) :
    Y G (d + 1) mX12_worlds 0 [(2, 234), (0, x1), (9, 0), (9, 0), (9, 0)] [] M Q := by
  refine z_iloadn dX12_worlds_0 rfl ?_
  refine z_iconst dX12_worlds_1 ki_m1 ?_
  refine z_icmpge (tgt := 7) dX12_worlds_2 rfl (fun q => ?_) (fun q => ?_)
  · replace h := h.1 q
    refine z_iconst dX12_worlds_7 ki_0 ?_
    refine y_istoren (ls' := [(2, 234), (0, x1), (0, 0), (9, 0), (9, 0)]) dX12_worlds_8 rfl rfl ?_
    refine z_iconst dX12_worlds_9 ki_0 ?_
    refine y_istoren (ls' := [(2, 234), (0, x1), (0, 0), (0, 0), (9, 0)]) dX12_worlds_10 rfl rfl ?_
    exact h
  · replace h := h.2 q
    refine z_iconst dX12_worlds_5 ki_m1 ?_
    exact z_ireturn dX12_worlds_6 (Or.inl rfl) rfl h
set_option maxRecDepth 20000 in
set_option maxHeartbeats 4000000 in
theorem bX12_worlds_11 {G : zG} {d : Nat} {M : zM} {Q : zV → zM → Prop} (hG : zP G) {x1 x2 x3 : Int}
    (h : (((M 235 7) ≤ x3 → Y G d mX12_firstWorld 0 [(2, 234), (9, 0)] [] M (fun r M' => Y G (d + 1) mX12_worlds 58 [(2, 234), (0, x1), (0, x2), (0, x3), (9, 0)] (zpush r []) M' Q)) ∧ (x3 < (M 235 7) → (-2147483648 ≤ 2 * x3 ∧ 2 * x3 ≤ 2147483647) ∧ (-2147483648 ≤ 116 + (2 * x3) ∧ 116 + (2 * x3) ≤ 2147483647) ∧ (-2147483648 ≤ (116 + (2 * x3)) + 1 ∧ (116 + (2 * x3)) + 1 ≤ 2147483647) ∧ (0 ≤ ((116 + (2 * x3)) + 1) ∧ ((116 + (2 * x3)) + 1) < 156) ∧ (-2147483648 ≤ 4 * (M 235 ((116 + (2 * x3)) + 1)) ∧ 4 * (M 235 ((116 + (2 * x3)) + 1)) ≤ 2147483647) ∧ (0 ≤ (4 * (M 235 ((116 + (2 * x3)) + 1))) ∧ (4 * (M 235 ((116 + (2 * x3)) + 1))) < 48) ∧ (-2147483648 ≤ x3 + 1 ∧ x3 + 1 ≤ 2147483647) ∧ Y G (d + 1) mX12_worlds 11 [(2, 234), (0, x1), (0, (zor x2 (zand (M 248 (4 * (M 235 ((116 + (2 * x3)) + 1)))) 15))), (0, (x3 + 1)), (9, 0)] [] M Q))) :
    Y G (d + 1) mX12_worlds 11 [(2, 234), (0, x1), (0, x2), (0, x3), (9, 0)] [] M Q := by
  refine z_iloadn dX12_worlds_11 rfl ?_
  refine z_aloadn dX12_worlds_12 rfl (Or.inl rfl) ?_
  refine y_getr (v := 235) hG dX12_worlds_13 fX12_7 sh234 (by decide) rfl (by decide +kernel) (by decide) ?_
  refine z_bipush dX12_worlds_16 kb_7 ?_
  refine y_iald (x := (M 235 7)) dX12_worlds_18 sh235 ⟨by decide, by decide⟩ rfl ?_
  refine z_icmpge (tgt := 54) dX12_worlds_19 rfl (fun q => ?_) (fun q => ?_)
  · replace h := h.1 q
    refine z_aloadn dX12_worlds_54 rfl (Or.inl rfl) ?_
    refine y_cv (mt2 := mX12_firstWorld) (en := [(2, 234), (9, 0)]) (st := []) (as := []) dX12_worlds_55 lX12_474 kX12_firstWorld iX12_firstWorld eX12_firstWorld rfl sh234 (by decide +kernel) (Nat.le_of_ble_eq_true rfl) (Nat.le_of_ble_eq_true rfl) rfl ?_
    exact h
  · replace h := h.2 q
    refine z_iloadn dX12_worlds_22 rfl ?_
    refine z_aloadn dX12_worlds_23 rfl (Or.inl rfl) ?_
    refine y_getr (v := 248) hG dX12_worlds_24 fX12_56 sh234 (by decide) rfl (by decide +kernel) (by decide) ?_
    refine z_iconst dX12_worlds_27 ki_4 ?_
    refine z_aloadn dX12_worlds_28 rfl (Or.inl rfl) ?_
    refine y_getr (v := 235) hG dX12_worlds_29 fX12_7 sh234 (by decide) rfl (by decide +kernel) (by decide) ?_
    refine z_bipush dX12_worlds_32 kb_116 ?_
    refine z_iconst dX12_worlds_34 ki_2 ?_
    refine z_iloadn dX12_worlds_35 rfl ?_
    obtain ⟨q1, h⟩ := h
    refine z_imul dX12_worlds_36 q1 ?_
    obtain ⟨q2, h⟩ := h
    refine z_iadd dX12_worlds_37 q2 ?_
    refine z_iconst dX12_worlds_38 ki_1 ?_
    obtain ⟨q3, h⟩ := h
    refine z_iadd dX12_worlds_39 q3 ?_
    obtain ⟨q4, h⟩ := h
    refine y_iald (x := (M 235 ((116 + (2 * x3)) + 1))) dX12_worlds_40 sh235 q4 rfl ?_
    obtain ⟨q5, h⟩ := h
    refine z_imul dX12_worlds_41 q5 ?_
    obtain ⟨q6, h⟩ := h
    refine y_iald (x := (M 248 (4 * (M 235 ((116 + (2 * x3)) + 1))))) dX12_worlds_42 sh248 q6 rfl ?_
    refine z_bipush dX12_worlds_43 kb_15 ?_
    refine z_iand dX12_worlds_45 ?_
    refine z_ior dX12_worlds_46 ?_
    refine y_istoren (ls' := [(2, 234), (0, x1), (0, (zor x2 (zand (M 248 (4 * (M 235 ((116 + (2 * x3)) + 1)))) 15))), (0, x3), (9, 0)]) dX12_worlds_47 rfl rfl ?_
    obtain ⟨q7, h⟩ := h
    refine y_iinc (ls' := [(2, 234), (0, x1), (0, (zor x2 (zand (M 248 (4 * (M 235 ((116 + (2 * x3)) + 1)))) 15))), (0, (x3 + 1)), (9, 0)]) dX12_worlds_48 rfl rfl q7 rfl ?_
    refine z_goto (tgt := 11) dX12_worlds_51 rfl ?_
    exact h
set_option maxRecDepth 20000 in
set_option maxHeartbeats 4000000 in
theorem bX12_worlds_63 {G : zG} {d : Nat} {M : zM} {Q : zV → zM → Prop} (hG : zP G) {x1 x2 x3 x4 : Int}
    (h : ((x4 = 0 → ((¬ x1 = (-1) → Q (0, (-1)) M) ∧ (x1 = (-1) → Q (0, x3) M))) ∧ (¬ x4 = 0 → Y G d mX12_isOneAnswer 0 [(2, 234), (9, 0), (9, 0), (9, 0), (9, 0), (9, 0)] [] M (fun r M' => Y G (d + 1) mX12_worlds 72 [(2, 234), (0, x1), (0, x2), (0, x3), (0, x4)] (zpush r []) M' Q)))) :
    Y G (d + 1) mX12_worlds 63 [(2, 234), (0, x1), (0, x2), (0, x3), (0, x4)] [] M Q := by
  refine z_iload dX12_worlds_63 rfl ?_
  refine z_ifeq (tgt := 131) dX12_worlds_65 rfl (fun q => ?_) (fun q => ?_)
  · replace h := h.1 q
    refine z_iloadn dX12_worlds_131 rfl ?_
    refine z_iconst dX12_worlds_132 ki_m1 ?_
    refine z_icmpne (tgt := 140) dX12_worlds_133 rfl (fun q => ?_) (fun q => ?_)
    · replace h := h.1 q
      refine z_iconst dX12_worlds_140 ki_m1 ?_
      exact z_ireturn dX12_worlds_141 (Or.inl rfl) rfl h
    · replace h := h.2 q
      refine z_iloadn dX12_worlds_136 rfl ?_
      refine z_goto (tgt := 141) dX12_worlds_137 rfl ?_
      exact z_ireturn dX12_worlds_141 (Or.inl rfl) rfl h
  · replace h := h.2 q
    refine z_aloadn dX12_worlds_68 rfl (Or.inl rfl) ?_
    refine y_cv (mt2 := mX12_isOneAnswer) (en := [(2, 234), (9, 0), (9, 0), (9, 0), (9, 0), (9, 0)]) (st := []) (as := []) dX12_worlds_69 lX12_575 kX12_isOneAnswer iX12_isOneAnswer eX12_isOneAnswer rfl sh234 (by decide +kernel) (Nat.le_of_ble_eq_true rfl) (Nat.le_of_ble_eq_true rfl) rfl ?_
    exact h
set_option maxRecDepth 20000 in
set_option maxHeartbeats 4000000 in
theorem bX12_worlds_58 {G : zG} {d : Nat} {M : zM} {Q : zV → zM → Prop} (hG : zP G) {x1 x2 x3 : Int}
    (h : Y G (d + 1) mX12_worlds 63 [(2, 234), (0, x1), (0, x2), (0, 0), (0, 1)] [] M Q) :
    Y G (d + 1) mX12_worlds 58 [(2, 234), (0, x1), (0, x2), (0, x3), (9, 0)] [] M Q := by
  refine z_iconst dX12_worlds_58 ki_0 ?_
  refine y_istoren (ls' := [(2, 234), (0, x1), (0, x2), (0, 0), (9, 0)]) dX12_worlds_59 rfl rfl ?_
  refine z_iconst dX12_worlds_60 ki_1 ?_
  refine y_istore (ls' := [(2, 234), (0, x1), (0, x2), (0, 0), (0, 1)]) dX12_worlds_61 rfl rfl ?_
  exact h
set_option maxRecDepth 20000 in
set_option maxHeartbeats 4000000 in
theorem bX12_worlds_72 {G : zG} {d : Nat} {M : zM} {Q : zV → zM → Prop} (hG : zP G) {x1 x2 x3 x4 x49 : Int}
    (h : ((x49 = 0 → Y G d mX12_nextWorld 0 [(2, 234), (0, x2), (9, 0)] [] M (fun r M' => Y G (d + 1) mX12_worlds 126 [(2, 234), (0, x1), (0, x2), (0, x3), (0, x4)] (zpush r []) M' Q)) ∧ (¬ x49 = 0 → ((¬ x3 = x1 → (-2147483648 ≤ x3 + 1 ∧ x3 + 1 ≤ 2147483647) ∧ Y G d mX12_nextWorld 0 [(2, 234), (0, x2), (9, 0)] [] M (fun r M' => Y G (d + 1) mX12_worlds 126 [(2, 234), (0, x1), (0, x2), (0, (x3 + 1)), (0, x4)] (zpush r []) M' Q)) ∧ (x3 = x1 → (-2147483648 ≤ (M 249 0) * 1000 ∧ (M 249 0) * 1000 ≤ 2147483647) ∧ (-2147483648 ≤ (M 249 1) * 100 ∧ (M 249 1) * 100 ≤ 2147483647) ∧ (-2147483648 ≤ ((M 249 0) * 1000) + ((M 249 1) * 100) ∧ ((M 249 0) * 1000) + ((M 249 1) * 100) ≤ 2147483647) ∧ (-2147483648 ≤ (M 249 2) * 10 ∧ (M 249 2) * 10 ≤ 2147483647) ∧ (-2147483648 ≤ (((M 249 0) * 1000) + ((M 249 1) * 100)) + ((M 249 2) * 10) ∧ (((M 249 0) * 1000) + ((M 249 1) * 100)) + ((M 249 2) * 10) ≤ 2147483647) ∧ (-2147483648 ≤ ((((M 249 0) * 1000) + ((M 249 1) * 100)) + ((M 249 2) * 10)) + (M 249 3) ∧ ((((M 249 0) * 1000) + ((M 249 1) * 100)) + ((M 249 2) * 10)) + (M 249 3) ≤ 2147483647) ∧ Q (0, (((((M 249 0) * 1000) + ((M 249 1) * 100)) + ((M 249 2) * 10)) + (M 249 3))) M))))) :
    Y G (d + 1) mX12_worlds 72 [(2, 234), (0, x1), (0, x2), (0, x3), (0, x4)] [(0, x49)] M Q := by
  refine z_ifeq (tgt := 121) dX12_worlds_72 rfl (fun q => ?_) (fun q => ?_)
  · replace h := h.1 q
    refine z_aloadn dX12_worlds_121 rfl (Or.inl rfl) ?_
    refine z_iloadn dX12_worlds_122 rfl ?_
    refine y_cv (mt2 := mX12_nextWorld) (en := [(2, 234), (0, x2), (9, 0)]) (st := []) (as := [(0, x2)]) dX12_worlds_123 lX12_477 kX12_nextWorld iX12_nextWorld eX12_nextWorld rfl sh234 (by decide +kernel) (Nat.le_of_ble_eq_true rfl) (Nat.le_of_ble_eq_true rfl) rfl ?_
    exact h
  · replace h := h.2 q
    refine z_iloadn dX12_worlds_75 rfl ?_
    refine z_iloadn dX12_worlds_76 rfl ?_
    refine z_icmpne (tgt := 118) dX12_worlds_77 rfl (fun q => ?_) (fun q => ?_)
    · replace h := h.1 q
      obtain ⟨q1, h⟩ := h
      refine y_iinc (ls' := [(2, 234), (0, x1), (0, x2), (0, (x3 + 1)), (0, x4)]) dX12_worlds_118 rfl rfl q1 rfl ?_
      refine z_aloadn dX12_worlds_121 rfl (Or.inl rfl) ?_
      refine z_iloadn dX12_worlds_122 rfl ?_
      refine y_cv (mt2 := mX12_nextWorld) (en := [(2, 234), (0, x2), (9, 0)]) (st := []) (as := [(0, x2)]) dX12_worlds_123 lX12_477 kX12_nextWorld iX12_nextWorld eX12_nextWorld rfl sh234 (by decide +kernel) (Nat.le_of_ble_eq_true rfl) (Nat.le_of_ble_eq_true rfl) rfl ?_
      exact h
    · replace h := h.2 q
      refine z_aloadn dX12_worlds_80 rfl (Or.inl rfl) ?_
      refine y_getr (v := 249) hG dX12_worlds_81 fX12_59 sh234 (by decide) rfl (by decide +kernel) (by decide) ?_
      refine z_iconst dX12_worlds_84 ki_0 ?_
      refine y_iald (x := (M 249 0)) dX12_worlds_85 sh249 ⟨by decide, by decide⟩ rfl ?_
      refine z_sipush dX12_worlds_86 ks_1000 ?_
      obtain ⟨q2, h⟩ := h
      refine z_imul dX12_worlds_89 q2 ?_
      refine z_aloadn dX12_worlds_90 rfl (Or.inl rfl) ?_
      refine y_getr (v := 249) hG dX12_worlds_91 fX12_59 sh234 (by decide) rfl (by decide +kernel) (by decide) ?_
      refine z_iconst dX12_worlds_94 ki_1 ?_
      refine y_iald (x := (M 249 1)) dX12_worlds_95 sh249 ⟨by decide, by decide⟩ rfl ?_
      refine z_bipush dX12_worlds_96 kb_100 ?_
      obtain ⟨q3, h⟩ := h
      refine z_imul dX12_worlds_98 q3 ?_
      obtain ⟨q4, h⟩ := h
      refine z_iadd dX12_worlds_99 q4 ?_
      refine z_aloadn dX12_worlds_100 rfl (Or.inl rfl) ?_
      refine y_getr (v := 249) hG dX12_worlds_101 fX12_59 sh234 (by decide) rfl (by decide +kernel) (by decide) ?_
      refine z_iconst dX12_worlds_104 ki_2 ?_
      refine y_iald (x := (M 249 2)) dX12_worlds_105 sh249 ⟨by decide, by decide⟩ rfl ?_
      refine z_bipush dX12_worlds_106 kb_10 ?_
      obtain ⟨q5, h⟩ := h
      refine z_imul dX12_worlds_108 q5 ?_
      obtain ⟨q6, h⟩ := h
      refine z_iadd dX12_worlds_109 q6 ?_
      refine z_aloadn dX12_worlds_110 rfl (Or.inl rfl) ?_
      refine y_getr (v := 249) hG dX12_worlds_111 fX12_59 sh234 (by decide) rfl (by decide +kernel) (by decide) ?_
      refine z_iconst dX12_worlds_114 ki_3 ?_
      refine y_iald (x := (M 249 3)) dX12_worlds_115 sh249 ⟨by decide, by decide⟩ rfl ?_
      obtain ⟨q7, h⟩ := h
      refine z_iadd dX12_worlds_116 q7 ?_
      exact z_ireturn dX12_worlds_117 (Or.inl rfl) rfl h
set_option maxRecDepth 20000 in
set_option maxHeartbeats 4000000 in
theorem bX12_worlds_126 {G : zG} {d : Nat} {M : zM} {Q : zV → zM → Prop} (hG : zP G) {x1 x2 x3 x4 x49 : Int}
    (h : Y G (d + 1) mX12_worlds 63 [(2, 234), (0, x1), (0, x2), (0, x3), (0, x49)] [] M Q) :
    Y G (d + 1) mX12_worlds 126 [(2, 234), (0, x1), (0, x2), (0, x3), (0, x4)] [(0, x49)] M Q := by
  refine y_istore (ls' := [(2, 234), (0, x1), (0, x2), (0, x3), (0, x49)]) dX12_worlds_126 rfl rfl ?_
  refine z_goto (tgt := 63) dX12_worlds_128 rfl ?_
  exact h
set_option maxRecDepth 20000 in
set_option maxHeartbeats 4000000 in
theorem bX12_knew_0 {G : zG} {d : Nat} {M : zM} {Q : zV → zM → Prop} (hG : zP G) {x1 : Int}
    (h : (-1000 ≤ (M 235 2) ∧ (M 235 2) ≤ 1000) ∧ ((0 ≤ x1 ∧ x1 < (M 235 2) → Y G (d + 2) mX12_knew 14 [(2, 234), (0, x1), (0, 0), (0, 0)] [] M Q) ∧ (¬ (0 ≤ x1 ∧ x1 < (M 235 2)) → Q (0, (-1)) M))) :
    Y G (d + 2) mX12_knew 0 [(2, 234), (0, x1), (9, 0), (9, 0)] [] M Q := by
  refine z_aloadn dX12_knew_0 rfl (Or.inl rfl) ?_
  refine z_iloadn dX12_knew_1 rfl ?_
  obtain ⟨q1, h⟩ := h
  refine y_cv (mt2 := mX12_isPupil) (en := [(2, 234), (0, x1)]) (st := []) (as := [(0, x1)]) dX12_knew_2 lX12_480 kX12_isPupil iX12_isPupil eX12_isPupil rfl sh234 (by decide +kernel) (Nat.le_of_ble_eq_true rfl) (Nat.le_of_ble_eq_true rfl) rfl (s_misPupil hG rfl q1 (fun q => ?_) (fun q => ?_))
  · replace h := h.1 q
    show Y G (d + 2) mX12_knew 5 [(2, 234), (0, x1), (9, 0), (9, 0)] [(0, 1)] M Q
    refine z_ifne (tgt := 10) dX12_knew_5 rfl (fun _ => ?_) (fun q => absurd q (by decide))
    refine z_iconst dX12_knew_10 ki_0 ?_
    refine y_istoren (ls' := [(2, 234), (0, x1), (0, 0), (9, 0)]) dX12_knew_11 rfl rfl ?_
    refine z_iconst dX12_knew_12 ki_0 ?_
    refine y_istoren (ls' := [(2, 234), (0, x1), (0, 0), (0, 0)]) dX12_knew_13 rfl rfl ?_
    exact h
  · replace h := h.2 q
    show Y G (d + 2) mX12_knew 5 [(2, 234), (0, x1), (9, 0), (9, 0)] [(0, 0)] M Q
    refine z_ifne (tgt := 10) dX12_knew_5 rfl (fun q => absurd q (by decide)) (fun _ => ?_)
    refine z_iconst dX12_knew_8 ki_m1 ?_
    exact z_ireturn dX12_knew_9 (Or.inl rfl) rfl h
set_option maxRecDepth 20000 in
set_option maxHeartbeats 4000000 in
theorem bX12_knew_14 {G : zG} {d : Nat} {M : zM} {Q : zV → zM → Prop} (hG : zP G) {x1 x2 x3 : Int}
    (h : (((M 235 7) ≤ x3 → Q (0, x2) M) ∧ (x3 < (M 235 7) → (-2147483648 ≤ 2 * x3 ∧ 2 * x3 ≤ 2147483647) ∧ (-2147483648 ≤ 116 + (2 * x3) ∧ 116 + (2 * x3) ≤ 2147483647) ∧ (0 ≤ (116 + (2 * x3)) ∧ (116 + (2 * x3)) < 156) ∧ ((¬ (M 235 (116 + (2 * x3))) = x1 → (-2147483648 ≤ x3 + 1 ∧ x3 + 1 ≤ 2147483647) ∧ Y G (d + 2) mX12_knew 14 [(2, 234), (0, x1), (0, x2), (0, (x3 + 1))] [] M Q) ∧ ((M 235 (116 + (2 * x3))) = x1 → (-2147483648 ≤ 2 * x3 ∧ 2 * x3 ≤ 2147483647) ∧ (-2147483648 ≤ 116 + (2 * x3) ∧ 116 + (2 * x3) ≤ 2147483647) ∧ (-2147483648 ≤ (116 + (2 * x3)) + 1 ∧ (116 + (2 * x3)) + 1 ≤ 2147483647) ∧ (0 ≤ ((116 + (2 * x3)) + 1) ∧ ((116 + (2 * x3)) + 1) < 156) ∧ (-2147483648 ≤ 4 * (M 235 ((116 + (2 * x3)) + 1)) ∧ 4 * (M 235 ((116 + (2 * x3)) + 1)) ≤ 2147483647) ∧ (0 ≤ (4 * (M 235 ((116 + (2 * x3)) + 1))) ∧ (4 * (M 235 ((116 + (2 * x3)) + 1))) < 48) ∧ (-2147483648 ≤ x3 + 1 ∧ x3 + 1 ≤ 2147483647) ∧ Y G (d + 2) mX12_knew 14 [(2, 234), (0, x1), (0, (zor x2 (M 248 (4 * (M 235 ((116 + (2 * x3)) + 1)))))), (0, (x3 + 1))] [] M Q))))) :
    Y G (d + 2) mX12_knew 14 [(2, 234), (0, x1), (0, x2), (0, x3)] [] M Q := by
  refine z_iloadn dX12_knew_14 rfl ?_
  refine z_aloadn dX12_knew_15 rfl (Or.inl rfl) ?_
  refine y_getr (v := 235) hG dX12_knew_16 fX12_7 sh234 (by decide) rfl (by decide +kernel) (by decide) ?_
  refine z_bipush dX12_knew_19 kb_7 ?_
  refine y_iald (x := (M 235 7)) dX12_knew_21 sh235 ⟨by decide, by decide⟩ rfl ?_
  refine z_icmpge (tgt := 69) dX12_knew_22 rfl (fun q => ?_) (fun q => ?_)
  · replace h := h.1 q
    refine z_iloadn dX12_knew_69 rfl ?_
    exact z_ireturn dX12_knew_70 (Or.inl rfl) rfl h
  · replace h := h.2 q
    refine z_aloadn dX12_knew_25 rfl (Or.inl rfl) ?_
    refine y_getr (v := 235) hG dX12_knew_26 fX12_7 sh234 (by decide) rfl (by decide +kernel) (by decide) ?_
    refine z_bipush dX12_knew_29 kb_116 ?_
    refine z_iconst dX12_knew_31 ki_2 ?_
    refine z_iloadn dX12_knew_32 rfl ?_
    obtain ⟨q1, h⟩ := h
    refine z_imul dX12_knew_33 q1 ?_
    obtain ⟨q2, h⟩ := h
    refine z_iadd dX12_knew_34 q2 ?_
    obtain ⟨q3, h⟩ := h
    refine y_iald (x := (M 235 (116 + (2 * x3)))) dX12_knew_35 sh235 q3 rfl ?_
    refine z_iloadn dX12_knew_36 rfl ?_
    refine z_icmpne (tgt := 63) dX12_knew_37 rfl (fun q => ?_) (fun q => ?_)
    · replace h := h.1 q
      obtain ⟨q4, h⟩ := h
      refine y_iinc (ls' := [(2, 234), (0, x1), (0, x2), (0, (x3 + 1))]) dX12_knew_63 rfl rfl q4 rfl ?_
      refine z_goto (tgt := 14) dX12_knew_66 rfl ?_
      exact h
    · replace h := h.2 q
      refine z_iloadn dX12_knew_40 rfl ?_
      refine z_aloadn dX12_knew_41 rfl (Or.inl rfl) ?_
      refine y_getr (v := 248) hG dX12_knew_42 fX12_56 sh234 (by decide) rfl (by decide +kernel) (by decide) ?_
      refine z_iconst dX12_knew_45 ki_4 ?_
      refine z_aloadn dX12_knew_46 rfl (Or.inl rfl) ?_
      refine y_getr (v := 235) hG dX12_knew_47 fX12_7 sh234 (by decide) rfl (by decide +kernel) (by decide) ?_
      refine z_bipush dX12_knew_50 kb_116 ?_
      refine z_iconst dX12_knew_52 ki_2 ?_
      refine z_iloadn dX12_knew_53 rfl ?_
      obtain ⟨q5, h⟩ := h
      refine z_imul dX12_knew_54 q5 ?_
      obtain ⟨q6, h⟩ := h
      refine z_iadd dX12_knew_55 q6 ?_
      refine z_iconst dX12_knew_56 ki_1 ?_
      obtain ⟨q7, h⟩ := h
      refine z_iadd dX12_knew_57 q7 ?_
      obtain ⟨q8, h⟩ := h
      refine y_iald (x := (M 235 ((116 + (2 * x3)) + 1))) dX12_knew_58 sh235 q8 rfl ?_
      obtain ⟨q9, h⟩ := h
      refine z_imul dX12_knew_59 q9 ?_
      obtain ⟨q10, h⟩ := h
      refine y_iald (x := (M 248 (4 * (M 235 ((116 + (2 * x3)) + 1))))) dX12_knew_60 sh248 q10 rfl ?_
      refine z_ior dX12_knew_61 ?_
      refine y_istoren (ls' := [(2, 234), (0, x1), (0, (zor x2 (M 248 (4 * (M 235 ((116 + (2 * x3)) + 1)))))), (0, x3)]) dX12_knew_62 rfl rfl ?_
      obtain ⟨q11, h⟩ := h
      refine y_iinc (ls' := [(2, 234), (0, x1), (0, (zor x2 (M 248 (4 * (M 235 ((116 + (2 * x3)) + 1)))))), (0, (x3 + 1))]) dX12_knew_63 rfl rfl q11 rfl ?_
      refine z_goto (tgt := 14) dX12_knew_66 rfl ?_
      exact h
