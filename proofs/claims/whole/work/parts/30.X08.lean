set_option maxRecDepth 20000 in
set_option maxHeartbeats 4000000 in
theorem bX8_takeNumber_0 {G : zG} {d : Nat} {M : zM} {Q : zV → zM → Prop} (hG : zP G) {x1 : Int}
    (h : Y G (d + 1) mX8_takeNumber 4 [(2, 13), (0, x1), (0, 0), (0, x1)] [] M Q) :
    Y G (d + 1) mX8_takeNumber 0 [(2, 13), (0, x1), (9, 0), (9, 0)] [] M Q := by
  refine z_iconst dX8_takeNumber_0 ki_0 ?_
  refine y_istoren (ls' := [(2, 13), (0, x1), (0, 0), (9, 0)]) dX8_takeNumber_1 rfl rfl ?_
  refine z_iloadn dX8_takeNumber_2 rfl ?_
  refine y_istoren (ls' := [(2, 13), (0, x1), (0, 0), (0, x1)]) dX8_takeNumber_3 rfl rfl ?_
  exact h
set_option maxRecDepth 20000 in
set_option maxHeartbeats 4000000 in
theorem bX8_takeNumber_4 {G : zG} {d : Nat} {M : zM} {Q : zV → zM → Prop} (hG : zP G) {x1 x2 x3 : Int}
    (h : (((M 13 1) ≤ x3 → Y G d mX8_addToken 0 [(2, 13), (0, 2), (0, x1), (0, x2)] [] M (fun r M' => Y G (d + 1) mX8_takeNumber 55 [(2, 13), (0, x1), (0, x2), (0, x3)] (zpush r []) M' Q)) ∧ (x3 < (M 13 1) → ((48 ≤ (zby M x3) ∧ (zby M x3) ≤ 57 → (-2147483648 ≤ x2 * 10 ∧ x2 * 10 ≤ 2147483647) ∧ (-2147483648 ≤ (x2 * 10) + (zby M x3) ∧ (x2 * 10) + (zby M x3) ≤ 2147483647) ∧ (-2147483648 ≤ ((x2 * 10) + (zby M x3)) - 48 ∧ ((x2 * 10) + (zby M x3)) - 48 ≤ 2147483647) ∧ (-2147483648 ≤ x3 + 1 ∧ x3 + 1 ≤ 2147483647) ∧ Y G (d + 1) mX8_takeNumber 4 [(2, 13), (0, x1), (0, (min (((x2 * 10) + (zby M x3)) - 48) 32768)), (0, (x3 + 1))] [] M Q) ∧ (¬ (48 ≤ (zby M x3) ∧ (zby M x3) ≤ 57) → Y G d mX8_addToken 0 [(2, 13), (0, 2), (0, x1), (0, x2)] [] M (fun r M' => Y G (d + 1) mX8_takeNumber 55 [(2, 13), (0, x1), (0, x2), (0, x3)] (zpush r []) M' Q)))))) :
    Y G (d + 1) mX8_takeNumber 4 [(2, 13), (0, x1), (0, x2), (0, x3)] [] M Q := by
  refine z_iloadn dX8_takeNumber_4 rfl ?_
  refine z_aloadn dX8_takeNumber_5 rfl (Or.inl rfl) ?_
  refine y_getf (x := (M 13 1)) dX8_takeNumber_6 fX8_24 sh13 (by decide) rfl rfl ?_
  refine z_icmpge (tgt := 48) dX8_takeNumber_9 rfl (fun q => ?_) (fun q => ?_)
  · replace h := h.1 q
    refine z_aloadn dX8_takeNumber_48 rfl (Or.inl rfl) ?_
    refine z_iconst dX8_takeNumber_49 ki_2 ?_
    refine z_iloadn dX8_takeNumber_50 rfl ?_
    refine z_iloadn dX8_takeNumber_51 rfl ?_
    refine y_cv (mt2 := mX8_addToken) (en := [(2, 13), (0, 2), (0, x1), (0, x2)]) (st := []) (as := [(0, 2), (0, x1), (0, x2)]) dX8_takeNumber_52 lX8_38 kX8_addToken iX8_addToken eX8_addToken rfl sh13 (by decide +kernel) (Nat.le_of_ble_eq_true rfl) (Nat.le_of_ble_eq_true rfl) rfl ?_
    exact h
  · replace h := h.2 q
    refine z_aloadn dX8_takeNumber_12 rfl (Or.inl rfl) ?_
    refine z_iloadn dX8_takeNumber_13 rfl ?_
    refine y_cv (mt2 := mX8_byteAt) (en := [(2, 13), (0, x3)]) (st := []) (as := [(0, x3)]) dX8_takeNumber_14 lX8_31 kX8_byteAt iX8_byteAt eX8_byteAt rfl sh13 (by decide +kernel) (Nat.le_of_ble_eq_true rfl) (Nat.le_of_ble_eq_true rfl) rfl (s_byteAt hG ?_)
    show Y G (d + 1) mX8_takeNumber 17 [(2, 13), (0, x1), (0, x2), (0, x3)] [(0, (zby M x3))] M Q
    refine y_cs (mt2 := mX8_isDigit) (en := [(0, (zby M x3))]) (st := []) (as := [(0, (zby M x3))]) dX8_takeNumber_17 lX8_57 kX8_isDigit tX8_isDigit rfl (Nat.le_of_ble_eq_true rfl) (Nat.le_of_ble_eq_true rfl) rfl (s_isDigit hG (fun q => ?_) (fun q => ?_))
    · replace h := h.1 q
      show Y G (d + 1) mX8_takeNumber 20 [(2, 13), (0, x1), (0, x2), (0, x3)] [(0, 1)] M Q
      refine z_ifeq (tgt := 48) dX8_takeNumber_20 rfl (fun q => absurd q (by decide)) (fun _ => ?_)
      refine z_iloadn dX8_takeNumber_23 rfl ?_
      refine z_bipush dX8_takeNumber_24 kb_10 ?_
      obtain ⟨q1, h⟩ := h
      refine z_imul dX8_takeNumber_26 q1 ?_
      refine z_aloadn dX8_takeNumber_27 rfl (Or.inl rfl) ?_
      refine z_iloadn dX8_takeNumber_28 rfl ?_
      refine y_cv (mt2 := mX8_byteAt) (en := [(2, 13), (0, x3)]) (st := [(0, (x2 * 10))]) (as := [(0, x3)]) dX8_takeNumber_29 lX8_31 kX8_byteAt iX8_byteAt eX8_byteAt rfl sh13 (by decide +kernel) (Nat.le_of_ble_eq_true rfl) (Nat.le_of_ble_eq_true rfl) rfl (s_byteAt hG ?_)
      show Y G (d + 1) mX8_takeNumber 32 [(2, 13), (0, x1), (0, x2), (0, x3)] [(0, (zby M x3)), (0, (x2 * 10))] M Q
      obtain ⟨q2, h⟩ := h
      refine z_iadd dX8_takeNumber_32 q2 ?_
      refine z_bipush dX8_takeNumber_33 kb_48 ?_
      obtain ⟨q3, h⟩ := h
      refine z_isub dX8_takeNumber_35 q3 ?_
      refine z_ldc (k := 32768) (v := 32768) dX8_takeNumber_36 ⟨by decide, ⟨by decide, by decide⟩⟩ qX8_73 ?_
      refine z_min dX8_takeNumber_38 mwX8_74 (Nat.le_of_ble_eq_true rfl) ?_
      refine y_istoren (ls' := [(2, 13), (0, x1), (0, (min (((x2 * 10) + (zby M x3)) - 48) 32768)), (0, x3)]) dX8_takeNumber_41 rfl rfl ?_
      obtain ⟨q4, h⟩ := h
      refine y_iinc (ls' := [(2, 13), (0, x1), (0, (min (((x2 * 10) + (zby M x3)) - 48) 32768)), (0, (x3 + 1))]) dX8_takeNumber_42 rfl rfl q4 rfl ?_
      refine z_goto (tgt := 4) dX8_takeNumber_45 rfl ?_
      exact h
    · replace h := h.2 q
      show Y G (d + 1) mX8_takeNumber 20 [(2, 13), (0, x1), (0, x2), (0, x3)] [(0, 0)] M Q
      refine z_ifeq (tgt := 48) dX8_takeNumber_20 rfl (fun _ => ?_) (fun q => absurd q (by decide))
      refine z_aloadn dX8_takeNumber_48 rfl (Or.inl rfl) ?_
      refine z_iconst dX8_takeNumber_49 ki_2 ?_
      refine z_iloadn dX8_takeNumber_50 rfl ?_
      refine z_iloadn dX8_takeNumber_51 rfl ?_
      refine y_cv (mt2 := mX8_addToken) (en := [(2, 13), (0, 2), (0, x1), (0, x2)]) (st := []) (as := [(0, 2), (0, x1), (0, x2)]) dX8_takeNumber_52 lX8_38 kX8_addToken iX8_addToken eX8_addToken rfl sh13 (by decide +kernel) (Nat.le_of_ble_eq_true rfl) (Nat.le_of_ble_eq_true rfl) rfl ?_
      exact h
set_option maxRecDepth 20000 in
set_option maxHeartbeats 4000000 in
theorem bX8_takeNumber_55 {G : zG} {d : Nat} {M : zM} {Q : zV → zM → Prop} (hG : zP G) {x1 x2 x3 : Int}
    (h : Q (0, x3) M) :
    Y G (d + 1) mX8_takeNumber 55 [(2, 13), (0, x1), (0, x2), (0, x3)] [] M Q := by
  refine z_iloadn dX8_takeNumber_55 rfl ?_
  exact z_ireturn dX8_takeNumber_56 (Or.inl rfl) rfl h
set_option maxRecDepth 20000 in
set_option maxHeartbeats 4000000 in
theorem bX8_takeLetters_0 {G : zG} {d : Nat} {M : zM} {Q : zV → zM → Prop} (hG : zP G) {x1 : Int}
    (h : Y G (d + 1) mX8_takeLetters 2 [(2, 13), (0, x1), (0, x1)] [] M Q) :
    Y G (d + 1) mX8_takeLetters 0 [(2, 13), (0, x1), (9, 0)] [] M Q := by
  refine z_iloadn dX8_takeLetters_0 rfl ?_
  refine y_istoren (ls' := [(2, 13), (0, x1), (0, x1)]) dX8_takeLetters_1 rfl rfl ?_
  exact h
set_option maxRecDepth 20000 in
set_option maxHeartbeats 4000000 in
theorem bX8_takeLetters_2 {G : zG} {d : Nat} {M : zM} {Q : zV → zM → Prop} (hG : zP G) {x1 x2 : Int}
    (h : (((M 13 1) ≤ x2 → Y G d mX8_sortOfLetters 0 [(2, 13), (0, x1), (0, x2), (9, 0), (9, 0), (9, 0), (9, 0)] [] M (fun r M' => Y G (d + 1) mX8_takeLetters 34 [(2, 13), (0, x1), (0, x2)] (zpush r [(2, 13)]) M' Q)) ∧ (x2 < (M 13 1) → ((zlet (zby M x2) → (-2147483648 ≤ x2 + 1 ∧ x2 + 1 ≤ 2147483647) ∧ Y G (d + 1) mX8_takeLetters 2 [(2, 13), (0, x1), (0, (x2 + 1))] [] M Q) ∧ (¬ (zlet (zby M x2)) → Y G d mX8_sortOfLetters 0 [(2, 13), (0, x1), (0, x2), (9, 0), (9, 0), (9, 0), (9, 0)] [] M (fun r M' => Y G (d + 1) mX8_takeLetters 34 [(2, 13), (0, x1), (0, x2)] (zpush r [(2, 13)]) M' Q)))))) :
    Y G (d + 1) mX8_takeLetters 2 [(2, 13), (0, x1), (0, x2)] [] M Q := by
  refine z_iloadn dX8_takeLetters_2 rfl ?_
  refine z_aloadn dX8_takeLetters_3 rfl (Or.inl rfl) ?_
  refine y_getf (x := (M 13 1)) dX8_takeLetters_4 fX8_24 sh13 (by decide) rfl rfl ?_
  refine z_icmpge (tgt := 27) dX8_takeLetters_7 rfl (fun q => ?_) (fun q => ?_)
  · replace h := h.1 q
    refine z_aloadn dX8_takeLetters_27 rfl (Or.inl rfl) ?_
    refine z_aloadn dX8_takeLetters_28 rfl (Or.inl rfl) ?_
    refine z_iloadn dX8_takeLetters_29 rfl ?_
    refine z_iloadn dX8_takeLetters_30 rfl ?_
    refine y_cv (mt2 := mX8_sortOfLetters) (en := [(2, 13), (0, x1), (0, x2), (9, 0), (9, 0), (9, 0), (9, 0)]) (st := [(2, 13)]) (as := [(0, x1), (0, x2)]) dX8_takeLetters_31 lX8_80 kX8_sortOfLetters iX8_sortOfLetters eX8_sortOfLetters rfl sh13 (by decide +kernel) (Nat.le_of_ble_eq_true rfl) (Nat.le_of_ble_eq_true rfl) rfl ?_
    exact h
  · replace h := h.2 q
    refine z_aloadn dX8_takeLetters_10 rfl (Or.inl rfl) ?_
    refine z_iloadn dX8_takeLetters_11 rfl ?_
    refine y_cv (mt2 := mX8_byteAt) (en := [(2, 13), (0, x2)]) (st := []) (as := [(0, x2)]) dX8_takeLetters_12 lX8_31 kX8_byteAt iX8_byteAt eX8_byteAt rfl sh13 (by decide +kernel) (Nat.le_of_ble_eq_true rfl) (Nat.le_of_ble_eq_true rfl) rfl (s_byteAt hG ?_)
    show Y G (d + 1) mX8_takeLetters 15 [(2, 13), (0, x1), (0, x2)] [(0, (zby M x2))] M Q
    refine y_cs (mt2 := mX8_isLetter) (en := [(0, (zby M x2))]) (st := []) (as := [(0, (zby M x2))]) dX8_takeLetters_15 lX8_64 kX8_isLetter tX8_isLetter rfl (Nat.le_of_ble_eq_true rfl) (Nat.le_of_ble_eq_true rfl) rfl (s_isLetter hG (fun q => ?_) (fun q => ?_))
    · replace h := h.1 q
      show Y G (d + 1) mX8_takeLetters 18 [(2, 13), (0, x1), (0, x2)] [(0, 1)] M Q
      refine z_ifeq (tgt := 27) dX8_takeLetters_18 rfl (fun q => absurd q (by decide)) (fun _ => ?_)
      obtain ⟨q1, h⟩ := h
      refine y_iinc (ls' := [(2, 13), (0, x1), (0, (x2 + 1))]) dX8_takeLetters_21 rfl rfl q1 rfl ?_
      refine z_goto (tgt := 2) dX8_takeLetters_24 rfl ?_
      exact h
    · replace h := h.2 q
      show Y G (d + 1) mX8_takeLetters 18 [(2, 13), (0, x1), (0, x2)] [(0, 0)] M Q
      refine z_ifeq (tgt := 27) dX8_takeLetters_18 rfl (fun _ => ?_) (fun q => absurd q (by decide))
      refine z_aloadn dX8_takeLetters_27 rfl (Or.inl rfl) ?_
      refine z_aloadn dX8_takeLetters_28 rfl (Or.inl rfl) ?_
      refine z_iloadn dX8_takeLetters_29 rfl ?_
      refine z_iloadn dX8_takeLetters_30 rfl ?_
      refine y_cv (mt2 := mX8_sortOfLetters) (en := [(2, 13), (0, x1), (0, x2), (9, 0), (9, 0), (9, 0), (9, 0)]) (st := [(2, 13)]) (as := [(0, x1), (0, x2)]) dX8_takeLetters_31 lX8_80 kX8_sortOfLetters iX8_sortOfLetters eX8_sortOfLetters rfl sh13 (by decide +kernel) (Nat.le_of_ble_eq_true rfl) (Nat.le_of_ble_eq_true rfl) rfl ?_
      exact h
set_option maxRecDepth 20000 in
set_option maxHeartbeats 4000000 in
theorem bX8_takeLetters_34 {G : zG} {d : Nat} {M : zM} {Q : zV → zM → Prop} (hG : zP G) {x1 x2 x49 : Int}
    (h : Y G d mX8_addToken 0 [(2, 13), (0, x49), (0, x1), (0, 0)] [] M (fun r M' => Y G (d + 1) mX8_takeLetters 39 [(2, 13), (0, x1), (0, x2)] (zpush r []) M' Q)) :
    Y G (d + 1) mX8_takeLetters 34 [(2, 13), (0, x1), (0, x2)] [(0, x49), (2, 13)] M Q := by
  refine z_iloadn dX8_takeLetters_34 rfl ?_
  refine z_iconst dX8_takeLetters_35 ki_0 ?_
  refine y_cv (mt2 := mX8_addToken) (en := [(2, 13), (0, x49), (0, x1), (0, 0)]) (st := []) (as := [(0, x49), (0, x1), (0, 0)]) dX8_takeLetters_36 lX8_38 kX8_addToken iX8_addToken eX8_addToken rfl sh13 (by decide +kernel) (Nat.le_of_ble_eq_true rfl) (Nat.le_of_ble_eq_true rfl) rfl ?_
  exact h
set_option maxRecDepth 20000 in
set_option maxHeartbeats 4000000 in
theorem bX8_takeLetters_39 {G : zG} {d : Nat} {M : zM} {Q : zV → zM → Prop} (hG : zP G) {x1 x2 : Int}
    (h : Q (0, x2) M) :
    Y G (d + 1) mX8_takeLetters 39 [(2, 13), (0, x1), (0, x2)] [] M Q := by
  refine z_iloadn dX8_takeLetters_39 rfl ?_
  exact z_ireturn dX8_takeLetters_40 (Or.inl rfl) rfl h
set_option maxRecDepth 20000 in
set_option maxHeartbeats 4000000 in
theorem bX8_sortOfLetters_0 {G : zG} {d : Nat} {M : zM} {Q : zV → zM → Prop} (hG : zP G) {x1 x2 : Int}
    (h : Y G (d + 1) mX8_sortOfLetters 11 [(2, 13), (0, x1), (0, x2), (0, 0), (0, 0), (0, 1), (0, 0)] [] M Q) :
    Y G (d + 1) mX8_sortOfLetters 0 [(2, 13), (0, x1), (0, x2), (9, 0), (9, 0), (9, 0), (9, 0)] [] M Q := by
  refine z_iconst dX8_sortOfLetters_0 ki_0 ?_
  refine y_istoren (ls' := [(2, 13), (0, x1), (0, x2), (0, 0), (9, 0), (9, 0), (9, 0)]) dX8_sortOfLetters_1 rfl rfl ?_
  refine z_iconst dX8_sortOfLetters_2 ki_0 ?_
  refine y_istore (ls' := [(2, 13), (0, x1), (0, x2), (0, 0), (0, 0), (9, 0), (9, 0)]) dX8_sortOfLetters_3 rfl rfl ?_
  refine z_iconst dX8_sortOfLetters_5 ki_1 ?_
  refine y_istore (ls' := [(2, 13), (0, x1), (0, x2), (0, 0), (0, 0), (0, 1), (9, 0)]) dX8_sortOfLetters_6 rfl rfl ?_
  refine z_iconst dX8_sortOfLetters_8 ki_0 ?_
  refine y_istore (ls' := [(2, 13), (0, x1), (0, x2), (0, 0), (0, 0), (0, 1), (0, 0)]) dX8_sortOfLetters_9 rfl rfl ?_
  exact h
-- X8_sortOfLetters at 11: left to the hand
set_option maxRecDepth 20000 in
set_option maxHeartbeats 4000000 in
theorem bX8_addWord_0 {G : zG} {d : Nat} {M : zM} {Q : zV → zM → Prop} (hG : zP G) {x1 : Int}
    (h : Y G d mX8_addWord 3 [(2, 13), (0, x1), (0, 24)] [] M Q) :
    Y G d mX8_addWord 0 [(2, 13), (0, x1), (9, 0)] [] M Q := by
  refine z_bipush dX8_addWord_0 kb_24 ?_
  refine y_istoren (ls' := [(2, 13), (0, x1), (0, 24)]) dX8_addWord_2 rfl rfl ?_
  exact h
set_option maxRecDepth 20000 in
set_option maxHeartbeats 4000000 in
theorem bX8_addWord_3 {G : zG} {d : Nat} {M : zM} {Q : zV → zM → Prop} (hG : zP G) {x1 x2 : Int}
    (h : ((x2 < 0 → Q (9, 0) M) ∧ (0 ≤ x2 → ((300 ≤ (M 13 1) → (-2147483648 ≤ x2 + (-8) ∧ x2 + (-8) ≤ 2147483647) ∧ Y G d mX8_addWord 3 [(2, 13), (0, x1), (0, (x2 + (-8)))] [] M Q) ∧ ((M 13 1) < 300 → (0 ≤ (M 13 1) ∧ (M 13 1) < 300) ∧ (-2147483648 ≤ (M 13 1) + 1 ∧ (M 13 1) + 1 ≤ 2147483647) ∧ (-2147483648 ≤ x2 + (-8) ∧ x2 + (-8) ≤ 2147483647) ∧ Y G d mX8_addWord 3 [(2, 13), (0, x1), (0, (x2 + (-8)))] [] (zset (zset M 14 (M 13 1) (zand (zushr x1 x2) 255)) 13 1 ((M 13 1) + 1)) Q))))) :
    Y G d mX8_addWord 3 [(2, 13), (0, x1), (0, x2)] [] M Q := by
  refine z_iloadn dX8_addWord_3 rfl ?_
  refine z_iflt (tgt := 49) dX8_addWord_4 rfl (fun q => ?_) (fun q => ?_)
  · replace h := h.1 q
    exact z_return dX8_addWord_49 rfl rfl h
  · replace h := h.2 q
    refine z_aloadn dX8_addWord_7 rfl (Or.inl rfl) ?_
    refine y_getf (x := (M 13 1)) dX8_addWord_8 fX8_24 sh13 (by decide) rfl rfl ?_
    refine z_sipush dX8_addWord_11 ks_300 ?_
    refine z_icmpge (tgt := 43) dX8_addWord_14 rfl (fun q => ?_) (fun q => ?_)
    · replace h := h.1 q
      obtain ⟨q1, h⟩ := h
      refine y_iinc (ls' := [(2, 13), (0, x1), (0, (x2 + (-8)))]) dX8_addWord_43 rfl rfl q1 rfl ?_
      refine z_goto (tgt := 3) dX8_addWord_46 rfl ?_
      exact h
    · replace h := h.2 q
      refine z_aloadn dX8_addWord_17 rfl (Or.inl rfl) ?_
      refine y_getr (v := 14) hG dX8_addWord_18 fX8_9 sh13 (by decide) rfl (by decide +kernel) (by decide) ?_
      refine z_aloadn dX8_addWord_21 rfl (Or.inl rfl) ?_
      refine y_getf (x := (M 13 1)) dX8_addWord_22 fX8_24 sh13 (by decide) rfl rfl ?_
      refine z_iloadn dX8_addWord_25 rfl ?_
      refine z_iloadn dX8_addWord_26 rfl ?_
      refine z_iushr dX8_addWord_27 ?_
      refine z_sipush dX8_addWord_28 ks_255 ?_
      refine z_iand dX8_addWord_31 ?_
      obtain ⟨q2, h⟩ := h
      refine y_iast hG dX8_addWord_32 sh14 q2 ?_
      refine z_aloadn dX8_addWord_33 rfl (Or.inl rfl) ?_
      refine z_dup dX8_addWord_34 (show (2 : Nat) ≠ 1 by decide) ?_
      refine y_getf (x := (M 13 1)) dX8_addWord_35 fX8_24 sh13 (by decide) rfl (zset_ne (fun q => absurd q.1 (by decide))) ?_
      refine z_iconst dX8_addWord_38 ki_1 ?_
      obtain ⟨q3, h⟩ := h
      refine z_iadd dX8_addWord_39 q3 ?_
      refine y_putf (M' := zset (zset M 14 (M 13 1) (zand (zushr x1 x2) 255)) 13 1 ((M 13 1) + 1)) hG dX8_addWord_40 fX8_24 sh13 (by decide) ⟨rfl, rfl⟩ p8_1 (fun q => absurd q (by decide)) (by decide) rfl ?_
      obtain ⟨q4, h⟩ := h
      refine y_iinc (ls' := [(2, 13), (0, x1), (0, (x2 + (-8)))]) dX8_addWord_43 rfl rfl q4 rfl ?_
      refine z_goto (tgt := 3) dX8_addWord_46 rfl ?_
      exact h
set_option maxRecDepth 20000 in
set_option maxHeartbeats 4000000 in
theorem bX8_split_0 {G : zG} {d : Nat} {M : zM} {Q : zV → zM → Prop} (hG : zP G)
    (h : Y G (d + 1) mX8_split 9 [(2, 13), (0, 0), (0, 0), (9, 0)] [] (zset M 13 5 0) Q) :
    Y G (d + 1) mX8_split 0 [(2, 13), (9, 0), (9, 0), (9, 0)] [] M Q := by
  refine z_aloadn dX8_split_0 rfl (Or.inl rfl) ?_
  refine z_iconst dX8_split_1 ki_0 ?_
  refine y_putf (M' := zset M 13 5 0) hG dX8_split_2 fX8_28 sh13 (by decide) ⟨rfl, rfl⟩ p8_5 (fun q => absurd q (by decide)) (by decide) rfl ?_
  refine z_iconst dX8_split_5 ki_0 ?_
  refine y_istoren (ls' := [(2, 13), (0, 0), (9, 0), (9, 0)]) dX8_split_6 rfl rfl ?_
  refine z_iconst dX8_split_7 ki_0 ?_
  refine y_istoren (ls' := [(2, 13), (0, 0), (0, 0), (9, 0)]) dX8_split_8 rfl rfl ?_
  exact h
set_option maxRecDepth 20000 in
set_option maxHeartbeats 4000000 in
theorem bX8_split_9 {G : zG} {d : Nat} {M : zM} {Q : zV → zM → Prop} (hG : zP G) {x1 x2 : Int}
    (h : ((300 ≤ x2 → Y G d mX8_addToken 0 [(2, 13), (0, 0), (0, (M 13 1)), (0, 0)] [] M (fun r M' => Y G (d + 1) mX8_split 82 [(2, 13), (0, x1), (0, x2), (9, 0)] (zpush r []) M' Q)) ∧ (x2 < 300 → (((M 13 1) ≤ x1 → Y G d mX8_addToken 0 [(2, 13), (0, 0), (0, (M 13 1)), (0, 0)] [] M (fun r M' => Y G (d + 1) mX8_split 82 [(2, 13), (0, x1), (0, x2), (9, 0)] (zpush r []) M' Q)) ∧ (x1 < (M 13 1) → (((zby M x1) = 32 → (-2147483648 ≤ x1 + 1 ∧ x1 + 1 ≤ 2147483647) ∧ (-2147483648 ≤ x2 + 1 ∧ x2 + 1 ≤ 2147483647) ∧ Y G (d + 1) mX8_split 9 [(2, 13), (0, (x1 + 1)), (0, (x2 + 1)), (9, 0)] [] M Q) ∧ (¬ (zby M x1) = 32 → ((¬ (zby M x1) = 10 → Y G d mX8_takeToken 0 [(2, 13), (0, x1), (9, 0)] [] M (fun r M' => Y G (d + 1) mX8_split 65 [(2, 13), (0, x1), (0, x2), (0, 0)] (zpush r []) M' Q)) ∧ ((zby M x1) = 10 → (-2147483648 ≤ x1 + 1 ∧ x1 + 1 ≤ 2147483647) ∧ (-2147483648 ≤ x2 + 1 ∧ x2 + 1 ≤ 2147483647) ∧ Y G (d + 1) mX8_split 9 [(2, 13), (0, (x1 + 1)), (0, (x2 + 1)), (9, 0)] [] M Q))))))))) :
    Y G (d + 1) mX8_split 9 [(2, 13), (0, x1), (0, x2), (9, 0)] [] M Q := by
  refine z_iloadn dX8_split_9 rfl ?_
  refine z_sipush dX8_split_10 ks_300 ?_
  refine z_icmpge (tgt := 72) dX8_split_13 rfl (fun q => ?_) (fun q => ?_)
  · replace h := h.1 q
    refine z_aloadn dX8_split_72 rfl (Or.inl rfl) ?_
    refine z_iconst dX8_split_73 ki_0 ?_
    refine z_aloadn dX8_split_74 rfl (Or.inl rfl) ?_
    refine y_getf (x := (M 13 1)) dX8_split_75 fX8_24 sh13 (by decide) rfl rfl ?_
    refine z_iconst dX8_split_78 ki_0 ?_
    refine y_cv (mt2 := mX8_addToken) (en := [(2, 13), (0, 0), (0, (M 13 1)), (0, 0)]) (st := []) (as := [(0, 0), (0, (M 13 1)), (0, 0)]) dX8_split_79 lX8_38 kX8_addToken iX8_addToken eX8_addToken rfl sh13 (by decide +kernel) (Nat.le_of_ble_eq_true rfl) (Nat.le_of_ble_eq_true rfl) rfl ?_
    exact h
  · replace h := h.2 q
    refine z_iloadn dX8_split_16 rfl ?_
    refine z_aloadn dX8_split_17 rfl (Or.inl rfl) ?_
    refine y_getf (x := (M 13 1)) dX8_split_18 fX8_24 sh13 (by decide) rfl rfl ?_
    refine z_icmpge (tgt := 72) dX8_split_21 rfl (fun q => ?_) (fun q => ?_)
    · replace h := h.1 q
      refine z_aloadn dX8_split_72 rfl (Or.inl rfl) ?_
      refine z_iconst dX8_split_73 ki_0 ?_
      refine z_aloadn dX8_split_74 rfl (Or.inl rfl) ?_
      refine y_getf (x := (M 13 1)) dX8_split_75 fX8_24 sh13 (by decide) rfl rfl ?_
      refine z_iconst dX8_split_78 ki_0 ?_
      refine y_cv (mt2 := mX8_addToken) (en := [(2, 13), (0, 0), (0, (M 13 1)), (0, 0)]) (st := []) (as := [(0, 0), (0, (M 13 1)), (0, 0)]) dX8_split_79 lX8_38 kX8_addToken iX8_addToken eX8_addToken rfl sh13 (by decide +kernel) (Nat.le_of_ble_eq_true rfl) (Nat.le_of_ble_eq_true rfl) rfl ?_
      exact h
    · replace h := h.2 q
      refine z_aloadn dX8_split_24 rfl (Or.inl rfl) ?_
      refine z_iloadn dX8_split_25 rfl ?_
      refine y_cv (mt2 := mX8_byteAt) (en := [(2, 13), (0, x1)]) (st := []) (as := [(0, x1)]) dX8_split_26 lX8_31 kX8_byteAt iX8_byteAt eX8_byteAt rfl sh13 (by decide +kernel) (Nat.le_of_ble_eq_true rfl) (Nat.le_of_ble_eq_true rfl) rfl (s_byteAt hG ?_)
      show Y G (d + 1) mX8_split 29 [(2, 13), (0, x1), (0, x2), (9, 0)] [(0, (zby M x1))] M Q
      refine z_bipush dX8_split_29 kb_32 ?_
      refine z_icmpeq (tgt := 44) dX8_split_31 rfl (fun q => ?_) (fun q => ?_)
      · replace h := h.1 q
        refine z_iconst dX8_split_44 ki_1 ?_
        refine z_goto (tgt := 49) dX8_split_45 rfl ?_
        refine y_istoren (ls' := [(2, 13), (0, x1), (0, x2), (0, 1)]) dX8_split_49 rfl rfl ?_
        refine z_iloadn dX8_split_50 rfl ?_
        refine z_ifeq (tgt := 60) dX8_split_51 rfl (fun q => absurd q (by decide)) (fun _ => ?_)
        refine z_iloadn dX8_split_54 rfl ?_
        refine z_iconst dX8_split_55 ki_1 ?_
        obtain ⟨q1, h⟩ := h
        refine z_iadd dX8_split_56 q1 ?_
        refine z_goto (tgt := 65) dX8_split_57 rfl ?_
        refine y_istoren (ls' := [(2, 13), (0, (x1 + 1)), (0, x2), (0, 1)]) dX8_split_65 rfl rfl ?_
        obtain ⟨q2, h⟩ := h
        refine y_iinc (ls' := [(2, 13), (0, (x1 + 1)), (0, (x2 + 1)), (0, 1)]) dX8_split_66 rfl rfl q2 rfl ?_
        refine z_goto (tgt := 9) dX8_split_69 rfl ?_
        refine z_sub (ls' := [(2, 13), (0, (x1 + 1)), (0, (x2 + 1)), (9, 0)]) ⟨Or.inl rfl, Or.inl rfl, Or.inl rfl, Or.inr rfl, trivial⟩ ?_
        exact h
      · replace h := h.2 q
        refine z_aloadn dX8_split_34 rfl (Or.inl rfl) ?_
        refine z_iloadn dX8_split_35 rfl ?_
        refine y_cv (mt2 := mX8_byteAt) (en := [(2, 13), (0, x1)]) (st := []) (as := [(0, x1)]) dX8_split_36 lX8_31 kX8_byteAt iX8_byteAt eX8_byteAt rfl sh13 (by decide +kernel) (Nat.le_of_ble_eq_true rfl) (Nat.le_of_ble_eq_true rfl) rfl (s_byteAt hG ?_)
        show Y G (d + 1) mX8_split 39 [(2, 13), (0, x1), (0, x2), (9, 0)] [(0, (zby M x1))] M Q
        refine z_bipush dX8_split_39 kb_10 ?_
        refine z_icmpne (tgt := 48) dX8_split_41 rfl (fun q => ?_) (fun q => ?_)
        · replace h := h.1 q
          refine z_iconst dX8_split_48 ki_0 ?_
          refine y_istoren (ls' := [(2, 13), (0, x1), (0, x2), (0, 0)]) dX8_split_49 rfl rfl ?_
          refine z_iloadn dX8_split_50 rfl ?_
          refine z_ifeq (tgt := 60) dX8_split_51 rfl (fun _ => ?_) (fun q => absurd q (by decide))
          refine z_aloadn dX8_split_60 rfl (Or.inl rfl) ?_
          refine z_iloadn dX8_split_61 rfl ?_
          refine y_cv (mt2 := mX8_takeToken) (en := [(2, 13), (0, x1), (9, 0)]) (st := []) (as := [(0, x1)]) dX8_split_62 lX8_35 kX8_takeToken iX8_takeToken eX8_takeToken rfl sh13 (by decide +kernel) (Nat.le_of_ble_eq_true rfl) (Nat.le_of_ble_eq_true rfl) rfl ?_
          exact h
        · replace h := h.2 q
          refine z_iconst dX8_split_44 ki_1 ?_
          refine z_goto (tgt := 49) dX8_split_45 rfl ?_
          refine y_istoren (ls' := [(2, 13), (0, x1), (0, x2), (0, 1)]) dX8_split_49 rfl rfl ?_
          refine z_iloadn dX8_split_50 rfl ?_
          refine z_ifeq (tgt := 60) dX8_split_51 rfl (fun q => absurd q (by decide)) (fun _ => ?_)
          refine z_iloadn dX8_split_54 rfl ?_
          refine z_iconst dX8_split_55 ki_1 ?_
          obtain ⟨q3, h⟩ := h
          refine z_iadd dX8_split_56 q3 ?_
          refine z_goto (tgt := 65) dX8_split_57 rfl ?_
          refine y_istoren (ls' := [(2, 13), (0, (x1 + 1)), (0, x2), (0, 1)]) dX8_split_65 rfl rfl ?_
          obtain ⟨q4, h⟩ := h
          refine y_iinc (ls' := [(2, 13), (0, (x1 + 1)), (0, (x2 + 1)), (0, 1)]) dX8_split_66 rfl rfl q4 rfl ?_
          refine z_goto (tgt := 9) dX8_split_69 rfl ?_
          refine z_sub (ls' := [(2, 13), (0, (x1 + 1)), (0, (x2 + 1)), (9, 0)]) ⟨Or.inl rfl, Or.inl rfl, Or.inl rfl, Or.inr rfl, trivial⟩ ?_
          exact h
set_option maxRecDepth 20000 in
set_option maxHeartbeats 4000000 in
theorem bX8_split_82 {G : zG} {d : Nat} {M : zM} {Q : zV → zM → Prop} (hG : zP G) {x1 x2 : Int}
    (h : Y G d mX8_advance 0 [(2, 13)] [] (zset M 13 6 (-1)) (fun r M' => Y G (d + 1) mX8_split 91 [(2, 13), (0, x1), (0, x2), (9, 0)] (zpush r []) M' Q)) :
    Y G (d + 1) mX8_split 82 [(2, 13), (0, x1), (0, x2), (9, 0)] [] M Q := by
  refine z_aloadn dX8_split_82 rfl (Or.inl rfl) ?_
  refine z_iconst dX8_split_83 ki_m1 ?_
  refine y_putf (M' := zset M 13 6 (-1)) hG dX8_split_84 fX8_42 sh13 (by decide) ⟨rfl, rfl⟩ p8_6 (fun q => absurd q (by decide)) (by decide) rfl ?_
  refine z_aloadn dX8_split_87 rfl (Or.inl rfl) ?_
  refine y_cv (mt2 := mX8_advance) (en := [(2, 13)]) (st := []) (as := []) dX8_split_88 lX8_45 kX8_advance iX8_advance eX8_advance rfl sh13 (by decide +kernel) (Nat.le_of_ble_eq_true rfl) (Nat.le_of_ble_eq_true rfl) rfl ?_
  exact h
set_option maxRecDepth 20000 in
set_option maxHeartbeats 4000000 in
theorem bX8_split_65 {G : zG} {d : Nat} {M : zM} {Q : zV → zM → Prop} (hG : zP G) {x1 x2 x3 x49 : Int}
    (h : (-2147483648 ≤ x2 + 1 ∧ x2 + 1 ≤ 2147483647) ∧ Y G (d + 1) mX8_split 9 [(2, 13), (0, x49), (0, (x2 + 1)), (9, 0)] [] M Q) :
    Y G (d + 1) mX8_split 65 [(2, 13), (0, x1), (0, x2), (0, x3)] [(0, x49)] M Q := by
  refine y_istoren (ls' := [(2, 13), (0, x49), (0, x2), (0, x3)]) dX8_split_65 rfl rfl ?_
  obtain ⟨q1, h⟩ := h
  refine y_iinc (ls' := [(2, 13), (0, x49), (0, (x2 + 1)), (0, x3)]) dX8_split_66 rfl rfl q1 rfl ?_
  refine z_goto (tgt := 9) dX8_split_69 rfl ?_
  refine z_sub (ls' := [(2, 13), (0, x49), (0, (x2 + 1)), (9, 0)]) ⟨Or.inl rfl, Or.inl rfl, Or.inl rfl, Or.inr rfl, trivial⟩ ?_
  exact h
set_option maxRecDepth 20000 in
set_option maxHeartbeats 4000000 in
theorem bX8_split_91 {G : zG} {d : Nat} {M : zM} {Q : zV → zM → Prop} (hG : zP G) {x1 x2 : Int}
    (h : Q (9, 0) M) :
    Y G (d + 1) mX8_split 91 [(2, 13), (0, x1), (0, x2), (9, 0)] [] M Q := by
  exact z_return dX8_split_91 rfl rfl h
set_option maxRecDepth 20000 in
set_option maxHeartbeats 4000000 in
theorem bX8_takeToken_0 {G : zG} {d : Nat} {M : zM} {Q : zV → zM → Prop} (hG : zP G) {x1 : Int}
    (h : ((48 ≤ (zby M x1) ∧ (zby M x1) ≤ 57 → Y G d mX8_takeNumber 0 [(2, 13), (0, x1), (9, 0), (9, 0)] [] M (fun r M' => Y G (d + 1) mX8_takeToken 18 [(2, 13), (0, x1), (0, (zby M x1))] (zpush r []) M' Q)) ∧ (¬ (48 ≤ (zby M x1) ∧ (zby M x1) ≤ 57) → ((zlet (zby M x1) → Y G d mX8_takeLetters 0 [(2, 13), (0, x1), (9, 0)] [] M (fun r M' => Y G (d + 1) mX8_takeToken 31 [(2, 13), (0, x1), (0, (zby M x1))] (zpush r []) M' Q)) ∧ (¬ (zlet (zby M x1)) → Y G d mX8_takeSign 0 [(2, 13), (0, x1), (9, 0), (9, 0)] [] M (fun r M' => Y G (d + 1) mX8_takeToken 39 [(2, 13), (0, x1), (0, (zby M x1))] (zpush r []) M' Q)))))) :
    Y G (d + 1) mX8_takeToken 0 [(2, 13), (0, x1), (9, 0)] [] M Q := by
  refine z_aloadn dX8_takeToken_0 rfl (Or.inl rfl) ?_
  refine z_iloadn dX8_takeToken_1 rfl ?_
  refine y_cv (mt2 := mX8_byteAt) (en := [(2, 13), (0, x1)]) (st := []) (as := [(0, x1)]) dX8_takeToken_2 lX8_31 kX8_byteAt iX8_byteAt eX8_byteAt rfl sh13 (by decide +kernel) (Nat.le_of_ble_eq_true rfl) (Nat.le_of_ble_eq_true rfl) rfl (s_byteAt hG ?_)
  show Y G (d + 1) mX8_takeToken 5 [(2, 13), (0, x1), (9, 0)] [(0, (zby M x1))] M Q
  refine y_istoren (ls' := [(2, 13), (0, x1), (0, (zby M x1))]) dX8_takeToken_5 rfl rfl ?_
  refine z_iloadn dX8_takeToken_6 rfl ?_
  refine y_cs (mt2 := mX8_isDigit) (en := [(0, (zby M x1))]) (st := []) (as := [(0, (zby M x1))]) dX8_takeToken_7 lX8_57 kX8_isDigit tX8_isDigit rfl (Nat.le_of_ble_eq_true rfl) (Nat.le_of_ble_eq_true rfl) rfl (s_isDigit hG (fun q => ?_) (fun q => ?_))
  · replace h := h.1 q
    show Y G (d + 1) mX8_takeToken 10 [(2, 13), (0, x1), (0, (zby M x1))] [(0, 1)] M Q
    refine z_ifeq (tgt := 19) dX8_takeToken_10 rfl (fun q => absurd q (by decide)) (fun _ => ?_)
    refine z_aloadn dX8_takeToken_13 rfl (Or.inl rfl) ?_
    refine z_iloadn dX8_takeToken_14 rfl ?_
    refine y_cv (mt2 := mX8_takeNumber) (en := [(2, 13), (0, x1), (9, 0), (9, 0)]) (st := []) (as := [(0, x1)]) dX8_takeToken_15 lX8_61 kX8_takeNumber iX8_takeNumber eX8_takeNumber rfl sh13 (by decide +kernel) (Nat.le_of_ble_eq_true rfl) (Nat.le_of_ble_eq_true rfl) rfl ?_
    exact h
  · replace h := h.2 q
    show Y G (d + 1) mX8_takeToken 10 [(2, 13), (0, x1), (0, (zby M x1))] [(0, 0)] M Q
    refine z_ifeq (tgt := 19) dX8_takeToken_10 rfl (fun _ => ?_) (fun q => absurd q (by decide))
    refine z_iloadn dX8_takeToken_19 rfl ?_
    refine y_cs (mt2 := mX8_isLetter) (en := [(0, (zby M x1))]) (st := []) (as := [(0, (zby M x1))]) dX8_takeToken_20 lX8_64 kX8_isLetter tX8_isLetter rfl (Nat.le_of_ble_eq_true rfl) (Nat.le_of_ble_eq_true rfl) rfl (s_isLetter hG (fun q => ?_) (fun q => ?_))
    · replace h := h.1 q
      show Y G (d + 1) mX8_takeToken 23 [(2, 13), (0, x1), (0, (zby M x1))] [(0, 1)] M Q
      refine z_ifeq (tgt := 34) dX8_takeToken_23 rfl (fun q => absurd q (by decide)) (fun _ => ?_)
      refine z_aloadn dX8_takeToken_26 rfl (Or.inl rfl) ?_
      refine z_iloadn dX8_takeToken_27 rfl ?_
      refine y_cv (mt2 := mX8_takeLetters) (en := [(2, 13), (0, x1), (9, 0)]) (st := []) (as := [(0, x1)]) dX8_takeToken_28 lX8_67 kX8_takeLetters iX8_takeLetters eX8_takeLetters rfl sh13 (by decide +kernel) (Nat.le_of_ble_eq_true rfl) (Nat.le_of_ble_eq_true rfl) rfl ?_
      exact h
    · replace h := h.2 q
      show Y G (d + 1) mX8_takeToken 23 [(2, 13), (0, x1), (0, (zby M x1))] [(0, 0)] M Q
      refine z_ifeq (tgt := 34) dX8_takeToken_23 rfl (fun _ => ?_) (fun q => absurd q (by decide))
      refine z_aloadn dX8_takeToken_34 rfl (Or.inl rfl) ?_
      refine z_iloadn dX8_takeToken_35 rfl ?_
      refine y_cv (mt2 := mX8_takeSign) (en := [(2, 13), (0, x1), (9, 0), (9, 0)]) (st := []) (as := [(0, x1)]) dX8_takeToken_36 lX8_70 kX8_takeSign iX8_takeSign eX8_takeSign rfl sh13 (by decide +kernel) (Nat.le_of_ble_eq_true rfl) (Nat.le_of_ble_eq_true rfl) rfl ?_
      exact h
set_option maxRecDepth 20000 in
set_option maxHeartbeats 4000000 in
theorem bX8_takeToken_18 {G : zG} {d : Nat} {M : zM} {Q : zV → zM → Prop} (hG : zP G) {x1 x2 x49 : Int}
    (h : Q (0, x49) M) :
    Y G (d + 1) mX8_takeToken 18 [(2, 13), (0, x1), (0, x2)] [(0, x49)] M Q := by
  exact z_ireturn dX8_takeToken_18 (Or.inl rfl) rfl h
set_option maxRecDepth 20000 in
set_option maxHeartbeats 4000000 in
theorem bX8_takeToken_31 {G : zG} {d : Nat} {M : zM} {Q : zV → zM → Prop} (hG : zP G) {x1 x2 x49 : Int}
    (h : Q (0, x49) M) :
    Y G (d + 1) mX8_takeToken 31 [(2, 13), (0, x1), (0, x2)] [(0, x49)] M Q := by
  refine z_goto (tgt := 39) dX8_takeToken_31 rfl ?_
  exact z_ireturn dX8_takeToken_39 (Or.inl rfl) rfl h
set_option maxRecDepth 20000 in
set_option maxHeartbeats 4000000 in
theorem bX8_takeToken_39 {G : zG} {d : Nat} {M : zM} {Q : zV → zM → Prop} (hG : zP G) {x1 x2 x49 : Int}
    (h : Q (0, x49) M) :
    Y G (d + 1) mX8_takeToken 39 [(2, 13), (0, x1), (0, x2)] [(0, x49)] M Q := by
  exact z_ireturn dX8_takeToken_39 (Or.inl rfl) rfl h
