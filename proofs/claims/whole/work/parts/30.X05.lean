set_option maxRecDepth 20000 in
set_option maxHeartbeats 4000000 in
theorem bX5_rewind_0 {G : zG} {d : Nat} {M : zM} {Q : zV → zM → Prop} (hG : zP G)
    (h : Q (9, 0) (zset M 184 1 0)) :
    Y G d mX5_rewind 0 [(2, 184)] [] M Q := by
  refine z_aloadn dX5_rewind_0 rfl (Or.inl rfl) ?_
  refine z_iconst dX5_rewind_1 ki_0 ?_
  refine y_putf (M' := zset M 184 1 0) hG dX5_rewind_2 fX5_13 sh184 (by decide) ⟨rfl, rfl⟩ p5_1 (fun q => absurd q (by decide)) (by decide) rfl ?_
  exact z_return dX5_rewind_5 rfl rfl h
set_option maxRecDepth 20000 in
set_option maxHeartbeats 4000000 in
theorem bX5_put_0 {G : zG} {d : Nat} {M : zM} {Q : zV → zM → Prop} (hG : zP G) {x1 : Int}
    (h : ((128 ≤ (M 184 1) → Q (9, 0) M) ∧ ((M 184 1) < 128 → (0 ≤ (M 184 1) ∧ (M 184 1) < 128) ∧ (-2147483648 ≤ (M 184 1) + 1 ∧ (M 184 1) + 1 ≤ 2147483647) ∧ Q (9, 0) (zset (zset M 185 (M 184 1) x1) 184 1 ((M 184 1) + 1))))) :
    Y G d mX5_put 0 [(2, 184), (0, x1)] [] M Q := by
  refine z_aloadn dX5_put_0 rfl (Or.inl rfl) ?_
  refine y_getf (x := (M 184 1)) dX5_put_1 fX5_13 sh184 (by decide) rfl rfl ?_
  refine z_aloadn dX5_put_4 rfl (Or.inl rfl) ?_
  refine y_getr (v := 185) hG dX5_put_5 fX5_7 sh184 (by decide) rfl (by decide +kernel) (by decide) ?_
  refine y_alen (x := 128) dX5_put_8 sh185 (by decide) (by decide) rfl ?_
  refine z_icmpge (tgt := 32) dX5_put_9 rfl (fun q => ?_) (fun q => ?_)
  · replace h := h.1 q
    exact z_return dX5_put_32 rfl rfl h
  · replace h := h.2 q
    refine z_aloadn dX5_put_12 rfl (Or.inl rfl) ?_
    refine y_getr (v := 185) hG dX5_put_13 fX5_7 sh184 (by decide) rfl (by decide +kernel) (by decide) ?_
    refine z_aloadn dX5_put_16 rfl (Or.inl rfl) ?_
    refine y_getf (x := (M 184 1)) dX5_put_17 fX5_13 sh184 (by decide) rfl rfl ?_
    refine z_iloadn dX5_put_20 rfl ?_
    obtain ⟨q1, h⟩ := h
    refine y_iast hG dX5_put_21 sh185 q1 ?_
    refine z_aloadn dX5_put_22 rfl (Or.inl rfl) ?_
    refine z_dup dX5_put_23 (show (2 : Nat) ≠ 1 by decide) ?_
    refine y_getf (x := (M 184 1)) dX5_put_24 fX5_13 sh184 (by decide) rfl (zset_ne (fun q => absurd q.1 (by decide))) ?_
    refine z_iconst dX5_put_27 ki_1 ?_
    obtain ⟨q2, h⟩ := h
    refine z_iadd dX5_put_28 q2 ?_
    refine y_putf (M' := zset (zset M 185 (M 184 1) x1) 184 1 ((M 184 1) + 1)) hG dX5_put_29 fX5_13 sh184 (by decide) ⟨rfl, rfl⟩ p5_1 (fun q => absurd q (by decide)) (by decide) rfl ?_
    exact z_return dX5_put_32 rfl rfl h
set_option maxRecDepth 20000 in
set_option maxHeartbeats 4000000 in
theorem bX5_take_0 {G : zG} {d : Nat} {M : zM} {Q : zV → zM → Prop} (hG : zP G)
    (h : (((M 184 1) < 128 → (-2147483648 ≤ (M 184 1) + 1 ∧ (M 184 1) + 1 ≤ 2147483647) ∧ (-2147483648 ≤ ((M 184 1) + 1) - 1 ∧ ((M 184 1) + 1) - 1 ≤ 2147483647) ∧ (0 ≤ (((M 184 1) + 1) - 1) ∧ (((M 184 1) + 1) - 1) < 128) ∧ Q (0, (M 185 (((M 184 1) + 1) - 1))) (zset M 184 1 ((M 184 1) + 1))) ∧ (128 ≤ (M 184 1) → Q (0, 0) M))) :
    Y G d mX5_take 0 [(2, 184)] [] M Q := by
  refine z_aloadn dX5_take_0 rfl (Or.inl rfl) ?_
  refine y_getf (x := (M 184 1)) dX5_take_1 fX5_13 sh184 (by decide) rfl rfl ?_
  refine z_aloadn dX5_take_4 rfl (Or.inl rfl) ?_
  refine y_getr (v := 185) hG dX5_take_5 fX5_7 sh184 (by decide) rfl (by decide +kernel) (by decide) ?_
  refine y_alen (x := 128) dX5_take_8 sh185 (by decide) (by decide) rfl ?_
  refine z_icmplt (tgt := 14) dX5_take_9 rfl (fun q => ?_) (fun q => ?_)
  · replace h := h.1 q
    refine z_aloadn dX5_take_14 rfl (Or.inl rfl) ?_
    refine z_dup dX5_take_15 (show (2 : Nat) ≠ 1 by decide) ?_
    refine y_getf (x := (M 184 1)) dX5_take_16 fX5_13 sh184 (by decide) rfl rfl ?_
    refine z_iconst dX5_take_19 ki_1 ?_
    obtain ⟨q1, h⟩ := h
    refine z_iadd dX5_take_20 q1 ?_
    refine y_putf (M' := zset M 184 1 ((M 184 1) + 1)) hG dX5_take_21 fX5_13 sh184 (by decide) ⟨rfl, rfl⟩ p5_1 (fun q => absurd q (by decide)) (by decide) rfl ?_
    refine z_aloadn dX5_take_24 rfl (Or.inl rfl) ?_
    refine y_getr (v := 185) hG dX5_take_25 fX5_7 sh184 (by decide) rfl (by decide +kernel) (by decide) ?_
    refine z_aloadn dX5_take_28 rfl (Or.inl rfl) ?_
    refine y_getf (x := ((M 184 1) + 1)) dX5_take_29 fX5_13 sh184 (by decide) rfl zset_same ?_
    refine z_iconst dX5_take_32 ki_1 ?_
    obtain ⟨q2, h⟩ := h
    refine z_isub dX5_take_33 q2 ?_
    obtain ⟨q3, h⟩ := h
    refine y_iald (x := (M 185 (((M 184 1) + 1) - 1))) dX5_take_34 sh185 q3 (zset_ne (fun q => absurd q.1 (by decide))) ?_
    exact z_ireturn dX5_take_35 (Or.inl rfl) rfl h
  · replace h := h.2 q
    refine z_iconst dX5_take_12 ki_0 ?_
    exact z_ireturn dX5_take_13 (Or.inl rfl) rfl h
set_option maxRecDepth 20000 in
set_option maxHeartbeats 4000000 in
theorem bX5_putAll_0 {G : zG} {d : Nat} {M : zM} {Q : zV → zM → Prop} (hG : zP G) {r1 : Int} {nr1 : Nat} (hr1 : zsh r1.toNat = (100, nr1))
    (h : Y G (d + 1) mX5_putAll 2 [(2, 184), (2, r1), (0, 0)] [] M Q) :
    Y G (d + 1) mX5_putAll 0 [(2, 184), (2, r1), (9, 0)] [] M Q := by
  refine z_iconst dX5_putAll_0 ki_0 ?_
  refine y_istoren (ls' := [(2, 184), (2, r1), (0, 0)]) dX5_putAll_1 rfl rfl ?_
  exact h
set_option maxRecDepth 20000 in
set_option maxHeartbeats 4000000 in
theorem bX5_putAll_2 {G : zG} {d : Nat} {M : zM} {Q : zV → zM → Prop} (hG : zP G) {r1 x2 : Int} {nr1 : Nat} (hr1 : zsh r1.toNat = (100, nr1))
    (h : (nr1 ≠ 0) ∧ (((nr1 : Int) ≤ x2 → Q (9, 0) M) ∧ (x2 < (nr1 : Int) → (0 ≤ x2 ∧ x2 < (nr1 : Int)) ∧ Y G d mX5_put 0 [(2, 184), (0, (M r1 x2))] [] M (fun r M' => Y G (d + 1) mX5_putAll 15 [(2, 184), (2, r1), (0, x2)] (zpush r []) M' Q)))) :
    Y G (d + 1) mX5_putAll 2 [(2, 184), (2, r1), (0, x2)] [] M Q := by
  refine z_iloadn dX5_putAll_2 rfl ?_
  refine z_aloadn dX5_putAll_3 rfl (Or.inl rfl) ?_
  obtain ⟨q1, h⟩ := h
  refine y_alen (x := (nr1 : Int)) dX5_putAll_4 hr1 (by decide) q1 rfl ?_
  refine z_icmpge (tgt := 21) dX5_putAll_5 rfl (fun q => ?_) (fun q => ?_)
  · replace h := h.1 q
    exact z_return dX5_putAll_21 rfl rfl h
  · replace h := h.2 q
    refine z_aloadn dX5_putAll_8 rfl (Or.inl rfl) ?_
    refine z_aloadn dX5_putAll_9 rfl (Or.inl rfl) ?_
    refine z_iloadn dX5_putAll_10 rfl ?_
    obtain ⟨q2, h⟩ := h
    refine y_iald (x := (M r1 x2)) dX5_putAll_11 hr1 q2 rfl ?_
    refine y_cv (mt2 := mX5_put) (en := [(2, 184), (0, (M r1 x2))]) (st := []) (as := [(0, (M r1 x2))]) dX5_putAll_12 lX5_17 kX5_put iX5_put eX5_put rfl sh184 (by decide +kernel) (Nat.le_of_ble_eq_true rfl) (Nat.le_of_ble_eq_true rfl) rfl ?_
    exact h
set_option maxRecDepth 20000 in
set_option maxHeartbeats 4000000 in
theorem bX5_putAll_15 {G : zG} {d : Nat} {M : zM} {Q : zV → zM → Prop} (hG : zP G) {r1 x2 : Int} {nr1 : Nat} (hr1 : zsh r1.toNat = (100, nr1))
    (h : (-2147483648 ≤ x2 + 1 ∧ x2 + 1 ≤ 2147483647) ∧ Y G (d + 1) mX5_putAll 2 [(2, 184), (2, r1), (0, (x2 + 1))] [] M Q) :
    Y G (d + 1) mX5_putAll 15 [(2, 184), (2, r1), (0, x2)] [] M Q := by
  obtain ⟨q1, h⟩ := h
  refine y_iinc (ls' := [(2, 184), (2, r1), (0, (x2 + 1))]) dX5_putAll_15 rfl rfl q1 rfl ?_
  refine z_goto (tgt := 2) dX5_putAll_18 rfl ?_
  exact h
set_option maxRecDepth 20000 in
set_option maxHeartbeats 4000000 in
theorem bX5_takeAll_0 {G : zG} {d : Nat} {M : zM} {Q : zV → zM → Prop} (hG : zP G) {r1 : Int} {nr1 : Nat} (hr1 : zsh r1.toNat = (100, nr1))
    (h : Y G (d + 1) mX5_takeAll 2 [(2, 184), (2, r1), (0, 0)] [] M Q) :
    Y G (d + 1) mX5_takeAll 0 [(2, 184), (2, r1), (9, 0)] [] M Q := by
  refine z_iconst dX5_takeAll_0 ki_0 ?_
  refine y_istoren (ls' := [(2, 184), (2, r1), (0, 0)]) dX5_takeAll_1 rfl rfl ?_
  exact h
set_option maxRecDepth 20000 in
set_option maxHeartbeats 4000000 in
theorem bX5_takeAll_2 {G : zG} {d : Nat} {M : zM} {Q : zV → zM → Prop} (hG : zP G) {r1 x2 : Int} {nr1 : Nat} (hr1 : zsh r1.toNat = (100, nr1))
    (h : (nr1 ≠ 0) ∧ (((nr1 : Int) ≤ x2 → Q (9, 0) M) ∧ (x2 < (nr1 : Int) → Y G d mX5_take 0 [(2, 184)] [] M (fun r M' => Y G (d + 1) mX5_takeAll 14 [(2, 184), (2, r1), (0, x2)] (zpush r [(0, x2), (2, r1)]) M' Q)))) :
    Y G (d + 1) mX5_takeAll 2 [(2, 184), (2, r1), (0, x2)] [] M Q := by
  refine z_iloadn dX5_takeAll_2 rfl ?_
  refine z_aloadn dX5_takeAll_3 rfl (Or.inl rfl) ?_
  obtain ⟨q1, h⟩ := h
  refine y_alen (x := (nr1 : Int)) dX5_takeAll_4 hr1 (by decide) q1 rfl ?_
  refine z_icmpge (tgt := 21) dX5_takeAll_5 rfl (fun q => ?_) (fun q => ?_)
  · replace h := h.1 q
    exact z_return dX5_takeAll_21 rfl rfl h
  · replace h := h.2 q
    refine z_aloadn dX5_takeAll_8 rfl (Or.inl rfl) ?_
    refine z_iloadn dX5_takeAll_9 rfl ?_
    refine z_aloadn dX5_takeAll_10 rfl (Or.inl rfl) ?_
    refine y_cv (mt2 := mX5_take) (en := [(2, 184)]) (st := [(0, x2), (2, r1)]) (as := []) dX5_takeAll_11 lX5_21 kX5_take iX5_take eX5_take rfl sh184 (by decide +kernel) (Nat.le_of_ble_eq_true rfl) (Nat.le_of_ble_eq_true rfl) rfl ?_
    exact h
set_option maxRecDepth 20000 in
set_option maxHeartbeats 4000000 in
theorem bX5_takeAll_14 {G : zG} {d : Nat} {M : zM} {Q : zV → zM → Prop} (hG : zP G) {r1 x2 x49 x50 : Int} {nr1 : Nat} (hr1 : zsh r1.toNat = (100, nr1))
    (h : (0 ≤ x50 ∧ x50 < (nr1 : Int)) ∧ (-2147483648 ≤ x2 + 1 ∧ x2 + 1 ≤ 2147483647) ∧ Y G (d + 1) mX5_takeAll 2 [(2, 184), (2, r1), (0, (x2 + 1))] [] (zset M r1 x50 x49) Q) :
    Y G (d + 1) mX5_takeAll 14 [(2, 184), (2, r1), (0, x2)] [(0, x49), (0, x50), (2, r1)] M Q := by
  obtain ⟨q1, h⟩ := h
  refine y_iast hG dX5_takeAll_14 hr1 q1 ?_
  obtain ⟨q2, h⟩ := h
  refine y_iinc (ls' := [(2, 184), (2, r1), (0, (x2 + 1))]) dX5_takeAll_15 rfl rfl q2 rfl ?_
  refine z_goto (tgt := 2) dX5_takeAll_18 rfl ?_
  exact h
