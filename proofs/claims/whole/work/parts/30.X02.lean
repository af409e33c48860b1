set_option maxRecDepth 20000 in
set_option maxHeartbeats 4000000 in
theorem bX2_orderFrom_0 {G : zG} {d : Nat} {M : zM} {Q : zV → zM → Prop} (hG : zP G) {x1 x2 x3 : Int}
    (h : ((x3 < (M 165 4) → Y G (d + 1) mX2_orderFrom 13 [(2, 165), (0, x1), (0, x2), (0, x3), (0, 0), (9, 0)] [] M Q) ∧ ((M 165 4) ≤ x3 → Q (0, 1) M))) :
    Y G (d + 1) mX2_orderFrom 0 [(2, 165), (0, x1), (0, x2), (0, x3), (9, 0), (9, 0)] [] M Q := by
  refine z_iloadn dX2_orderFrom_0 rfl ?_
  refine z_aloadn dX2_orderFrom_1 rfl (Or.inl rfl) ?_
  refine y_getf (x := (M 165 4)) dX2_orderFrom_2 fX2_31 sh165 (by decide) rfl rfl ?_
  refine z_icmplt (tgt := 10) dX2_orderFrom_5 rfl (fun q => ?_) (fun q => ?_)
  · replace h := h.1 q
    refine z_iconst dX2_orderFrom_10 ki_0 ?_
    refine y_istore (ls' := [(2, 165), (0, x1), (0, x2), (0, x3), (0, 0), (9, 0)]) dX2_orderFrom_11 rfl rfl ?_
    exact h
  · replace h := h.2 q
    refine z_iconst dX2_orderFrom_8 ki_1 ?_
    exact z_ireturn dX2_orderFrom_9 (Or.inr ⟨rfl, ⟨by decide, by decide⟩⟩) rfl h
set_option maxRecDepth 20000 in
set_option maxHeartbeats 4000000 in
theorem bX2_orderFrom_13 {G : zG} {d : Nat} {M : zM} {Q : zV → zM → Prop} (hG : zP G) {x1 x2 x3 x4 : Int}
    (h : (((M 165 4) ≤ x4 → Q (0, 0) M) ∧ (x4 < (M 165 4) → (0 ≤ x4 ∧ x4 < 6) ∧ Y G d mX2_lowestOf 0 [(2, 165), (0, (zand (M 166 x4) (zxor x2 (-1)))), (9, 0)] [] M (fun r M' => Y G (d + 1) mX2_orderFrom 37 [(2, 165), (0, x1), (0, x2), (0, x3), (0, x4), (9, 0)] (zpush r []) M' Q)))) :
    Y G (d + 1) mX2_orderFrom 13 [(2, 165), (0, x1), (0, x2), (0, x3), (0, x4), (9, 0)] [] M Q := by
  refine z_iload dX2_orderFrom_13 rfl ?_
  refine z_aloadn dX2_orderFrom_15 rfl (Or.inl rfl) ?_
  refine y_getf (x := (M 165 4)) dX2_orderFrom_16 fX2_31 sh165 (by decide) rfl rfl ?_
  refine z_icmpge (tgt := 95) dX2_orderFrom_19 rfl (fun q => ?_) (fun q => ?_)
  · replace h := h.1 q
    refine z_iconst dX2_orderFrom_95 ki_0 ?_
    exact z_ireturn dX2_orderFrom_96 (Or.inr ⟨rfl, ⟨by decide, by decide⟩⟩) rfl h
  · replace h := h.2 q
    refine z_aloadn dX2_orderFrom_22 rfl (Or.inl rfl) ?_
    refine z_aloadn dX2_orderFrom_23 rfl (Or.inl rfl) ?_
    refine y_getr (v := 166) hG dX2_orderFrom_24 fX2_9 sh165 (by decide) rfl (by decide +kernel) (by decide) ?_
    refine z_iload dX2_orderFrom_27 rfl ?_
    obtain ⟨q1, h⟩ := h
    refine y_iald (x := (M 166 x4)) dX2_orderFrom_29 sh166 q1 rfl ?_
    refine z_iloadn dX2_orderFrom_30 rfl ?_
    refine z_iconst dX2_orderFrom_31 ki_m1 ?_
    refine z_ixor dX2_orderFrom_32 ?_
    refine z_iand dX2_orderFrom_33 ?_
    refine y_cv (mt2 := mX2_lowestOf) (en := [(2, 165), (0, (zand (M 166 x4) (zxor x2 (-1)))), (9, 0)]) (st := []) (as := [(0, (zand (M 166 x4) (zxor x2 (-1))))]) dX2_orderFrom_34 lX2_64 kX2_lowestOf iX2_lowestOf eX2_lowestOf rfl sh165 (by decide +kernel) (Nat.le_of_ble_eq_true rfl) (Nat.le_of_ble_eq_true rfl) rfl ?_
    exact h
set_option maxRecDepth 20000 in
set_option maxHeartbeats 4000000 in
theorem bX2_orderFrom_37 {G : zG} {d : Nat} {M : zM} {Q : zV → zM → Prop} (hG : zP G) {x1 x2 x3 x4 x49 : Int}
    (h : ((¬ (zand (zshr x1 x4) 1) = 0 → (-2147483648 ≤ x4 + 1 ∧ x4 + 1 ≤ 2147483647) ∧ Y G (d + 1) mX2_orderFrom 13 [(2, 165), (0, x1), (0, x2), (0, x3), (0, (x4 + 1)), (9, 0)] [] M Q) ∧ ((zand (zshr x1 x4) 1) = 0 → ((x49 = (-1) → (-2147483648 ≤ x4 + 1 ∧ x4 + 1 ≤ 2147483647) ∧ Y G (d + 1) mX2_orderFrom 13 [(2, 165), (0, x1), (0, x2), (0, x3), (0, (x4 + 1)), (9, 0)] [] M Q) ∧ (¬ x49 = (-1) → (0 ≤ x3 ∧ x3 < 6) ∧ (0 ≤ x49 ∧ x49 < 12) ∧ (-2147483648 ≤ x3 + 1 ∧ x3 + 1 ≤ 2147483647) ∧ Y G d mX2_orderFrom 0 [(2, 165), (0, (zor x1 (zshl 1 x4))), (0, (zor x2 (M 167 x49))), (0, (x3 + 1)), (9, 0), (9, 0)] [] (zset M 169 x3 x4) (fun r M' => Y G (d + 1) mX2_orderFrom 84 [(2, 165), (0, x1), (0, x2), (0, x3), (0, x4), (0, x49)] (zpush r []) M' Q)))))) :
    Y G (d + 1) mX2_orderFrom 37 [(2, 165), (0, x1), (0, x2), (0, x3), (0, x4), (9, 0)] [(0, x49)] M Q := by
  refine y_istore (ls' := [(2, 165), (0, x1), (0, x2), (0, x3), (0, x4), (0, x49)]) dX2_orderFrom_37 rfl rfl ?_
  refine z_iloadn dX2_orderFrom_39 rfl ?_
  refine z_iload dX2_orderFrom_40 rfl ?_
  refine z_ishr dX2_orderFrom_42 ?_
  refine z_iconst dX2_orderFrom_43 ki_1 ?_
  refine z_iand dX2_orderFrom_44 ?_
  refine z_ifne (tgt := 89) dX2_orderFrom_45 rfl (fun q => ?_) (fun q => ?_)
  · replace h := h.1 q
    obtain ⟨q1, h⟩ := h
    refine y_iinc (ls' := [(2, 165), (0, x1), (0, x2), (0, x3), (0, (x4 + 1)), (0, x49)]) dX2_orderFrom_89 rfl rfl q1 rfl ?_
    refine z_goto (tgt := 13) dX2_orderFrom_92 rfl ?_
    refine z_sub (ls' := [(2, 165), (0, x1), (0, x2), (0, x3), (0, (x4 + 1)), (9, 0)]) ⟨Or.inl rfl, Or.inl rfl, Or.inl rfl, Or.inl rfl, Or.inl rfl, Or.inr rfl, trivial⟩ ?_
    exact h
  · replace h := h.2 q
    refine z_iload dX2_orderFrom_48 rfl ?_
    refine z_iconst dX2_orderFrom_50 ki_m1 ?_
    refine z_icmpeq (tgt := 89) dX2_orderFrom_51 rfl (fun q => ?_) (fun q => ?_)
    · replace h := h.1 q
      obtain ⟨q2, h⟩ := h
      refine y_iinc (ls' := [(2, 165), (0, x1), (0, x2), (0, x3), (0, (x4 + 1)), (0, x49)]) dX2_orderFrom_89 rfl rfl q2 rfl ?_
      refine z_goto (tgt := 13) dX2_orderFrom_92 rfl ?_
      refine z_sub (ls' := [(2, 165), (0, x1), (0, x2), (0, x3), (0, (x4 + 1)), (9, 0)]) ⟨Or.inl rfl, Or.inl rfl, Or.inl rfl, Or.inl rfl, Or.inl rfl, Or.inr rfl, trivial⟩ ?_
      exact h
    · replace h := h.2 q
      refine z_aloadn dX2_orderFrom_54 rfl (Or.inl rfl) ?_
      refine y_getr (v := 169) hG dX2_orderFrom_55 fX2_22 sh165 (by decide) rfl (by decide +kernel) (by decide) ?_
      refine z_iloadn dX2_orderFrom_58 rfl ?_
      refine z_iload dX2_orderFrom_59 rfl ?_
      obtain ⟨q3, h⟩ := h
      refine y_iast hG dX2_orderFrom_61 sh169 q3 ?_
      refine z_aloadn dX2_orderFrom_62 rfl (Or.inl rfl) ?_
      refine z_iloadn dX2_orderFrom_63 rfl ?_
      refine z_iconst dX2_orderFrom_64 ki_1 ?_
      refine z_iload dX2_orderFrom_65 rfl ?_
      refine z_ishl dX2_orderFrom_67 ?_
      refine z_ior dX2_orderFrom_68 ?_
      refine z_iloadn dX2_orderFrom_69 rfl ?_
      refine z_aloadn dX2_orderFrom_70 rfl (Or.inl rfl) ?_
      refine y_getr (v := 167) hG dX2_orderFrom_71 fX2_15 sh165 (by decide) rfl (by decide +kernel) (by decide) ?_
      refine z_iload dX2_orderFrom_74 rfl ?_
      obtain ⟨q4, h⟩ := h
      refine y_iald (x := (M 167 x49)) dX2_orderFrom_76 sh167 q4 (zset_ne (fun q => absurd q.1 (by decide))) ?_
      refine z_ior dX2_orderFrom_77 ?_
      refine z_iloadn dX2_orderFrom_78 rfl ?_
      refine z_iconst dX2_orderFrom_79 ki_1 ?_
      obtain ⟨q5, h⟩ := h
      refine z_iadd dX2_orderFrom_80 q5 ?_
      refine y_cv (mt2 := mX2_orderFrom) (en := [(2, 165), (0, (zor x1 (zshl 1 x4))), (0, (zor x2 (M 167 x49))), (0, (x3 + 1)), (9, 0), (9, 0)]) (st := []) (as := [(0, (zor x1 (zshl 1 x4))), (0, (zor x2 (M 167 x49))), (0, (x3 + 1))]) dX2_orderFrom_81 lX2_85 kX2_orderFrom iX2_orderFrom eX2_orderFrom rfl sh165 (by decide +kernel) (Nat.le_of_ble_eq_true rfl) (Nat.le_of_ble_eq_true rfl) rfl ?_
      exact h
set_option maxRecDepth 20000 in
set_option maxHeartbeats 4000000 in
theorem bX2_orderFrom_84 {G : zG} {d : Nat} {M : zM} {Q : zV → zM → Prop} (hG : zP G) {x1 x2 x3 x4 x5 x49 : Int}
    (h : ((x49 = 0 → (-2147483648 ≤ x4 + 1 ∧ x4 + 1 ≤ 2147483647) ∧ Y G (d + 1) mX2_orderFrom 13 [(2, 165), (0, x1), (0, x2), (0, x3), (0, (x4 + 1)), (9, 0)] [] M Q) ∧ (¬ x49 = 0 → Q (0, 1) M))) :
    Y G (d + 1) mX2_orderFrom 84 [(2, 165), (0, x1), (0, x2), (0, x3), (0, x4), (0, x5)] [(0, x49)] M Q := by
  refine z_ifeq (tgt := 89) dX2_orderFrom_84 rfl (fun q => ?_) (fun q => ?_)
  · replace h := h.1 q
    obtain ⟨q1, h⟩ := h
    refine y_iinc (ls' := [(2, 165), (0, x1), (0, x2), (0, x3), (0, (x4 + 1)), (0, x5)]) dX2_orderFrom_89 rfl rfl q1 rfl ?_
    refine z_goto (tgt := 13) dX2_orderFrom_92 rfl ?_
    refine z_sub (ls' := [(2, 165), (0, x1), (0, x2), (0, x3), (0, (x4 + 1)), (9, 0)]) ⟨Or.inl rfl, Or.inl rfl, Or.inl rfl, Or.inl rfl, Or.inl rfl, Or.inr rfl, trivial⟩ ?_
    exact h
  · replace h := h.2 q
    refine z_iconst dX2_orderFrom_87 ki_1 ?_
    exact z_ireturn dX2_orderFrom_88 (Or.inr ⟨rfl, ⟨by decide, by decide⟩⟩) rfl h
set_option maxRecDepth 20000 in
set_option maxHeartbeats 4000000 in
theorem bX2_winningStart_0 {G : zG} {d : Nat} {M : zM} {Q : zV → zM → Prop} (hG : zP G) {x1 x2 : Int}
    (h : Y G (d + 1) mX2_winningStart 2 [(2, 165), (0, x1), (0, x2), (0, 0)] [] M Q) :
    Y G (d + 1) mX2_winningStart 0 [(2, 165), (0, x1), (0, x2), (9, 0)] [] M Q := by
  refine z_iconst dX2_winningStart_0 ki_0 ?_
  refine y_istoren (ls' := [(2, 165), (0, x1), (0, x2), (0, 0)]) dX2_winningStart_1 rfl rfl ?_
  exact h
set_option maxRecDepth 20000 in
set_option maxHeartbeats 4000000 in
theorem bX2_winningStart_2 {G : zG} {d : Nat} {M : zM} {Q : zV → zM → Prop} (hG : zP G) {x1 x2 x3 : Int}
    (h : (((M 165 5) ≤ x3 → Q (0, (-1)) M) ∧ (x3 < (M 165 5) → (0 ≤ x1 ∧ x1 < 6) ∧ (((zand (zshr (M 166 x1) x3) 1) = 0 → (-2147483648 ≤ x3 + 1 ∧ x3 + 1 ≤ 2147483647) ∧ Y G (d + 1) mX2_winningStart 2 [(2, 165), (0, x1), (0, x2), (0, (x3 + 1))] [] M Q) ∧ (¬ (zand (zshr (M 166 x1) x3) 1) = 0 → (0 ≤ x2 ∧ x2 < 6) ∧ (0 ≤ x3 ∧ x3 < 12) ∧ (0 ≤ x1 ∧ x1 < 6) ∧ (0 ≤ x3 ∧ x3 < 12) ∧ Y G d mX2_winsFrom 0 [(2, 165), (0, (zand (M 166 x2) (zxor (M 167 x3) (-1)))), (0, (zand (M 166 x1) (zxor (M 167 x3) (-1)))), (9, 0), (9, 0), (9, 0), (9, 0), (9, 0), (9, 0)] [] M (fun r M' => Y G (d + 1) mX2_winningStart 57 [(2, 165), (0, x1), (0, x2), (0, x3)] (zpush r []) M' Q)))))) :
    Y G (d + 1) mX2_winningStart 2 [(2, 165), (0, x1), (0, x2), (0, x3)] [] M Q := by
  refine z_iloadn dX2_winningStart_2 rfl ?_
  refine z_aloadn dX2_winningStart_3 rfl (Or.inl rfl) ?_
  refine y_getf (x := (M 165 5)) dX2_winningStart_4 fX2_37 sh165 (by decide) rfl rfl ?_
  refine z_icmpge (tgt := 68) dX2_winningStart_7 rfl (fun q => ?_) (fun q => ?_)
  · replace h := h.1 q
    refine z_iconst dX2_winningStart_68 ki_m1 ?_
    exact z_ireturn dX2_winningStart_69 (Or.inl rfl) rfl h
  · replace h := h.2 q
    refine z_aloadn dX2_winningStart_10 rfl (Or.inl rfl) ?_
    refine y_getr (v := 166) hG dX2_winningStart_11 fX2_9 sh165 (by decide) rfl (by decide +kernel) (by decide) ?_
    refine z_iloadn dX2_winningStart_14 rfl ?_
    obtain ⟨q1, h⟩ := h
    refine y_iald (x := (M 166 x1)) dX2_winningStart_15 sh166 q1 rfl ?_
    refine z_iloadn dX2_winningStart_16 rfl ?_
    refine z_ishr dX2_winningStart_17 ?_
    refine z_iconst dX2_winningStart_18 ki_1 ?_
    refine z_iand dX2_winningStart_19 ?_
    refine z_ifeq (tgt := 62) dX2_winningStart_20 rfl (fun q => ?_) (fun q => ?_)
    · replace h := h.1 q
      obtain ⟨q2, h⟩ := h
      refine y_iinc (ls' := [(2, 165), (0, x1), (0, x2), (0, (x3 + 1))]) dX2_winningStart_62 rfl rfl q2 rfl ?_
      refine z_goto (tgt := 2) dX2_winningStart_65 rfl ?_
      exact h
    · replace h := h.2 q
      refine z_aloadn dX2_winningStart_23 rfl (Or.inl rfl) ?_
      refine z_aloadn dX2_winningStart_24 rfl (Or.inl rfl) ?_
      refine y_getr (v := 166) hG dX2_winningStart_25 fX2_9 sh165 (by decide) rfl (by decide +kernel) (by decide) ?_
      refine z_iloadn dX2_winningStart_28 rfl ?_
      obtain ⟨q3, h⟩ := h
      refine y_iald (x := (M 166 x2)) dX2_winningStart_29 sh166 q3 rfl ?_
      refine z_aloadn dX2_winningStart_30 rfl (Or.inl rfl) ?_
      refine y_getr (v := 167) hG dX2_winningStart_31 fX2_15 sh165 (by decide) rfl (by decide +kernel) (by decide) ?_
      refine z_iloadn dX2_winningStart_34 rfl ?_
      obtain ⟨q4, h⟩ := h
      refine y_iald (x := (M 167 x3)) dX2_winningStart_35 sh167 q4 rfl ?_
      refine z_iconst dX2_winningStart_36 ki_m1 ?_
      refine z_ixor dX2_winningStart_37 ?_
      refine z_iand dX2_winningStart_38 ?_
      refine z_aloadn dX2_winningStart_39 rfl (Or.inl rfl) ?_
      refine y_getr (v := 166) hG dX2_winningStart_40 fX2_9 sh165 (by decide) rfl (by decide +kernel) (by decide) ?_
      refine z_iloadn dX2_winningStart_43 rfl ?_
      obtain ⟨q5, h⟩ := h
      refine y_iald (x := (M 166 x1)) dX2_winningStart_44 sh166 q5 rfl ?_
      refine z_aloadn dX2_winningStart_45 rfl (Or.inl rfl) ?_
      refine y_getr (v := 167) hG dX2_winningStart_46 fX2_15 sh165 (by decide) rfl (by decide +kernel) (by decide) ?_
      refine z_iloadn dX2_winningStart_49 rfl ?_
      obtain ⟨q6, h⟩ := h
      refine y_iald (x := (M 167 x3)) dX2_winningStart_50 sh167 q6 rfl ?_
      refine z_iconst dX2_winningStart_51 ki_m1 ?_
      refine z_ixor dX2_winningStart_52 ?_
      refine z_iand dX2_winningStart_53 ?_
      refine y_cv (mt2 := mX2_winsFrom) (en := [(2, 165), (0, (zand (M 166 x2) (zxor (M 167 x3) (-1)))), (0, (zand (M 166 x1) (zxor (M 167 x3) (-1)))), (9, 0), (9, 0), (9, 0), (9, 0), (9, 0), (9, 0)]) (st := []) (as := [(0, (zand (M 166 x2) (zxor (M 167 x3) (-1)))), (0, (zand (M 166 x1) (zxor (M 167 x3) (-1))))]) dX2_winningStart_54 lX2_89 kX2_winsFrom iX2_winsFrom eX2_winsFrom rfl sh165 (by decide +kernel) (Nat.le_of_ble_eq_true rfl) (Nat.le_of_ble_eq_true rfl) rfl ?_
      exact h
set_option maxRecDepth 20000 in
set_option maxHeartbeats 4000000 in
theorem bX2_winningStart_57 {G : zG} {d : Nat} {M : zM} {Q : zV → zM → Prop} (hG : zP G) {x1 x2 x3 x49 : Int}
    (h : ((¬ x49 = 0 → (-2147483648 ≤ x3 + 1 ∧ x3 + 1 ≤ 2147483647) ∧ Y G (d + 1) mX2_winningStart 2 [(2, 165), (0, x1), (0, x2), (0, (x3 + 1))] [] M Q) ∧ (x49 = 0 → Q (0, x3) M))) :
    Y G (d + 1) mX2_winningStart 57 [(2, 165), (0, x1), (0, x2), (0, x3)] [(0, x49)] M Q := by
  refine z_ifne (tgt := 62) dX2_winningStart_57 rfl (fun q => ?_) (fun q => ?_)
  · replace h := h.1 q
    obtain ⟨q1, h⟩ := h
    refine y_iinc (ls' := [(2, 165), (0, x1), (0, x2), (0, (x3 + 1))]) dX2_winningStart_62 rfl rfl q1 rfl ?_
    refine z_goto (tgt := 2) dX2_winningStart_65 rfl ?_
    exact h
  · replace h := h.2 q
    refine z_iloadn dX2_winningStart_60 rfl ?_
    exact z_ireturn dX2_winningStart_61 (Or.inl rfl) rfl h
set_option maxRecDepth 20000 in
set_option maxHeartbeats 4000000 in
theorem bX2_winsFrom_0 {G : zG} {d : Nat} {M : zM} {Q : zV → zM → Prop} (hG : zP G) {x1 x2 : Int}
    (h : Y G (d + 1) mX2_winsFrom 11 [(2, 165), (0, x1), (0, x2), (0, 0), (0, 0), (0, 0), (0, 0), (9, 0), (9, 0)] [] M Q) :
    Y G (d + 1) mX2_winsFrom 0 [(2, 165), (0, x1), (0, x2), (9, 0), (9, 0), (9, 0), (9, 0), (9, 0), (9, 0)] [] M Q := by
  refine z_iconst dX2_winsFrom_0 ki_0 ?_
  refine y_istoren (ls' := [(2, 165), (0, x1), (0, x2), (0, 0), (9, 0), (9, 0), (9, 0), (9, 0), (9, 0)]) dX2_winsFrom_1 rfl rfl ?_
  refine z_iconst dX2_winsFrom_2 ki_0 ?_
  refine y_istore (ls' := [(2, 165), (0, x1), (0, x2), (0, 0), (0, 0), (9, 0), (9, 0), (9, 0), (9, 0)]) dX2_winsFrom_3 rfl rfl ?_
  refine z_iconst dX2_winsFrom_5 ki_0 ?_
  refine y_istore (ls' := [(2, 165), (0, x1), (0, x2), (0, 0), (0, 0), (0, 0), (9, 0), (9, 0), (9, 0)]) dX2_winsFrom_6 rfl rfl ?_
  refine z_iconst dX2_winsFrom_8 ki_0 ?_
  refine y_istore (ls' := [(2, 165), (0, x1), (0, x2), (0, 0), (0, 0), (0, 0), (0, 0), (9, 0), (9, 0)]) dX2_winsFrom_9 rfl rfl ?_
  exact h
set_option maxRecDepth 20000 in
set_option maxHeartbeats 4000000 in
theorem bX2_winsFrom_11 {G : zG} {d : Nat} {M : zM} {Q : zV → zM → Prop} (hG : zP G) {x1 x2 x3 x4 x5 x6 : Int}
    (h : (((M 165 5) ≤ x6 → Y G d mX2_moverWins 0 [(0, x3), (0, x4), (0, x5), (0, 0)] [] M (fun r M' => Y G (d + 1) mX2_winsFrom 147 [(2, 165), (0, x1), (0, x2), (0, x3), (0, x4), (0, x5), (0, x6), (9, 0), (9, 0)] (zpush r []) M' Q)) ∧ (x6 < (M 165 5) → (0 ≤ x6 ∧ x6 < 12) ∧ Y G d mX2_lowestOf 0 [(2, 165), (0, (M 167 x6)), (9, 0)] [] M (fun r M' => Y G (d + 1) mX2_winsFrom 31 [(2, 165), (0, x1), (0, x2), (0, x3), (0, x4), (0, x5), (0, x6), (9, 0), (9, 0)] (zpush r []) M' Q)))) :
    Y G (d + 1) mX2_winsFrom 11 [(2, 165), (0, x1), (0, x2), (0, x3), (0, x4), (0, x5), (0, x6), (9, 0), (9, 0)] [] M Q := by
  refine z_iload dX2_winsFrom_11 rfl ?_
  refine z_aloadn dX2_winsFrom_13 rfl (Or.inl rfl) ?_
  refine y_getf (x := (M 165 5)) dX2_winsFrom_14 fX2_37 sh165 (by decide) rfl rfl ?_
  refine z_icmpge (tgt := 138) dX2_winsFrom_17 rfl (fun q => ?_) (fun q => ?_)
  · replace h := h.1 q
    refine z_iloadn dX2_winsFrom_138 rfl ?_
    refine z_iload dX2_winsFrom_139 rfl ?_
    refine z_iload dX2_winsFrom_141 rfl ?_
    refine z_iconst dX2_winsFrom_143 ki_0 ?_
    refine y_cs (mt2 := mX2_moverWins) (en := [(0, x3), (0, x4), (0, x5), (0, 0)]) (st := []) (as := [(0, x3), (0, x4), (0, x5), (0, 0)]) dX2_winsFrom_144 lX2_93 kX2_moverWins tX2_moverWins rfl (Nat.le_of_ble_eq_true rfl) (Nat.le_of_ble_eq_true rfl) rfl ?_
    exact h
  · replace h := h.2 q
    refine z_aloadn dX2_winsFrom_20 rfl (Or.inl rfl) ?_
    refine z_aloadn dX2_winsFrom_21 rfl (Or.inl rfl) ?_
    refine y_getr (v := 167) hG dX2_winsFrom_22 fX2_15 sh165 (by decide) rfl (by decide +kernel) (by decide) ?_
    refine z_iload dX2_winsFrom_25 rfl ?_
    obtain ⟨q1, h⟩ := h
    refine y_iald (x := (M 167 x6)) dX2_winsFrom_27 sh167 q1 rfl ?_
    refine y_cv (mt2 := mX2_lowestOf) (en := [(2, 165), (0, (M 167 x6)), (9, 0)]) (st := []) (as := [(0, (M 167 x6))]) dX2_winsFrom_28 lX2_64 kX2_lowestOf iX2_lowestOf eX2_lowestOf rfl sh165 (by decide +kernel) (Nat.le_of_ble_eq_true rfl) (Nat.le_of_ble_eq_true rfl) rfl ?_
    exact h
set_option maxRecDepth 20000 in
set_option maxHeartbeats 4000000 in
theorem bX2_winsFrom_147 {G : zG} {d : Nat} {M : zM} {Q : zV → zM → Prop} (hG : zP G) {x1 x2 x3 x4 x5 x6 x49 : Int}
    (h : (0 ≤ x49 ∧ x49 ≤ 1) ∧ Q (0, x49) M) :
    Y G (d + 1) mX2_winsFrom 147 [(2, 165), (0, x1), (0, x2), (0, x3), (0, x4), (0, x5), (0, x6), (9, 0), (9, 0)] [(0, x49)] M Q := by
  obtain ⟨q1, h⟩ := h
  exact z_ireturn dX2_winsFrom_147 (Or.inr ⟨rfl, q1⟩) rfl h
set_option maxRecDepth 20000 in
set_option maxHeartbeats 4000000 in
theorem bX2_winsFrom_31 {G : zG} {d : Nat} {M : zM} {Q : zV → zM → Prop} (hG : zP G) {x1 x2 x3 x4 x5 x6 x49 : Int}
    (h : ((¬ x49 = x6 → (-2147483648 ≤ x6 + 1 ∧ x6 + 1 ≤ 2147483647) ∧ Y G (d + 1) mX2_winsFrom 11 [(2, 165), (0, x1), (0, x2), (0, x3), (0, x4), (0, x5), (0, (x6 + 1)), (9, 0), (9, 0)] [] M Q) ∧ (x49 = x6 → (0 ≤ x6 ∧ x6 < 12) ∧ (((zand x1 (M 167 x6)) = 0 → (0 ≤ x6 ∧ x6 < 12) ∧ (((zand x2 (M 167 x6)) = 0 → (-2147483648 ≤ x5 + 0 ∧ x5 + 0 ≤ 2147483647) ∧ (-2147483648 ≤ x3 + 0 ∧ x3 + 0 ≤ 2147483647) ∧ (-2147483648 ≤ x4 + 0 ∧ x4 + 0 ≤ 2147483647) ∧ (-2147483648 ≤ x6 + 1 ∧ x6 + 1 ≤ 2147483647) ∧ Y G (d + 1) mX2_winsFrom 11 [(2, 165), (0, x1), (0, x2), (0, (x3 + 0)), (0, (x4 + 0)), (0, (x5 + 0)), (0, (x6 + 1)), (9, 0), (9, 0)] [] M Q) ∧ (¬ (zand x2 (M 167 x6)) = 0 → (-2147483648 ≤ x5 + 0 ∧ x5 + 0 ≤ 2147483647) ∧ (-2147483648 ≤ x3 + 0 ∧ x3 + 0 ≤ 2147483647) ∧ (-2147483648 ≤ x4 + 1 ∧ x4 + 1 ≤ 2147483647) ∧ (-2147483648 ≤ x6 + 1 ∧ x6 + 1 ≤ 2147483647) ∧ Y G (d + 1) mX2_winsFrom 11 [(2, 165), (0, x1), (0, x2), (0, (x3 + 0)), (0, (x4 + 1)), (0, (x5 + 0)), (0, (x6 + 1)), (9, 0), (9, 0)] [] M Q))) ∧ (¬ (zand x1 (M 167 x6)) = 0 → (0 ≤ x6 ∧ x6 < 12) ∧ (((zand x2 (M 167 x6)) = 0 → (-2147483648 ≤ x5 + 0 ∧ x5 + 0 ≤ 2147483647) ∧ (-2147483648 ≤ x3 + 1 ∧ x3 + 1 ≤ 2147483647) ∧ (-2147483648 ≤ x4 + 0 ∧ x4 + 0 ≤ 2147483647) ∧ (-2147483648 ≤ x6 + 1 ∧ x6 + 1 ≤ 2147483647) ∧ Y G (d + 1) mX2_winsFrom 11 [(2, 165), (0, x1), (0, x2), (0, (x3 + 1)), (0, (x4 + 0)), (0, (x5 + 0)), (0, (x6 + 1)), (9, 0), (9, 0)] [] M Q) ∧ (¬ (zand x2 (M 167 x6)) = 0 → (-2147483648 ≤ x5 + 1 ∧ x5 + 1 ≤ 2147483647) ∧ (-2147483648 ≤ x3 + 0 ∧ x3 + 0 ≤ 2147483647) ∧ (-2147483648 ≤ x4 + 0 ∧ x4 + 0 ≤ 2147483647) ∧ (-2147483648 ≤ x6 + 1 ∧ x6 + 1 ≤ 2147483647) ∧ Y G (d + 1) mX2_winsFrom 11 [(2, 165), (0, x1), (0, x2), (0, (x3 + 0)), (0, (x4 + 0)), (0, (x5 + 1)), (0, (x6 + 1)), (9, 0), (9, 0)] [] M Q))))))) :
    Y G (d + 1) mX2_winsFrom 31 [(2, 165), (0, x1), (0, x2), (0, x3), (0, x4), (0, x5), (0, x6), (9, 0), (9, 0)] [(0, x49)] M Q := by
  refine z_iload dX2_winsFrom_31 rfl ?_
  refine z_icmpne (tgt := 132) dX2_winsFrom_33 rfl (fun q => ?_) (fun q => ?_)
  · replace h := h.1 q
    obtain ⟨q1, h⟩ := h
    refine y_iinc (ls' := [(2, 165), (0, x1), (0, x2), (0, x3), (0, x4), (0, x5), (0, (x6 + 1)), (9, 0), (9, 0)]) dX2_winsFrom_132 rfl rfl q1 rfl ?_
    refine z_goto (tgt := 11) dX2_winsFrom_135 rfl ?_
    exact h
  · replace h := h.2 q
    refine z_iloadn dX2_winsFrom_36 rfl ?_
    refine z_aloadn dX2_winsFrom_37 rfl (Or.inl rfl) ?_
    refine y_getr (v := 167) hG dX2_winsFrom_38 fX2_15 sh165 (by decide) rfl (by decide +kernel) (by decide) ?_
    refine z_iload dX2_winsFrom_41 rfl ?_
    obtain ⟨q2, h⟩ := h
    refine y_iald (x := (M 167 x6)) dX2_winsFrom_43 sh167 q2 rfl ?_
    refine z_iand dX2_winsFrom_44 ?_
    refine z_ifeq (tgt := 52) dX2_winsFrom_45 rfl (fun q => ?_) (fun q => ?_)
    · replace h := h.1 q
      refine z_iconst dX2_winsFrom_52 ki_0 ?_
      refine y_istore (ls' := [(2, 165), (0, x1), (0, x2), (0, x3), (0, x4), (0, x5), (0, x6), (0, 0), (9, 0)]) dX2_winsFrom_53 rfl rfl ?_
      refine z_iloadn dX2_winsFrom_55 rfl ?_
      refine z_aloadn dX2_winsFrom_56 rfl (Or.inl rfl) ?_
      refine y_getr (v := 167) hG dX2_winsFrom_57 fX2_15 sh165 (by decide) rfl (by decide +kernel) (by decide) ?_
      refine z_iload dX2_winsFrom_60 rfl ?_
      obtain ⟨q3, h⟩ := h
      refine y_iald (x := (M 167 x6)) dX2_winsFrom_62 sh167 q3 rfl ?_
      refine z_iand dX2_winsFrom_63 ?_
      refine z_ifeq (tgt := 71) dX2_winsFrom_64 rfl (fun q => ?_) (fun q => ?_)
      · replace h := h.1 q
        refine z_iconst dX2_winsFrom_71 ki_0 ?_
        refine y_istore (ls' := [(2, 165), (0, x1), (0, x2), (0, x3), (0, x4), (0, x5), (0, x6), (0, 0), (0, 0)]) dX2_winsFrom_72 rfl rfl ?_
        refine z_iload dX2_winsFrom_74 rfl ?_
        refine z_iload dX2_winsFrom_76 rfl ?_
        refine z_ifeq (tgt := 90) dX2_winsFrom_78 rfl (fun _ => ?_) (fun q => absurd q (by decide))
        refine z_iconst dX2_winsFrom_90 ki_0 ?_
        obtain ⟨q4, h⟩ := h
        refine z_iadd dX2_winsFrom_91 q4 ?_
        refine y_istore (ls' := [(2, 165), (0, x1), (0, x2), (0, x3), (0, x4), (0, (x5 + 0)), (0, x6), (0, 0), (0, 0)]) dX2_winsFrom_92 rfl rfl ?_
        refine z_iloadn dX2_winsFrom_94 rfl ?_
        refine z_iload dX2_winsFrom_95 rfl ?_
        refine z_ifeq (tgt := 109) dX2_winsFrom_97 rfl (fun _ => ?_) (fun q => absurd q (by decide))
        refine z_iconst dX2_winsFrom_109 ki_0 ?_
        obtain ⟨q5, h⟩ := h
        refine z_iadd dX2_winsFrom_110 q5 ?_
        refine y_istoren (ls' := [(2, 165), (0, x1), (0, x2), (0, (x3 + 0)), (0, x4), (0, (x5 + 0)), (0, x6), (0, 0), (0, 0)]) dX2_winsFrom_111 rfl rfl ?_
        refine z_iload dX2_winsFrom_112 rfl ?_
        refine z_iload dX2_winsFrom_114 rfl ?_
        refine z_ifeq (tgt := 128) dX2_winsFrom_116 rfl (fun _ => ?_) (fun q => absurd q (by decide))
        refine z_iconst dX2_winsFrom_128 ki_0 ?_
        obtain ⟨q6, h⟩ := h
        refine z_iadd dX2_winsFrom_129 q6 ?_
        refine y_istore (ls' := [(2, 165), (0, x1), (0, x2), (0, (x3 + 0)), (0, (x4 + 0)), (0, (x5 + 0)), (0, x6), (0, 0), (0, 0)]) dX2_winsFrom_130 rfl rfl ?_
        obtain ⟨q7, h⟩ := h
        refine y_iinc (ls' := [(2, 165), (0, x1), (0, x2), (0, (x3 + 0)), (0, (x4 + 0)), (0, (x5 + 0)), (0, (x6 + 1)), (0, 0), (0, 0)]) dX2_winsFrom_132 rfl rfl q7 rfl ?_
        refine z_goto (tgt := 11) dX2_winsFrom_135 rfl ?_
        refine z_sub (ls' := [(2, 165), (0, x1), (0, x2), (0, (x3 + 0)), (0, (x4 + 0)), (0, (x5 + 0)), (0, (x6 + 1)), (9, 0), (9, 0)]) ⟨Or.inl rfl, Or.inl rfl, Or.inl rfl, Or.inl rfl, Or.inl rfl, Or.inl rfl, Or.inl rfl, Or.inr rfl, Or.inr rfl, trivial⟩ ?_
        exact h
      · replace h := h.2 q
        refine z_iconst dX2_winsFrom_67 ki_1 ?_
        refine z_goto (tgt := 72) dX2_winsFrom_68 rfl ?_
        refine y_istore (ls' := [(2, 165), (0, x1), (0, x2), (0, x3), (0, x4), (0, x5), (0, x6), (0, 0), (0, 1)]) dX2_winsFrom_72 rfl rfl ?_
        refine z_iload dX2_winsFrom_74 rfl ?_
        refine z_iload dX2_winsFrom_76 rfl ?_
        refine z_ifeq (tgt := 90) dX2_winsFrom_78 rfl (fun _ => ?_) (fun q => absurd q (by decide))
        refine z_iconst dX2_winsFrom_90 ki_0 ?_
        obtain ⟨q8, h⟩ := h
        refine z_iadd dX2_winsFrom_91 q8 ?_
        refine y_istore (ls' := [(2, 165), (0, x1), (0, x2), (0, x3), (0, x4), (0, (x5 + 0)), (0, x6), (0, 0), (0, 1)]) dX2_winsFrom_92 rfl rfl ?_
        refine z_iloadn dX2_winsFrom_94 rfl ?_
        refine z_iload dX2_winsFrom_95 rfl ?_
        refine z_ifeq (tgt := 109) dX2_winsFrom_97 rfl (fun _ => ?_) (fun q => absurd q (by decide))
        refine z_iconst dX2_winsFrom_109 ki_0 ?_
        obtain ⟨q9, h⟩ := h
        refine z_iadd dX2_winsFrom_110 q9 ?_
        refine y_istoren (ls' := [(2, 165), (0, x1), (0, x2), (0, (x3 + 0)), (0, x4), (0, (x5 + 0)), (0, x6), (0, 0), (0, 1)]) dX2_winsFrom_111 rfl rfl ?_
        refine z_iload dX2_winsFrom_112 rfl ?_
        refine z_iload dX2_winsFrom_114 rfl ?_
        refine z_ifeq (tgt := 128) dX2_winsFrom_116 rfl (fun q => absurd q (by decide)) (fun _ => ?_)
        refine z_iload dX2_winsFrom_119 rfl ?_
        refine z_ifne (tgt := 128) dX2_winsFrom_121 rfl (fun q => absurd q (by decide)) (fun _ => ?_)
        refine z_iconst dX2_winsFrom_124 ki_1 ?_
        refine z_goto (tgt := 129) dX2_winsFrom_125 rfl ?_
        obtain ⟨q10, h⟩ := h
        refine z_iadd dX2_winsFrom_129 q10 ?_
        refine y_istore (ls' := [(2, 165), (0, x1), (0, x2), (0, (x3 + 0)), (0, (x4 + 1)), (0, (x5 + 0)), (0, x6), (0, 0), (0, 1)]) dX2_winsFrom_130 rfl rfl ?_
        obtain ⟨q11, h⟩ := h
        refine y_iinc (ls' := [(2, 165), (0, x1), (0, x2), (0, (x3 + 0)), (0, (x4 + 1)), (0, (x5 + 0)), (0, (x6 + 1)), (0, 0), (0, 1)]) dX2_winsFrom_132 rfl rfl q11 rfl ?_
        refine z_goto (tgt := 11) dX2_winsFrom_135 rfl ?_
        refine z_sub (ls' := [(2, 165), (0, x1), (0, x2), (0, (x3 + 0)), (0, (x4 + 1)), (0, (x5 + 0)), (0, (x6 + 1)), (9, 0), (9, 0)]) ⟨Or.inl rfl, Or.inl rfl, Or.inl rfl, Or.inl rfl, Or.inl rfl, Or.inl rfl, Or.inl rfl, Or.inr rfl, Or.inr rfl, trivial⟩ ?_
        exact h
    · replace h := h.2 q
      refine z_iconst dX2_winsFrom_48 ki_1 ?_
      refine z_goto (tgt := 53) dX2_winsFrom_49 rfl ?_
      refine y_istore (ls' := [(2, 165), (0, x1), (0, x2), (0, x3), (0, x4), (0, x5), (0, x6), (0, 1), (9, 0)]) dX2_winsFrom_53 rfl rfl ?_
      refine z_iloadn dX2_winsFrom_55 rfl ?_
      refine z_aloadn dX2_winsFrom_56 rfl (Or.inl rfl) ?_
      refine y_getr (v := 167) hG dX2_winsFrom_57 fX2_15 sh165 (by decide) rfl (by decide +kernel) (by decide) ?_
      refine z_iload dX2_winsFrom_60 rfl ?_
      obtain ⟨q12, h⟩ := h
      refine y_iald (x := (M 167 x6)) dX2_winsFrom_62 sh167 q12 rfl ?_
      refine z_iand dX2_winsFrom_63 ?_
      refine z_ifeq (tgt := 71) dX2_winsFrom_64 rfl (fun q => ?_) (fun q => ?_)
      · replace h := h.1 q
        refine z_iconst dX2_winsFrom_71 ki_0 ?_
        refine y_istore (ls' := [(2, 165), (0, x1), (0, x2), (0, x3), (0, x4), (0, x5), (0, x6), (0, 1), (0, 0)]) dX2_winsFrom_72 rfl rfl ?_
        refine z_iload dX2_winsFrom_74 rfl ?_
        refine z_iload dX2_winsFrom_76 rfl ?_
        refine z_ifeq (tgt := 90) dX2_winsFrom_78 rfl (fun q => absurd q (by decide)) (fun _ => ?_)
        refine z_iload dX2_winsFrom_81 rfl ?_
        refine z_ifeq (tgt := 90) dX2_winsFrom_83 rfl (fun _ => ?_) (fun q => absurd q (by decide))
        refine z_iconst dX2_winsFrom_90 ki_0 ?_
        obtain ⟨q13, h⟩ := h
        refine z_iadd dX2_winsFrom_91 q13 ?_
        refine y_istore (ls' := [(2, 165), (0, x1), (0, x2), (0, x3), (0, x4), (0, (x5 + 0)), (0, x6), (0, 1), (0, 0)]) dX2_winsFrom_92 rfl rfl ?_
        refine z_iloadn dX2_winsFrom_94 rfl ?_
        refine z_iload dX2_winsFrom_95 rfl ?_
        refine z_ifeq (tgt := 109) dX2_winsFrom_97 rfl (fun q => absurd q (by decide)) (fun _ => ?_)
        refine z_iload dX2_winsFrom_100 rfl ?_
        refine z_ifne (tgt := 109) dX2_winsFrom_102 rfl (fun q => absurd q (by decide)) (fun _ => ?_)
        refine z_iconst dX2_winsFrom_105 ki_1 ?_
        refine z_goto (tgt := 110) dX2_winsFrom_106 rfl ?_
        obtain ⟨q14, h⟩ := h
        refine z_iadd dX2_winsFrom_110 q14 ?_
        refine y_istoren (ls' := [(2, 165), (0, x1), (0, x2), (0, (x3 + 1)), (0, x4), (0, (x5 + 0)), (0, x6), (0, 1), (0, 0)]) dX2_winsFrom_111 rfl rfl ?_
        refine z_iload dX2_winsFrom_112 rfl ?_
        refine z_iload dX2_winsFrom_114 rfl ?_
        refine z_ifeq (tgt := 128) dX2_winsFrom_116 rfl (fun _ => ?_) (fun q => absurd q (by decide))
        refine z_iconst dX2_winsFrom_128 ki_0 ?_
        obtain ⟨q15, h⟩ := h
        refine z_iadd dX2_winsFrom_129 q15 ?_
        refine y_istore (ls' := [(2, 165), (0, x1), (0, x2), (0, (x3 + 1)), (0, (x4 + 0)), (0, (x5 + 0)), (0, x6), (0, 1), (0, 0)]) dX2_winsFrom_130 rfl rfl ?_
        obtain ⟨q16, h⟩ := h
        refine y_iinc (ls' := [(2, 165), (0, x1), (0, x2), (0, (x3 + 1)), (0, (x4 + 0)), (0, (x5 + 0)), (0, (x6 + 1)), (0, 1), (0, 0)]) dX2_winsFrom_132 rfl rfl q16 rfl ?_
        refine z_goto (tgt := 11) dX2_winsFrom_135 rfl ?_
        refine z_sub (ls' := [(2, 165), (0, x1), (0, x2), (0, (x3 + 1)), (0, (x4 + 0)), (0, (x5 + 0)), (0, (x6 + 1)), (9, 0), (9, 0)]) ⟨Or.inl rfl, Or.inl rfl, Or.inl rfl, Or.inl rfl, Or.inl rfl, Or.inl rfl, Or.inl rfl, Or.inr rfl, Or.inr rfl, trivial⟩ ?_
        exact h
      · replace h := h.2 q
        refine z_iconst dX2_winsFrom_67 ki_1 ?_
        refine z_goto (tgt := 72) dX2_winsFrom_68 rfl ?_
        refine y_istore (ls' := [(2, 165), (0, x1), (0, x2), (0, x3), (0, x4), (0, x5), (0, x6), (0, 1), (0, 1)]) dX2_winsFrom_72 rfl rfl ?_
        refine z_iload dX2_winsFrom_74 rfl ?_
        refine z_iload dX2_winsFrom_76 rfl ?_
        refine z_ifeq (tgt := 90) dX2_winsFrom_78 rfl (fun q => absurd q (by decide)) (fun _ => ?_)
        refine z_iload dX2_winsFrom_81 rfl ?_
        refine z_ifeq (tgt := 90) dX2_winsFrom_83 rfl (fun q => absurd q (by decide)) (fun _ => ?_)
        refine z_iconst dX2_winsFrom_86 ki_1 ?_
        refine z_goto (tgt := 91) dX2_winsFrom_87 rfl ?_
        obtain ⟨q17, h⟩ := h
        refine z_iadd dX2_winsFrom_91 q17 ?_
        refine y_istore (ls' := [(2, 165), (0, x1), (0, x2), (0, x3), (0, x4), (0, (x5 + 1)), (0, x6), (0, 1), (0, 1)]) dX2_winsFrom_92 rfl rfl ?_
        refine z_iloadn dX2_winsFrom_94 rfl ?_
        refine z_iload dX2_winsFrom_95 rfl ?_
        refine z_ifeq (tgt := 109) dX2_winsFrom_97 rfl (fun q => absurd q (by decide)) (fun _ => ?_)
        refine z_iload dX2_winsFrom_100 rfl ?_
        refine z_ifne (tgt := 109) dX2_winsFrom_102 rfl (fun _ => ?_) (fun q => absurd q (by decide))
        refine z_iconst dX2_winsFrom_109 ki_0 ?_
        obtain ⟨q18, h⟩ := h
        refine z_iadd dX2_winsFrom_110 q18 ?_
        refine y_istoren (ls' := [(2, 165), (0, x1), (0, x2), (0, (x3 + 0)), (0, x4), (0, (x5 + 1)), (0, x6), (0, 1), (0, 1)]) dX2_winsFrom_111 rfl rfl ?_
        refine z_iload dX2_winsFrom_112 rfl ?_
        refine z_iload dX2_winsFrom_114 rfl ?_
        refine z_ifeq (tgt := 128) dX2_winsFrom_116 rfl (fun q => absurd q (by decide)) (fun _ => ?_)
        refine z_iload dX2_winsFrom_119 rfl ?_
        refine z_ifne (tgt := 128) dX2_winsFrom_121 rfl (fun _ => ?_) (fun q => absurd q (by decide))
        refine z_iconst dX2_winsFrom_128 ki_0 ?_
        obtain ⟨q19, h⟩ := h
        refine z_iadd dX2_winsFrom_129 q19 ?_
        refine y_istore (ls' := [(2, 165), (0, x1), (0, x2), (0, (x3 + 0)), (0, (x4 + 0)), (0, (x5 + 1)), (0, x6), (0, 1), (0, 1)]) dX2_winsFrom_130 rfl rfl ?_
        obtain ⟨q20, h⟩ := h
        refine y_iinc (ls' := [(2, 165), (0, x1), (0, x2), (0, (x3 + 0)), (0, (x4 + 0)), (0, (x5 + 1)), (0, (x6 + 1)), (0, 1), (0, 1)]) dX2_winsFrom_132 rfl rfl q20 rfl ?_
        refine z_goto (tgt := 11) dX2_winsFrom_135 rfl ?_
        refine z_sub (ls' := [(2, 165), (0, x1), (0, x2), (0, (x3 + 0)), (0, (x4 + 0)), (0, (x5 + 1)), (0, (x6 + 1)), (9, 0), (9, 0)]) ⟨Or.inl rfl, Or.inl rfl, Or.inl rfl, Or.inl rfl, Or.inl rfl, Or.inl rfl, Or.inl rfl, Or.inr rfl, Or.inr rfl, trivial⟩ ?_
        exact h
set_option maxRecDepth 20000 in
set_option maxHeartbeats 4000000 in
theorem bX2_moverWins_0 {G : zG} {d : Nat} {M : zM} {Q : zV → zM → Prop} (hG : zP G) {x0 x1 x2 x3 : Int}
    (h : ((x3 ≤ 12 → ((x2 ≤ 0 → ((x0 ≤ 0 → Q (0, 0) M) ∧ (0 < x0 → (-2147483648 ≤ x0 - 1 ∧ x0 - 1 ≤ 2147483647) ∧ (-2147483648 ≤ x3 + 1 ∧ x3 + 1 ≤ 2147483647) ∧ Y G d mX2_moverWins 0 [(0, x1), (0, (x0 - 1)), (0, x2), (0, (x3 + 1))] [] M (fun r M' => Y G (d + 1) mX2_moverWins 43 [(0, x0), (0, x1), (0, x2), (0, x3)] (zpush r []) M' Q)))) ∧ (0 < x2 → (-2147483648 ≤ x2 - 1 ∧ x2 - 1 ≤ 2147483647) ∧ (-2147483648 ≤ x3 + 1 ∧ x3 + 1 ≤ 2147483647) ∧ Y G d mX2_moverWins 0 [(0, x1), (0, x0), (0, (x2 - 1)), (0, (x3 + 1))] [] M (fun r M' => Y G (d + 1) mX2_moverWins 23 [(0, x0), (0, x1), (0, x2), (0, x3)] (zpush r []) M' Q)))) ∧ (12 < x3 → Q (0, 0) M))) :
    Y G (d + 1) mX2_moverWins 0 [(0, x0), (0, x1), (0, x2), (0, x3)] [] M Q := by
  refine z_iloadn dX2_moverWins_0 rfl ?_
  refine z_bipush dX2_moverWins_1 kb_12 ?_
  refine z_icmple (tgt := 8) dX2_moverWins_3 rfl (fun q => ?_) (fun q => ?_)
  · replace h := h.1 q
    refine z_iloadn dX2_moverWins_8 rfl ?_
    refine z_ifle (tgt := 28) dX2_moverWins_9 rfl (fun q => ?_) (fun q => ?_)
    · replace h := h.1 q
      refine z_iloadn dX2_moverWins_28 rfl ?_
      refine z_ifle (tgt := 50) dX2_moverWins_29 rfl (fun q => ?_) (fun q => ?_)
      · replace h := h.1 q
        refine z_iconst dX2_moverWins_50 ki_0 ?_
        exact z_ireturn dX2_moverWins_51 (Or.inr ⟨rfl, ⟨by decide, by decide⟩⟩) rfl h
      · replace h := h.2 q
        refine z_iloadn dX2_moverWins_32 rfl ?_
        refine z_iloadn dX2_moverWins_33 rfl ?_
        refine z_iconst dX2_moverWins_34 ki_1 ?_
        obtain ⟨q1, h⟩ := h
        refine z_isub dX2_moverWins_35 q1 ?_
        refine z_iloadn dX2_moverWins_36 rfl ?_
        refine z_iloadn dX2_moverWins_37 rfl ?_
        refine z_iconst dX2_moverWins_38 ki_1 ?_
        obtain ⟨q2, h⟩ := h
        refine z_iadd dX2_moverWins_39 q2 ?_
        refine y_cs (mt2 := mX2_moverWins) (en := [(0, x1), (0, (x0 - 1)), (0, x2), (0, (x3 + 1))]) (st := []) (as := [(0, x1), (0, (x0 - 1)), (0, x2), (0, (x3 + 1))]) dX2_moverWins_40 lX2_93 kX2_moverWins tX2_moverWins rfl (Nat.le_of_ble_eq_true rfl) (Nat.le_of_ble_eq_true rfl) rfl ?_
        exact h
    · replace h := h.2 q
      refine z_iloadn dX2_moverWins_12 rfl ?_
      refine z_iloadn dX2_moverWins_13 rfl ?_
      refine z_iloadn dX2_moverWins_14 rfl ?_
      refine z_iconst dX2_moverWins_15 ki_1 ?_
      obtain ⟨q3, h⟩ := h
      refine z_isub dX2_moverWins_16 q3 ?_
      refine z_iloadn dX2_moverWins_17 rfl ?_
      refine z_iconst dX2_moverWins_18 ki_1 ?_
      obtain ⟨q4, h⟩ := h
      refine z_iadd dX2_moverWins_19 q4 ?_
      refine y_cs (mt2 := mX2_moverWins) (en := [(0, x1), (0, x0), (0, (x2 - 1)), (0, (x3 + 1))]) (st := []) (as := [(0, x1), (0, x0), (0, (x2 - 1)), (0, (x3 + 1))]) dX2_moverWins_20 lX2_93 kX2_moverWins tX2_moverWins rfl (Nat.le_of_ble_eq_true rfl) (Nat.le_of_ble_eq_true rfl) rfl ?_
      exact h
  · replace h := h.2 q
    refine z_iconst dX2_moverWins_6 ki_0 ?_
    exact z_ireturn dX2_moverWins_7 (Or.inr ⟨rfl, ⟨by decide, by decide⟩⟩) rfl h
set_option maxRecDepth 20000 in
set_option maxHeartbeats 4000000 in
theorem bX2_moverWins_43 {G : zG} {d : Nat} {M : zM} {Q : zV → zM → Prop} (hG : zP G) {x0 x1 x2 x3 x49 : Int}
    (h : ((¬ x49 = 0 → Q (0, 0) M) ∧ (x49 = 0 → Q (0, 1) M))) :
    Y G (d + 1) mX2_moverWins 43 [(0, x0), (0, x1), (0, x2), (0, x3)] [(0, x49)] M Q := by
  refine z_ifne (tgt := 50) dX2_moverWins_43 rfl (fun q => ?_) (fun q => ?_)
  · replace h := h.1 q
    refine z_iconst dX2_moverWins_50 ki_0 ?_
    exact z_ireturn dX2_moverWins_51 (Or.inr ⟨rfl, ⟨by decide, by decide⟩⟩) rfl h
  · replace h := h.2 q
    refine z_iconst dX2_moverWins_46 ki_1 ?_
    refine z_goto (tgt := 51) dX2_moverWins_47 rfl ?_
    exact z_ireturn dX2_moverWins_51 (Or.inr ⟨rfl, ⟨by decide, by decide⟩⟩) rfl h
set_option maxRecDepth 20000 in
set_option maxHeartbeats 4000000 in
theorem bX2_moverWins_23 {G : zG} {d : Nat} {M : zM} {Q : zV → zM → Prop} (hG : zP G) {x0 x1 x2 x3 x49 : Int}
    (h : ((¬ x49 = 0 → ((x0 ≤ 0 → Q (0, 0) M) ∧ (0 < x0 → (-2147483648 ≤ x0 - 1 ∧ x0 - 1 ≤ 2147483647) ∧ (-2147483648 ≤ x3 + 1 ∧ x3 + 1 ≤ 2147483647) ∧ Y G d mX2_moverWins 0 [(0, x1), (0, (x0 - 1)), (0, x2), (0, (x3 + 1))] [] M (fun r M' => Y G (d + 1) mX2_moverWins 43 [(0, x0), (0, x1), (0, x2), (0, x3)] (zpush r []) M' Q)))) ∧ (x49 = 0 → Q (0, 1) M))) :
    Y G (d + 1) mX2_moverWins 23 [(0, x0), (0, x1), (0, x2), (0, x3)] [(0, x49)] M Q := by
  refine z_ifne (tgt := 28) dX2_moverWins_23 rfl (fun q => ?_) (fun q => ?_)
  · replace h := h.1 q
    refine z_iloadn dX2_moverWins_28 rfl ?_
    refine z_ifle (tgt := 50) dX2_moverWins_29 rfl (fun q => ?_) (fun q => ?_)
    · replace h := h.1 q
      refine z_iconst dX2_moverWins_50 ki_0 ?_
      exact z_ireturn dX2_moverWins_51 (Or.inr ⟨rfl, ⟨by decide, by decide⟩⟩) rfl h
    · replace h := h.2 q
      refine z_iloadn dX2_moverWins_32 rfl ?_
      refine z_iloadn dX2_moverWins_33 rfl ?_
      refine z_iconst dX2_moverWins_34 ki_1 ?_
      obtain ⟨q1, h⟩ := h
      refine z_isub dX2_moverWins_35 q1 ?_
      refine z_iloadn dX2_moverWins_36 rfl ?_
      refine z_iloadn dX2_moverWins_37 rfl ?_
      refine z_iconst dX2_moverWins_38 ki_1 ?_
      obtain ⟨q2, h⟩ := h
      refine z_iadd dX2_moverWins_39 q2 ?_
      refine y_cs (mt2 := mX2_moverWins) (en := [(0, x1), (0, (x0 - 1)), (0, x2), (0, (x3 + 1))]) (st := []) (as := [(0, x1), (0, (x0 - 1)), (0, x2), (0, (x3 + 1))]) dX2_moverWins_40 lX2_93 kX2_moverWins tX2_moverWins rfl (Nat.le_of_ble_eq_true rfl) (Nat.le_of_ble_eq_true rfl) rfl ?_
      exact h
  · replace h := h.2 q
    refine z_iconst dX2_moverWins_26 ki_1 ?_
    exact z_ireturn dX2_moverWins_27 (Or.inr ⟨rfl, ⟨by decide, by decide⟩⟩) rfl h
set_option maxRecDepth 20000 in
set_option maxHeartbeats 4000000 in
theorem bX2_look_0 {G : zG} {d : Nat} {M : zM} {Q : zV → zM → Prop} (hG : zP G)
    (h : Y G d mJ7_fill_53178 0 [(2, 166), (0, 0), (9, 0), (9, 0)] [] (zset (zset M 165 4 (M 157 5)) 165 5 (M 19 8)) (fun r M' => Y G (d + 1) mX2_look 24 [(2, 165), (2, 157), (2, 19), (9, 0)] (zpush r []) M' Q)) :
    Y G (d + 1) mX2_look 0 [(2, 165), (2, 157), (2, 19), (9, 0)] [] M Q := by
  refine z_aloadn dX2_look_0 rfl (Or.inl rfl) ?_
  refine z_aloadn dX2_look_1 rfl (Or.inl rfl) ?_
  refine y_getf (x := (M 157 5)) dX2_look_2 fX2_25 sh157 (by decide) rfl rfl ?_
  refine y_putf (M' := zset M 165 4 (M 157 5)) hG dX2_look_5 fX2_31 sh165 (by decide) ⟨rfl, rfl⟩ p2_4 (fun q => absurd q (by decide)) (by decide) rfl ?_
  refine z_aloadn dX2_look_8 rfl (Or.inl rfl) ?_
  refine z_aloadn dX2_look_9 rfl (Or.inl rfl) ?_
  refine y_getf (x := (M 19 8)) dX2_look_10 fX2_32 sh19 (by decide) rfl (zset_ne (fun q => absurd q.1 (by decide))) ?_
  refine y_putf (M' := zset (zset M 165 4 (M 157 5)) 165 5 (M 19 8)) hG dX2_look_13 fX2_37 sh165 (by decide) ⟨rfl, rfl⟩ p2_5 (fun q => absurd q (by decide)) (by decide) rfl ?_
  refine z_aloadn dX2_look_16 rfl (Or.inl rfl) ?_
  refine y_getr (v := 166) hG dX2_look_17 fX2_9 sh165 (by decide) rfl (by decide +kernel) (by decide) ?_
  refine z_iconst dX2_look_20 ki_0 ?_
  refine y_cs (mt2 := mJ7_fill_53178) (en := [(2, 166), (0, 0), (9, 0), (9, 0)]) (st := []) (as := [(2, 166), (0, 0)]) dX2_look_21 lX2_40 kJ7_fill_53178 tJ7_fill_53178 rfl (Nat.le_of_ble_eq_true rfl) (Nat.le_of_ble_eq_true rfl) rfl ?_
  exact h
set_option maxRecDepth 20000 in
set_option maxHeartbeats 4000000 in
theorem bX2_look_26 {G : zG} {d : Nat} {M : zM} {Q : zV → zM → Prop} (hG : zP G) {x3 : Int}
    (h : (((M 165 5) ≤ x3 → Q (9, 0) M) ∧ (x3 < (M 165 5) → Y G d mX3_allAlike 0 [(2, 19), (0, x3), (9, 0), (9, 0)] [] M (fun r M' => Y G (d + 1) mX2_look 44 [(2, 165), (2, 157), (2, 19), (0, x3)] (zpush r [(0, x3), (2, 167)]) M' Q)))) :
    Y G (d + 1) mX2_look 26 [(2, 165), (2, 157), (2, 19), (0, x3)] [] M Q := by
  refine z_iloadn dX2_look_26 rfl ?_
  refine z_aloadn dX2_look_27 rfl (Or.inl rfl) ?_
  refine y_getf (x := (M 165 5)) dX2_look_28 fX2_37 sh165 (by decide) rfl rfl ?_
  refine z_icmpge (tgt := 71) dX2_look_31 rfl (fun q => ?_) (fun q => ?_)
  · replace h := h.1 q
    exact z_return dX2_look_71 rfl rfl h
  · replace h := h.2 q
    refine z_aloadn dX2_look_34 rfl (Or.inl rfl) ?_
    refine y_getr (v := 167) hG dX2_look_35 fX2_15 sh165 (by decide) rfl (by decide +kernel) (by decide) ?_
    refine z_iloadn dX2_look_38 rfl ?_
    refine z_aloadn dX2_look_39 rfl (Or.inl rfl) ?_
    refine z_iloadn dX2_look_40 rfl ?_
    refine y_cv (mt2 := mX3_allAlike) (en := [(2, 19), (0, x3), (9, 0), (9, 0)]) (st := [(0, x3), (2, 167)]) (as := [(0, x3)]) dX2_look_41 lX2_46 kX3_allAlike iX3_allAlike eX3_allAlike rfl sh19 (by decide +kernel) (Nat.le_of_ble_eq_true rfl) (Nat.le_of_ble_eq_true rfl) rfl ?_
    exact h
set_option maxRecDepth 20000 in
set_option maxHeartbeats 4000000 in
theorem bX2_look_24 {G : zG} {d : Nat} {M : zM} {Q : zV → zM → Prop} (hG : zP G)
    (h : Y G (d + 1) mX2_look 26 [(2, 165), (2, 157), (2, 19), (0, 0)] [] M Q) :
    Y G (d + 1) mX2_look 24 [(2, 165), (2, 157), (2, 19), (9, 0)] [] M Q := by
  refine z_iconst dX2_look_24 ki_0 ?_
  refine y_istoren (ls' := [(2, 165), (2, 157), (2, 19), (0, 0)]) dX2_look_25 rfl rfl ?_
  exact h
set_option maxRecDepth 20000 in
set_option maxHeartbeats 4000000 in
theorem bX2_look_44 {G : zG} {d : Nat} {M : zM} {Q : zV → zM → Prop} (hG : zP G) {x3 x49 x50 : Int}
    (h : (0 ≤ x50 ∧ x50 < 12) ∧ (0 ≤ x3 ∧ x3 < 12) ∧ ((¬ (M 27 x3) = (M 157 6) → (-2147483648 ≤ x3 + 1 ∧ x3 + 1 ≤ 2147483647) ∧ Y G (d + 1) mX2_look 26 [(2, 165), (2, 157), (2, 19), (0, (x3 + 1))] [] (zset M 167 x50 x49) Q) ∧ ((M 27 x3) = (M 157 6) → Y G d mX2_openTo 0 [(2, 165), (0, x3), (2, 157), (2, 19), (9, 0)] [] (zset M 167 x50 x49) (fun r M' => Y G (d + 1) mX2_look 65 [(2, 165), (2, 157), (2, 19), (0, x3)] (zpush r []) M' Q)))) :
    Y G (d + 1) mX2_look 44 [(2, 165), (2, 157), (2, 19), (0, x3)] [(0, x49), (0, x50), (2, 167)] M Q := by
  obtain ⟨q1, h⟩ := h
  refine y_iast hG dX2_look_44 sh167 q1 ?_
  refine z_aloadn dX2_look_45 rfl (Or.inl rfl) ?_
  refine y_getr (v := 27) hG dX2_look_46 fX2_50 sh19 (by decide) rfl (by decide +kernel) (by decide) ?_
  refine z_iloadn dX2_look_49 rfl ?_
  obtain ⟨q2, h⟩ := h
  refine y_iald (x := (M 27 x3)) dX2_look_50 sh27 q2 (zset_ne (fun q => absurd q.1 (by decide))) ?_
  refine z_aloadn dX2_look_51 rfl (Or.inl rfl) ?_
  refine y_getf (x := (M 157 6)) dX2_look_52 fX2_53 sh157 (by decide) rfl (zset_ne (fun q => absurd q.1 (by decide))) ?_
  refine z_icmpne (tgt := 65) dX2_look_55 rfl (fun q => ?_) (fun q => ?_)
  · replace h := h.1 q
    obtain ⟨q3, h⟩ := h
    refine y_iinc (ls' := [(2, 165), (2, 157), (2, 19), (0, (x3 + 1))]) dX2_look_65 rfl rfl q3 rfl ?_
    refine z_goto (tgt := 26) dX2_look_68 rfl ?_
    exact h
  · replace h := h.2 q
    refine z_aloadn dX2_look_58 rfl (Or.inl rfl) ?_
    refine z_iloadn dX2_look_59 rfl ?_
    refine z_aloadn dX2_look_60 rfl (Or.inl rfl) ?_
    refine z_aloadn dX2_look_61 rfl (Or.inl rfl) ?_
    refine y_cv (mt2 := mX2_openTo) (en := [(2, 165), (0, x3), (2, 157), (2, 19), (9, 0)]) (st := []) (as := [(0, x3), (2, 157), (2, 19)]) dX2_look_62 lX2_56 kX2_openTo iX2_openTo eX2_openTo rfl sh165 (by decide +kernel) (Nat.le_of_ble_eq_true rfl) (Nat.le_of_ble_eq_true rfl) rfl ?_
    exact h
set_option maxRecDepth 20000 in
set_option maxHeartbeats 4000000 in
theorem bX2_look_65 {G : zG} {d : Nat} {M : zM} {Q : zV → zM → Prop} (hG : zP G) {x3 : Int}
    (h : (-2147483648 ≤ x3 + 1 ∧ x3 + 1 ≤ 2147483647) ∧ Y G (d + 1) mX2_look 26 [(2, 165), (2, 157), (2, 19), (0, (x3 + 1))] [] M Q) :
    Y G (d + 1) mX2_look 65 [(2, 165), (2, 157), (2, 19), (0, x3)] [] M Q := by
  obtain ⟨q1, h⟩ := h
  refine y_iinc (ls' := [(2, 165), (2, 157), (2, 19), (0, (x3 + 1))]) dX2_look_65 rfl rfl q1 rfl ?_
  refine z_goto (tgt := 26) dX2_look_68 rfl ?_
  exact h
set_option maxRecDepth 20000 in
set_option maxHeartbeats 4000000 in
theorem bX2_openTo_0 {G : zG} {d : Nat} {M : zM} {Q : zV → zM → Prop} (hG : zP G) {x1 : Int}
    (h : Y G (d + 1) mX2_openTo 3 [(2, 165), (0, x1), (2, 157), (2, 19), (0, 0)] [] M Q) :
    Y G (d + 1) mX2_openTo 0 [(2, 165), (0, x1), (2, 157), (2, 19), (9, 0)] [] M Q := by
  refine z_iconst dX2_openTo_0 ki_0 ?_
  refine y_istore (ls' := [(2, 165), (0, x1), (2, 157), (2, 19), (0, 0)]) dX2_openTo_1 rfl rfl ?_
  exact h
set_option maxRecDepth 20000 in
set_option maxHeartbeats 4000000 in
theorem bX2_openTo_3 {G : zG} {d : Nat} {M : zM} {Q : zV → zM → Prop} (hG : zP G) {x1 x4 : Int}
    (h : (((M 165 4) ≤ x4 → Q (9, 0) M) ∧ (x4 < (M 165 4) → Y G d mX6_lacking 0 [(2, 157), (0, x4), (0, x1), (2, 19), (9, 0)] [] M (fun r M' => Y G (d + 1) mX2_openTo 20 [(2, 165), (0, x1), (2, 157), (2, 19), (0, x4)] (zpush r []) M' Q)))) :
    Y G (d + 1) mX2_openTo 3 [(2, 165), (0, x1), (2, 157), (2, 19), (0, x4)] [] M Q := by
  refine z_iload dX2_openTo_3 rfl ?_
  refine z_aloadn dX2_openTo_5 rfl (Or.inl rfl) ?_
  refine y_getf (x := (M 165 4)) dX2_openTo_6 fX2_31 sh165 (by decide) rfl rfl ?_
  refine z_icmpge (tgt := 42) dX2_openTo_9 rfl (fun q => ?_) (fun q => ?_)
  · replace h := h.1 q
    exact z_return dX2_openTo_42 rfl rfl h
  · replace h := h.2 q
    refine z_aloadn dX2_openTo_12 rfl (Or.inl rfl) ?_
    refine z_iload dX2_openTo_13 rfl ?_
    refine z_iloadn dX2_openTo_15 rfl ?_
    refine z_aloadn dX2_openTo_16 rfl (Or.inl rfl) ?_
    refine y_cv (mt2 := mX6_lacking) (en := [(2, 157), (0, x4), (0, x1), (2, 19), (9, 0)]) (st := []) (as := [(0, x4), (0, x1), (2, 19)]) dX2_openTo_17 lX2_60 kX6_lacking iX6_lacking eX6_lacking rfl sh157 (by decide +kernel) (Nat.le_of_ble_eq_true rfl) (Nat.le_of_ble_eq_true rfl) rfl ?_
    exact h
set_option maxRecDepth 20000 in
set_option maxHeartbeats 4000000 in
theorem bX2_openTo_20 {G : zG} {d : Nat} {M : zM} {Q : zV → zM → Prop} (hG : zP G) {x1 x4 x49 : Int}
    (h : ((¬ x49 = 0 → (-2147483648 ≤ x4 + 1 ∧ x4 + 1 ≤ 2147483647) ∧ Y G (d + 1) mX2_openTo 3 [(2, 165), (0, x1), (2, 157), (2, 19), (0, (x4 + 1))] [] M Q) ∧ (x49 = 0 → (0 ≤ x4 ∧ x4 < 6) ∧ (0 ≤ x4 ∧ x4 < 6) ∧ (-2147483648 ≤ x4 + 1 ∧ x4 + 1 ≤ 2147483647) ∧ Y G (d + 1) mX2_openTo 3 [(2, 165), (0, x1), (2, 157), (2, 19), (0, (x4 + 1))] [] (zset M 166 x4 (zor (M 166 x4) (zshl 1 x1))) Q))) :
    Y G (d + 1) mX2_openTo 20 [(2, 165), (0, x1), (2, 157), (2, 19), (0, x4)] [(0, x49)] M Q := by
  refine z_ifne (tgt := 36) dX2_openTo_20 rfl (fun q => ?_) (fun q => ?_)
  · replace h := h.1 q
    obtain ⟨q1, h⟩ := h
    refine y_iinc (ls' := [(2, 165), (0, x1), (2, 157), (2, 19), (0, (x4 + 1))]) dX2_openTo_36 rfl rfl q1 rfl ?_
    refine z_goto (tgt := 3) dX2_openTo_39 rfl ?_
    exact h
  · replace h := h.2 q
    refine z_aloadn dX2_openTo_23 rfl (Or.inl rfl) ?_
    refine y_getr (v := 166) hG dX2_openTo_24 fX2_9 sh165 (by decide) rfl (by decide +kernel) (by decide) ?_
    refine z_iload dX2_openTo_27 rfl ?_
    refine z_dup2 dX2_openTo_29 (show (0 : Nat) ≠ 1 by decide) (show (2 : Nat) ≠ 1 by decide) ?_
    obtain ⟨q2, h⟩ := h
    refine y_iald (x := (M 166 x4)) dX2_openTo_30 sh166 q2 rfl ?_
    refine z_iconst dX2_openTo_31 ki_1 ?_
    refine z_iloadn dX2_openTo_32 rfl ?_
    refine z_ishl dX2_openTo_33 ?_
    refine z_ior dX2_openTo_34 ?_
    obtain ⟨q3, h⟩ := h
    refine y_iast hG dX2_openTo_35 sh166 q3 ?_
    obtain ⟨q4, h⟩ := h
    refine y_iinc (ls' := [(2, 165), (0, x1), (2, 157), (2, 19), (0, (x4 + 1))]) dX2_openTo_36 rfl rfl q4 rfl ?_
    refine z_goto (tgt := 3) dX2_openTo_39 rfl ?_
    exact h
set_option maxRecDepth 20000 in
set_option maxHeartbeats 4000000 in
theorem bX2_lowestOf_0 {G : zG} {d : Nat} {M : zM} {Q : zV → zM → Prop} (hG : zP G) {x1 : Int}
    (h : Y G d mX2_lowestOf 2 [(2, 165), (0, x1), (0, 0)] [] M Q) :
    Y G d mX2_lowestOf 0 [(2, 165), (0, x1), (9, 0)] [] M Q := by
  refine z_iconst dX2_lowestOf_0 ki_0 ?_
  refine y_istoren (ls' := [(2, 165), (0, x1), (0, 0)]) dX2_lowestOf_1 rfl rfl ?_
  exact h
set_option maxRecDepth 20000 in
set_option maxHeartbeats 4000000 in
theorem bX2_lowestOf_2 {G : zG} {d : Nat} {M : zM} {Q : zV → zM → Prop} (hG : zP G) {x1 x2 : Int}
    (h : (((M 165 5) ≤ x2 → Q (0, (-1)) M) ∧ (x2 < (M 165 5) → (((zand (zshr x1 x2) 1) = 0 → (-2147483648 ≤ x2 + 1 ∧ x2 + 1 ≤ 2147483647) ∧ Y G d mX2_lowestOf 2 [(2, 165), (0, x1), (0, (x2 + 1))] [] M Q) ∧ (¬ (zand (zshr x1 x2) 1) = 0 → Q (0, x2) M))))) :
    Y G d mX2_lowestOf 2 [(2, 165), (0, x1), (0, x2)] [] M Q := by
  refine z_iloadn dX2_lowestOf_2 rfl ?_
  refine z_aloadn dX2_lowestOf_3 rfl (Or.inl rfl) ?_
  refine y_getf (x := (M 165 5)) dX2_lowestOf_4 fX2_37 sh165 (by decide) rfl rfl ?_
  refine z_icmpge (tgt := 26) dX2_lowestOf_7 rfl (fun q => ?_) (fun q => ?_)
  · replace h := h.1 q
    refine z_iconst dX2_lowestOf_26 ki_m1 ?_
    exact z_ireturn dX2_lowestOf_27 (Or.inl rfl) rfl h
  · replace h := h.2 q
    refine z_iloadn dX2_lowestOf_10 rfl ?_
    refine z_iloadn dX2_lowestOf_11 rfl ?_
    refine z_ishr dX2_lowestOf_12 ?_
    refine z_iconst dX2_lowestOf_13 ki_1 ?_
    refine z_iand dX2_lowestOf_14 ?_
    refine z_ifeq (tgt := 20) dX2_lowestOf_15 rfl (fun q => ?_) (fun q => ?_)
    · replace h := h.1 q
      obtain ⟨q1, h⟩ := h
      refine y_iinc (ls' := [(2, 165), (0, x1), (0, (x2 + 1))]) dX2_lowestOf_20 rfl rfl q1 rfl ?_
      refine z_goto (tgt := 2) dX2_lowestOf_23 rfl ?_
      exact h
    · replace h := h.2 q
      refine z_iloadn dX2_lowestOf_18 rfl ?_
      exact z_ireturn dX2_lowestOf_19 (Or.inl rfl) rfl h
set_option maxRecDepth 20000 in
set_option maxHeartbeats 4000000 in
theorem bX2_explore_0 {G : zG} {d : Nat} {M : zM} {Q : zV → zM → Prop} (hG : zP G) {x1 x2 x3 : Int}
    (h : (0 ≤ (zand x1 (64 - 1)) ∧ (zand x1 (64 - 1)) < 64) ∧ Y G (d + 1) mX2_explore 18 [(2, 165), (0, x1), (0, x2), (0, x3), (0, 0), (9, 0)] [] (zset M 168 (zand x1 (64 - 1)) 1) Q) :
    Y G (d + 1) mX2_explore 0 [(2, 165), (0, x1), (0, x2), (0, x3), (9, 0), (9, 0)] [] M Q := by
  refine z_aloadn dX2_explore_0 rfl (Or.inl rfl) ?_
  refine y_getr (v := 168) hG dX2_explore_1 fX2_18 sh165 (by decide) rfl (by decide +kernel) (by decide) ?_
  refine z_iloadn dX2_explore_4 rfl ?_
  refine z_aloadn dX2_explore_5 rfl (Or.inl rfl) ?_
  refine y_getr (v := 168) hG dX2_explore_6 fX2_18 sh165 (by decide) rfl (by decide +kernel) (by decide) ?_
  refine y_alen (x := 64) dX2_explore_9 sh168 (by decide) (by decide) rfl ?_
  refine z_iconst dX2_explore_10 ki_1 ?_
  refine z_isub dX2_explore_11 ⟨by decide, by decide⟩ ?_
  refine z_iand dX2_explore_12 ?_
  refine z_iconst dX2_explore_13 ki_1 ?_
  obtain ⟨q1, h⟩ := h
  refine y_zast hG dX2_explore_14 sh168 q1 ⟨by decide, by decide⟩ ?_
  refine z_iconst dX2_explore_15 ki_0 ?_
  refine y_istore (ls' := [(2, 165), (0, x1), (0, x2), (0, x3), (0, 0), (9, 0)]) dX2_explore_16 rfl rfl ?_
  exact h
set_option maxRecDepth 20000 in
set_option maxHeartbeats 4000000 in
theorem bX2_explore_18 {G : zG} {d : Nat} {M : zM} {Q : zV → zM → Prop} (hG : zP G) {x1 x2 x3 x4 : Int}
    (h : (((M 165 4) ≤ x4 → Q (9, 0) M) ∧ (x4 < (M 165 4) → (((M 165 4) ≤ x3 → Q (9, 0) M) ∧ (x3 < (M 165 4) → (0 ≤ x4 ∧ x4 < 6) ∧ Y G d mX2_lowestOf 0 [(2, 165), (0, (zand (M 166 x4) (zxor x2 (-1)))), (9, 0)] [] M (fun r M' => Y G (d + 1) mX2_explore 50 [(2, 165), (0, x1), (0, x2), (0, x3), (0, x4), (9, 0)] (zpush r []) M' Q)))))) :
    Y G (d + 1) mX2_explore 18 [(2, 165), (0, x1), (0, x2), (0, x3), (0, x4), (9, 0)] [] M Q := by
  refine z_iload dX2_explore_18 rfl ?_
  refine z_aloadn dX2_explore_20 rfl (Or.inl rfl) ?_
  refine y_getf (x := (M 165 4)) dX2_explore_21 fX2_31 sh165 (by decide) rfl rfl ?_
  refine z_icmpge (tgt := 95) dX2_explore_24 rfl (fun q => ?_) (fun q => ?_)
  · replace h := h.1 q
    exact z_return dX2_explore_95 rfl rfl h
  · replace h := h.2 q
    refine z_iloadn dX2_explore_27 rfl ?_
    refine z_aloadn dX2_explore_28 rfl (Or.inl rfl) ?_
    refine y_getf (x := (M 165 4)) dX2_explore_29 fX2_31 sh165 (by decide) rfl rfl ?_
    refine z_icmpge (tgt := 95) dX2_explore_32 rfl (fun q => ?_) (fun q => ?_)
    · replace h := h.1 q
      exact z_return dX2_explore_95 rfl rfl h
    · replace h := h.2 q
      refine z_aloadn dX2_explore_35 rfl (Or.inl rfl) ?_
      refine z_aloadn dX2_explore_36 rfl (Or.inl rfl) ?_
      refine y_getr (v := 166) hG dX2_explore_37 fX2_9 sh165 (by decide) rfl (by decide +kernel) (by decide) ?_
      refine z_iload dX2_explore_40 rfl ?_
      obtain ⟨q1, h⟩ := h
      refine y_iald (x := (M 166 x4)) dX2_explore_42 sh166 q1 rfl ?_
      refine z_iloadn dX2_explore_43 rfl ?_
      refine z_iconst dX2_explore_44 ki_m1 ?_
      refine z_ixor dX2_explore_45 ?_
      refine z_iand dX2_explore_46 ?_
      refine y_cv (mt2 := mX2_lowestOf) (en := [(2, 165), (0, (zand (M 166 x4) (zxor x2 (-1)))), (9, 0)]) (st := []) (as := [(0, (zand (M 166 x4) (zxor x2 (-1))))]) dX2_explore_47 lX2_64 kX2_lowestOf iX2_lowestOf eX2_lowestOf rfl sh165 (by decide +kernel) (Nat.le_of_ble_eq_true rfl) (Nat.le_of_ble_eq_true rfl) rfl ?_
      exact h
set_option maxRecDepth 20000 in
set_option maxHeartbeats 4000000 in
theorem bX2_explore_50 {G : zG} {d : Nat} {M : zM} {Q : zV → zM → Prop} (hG : zP G) {x1 x2 x3 x4 x49 : Int}
    (h : ((¬ (zand (zshr x1 x4) 1) = 0 → (-2147483648 ≤ x4 + 1 ∧ x4 + 1 ≤ 2147483647) ∧ Y G (d + 1) mX2_explore 18 [(2, 165), (0, x1), (0, x2), (0, x3), (0, (x4 + 1)), (9, 0)] [] M Q) ∧ ((zand (zshr x1 x4) 1) = 0 → ((x49 = (-1) → (-2147483648 ≤ x4 + 1 ∧ x4 + 1 ≤ 2147483647) ∧ Y G (d + 1) mX2_explore 18 [(2, 165), (0, x1), (0, x2), (0, x3), (0, (x4 + 1)), (9, 0)] [] M Q) ∧ (¬ x49 = (-1) → (0 ≤ x49 ∧ x49 < 12) ∧ (-2147483648 ≤ x3 + 1 ∧ x3 + 1 ≤ 2147483647) ∧ Y G d mX2_explore 0 [(2, 165), (0, (zor x1 (zshl 1 x4))), (0, (zor x2 (M 167 x49))), (0, (x3 + 1)), (9, 0), (9, 0)] [] M (fun r M' => Y G (d + 1) mX2_explore 89 [(2, 165), (0, x1), (0, x2), (0, x3), (0, x4), (0, x49)] (zpush r []) M' Q)))))) :
    Y G (d + 1) mX2_explore 50 [(2, 165), (0, x1), (0, x2), (0, x3), (0, x4), (9, 0)] [(0, x49)] M Q := by
  refine y_istore (ls' := [(2, 165), (0, x1), (0, x2), (0, x3), (0, x4), (0, x49)]) dX2_explore_50 rfl rfl ?_
  refine z_iloadn dX2_explore_52 rfl ?_
  refine z_iload dX2_explore_53 rfl ?_
  refine z_ishr dX2_explore_55 ?_
  refine z_iconst dX2_explore_56 ki_1 ?_
  refine z_iand dX2_explore_57 ?_
  refine z_ifne (tgt := 89) dX2_explore_58 rfl (fun q => ?_) (fun q => ?_)
  · replace h := h.1 q
    obtain ⟨q1, h⟩ := h
    refine y_iinc (ls' := [(2, 165), (0, x1), (0, x2), (0, x3), (0, (x4 + 1)), (0, x49)]) dX2_explore_89 rfl rfl q1 rfl ?_
    refine z_goto (tgt := 18) dX2_explore_92 rfl ?_
    refine z_sub (ls' := [(2, 165), (0, x1), (0, x2), (0, x3), (0, (x4 + 1)), (9, 0)]) ⟨Or.inl rfl, Or.inl rfl, Or.inl rfl, Or.inl rfl, Or.inl rfl, Or.inr rfl, trivial⟩ ?_
    exact h
  · replace h := h.2 q
    refine z_iload dX2_explore_61 rfl ?_
    refine z_iconst dX2_explore_63 ki_m1 ?_
    refine z_icmpeq (tgt := 89) dX2_explore_64 rfl (fun q => ?_) (fun q => ?_)
    · replace h := h.1 q
      obtain ⟨q2, h⟩ := h
      refine y_iinc (ls' := [(2, 165), (0, x1), (0, x2), (0, x3), (0, (x4 + 1)), (0, x49)]) dX2_explore_89 rfl rfl q2 rfl ?_
      refine z_goto (tgt := 18) dX2_explore_92 rfl ?_
      refine z_sub (ls' := [(2, 165), (0, x1), (0, x2), (0, x3), (0, (x4 + 1)), (9, 0)]) ⟨Or.inl rfl, Or.inl rfl, Or.inl rfl, Or.inl rfl, Or.inl rfl, Or.inr rfl, trivial⟩ ?_
      exact h
    · replace h := h.2 q
      refine z_aloadn dX2_explore_67 rfl (Or.inl rfl) ?_
      refine z_iloadn dX2_explore_68 rfl ?_
      refine z_iconst dX2_explore_69 ki_1 ?_
      refine z_iload dX2_explore_70 rfl ?_
      refine z_ishl dX2_explore_72 ?_
      refine z_ior dX2_explore_73 ?_
      refine z_iloadn dX2_explore_74 rfl ?_
      refine z_aloadn dX2_explore_75 rfl (Or.inl rfl) ?_
      refine y_getr (v := 167) hG dX2_explore_76 fX2_15 sh165 (by decide) rfl (by decide +kernel) (by decide) ?_
      refine z_iload dX2_explore_79 rfl ?_
      obtain ⟨q3, h⟩ := h
      refine y_iald (x := (M 167 x49)) dX2_explore_81 sh167 q3 rfl ?_
      refine z_ior dX2_explore_82 ?_
      refine z_iloadn dX2_explore_83 rfl ?_
      refine z_iconst dX2_explore_84 ki_1 ?_
      obtain ⟨q4, h⟩ := h
      refine z_iadd dX2_explore_85 q4 ?_
      refine y_cv (mt2 := mX2_explore) (en := [(2, 165), (0, (zor x1 (zshl 1 x4))), (0, (zor x2 (M 167 x49))), (0, (x3 + 1)), (9, 0), (9, 0)]) (st := []) (as := [(0, (zor x1 (zshl 1 x4))), (0, (zor x2 (M 167 x49))), (0, (x3 + 1))]) dX2_explore_86 lX2_67 kX2_explore iX2_explore eX2_explore rfl sh165 (by decide +kernel) (Nat.le_of_ble_eq_true rfl) (Nat.le_of_ble_eq_true rfl) rfl ?_
      exact h
set_option maxRecDepth 20000 in
set_option maxHeartbeats 4000000 in
theorem bX2_explore_89 {G : zG} {d : Nat} {M : zM} {Q : zV → zM → Prop} (hG : zP G) {x1 x2 x3 x4 x5 : Int}
    (h : (-2147483648 ≤ x4 + 1 ∧ x4 + 1 ≤ 2147483647) ∧ Y G (d + 1) mX2_explore 18 [(2, 165), (0, x1), (0, x2), (0, x3), (0, (x4 + 1)), (9, 0)] [] M Q) :
    Y G (d + 1) mX2_explore 89 [(2, 165), (0, x1), (0, x2), (0, x3), (0, x4), (0, x5)] [] M Q := by
  obtain ⟨q1, h⟩ := h
  refine y_iinc (ls' := [(2, 165), (0, x1), (0, x2), (0, x3), (0, (x4 + 1)), (0, x5)]) dX2_explore_89 rfl rfl q1 rfl ?_
  refine z_goto (tgt := 18) dX2_explore_92 rfl ?_
  refine z_sub (ls' := [(2, 165), (0, x1), (0, x2), (0, x3), (0, (x4 + 1)), (9, 0)]) ⟨Or.inl rfl, Or.inl rfl, Or.inl rfl, Or.inl rfl, Or.inl rfl, Or.inr rfl, trivial⟩ ?_
  exact h
set_option maxRecDepth 20000 in
set_option maxHeartbeats 4000000 in
theorem bX2_exploreAll_0 {G : zG} {d : Nat} {M : zM} {Q : zV → zM → Prop} (hG : zP G)
    (h : Y G (d + 1) mX2_exploreAll 2 [(2, 165), (0, 0)] [] M Q) :
    Y G (d + 1) mX2_exploreAll 0 [(2, 165), (9, 0)] [] M Q := by
  refine z_iconst dX2_exploreAll_0 ki_0 ?_
  refine y_istoren (ls' := [(2, 165), (0, 0)]) dX2_exploreAll_1 rfl rfl ?_
  exact h
set_option maxRecDepth 20000 in
set_option maxHeartbeats 4000000 in
theorem bX2_exploreAll_2 {G : zG} {d : Nat} {M : zM} {Q : zV → zM → Prop} (hG : zP G) {x1 : Int}
    (h : ((64 ≤ x1 → Y G d mX2_explore 0 [(2, 165), (0, 0), (0, 0), (0, 0), (9, 0), (9, 0)] [] M (fun r M' => Y G (d + 1) mX2_exploreAll 31 [(2, 165), (0, x1)] (zpush r []) M' Q)) ∧ (x1 < 64 → (0 ≤ x1 ∧ x1 < 64) ∧ (-2147483648 ≤ x1 + 1 ∧ x1 + 1 ≤ 2147483647) ∧ Y G (d + 1) mX2_exploreAll 2 [(2, 165), (0, (x1 + 1))] [] (zset M 168 x1 0) Q))) :
    Y G (d + 1) mX2_exploreAll 2 [(2, 165), (0, x1)] [] M Q := by
  refine z_iloadn dX2_exploreAll_2 rfl ?_
  refine z_aloadn dX2_exploreAll_3 rfl (Or.inl rfl) ?_
  refine y_getr (v := 168) hG dX2_exploreAll_4 fX2_18 sh165 (by decide) rfl (by decide +kernel) (by decide) ?_
  refine y_alen (x := 64) dX2_exploreAll_7 sh168 (by decide) (by decide) rfl ?_
  refine z_icmpge (tgt := 24) dX2_exploreAll_8 rfl (fun q => ?_) (fun q => ?_)
  · replace h := h.1 q
    refine z_aloadn dX2_exploreAll_24 rfl (Or.inl rfl) ?_
    refine z_iconst dX2_exploreAll_25 ki_0 ?_
    refine z_iconst dX2_exploreAll_26 ki_0 ?_
    refine z_iconst dX2_exploreAll_27 ki_0 ?_
    refine y_cv (mt2 := mX2_explore) (en := [(2, 165), (0, 0), (0, 0), (0, 0), (9, 0), (9, 0)]) (st := []) (as := [(0, 0), (0, 0), (0, 0)]) dX2_exploreAll_28 lX2_67 kX2_explore iX2_explore eX2_explore rfl sh165 (by decide +kernel) (Nat.le_of_ble_eq_true rfl) (Nat.le_of_ble_eq_true rfl) rfl ?_
    exact h
  · replace h := h.2 q
    refine z_aloadn dX2_exploreAll_11 rfl (Or.inl rfl) ?_
    refine y_getr (v := 168) hG dX2_exploreAll_12 fX2_18 sh165 (by decide) rfl (by decide +kernel) (by decide) ?_
    refine z_iloadn dX2_exploreAll_15 rfl ?_
    refine z_iconst dX2_exploreAll_16 ki_0 ?_
    obtain ⟨q1, h⟩ := h
    refine y_zast hG dX2_exploreAll_17 sh168 q1 ⟨by decide, by decide⟩ ?_
    obtain ⟨q2, h⟩ := h
    refine y_iinc (ls' := [(2, 165), (0, (x1 + 1))]) dX2_exploreAll_18 rfl rfl q2 rfl ?_
    refine z_goto (tgt := 2) dX2_exploreAll_21 rfl ?_
    exact h
set_option maxRecDepth 20000 in
set_option maxHeartbeats 4000000 in
theorem bX2_exploreAll_31 {G : zG} {d : Nat} {M : zM} {Q : zV → zM → Prop} (hG : zP G) {x1 : Int}
    (h : Q (9, 0) M) :
    Y G (d + 1) mX2_exploreAll 31 [(2, 165), (0, x1)] [] M Q := by
  exact z_return dX2_exploreAll_31 rfl rfl h
set_option maxRecDepth 20000 in
set_option maxHeartbeats 4000000 in
theorem bX2_mostWhoCan_0 {G : zG} {d : Nat} {M : zM} {Q : zV → zM → Prop} (hG : zP G)
    (h : Y G d mX2_exploreAll 0 [(2, 165), (9, 0)] [] M (fun r M' => Y G (d + 1) mX2_mostWhoCan 4 [(2, 165), (9, 0), (9, 0)] (zpush r []) M' Q)) :
    Y G (d + 1) mX2_mostWhoCan 0 [(2, 165), (9, 0), (9, 0)] [] M Q := by
  refine z_aloadn dX2_mostWhoCan_0 rfl (Or.inl rfl) ?_
  refine y_cv (mt2 := mX2_exploreAll) (en := [(2, 165), (9, 0)]) (st := []) (as := []) dX2_mostWhoCan_1 lX2_71 kX2_exploreAll iX2_exploreAll eX2_exploreAll rfl sh165 (by decide +kernel) (Nat.le_of_ble_eq_true rfl) (Nat.le_of_ble_eq_true rfl) rfl ?_
  exact h
set_option maxRecDepth 20000 in
set_option maxHeartbeats 4000000 in
theorem bX2_mostWhoCan_8 {G : zG} {d : Nat} {M : zM} {Q : zV → zM → Prop} (hG : zP G) {x1 x2 : Int}
    (h : ((64 ≤ x2 → Q (0, x1) M) ∧ (x2 < 64 → (0 ≤ x2 ∧ x2 < 64) ∧ (((M 168 x2) = 0 → (-2147483648 ≤ x2 + 1 ∧ x2 + 1 ≤ 2147483647) ∧ Y G (d + 1) mX2_mostWhoCan 8 [(2, 165), (0, x1), (0, (x2 + 1))] [] M Q) ∧ (¬ (M 168 x2) = 0 → Y G d mJ6_bitCount_0f7a4 0 [(0, x2)] [] M (fun r M' => Y G (d + 1) mX2_mostWhoCan 31 [(2, 165), (0, x1), (0, x2)] (zpush r [(0, x1)]) M' Q)))))) :
    Y G (d + 1) mX2_mostWhoCan 8 [(2, 165), (0, x1), (0, x2)] [] M Q := by
  refine z_iloadn dX2_mostWhoCan_8 rfl ?_
  refine z_aloadn dX2_mostWhoCan_9 rfl (Or.inl rfl) ?_
  refine y_getr (v := 168) hG dX2_mostWhoCan_10 fX2_18 sh165 (by decide) rfl (by decide +kernel) (by decide) ?_
  refine y_alen (x := 64) dX2_mostWhoCan_13 sh168 (by decide) (by decide) rfl ?_
  refine z_icmpge (tgt := 41) dX2_mostWhoCan_14 rfl (fun q => ?_) (fun q => ?_)
  · replace h := h.1 q
    refine z_iloadn dX2_mostWhoCan_41 rfl ?_
    exact z_ireturn dX2_mostWhoCan_42 (Or.inl rfl) rfl h
  · replace h := h.2 q
    refine z_aloadn dX2_mostWhoCan_17 rfl (Or.inl rfl) ?_
    refine y_getr (v := 168) hG dX2_mostWhoCan_18 fX2_18 sh165 (by decide) rfl (by decide +kernel) (by decide) ?_
    refine z_iloadn dX2_mostWhoCan_21 rfl ?_
    obtain ⟨q1, h⟩ := h
    refine y_zald (x := (M 168 x2)) dX2_mostWhoCan_22 sh168 q1 rfl ?_
    refine z_ifeq (tgt := 35) dX2_mostWhoCan_23 rfl (fun q => ?_) (fun q => ?_)
    · replace h := h.1 q
      obtain ⟨q2, h⟩ := h
      refine y_iinc (ls' := [(2, 165), (0, x1), (0, (x2 + 1))]) dX2_mostWhoCan_35 rfl rfl q2 rfl ?_
      refine z_goto (tgt := 8) dX2_mostWhoCan_38 rfl ?_
      exact h
    · replace h := h.2 q
      refine z_iloadn dX2_mostWhoCan_26 rfl ?_
      refine z_iloadn dX2_mostWhoCan_27 rfl ?_
      refine y_cs (mt2 := mJ6_bitCount_0f7a4) (en := [(0, x2)]) (st := [(0, x1)]) (as := [(0, x2)]) dX2_mostWhoCan_28 lX2_74 kJ6_bitCount_0f7a4 tJ6_bitCount_0f7a4 rfl (Nat.le_of_ble_eq_true rfl) (Nat.le_of_ble_eq_true rfl) rfl ?_
      exact h
set_option maxRecDepth 20000 in
set_option maxHeartbeats 4000000 in
theorem bX2_mostWhoCan_4 {G : zG} {d : Nat} {M : zM} {Q : zV → zM → Prop} (hG : zP G)
    (h : Y G (d + 1) mX2_mostWhoCan 8 [(2, 165), (0, 0), (0, 0)] [] M Q) :
    Y G (d + 1) mX2_mostWhoCan 4 [(2, 165), (9, 0), (9, 0)] [] M Q := by
  refine z_iconst dX2_mostWhoCan_4 ki_0 ?_
  refine y_istoren (ls' := [(2, 165), (0, 0), (9, 0)]) dX2_mostWhoCan_5 rfl rfl ?_
  refine z_iconst dX2_mostWhoCan_6 ki_0 ?_
  refine y_istoren (ls' := [(2, 165), (0, 0), (0, 0)]) dX2_mostWhoCan_7 rfl rfl ?_
  exact h
set_option maxRecDepth 20000 in
set_option maxHeartbeats 4000000 in
theorem bX2_mostWhoCan_31 {G : zG} {d : Nat} {M : zM} {Q : zV → zM → Prop} (hG : zP G) {x1 x2 x49 x50 : Int}
    (h : (-2147483648 ≤ x2 + 1 ∧ x2 + 1 ≤ 2147483647) ∧ Y G (d + 1) mX2_mostWhoCan 8 [(2, 165), (0, (max x50 x49)), (0, (x2 + 1))] [] M Q) :
    Y G (d + 1) mX2_mostWhoCan 31 [(2, 165), (0, x1), (0, x2)] [(0, x49), (0, x50)] M Q := by
  refine z_max dX2_mostWhoCan_31 mwX2_79 (Nat.le_of_ble_eq_true rfl) ?_
  refine y_istoren (ls' := [(2, 165), (0, (max x50 x49)), (0, x2)]) dX2_mostWhoCan_34 rfl rfl ?_
  obtain ⟨q1, h⟩ := h
  refine y_iinc (ls' := [(2, 165), (0, (max x50 x49)), (0, (x2 + 1))]) dX2_mostWhoCan_35 rfl rfl q1 rfl ?_
  refine z_goto (tgt := 8) dX2_mostWhoCan_38 rfl ?_
  exact h
set_option maxRecDepth 20000 in
set_option maxHeartbeats 4000000 in
theorem bX2_fewestToShut_0 {G : zG} {d : Nat} {M : zM} {Q : zV → zM → Prop} (hG : zP G)
    (h : Y G d mX2_exploreAll 0 [(2, 165), (9, 0)] [] M (fun r M' => Y G (d + 1) mX2_fewestToShut 4 [(2, 165), (9, 0), (9, 0), (9, 0)] (zpush r []) M' Q)) :
    Y G (d + 1) mX2_fewestToShut 0 [(2, 165), (9, 0), (9, 0), (9, 0)] [] M Q := by
  refine z_aloadn dX2_fewestToShut_0 rfl (Or.inl rfl) ?_
  refine y_cv (mt2 := mX2_exploreAll) (en := [(2, 165), (9, 0)]) (st := []) (as := []) dX2_fewestToShut_1 lX2_71 kX2_exploreAll iX2_exploreAll eX2_exploreAll rfl sh165 (by decide +kernel) (Nat.le_of_ble_eq_true rfl) (Nat.le_of_ble_eq_true rfl) rfl ?_
  exact h
set_option maxRecDepth 20000 in
set_option maxHeartbeats 4000000 in
theorem bX2_fewestToShut_17 {G : zG} {d : Nat} {M : zM} {Q : zV → zM → Prop} (hG : zP G) {x1 x2 x3 : Int}
    (h : ((x1 < x3 → Q (0, x2) M) ∧ (x3 ≤ x1 → (0 ≤ (zand x1 (zxor x3 (-1))) ∧ (zand x1 (zxor x3 (-1))) < 64) ∧ (((M 168 (zand x1 (zxor x3 (-1)))) = 0 → (-2147483648 ≤ x3 + 1 ∧ x3 + 1 ≤ 2147483647) ∧ Y G (d + 1) mX2_fewestToShut 17 [(2, 165), (0, x1), (0, x2), (0, (x3 + 1))] [] M Q) ∧ (¬ (M 168 (zand x1 (zxor x3 (-1)))) = 0 → Y G d mJ6_bitCount_0f7a4 0 [(0, x3)] [] M (fun r M' => Y G (d + 1) mX2_fewestToShut 39 [(2, 165), (0, x1), (0, x2), (0, x3)] (zpush r []) M' Q)))))) :
    Y G (d + 1) mX2_fewestToShut 17 [(2, 165), (0, x1), (0, x2), (0, x3)] [] M Q := by
  refine z_iloadn dX2_fewestToShut_17 rfl ?_
  refine z_iloadn dX2_fewestToShut_18 rfl ?_
  refine z_icmpgt (tgt := 54) dX2_fewestToShut_19 rfl (fun q => ?_) (fun q => ?_)
  · replace h := h.1 q
    refine z_iloadn dX2_fewestToShut_54 rfl ?_
    exact z_ireturn dX2_fewestToShut_55 (Or.inl rfl) rfl h
  · replace h := h.2 q
    refine z_aloadn dX2_fewestToShut_22 rfl (Or.inl rfl) ?_
    refine y_getr (v := 168) hG dX2_fewestToShut_23 fX2_18 sh165 (by decide) rfl (by decide +kernel) (by decide) ?_
    refine z_iloadn dX2_fewestToShut_26 rfl ?_
    refine z_iloadn dX2_fewestToShut_27 rfl ?_
    refine z_iconst dX2_fewestToShut_28 ki_m1 ?_
    refine z_ixor dX2_fewestToShut_29 ?_
    refine z_iand dX2_fewestToShut_30 ?_
    obtain ⟨q1, h⟩ := h
    refine y_zald (x := (M 168 (zand x1 (zxor x3 (-1))))) dX2_fewestToShut_31 sh168 q1 rfl ?_
    refine z_ifeq (tgt := 48) dX2_fewestToShut_32 rfl (fun q => ?_) (fun q => ?_)
    · replace h := h.1 q
      obtain ⟨q2, h⟩ := h
      refine y_iinc (ls' := [(2, 165), (0, x1), (0, x2), (0, (x3 + 1))]) dX2_fewestToShut_48 rfl rfl q2 rfl ?_
      refine z_goto (tgt := 17) dX2_fewestToShut_51 rfl ?_
      exact h
    · replace h := h.2 q
      refine z_iloadn dX2_fewestToShut_35 rfl ?_
      refine y_cs (mt2 := mJ6_bitCount_0f7a4) (en := [(0, x3)]) (st := []) (as := [(0, x3)]) dX2_fewestToShut_36 lX2_74 kJ6_bitCount_0f7a4 tJ6_bitCount_0f7a4 rfl (Nat.le_of_ble_eq_true rfl) (Nat.le_of_ble_eq_true rfl) rfl ?_
      exact h
set_option maxRecDepth 20000 in
set_option maxHeartbeats 4000000 in
theorem bX2_fewestToShut_4 {G : zG} {d : Nat} {M : zM} {Q : zV → zM → Prop} (hG : zP G)
    (h : (-2147483648 ≤ (zshl 1 (M 165 4)) - 1 ∧ (zshl 1 (M 165 4)) - 1 ≤ 2147483647) ∧ Y G (d + 1) mX2_fewestToShut 17 [(2, 165), (0, ((zshl 1 (M 165 4)) - 1)), (0, ((zshl 1 (M 165 4)) - 1)), (0, 0)] [] M Q) :
    Y G (d + 1) mX2_fewestToShut 4 [(2, 165), (9, 0), (9, 0), (9, 0)] [] M Q := by
  refine z_iconst dX2_fewestToShut_4 ki_1 ?_
  refine z_aloadn dX2_fewestToShut_5 rfl (Or.inl rfl) ?_
  refine y_getf (x := (M 165 4)) dX2_fewestToShut_6 fX2_31 sh165 (by decide) rfl rfl ?_
  refine z_ishl dX2_fewestToShut_9 ?_
  refine z_iconst dX2_fewestToShut_10 ki_1 ?_
  obtain ⟨q1, h⟩ := h
  refine z_isub dX2_fewestToShut_11 q1 ?_
  refine y_istoren (ls' := [(2, 165), (0, ((zshl 1 (M 165 4)) - 1)), (9, 0), (9, 0)]) dX2_fewestToShut_12 rfl rfl ?_
  refine z_iloadn dX2_fewestToShut_13 rfl ?_
  refine y_istoren (ls' := [(2, 165), (0, ((zshl 1 (M 165 4)) - 1)), (0, ((zshl 1 (M 165 4)) - 1)), (9, 0)]) dX2_fewestToShut_14 rfl rfl ?_
  refine z_iconst dX2_fewestToShut_15 ki_0 ?_
  refine y_istoren (ls' := [(2, 165), (0, ((zshl 1 (M 165 4)) - 1)), (0, ((zshl 1 (M 165 4)) - 1)), (0, 0)]) dX2_fewestToShut_16 rfl rfl ?_
  exact h
set_option maxRecDepth 20000 in
set_option maxHeartbeats 4000000 in
theorem bX2_fewestToShut_39 {G : zG} {d : Nat} {M : zM} {Q : zV → zM → Prop} (hG : zP G) {x1 x2 x3 x49 : Int}
    (h : Y G d mJ6_bitCount_0f7a4 0 [(0, x2)] [] M (fun r M' => Y G (d + 1) mX2_fewestToShut 43 [(2, 165), (0, x1), (0, x2), (0, x3)] (zpush r [(0, x49)]) M' Q)) :
    Y G (d + 1) mX2_fewestToShut 39 [(2, 165), (0, x1), (0, x2), (0, x3)] [(0, x49)] M Q := by
  refine z_iloadn dX2_fewestToShut_39 rfl ?_
  refine y_cs (mt2 := mJ6_bitCount_0f7a4) (en := [(0, x2)]) (st := [(0, x49)]) (as := [(0, x2)]) dX2_fewestToShut_40 lX2_74 kJ6_bitCount_0f7a4 tJ6_bitCount_0f7a4 rfl (Nat.le_of_ble_eq_true rfl) (Nat.le_of_ble_eq_true rfl) rfl ?_
  exact h
set_option maxRecDepth 20000 in
set_option maxHeartbeats 4000000 in
theorem bX2_fewestToShut_43 {G : zG} {d : Nat} {M : zM} {Q : zV → zM → Prop} (hG : zP G) {x1 x2 x3 x49 x50 : Int}
    (h : ((x49 ≤ x50 → (-2147483648 ≤ x3 + 1 ∧ x3 + 1 ≤ 2147483647) ∧ Y G (d + 1) mX2_fewestToShut 17 [(2, 165), (0, x1), (0, x2), (0, (x3 + 1))] [] M Q) ∧ (x50 < x49 → (-2147483648 ≤ x3 + 1 ∧ x3 + 1 ≤ 2147483647) ∧ Y G (d + 1) mX2_fewestToShut 17 [(2, 165), (0, x1), (0, x3), (0, (x3 + 1))] [] M Q))) :
    Y G (d + 1) mX2_fewestToShut 43 [(2, 165), (0, x1), (0, x2), (0, x3)] [(0, x49), (0, x50)] M Q := by
  refine z_icmpge (tgt := 48) dX2_fewestToShut_43 rfl (fun q => ?_) (fun q => ?_)
  · replace h := h.1 q
    obtain ⟨q1, h⟩ := h
    refine y_iinc (ls' := [(2, 165), (0, x1), (0, x2), (0, (x3 + 1))]) dX2_fewestToShut_48 rfl rfl q1 rfl ?_
    refine z_goto (tgt := 17) dX2_fewestToShut_51 rfl ?_
    exact h
  · replace h := h.2 q
    refine z_iloadn dX2_fewestToShut_46 rfl ?_
    refine y_istoren (ls' := [(2, 165), (0, x1), (0, x3), (0, x3)]) dX2_fewestToShut_47 rfl rfl ?_
    obtain ⟨q2, h⟩ := h
    refine y_iinc (ls' := [(2, 165), (0, x1), (0, x3), (0, (x3 + 1))]) dX2_fewestToShut_48 rfl rfl q2 rfl ?_
    refine z_goto (tgt := 17) dX2_fewestToShut_51 rfl ?_
    exact h
set_option maxRecDepth 20000 in
set_option maxHeartbeats 4000000 in
theorem bX2_findOrder_0 {G : zG} {d : Nat} {M : zM} {Q : zV → zM → Prop} (hG : zP G)
    (h : Y G d mX2_orderFrom 0 [(2, 165), (0, 0), (0, 0), (0, 0), (9, 0), (9, 0)] [] M (fun r M' => Y G (d + 1) mX2_findOrder 7 [(2, 165)] (zpush r []) M' Q)) :
    Y G (d + 1) mX2_findOrder 0 [(2, 165)] [] M Q := by
  refine z_aloadn dX2_findOrder_0 rfl (Or.inl rfl) ?_
  refine z_iconst dX2_findOrder_1 ki_0 ?_
  refine z_iconst dX2_findOrder_2 ki_0 ?_
  refine z_iconst dX2_findOrder_3 ki_0 ?_
  refine y_cv (mt2 := mX2_orderFrom) (en := [(2, 165), (0, 0), (0, 0), (0, 0), (9, 0), (9, 0)]) (st := []) (as := [(0, 0), (0, 0), (0, 0)]) dX2_findOrder_4 lX2_85 kX2_orderFrom iX2_orderFrom eX2_orderFrom rfl sh165 (by decide +kernel) (Nat.le_of_ble_eq_true rfl) (Nat.le_of_ble_eq_true rfl) rfl ?_
  exact h
set_option maxRecDepth 20000 in
set_option maxHeartbeats 4000000 in
theorem bX2_findOrder_7 {G : zG} {d : Nat} {M : zM} {Q : zV → zM → Prop} (hG : zP G) {x49 : Int}
    (h : (0 ≤ x49 ∧ x49 ≤ 1) ∧ Q (0, x49) M) :
    Y G (d + 1) mX2_findOrder 7 [(2, 165)] [(0, x49)] M Q := by
  obtain ⟨q1, h⟩ := h
  exact z_ireturn dX2_findOrder_7 (Or.inr ⟨rfl, q1⟩) rfl h
