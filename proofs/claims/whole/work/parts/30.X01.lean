set_option maxRecDepth 20000 in
set_option maxHeartbeats 4000000 in
theorem bX1_say_0 {G : zG} {d : Nat} {M : zM} {Q : zV → zM → Prop} (hG : zP G) {o r1 x2 x3 x4 : Int} (ho : zND o) (hr1 : zND r1)
    (h : ((x2 < 0 → Q (0, (-1)) M) ∧ (0 ≤ x2 → (((M r1 8) ≤ x2 → Q (0, (-1)) M) ∧ (x2 < (M r1 8) → ((x4 ≤ 40 → (M r1 8 ≤ 300) ∧ (M r1 8 ≤ 300) ∧ Y G d mX1_make 0 [(2, o), (0, (znf M r1 1 x2 (-1))), (0, (znf M r1 2 x2 0))] [] M (fun r M' => Y G (d + 1) mX1_say 35 [(2, o), (2, r1), (0, x2), (0, x3), (0, x4), (9, 0), (9, 0), (9, 0)] (zpush r []) M' Q)) ∧ (40 < x4 → Q (0, (-1)) M))))))) :
    Y G (d + 1) mX1_say 0 [(2, o), (2, r1), (0, x2), (0, x3), (0, x4), (9, 0), (9, 0), (9, 0)] [] M Q := by
  refine z_iloadn dX1_say_0 rfl ?_
  refine z_iflt (tgt := 19) dX1_say_1 rfl (fun q => ?_) (fun q => ?_)
  · replace h := h.1 q
    refine z_iconst dX1_say_19 ki_m1 ?_
    exact z_ireturn dX1_say_20 (Or.inl rfl) rfl h
  · replace h := h.2 q
    refine z_iloadn dX1_say_4 rfl ?_
    refine z_aloadn dX1_say_5 rfl (Or.inl rfl) ?_
    refine y_getf (x := (M r1 8)) dX1_say_6 fX1_36 (nd_0 hr1) (by decide) rfl rfl ?_
    refine z_icmpge (tgt := 19) dX1_say_9 rfl (fun q => ?_) (fun q => ?_)
    · replace h := h.1 q
      refine z_iconst dX1_say_19 ki_m1 ?_
      exact z_ireturn dX1_say_20 (Or.inl rfl) rfl h
    · replace h := h.2 q
      refine z_iload dX1_say_12 rfl ?_
      refine z_bipush dX1_say_14 kb_40 ?_
      refine z_icmple (tgt := 21) dX1_say_16 rfl (fun q => ?_) (fun q => ?_)
      · replace h := h.1 q
        refine z_aloadn dX1_say_21 rfl (Or.inl rfl) ?_
        refine z_aloadn dX1_say_22 rfl (Or.inl rfl) ?_
        refine z_iloadn dX1_say_23 rfl ?_
        obtain ⟨q1, h⟩ := h
        refine y_cv (mt2 := mX1_kindOf) (en := [(2, r1), (0, x2)]) (st := [(2, o)]) (as := [(0, x2)]) dX1_say_24 lX1_44 kX1_kindOf iX1_kindOf eX1_kindOf rfl (nd_0 hr1) (by decide +kernel) (Nat.le_of_ble_eq_true rfl) (Nat.le_of_ble_eq_true rfl) rfl (s_kindOf hG hr1 q1 ?_)
        show Y G (d + 1) mX1_say 27 [(2, o), (2, r1), (0, x2), (0, x3), (0, x4), (9, 0), (9, 0), (9, 0)] [(0, (znf M r1 1 x2 (-1))), (2, o)] M Q
        refine z_aloadn dX1_say_27 rfl (Or.inl rfl) ?_
        refine z_iloadn dX1_say_28 rfl ?_
        obtain ⟨q2, h⟩ := h
        refine y_cv (mt2 := mX1_valueOf) (en := [(2, r1), (0, x2)]) (st := [(0, (znf M r1 1 x2 (-1))), (2, o)]) (as := [(0, x2)]) dX1_say_29 lX1_48 kX1_valueOf iX1_valueOf eX1_valueOf rfl (nd_0 hr1) (by decide +kernel) (Nat.le_of_ble_eq_true rfl) (Nat.le_of_ble_eq_true rfl) rfl (s_valueOf hG hr1 q2 ?_)
        show Y G (d + 1) mX1_say 32 [(2, o), (2, r1), (0, x2), (0, x3), (0, x4), (9, 0), (9, 0), (9, 0)] [(0, (znf M r1 2 x2 0)), (0, (znf M r1 1 x2 (-1))), (2, o)] M Q
        refine y_cv (mt2 := mX1_make) (en := [(2, o), (0, (znf M r1 1 x2 (-1))), (0, (znf M r1 2 x2 0))]) (st := []) (as := [(0, (znf M r1 1 x2 (-1))), (0, (znf M r1 2 x2 0))]) dX1_say_32 lX1_40 kX1_make iX1_make eX1_make rfl (nd_0 ho) (by decide +kernel) (Nat.le_of_ble_eq_true rfl) (Nat.le_of_ble_eq_true rfl) rfl ?_
        exact h
      · replace h := h.2 q
        refine z_iconst dX1_say_19 ki_m1 ?_
        exact z_ireturn dX1_say_20 (Or.inl rfl) rfl h
set_option maxRecDepth 20000 in
set_option maxHeartbeats 4000000 in
theorem bX1_say_47 {G : zG} {d : Nat} {M : zM} {Q : zV → zM → Prop} (hG : zP G) {o r1 x2 x3 x4 x5 x6 x7 : Int} (ho : zND o) (hr1 : zND r1)
    (h : (M r1 8 ≤ 300) ∧ (((znf M r1 4 x2 0) ≤ x7 → Y G d mX1_change 0 [(2, o), (0, x5), (0, x3)] [] M (fun r M' => Y G (d + 1) mX1_say 103 [(2, o), (2, r1), (0, x2), (0, x3), (0, x4), (0, x5), (0, x6), (0, x7)] (zpush r []) M' Q)) ∧ (x7 < (znf M r1 4 x2 0) → (-2147483648 ≤ x4 + 1 ∧ x4 + 1 ≤ 2147483647) ∧ Y G d mX1_say 0 [(2, o), (2, r1), (0, x6), (0, x3), (0, (x4 + 1)), (9, 0), (9, 0), (9, 0)] [] M (fun r M' => Y G (d + 1) mX1_say 72 [(2, o), (2, r1), (0, x2), (0, x3), (0, x4), (0, x5), (0, x6), (0, x7)] (zpush r [(0, x5), (2, o)]) M' Q)))) :
    Y G (d + 1) mX1_say 47 [(2, o), (2, r1), (0, x2), (0, x3), (0, x4), (0, x5), (0, x6), (0, x7)] [] M Q := by
  refine z_iload dX1_say_47 rfl ?_
  refine z_aloadn dX1_say_49 rfl (Or.inl rfl) ?_
  refine z_iloadn dX1_say_50 rfl ?_
  obtain ⟨q1, h⟩ := h
  refine y_cv (mt2 := mX1_partsOf) (en := [(2, r1), (0, x2)]) (st := [(0, x7)]) (as := [(0, x2)]) dX1_say_51 lX1_54 kX1_partsOf iX1_partsOf eX1_partsOf rfl (nd_0 hr1) (by decide +kernel) (Nat.le_of_ble_eq_true rfl) (Nat.le_of_ble_eq_true rfl) rfl (s_partsOf hG hr1 q1 ?_)
  show Y G (d + 1) mX1_say 54 [(2, o), (2, r1), (0, x2), (0, x3), (0, x4), (0, x5), (0, x6), (0, x7)] [(0, (znf M r1 4 x2 0)), (0, x7)] M Q
  refine z_icmpge (tgt := 96) dX1_say_54 rfl (fun q => ?_) (fun q => ?_)
  · replace h := h.1 q
    refine z_aloadn dX1_say_96 rfl (Or.inl rfl) ?_
    refine z_iload dX1_say_97 rfl ?_
    refine z_iloadn dX1_say_99 rfl ?_
    refine y_cv (mt2 := mX1_change) (en := [(2, o), (0, x5), (0, x3)]) (st := []) (as := [(0, x5), (0, x3)]) dX1_say_100 lX1_71 kX1_change iX1_change eX1_change rfl (nd_0 ho) (by decide +kernel) (Nat.le_of_ble_eq_true rfl) (Nat.le_of_ble_eq_true rfl) rfl ?_
    exact h
  · replace h := h.2 q
    refine z_aloadn dX1_say_57 rfl (Or.inl rfl) ?_
    refine z_iload dX1_say_58 rfl ?_
    refine z_aloadn dX1_say_60 rfl (Or.inl rfl) ?_
    refine z_aloadn dX1_say_61 rfl (Or.inl rfl) ?_
    refine z_iload dX1_say_62 rfl ?_
    refine z_iloadn dX1_say_64 rfl ?_
    refine z_iload dX1_say_65 rfl ?_
    refine z_iconst dX1_say_67 ki_1 ?_
    obtain ⟨q2, h⟩ := h
    refine z_iadd dX1_say_68 q2 ?_
    refine y_cv (mt2 := mX1_say) (en := [(2, o), (2, r1), (0, x6), (0, x3), (0, (x4 + 1)), (9, 0), (9, 0), (9, 0)]) (st := [(0, x5), (2, o)]) (as := [(2, r1), (0, x6), (0, x3), (0, (x4 + 1))]) dX1_say_69 lX1_57 kX1_say iX1_say eX1_say rfl (nd_0 ho) (by decide +kernel) (Nat.le_of_ble_eq_true rfl) (Nat.le_of_ble_eq_true rfl) rfl ?_
    exact h
set_option maxRecDepth 20000 in
set_option maxHeartbeats 4000000 in
theorem bX1_say_35 {G : zG} {d : Nat} {M : zM} {Q : zV → zM → Prop} (hG : zP G) {o r1 x2 x3 x4 x49 : Int} (ho : zND o) (hr1 : zND r1)
    (h : (M r1 8 ≤ 300) ∧ Y G (d + 1) mX1_say 47 [(2, o), (2, r1), (0, x2), (0, x3), (0, x4), (0, x49), (0, (znf M r1 5 x2 (-1))), (0, 0)] [] M Q) :
    Y G (d + 1) mX1_say 35 [(2, o), (2, r1), (0, x2), (0, x3), (0, x4), (9, 0), (9, 0), (9, 0)] [(0, x49)] M Q := by
  refine y_istore (ls' := [(2, o), (2, r1), (0, x2), (0, x3), (0, x4), (0, x49), (9, 0), (9, 0)]) dX1_say_35 rfl rfl ?_
  refine z_aloadn dX1_say_37 rfl (Or.inl rfl) ?_
  refine z_iloadn dX1_say_38 rfl ?_
  obtain ⟨q1, h⟩ := h
  refine y_cv (mt2 := mX1_firstOf) (en := [(2, r1), (0, x2)]) (st := []) (as := [(0, x2)]) dX1_say_39 lX1_51 kX1_firstOf iX1_firstOf eX1_firstOf rfl (nd_0 hr1) (by decide +kernel) (Nat.le_of_ble_eq_true rfl) (Nat.le_of_ble_eq_true rfl) rfl (s_firstOf hG hr1 q1 ?_)
  show Y G (d + 1) mX1_say 42 [(2, o), (2, r1), (0, x2), (0, x3), (0, x4), (0, x49), (9, 0), (9, 0)] [(0, (znf M r1 5 x2 (-1)))] M Q
  refine y_istore (ls' := [(2, o), (2, r1), (0, x2), (0, x3), (0, x4), (0, x49), (0, (znf M r1 5 x2 (-1))), (9, 0)]) dX1_say_42 rfl rfl ?_
  refine z_iconst dX1_say_44 ki_0 ?_
  refine y_istore (ls' := [(2, o), (2, r1), (0, x2), (0, x3), (0, x4), (0, x49), (0, (znf M r1 5 x2 (-1))), (0, 0)]) dX1_say_45 rfl rfl ?_
  exact h
set_option maxRecDepth 20000 in
set_option maxHeartbeats 4000000 in
theorem bX1_say_103 {G : zG} {d : Nat} {M : zM} {Q : zV → zM → Prop} (hG : zP G) {o r1 x2 x3 x4 x5 x6 x7 x49 : Int} (ho : zND o) (hr1 : zND r1)
    (h : Q (0, x49) M) :
    Y G (d + 1) mX1_say 103 [(2, o), (2, r1), (0, x2), (0, x3), (0, x4), (0, x5), (0, x6), (0, x7)] [(0, x49)] M Q := by
  exact z_ireturn dX1_say_103 (Or.inl rfl) rfl h
set_option maxRecDepth 20000 in
set_option maxHeartbeats 4000000 in
theorem bX1_say_72 {G : zG} {d : Nat} {M : zM} {Q : zV → zM → Prop} (hG : zP G) {o r1 x2 x3 x4 x5 x6 x7 x49 x50 : Int} (ho : zND o) (hr1 : zND r1)
    (h : (M r1 8 ≤ 300) ∧ Y G d mX1_adopt 0 [(2, o), (0, x50), (0, x49), (0, (znf M r1 3 x6 1)), (0, x3), (9, 0), (9, 0), (9, 0), (9, 0), (9, 0), (9, 0)] [] M (fun r M' => Y G (d + 1) mX1_say 82 [(2, o), (2, r1), (0, x2), (0, x3), (0, x4), (0, x5), (0, x6), (0, x7)] (zpush r []) M' Q)) :
    Y G (d + 1) mX1_say 72 [(2, o), (2, r1), (0, x2), (0, x3), (0, x4), (0, x5), (0, x6), (0, x7)] [(0, x49), (0, x50), (2, o)] M Q := by
  refine z_aloadn dX1_say_72 rfl (Or.inl rfl) ?_
  refine z_iload dX1_say_73 rfl ?_
  obtain ⟨q1, h⟩ := h
  refine y_cv (mt2 := mX1_signOf) (en := [(2, r1), (0, x6)]) (st := [(0, x49), (0, x50), (2, o)]) (as := [(0, x6)]) dX1_say_75 lX1_61 kX1_signOf iX1_signOf eX1_signOf rfl (nd_0 hr1) (by decide +kernel) (Nat.le_of_ble_eq_true rfl) (Nat.le_of_ble_eq_true rfl) rfl (s_signOf hG hr1 q1 ?_)
  show Y G (d + 1) mX1_say 78 [(2, o), (2, r1), (0, x2), (0, x3), (0, x4), (0, x5), (0, x6), (0, x7)] [(0, (znf M r1 3 x6 1)), (0, x49), (0, x50), (2, o)] M Q
  refine z_iloadn dX1_say_78 rfl ?_
  refine y_cv (mt2 := mX1_adopt) (en := [(2, o), (0, x50), (0, x49), (0, (znf M r1 3 x6 1)), (0, x3), (9, 0), (9, 0), (9, 0), (9, 0), (9, 0), (9, 0)]) (st := []) (as := [(0, x50), (0, x49), (0, (znf M r1 3 x6 1)), (0, x3)]) dX1_say_79 lX1_64 kX1_adopt iX1_adopt eX1_adopt rfl (nd_0 ho) (by decide +kernel) (Nat.le_of_ble_eq_true rfl) (Nat.le_of_ble_eq_true rfl) rfl ?_
  exact h
set_option maxRecDepth 20000 in
set_option maxHeartbeats 4000000 in
theorem bX1_say_82 {G : zG} {d : Nat} {M : zM} {Q : zV → zM → Prop} (hG : zP G) {o r1 x2 x3 x4 x5 x6 x7 : Int} (ho : zND o) (hr1 : zND r1)
    (h : (M r1 8 ≤ 300) ∧ (-2147483648 ≤ x7 + 1 ∧ x7 + 1 ≤ 2147483647) ∧ Y G (d + 1) mX1_say 47 [(2, o), (2, r1), (0, x2), (0, x3), (0, x4), (0, x5), (0, (znf M r1 7 x6 (-1))), (0, (x7 + 1))] [] M Q) :
    Y G (d + 1) mX1_say 82 [(2, o), (2, r1), (0, x2), (0, x3), (0, x4), (0, x5), (0, x6), (0, x7)] [] M Q := by
  refine z_aloadn dX1_say_82 rfl (Or.inl rfl) ?_
  refine z_iload dX1_say_83 rfl ?_
  obtain ⟨q1, h⟩ := h
  refine y_cv (mt2 := mX1_behind) (en := [(2, r1), (0, x6)]) (st := []) (as := [(0, x6)]) dX1_say_85 lX1_68 kX1_behind iX1_behind eX1_behind rfl (nd_0 hr1) (by decide +kernel) (Nat.le_of_ble_eq_true rfl) (Nat.le_of_ble_eq_true rfl) rfl (s_behind hG hr1 q1 ?_)
  show Y G (d + 1) mX1_say 88 [(2, o), (2, r1), (0, x2), (0, x3), (0, x4), (0, x5), (0, x6), (0, x7)] [(0, (znf M r1 7 x6 (-1)))] M Q
  refine y_istore (ls' := [(2, o), (2, r1), (0, x2), (0, x3), (0, x4), (0, x5), (0, (znf M r1 7 x6 (-1))), (0, x7)]) dX1_say_88 rfl rfl ?_
  obtain ⟨q2, h⟩ := h
  refine y_iinc (ls' := [(2, o), (2, r1), (0, x2), (0, x3), (0, x4), (0, x5), (0, (znf M r1 7 x6 (-1))), (0, (x7 + 1))]) dX1_say_90 rfl rfl q2 rfl ?_
  refine z_goto (tgt := 47) dX1_say_93 rfl ?_
  exact h
set_option maxRecDepth 20000 in
set_option maxHeartbeats 4000000 in
theorem bX1_adopt_0 {G : zG} {d : Nat} {M : zM} {Q : zV → zM → Prop} (hG : zP G) {o x1 x2 x3 x4 : Int} (ho : zND o)
    (h : (M o 8 ≤ 300) ∧ ((¬ (znf M o 1 x2 (-1)) = 2 → Y G (d + 1) mX1_adopt 20 [(2, o), (0, x1), (0, x2), (0, x3), (0, x4), (0, (znf M o 1 x2 (-1))), (9, 0), (9, 0), (9, 0), (9, 0), (9, 0)] [] M Q) ∧ ((znf M o 1 x2 (-1)) = 2 → ((¬ (zand x4 1) = 0 → Y G (d + 1) mX1_adopt 33 [(2, o), (0, x1), (0, x2), (0, x3), (0, x4), (0, (znf M o 1 x2 (-1))), (9, 0), (9, 0), (9, 0), (9, 0), (9, 0)] [] M Q) ∧ ((zand x4 1) = 0 → Y G (d + 1) mX1_adopt 20 [(2, o), (0, x1), (0, x2), (0, x3), (0, x4), (0, (znf M o 1 x2 (-1))), (9, 0), (9, 0), (9, 0), (9, 0), (9, 0)] [] M Q))))) :
    Y G (d + 1) mX1_adopt 0 [(2, o), (0, x1), (0, x2), (0, x3), (0, x4), (9, 0), (9, 0), (9, 0), (9, 0), (9, 0), (9, 0)] [] M Q := by
  refine z_aloadn dX1_adopt_0 rfl (Or.inl rfl) ?_
  refine z_iloadn dX1_adopt_1 rfl ?_
  obtain ⟨q1, h⟩ := h
  refine y_cv (mt2 := mX1_kindOf) (en := [(2, o), (0, x2)]) (st := []) (as := [(0, x2)]) dX1_adopt_2 lX1_44 kX1_kindOf iX1_kindOf eX1_kindOf rfl (nd_0 ho) (by decide +kernel) (Nat.le_of_ble_eq_true rfl) (Nat.le_of_ble_eq_true rfl) rfl (s_kindOf hG ho q1 ?_)
  show Y G (d + 1) mX1_adopt 5 [(2, o), (0, x1), (0, x2), (0, x3), (0, x4), (9, 0), (9, 0), (9, 0), (9, 0), (9, 0), (9, 0)] [(0, (znf M o 1 x2 (-1)))] M Q
  refine y_istore (ls' := [(2, o), (0, x1), (0, x2), (0, x3), (0, x4), (0, (znf M o 1 x2 (-1))), (9, 0), (9, 0), (9, 0), (9, 0), (9, 0)]) dX1_adopt_5 rfl rfl ?_
  refine z_iload dX1_adopt_7 rfl ?_
  refine z_iconst dX1_adopt_9 ki_2 ?_
  refine z_icmpne (tgt := 20) dX1_adopt_10 rfl (fun q => ?_) (fun q => ?_)
  · replace h := h.1 q
    exact h
  · replace h := h.2 q
    refine z_iload dX1_adopt_13 rfl ?_
    refine z_iconst dX1_adopt_15 ki_1 ?_
    refine z_iand dX1_adopt_16 ?_
    refine z_ifne (tgt := 33) dX1_adopt_17 rfl (fun q => ?_) (fun q => ?_)
    · replace h := h.1 q
      exact h
    · replace h := h.2 q
      exact h
set_option maxRecDepth 20000 in
set_option maxHeartbeats 4000000 in
theorem bX1_adopt_20 {G : zG} {d : Nat} {M : zM} {Q : zV → zM → Prop} (hG : zP G) {o x1 x2 x3 x4 x5 : Int} (ho : zND o)
    (h : ((¬ x5 = 3 → Y G (d + 1) mX1_adopt 37 [(2, o), (0, x1), (0, x2), (0, x3), (0, x4), (0, x5), (9, 0), (9, 0), (9, 0), (9, 0), (9, 0)] [] M Q) ∧ (x5 = 3 → (((zand x4 2) = 0 → Y G (d + 1) mX1_adopt 37 [(2, o), (0, x1), (0, x2), (0, x3), (0, x4), (0, x5), (9, 0), (9, 0), (9, 0), (9, 0), (9, 0)] [] M Q) ∧ (¬ (zand x4 2) = 0 → Y G (d + 1) mX1_adopt 33 [(2, o), (0, x1), (0, x2), (0, x3), (0, x4), (0, x5), (9, 0), (9, 0), (9, 0), (9, 0), (9, 0)] [] M Q))))) :
    Y G (d + 1) mX1_adopt 20 [(2, o), (0, x1), (0, x2), (0, x3), (0, x4), (0, x5), (9, 0), (9, 0), (9, 0), (9, 0), (9, 0)] [] M Q := by
  refine z_iload dX1_adopt_20 rfl ?_
  refine z_iconst dX1_adopt_22 ki_3 ?_
  refine z_icmpne (tgt := 37) dX1_adopt_23 rfl (fun q => ?_) (fun q => ?_)
  · replace h := h.1 q
    exact h
  · replace h := h.2 q
    refine z_iload dX1_adopt_26 rfl ?_
    refine z_iconst dX1_adopt_28 ki_2 ?_
    refine z_iand dX1_adopt_29 ?_
    refine z_ifeq (tgt := 37) dX1_adopt_30 rfl (fun q => ?_) (fun q => ?_)
    · replace h := h.1 q
      exact h
    · replace h := h.2 q
      exact h
set_option maxRecDepth 20000 in
set_option maxHeartbeats 4000000 in
theorem bX1_adopt_33 {G : zG} {d : Nat} {M : zM} {Q : zV → zM → Prop} (hG : zP G) {o x1 x2 x3 x4 x5 : Int} (ho : zND o)
    (h : (M o 8 ≤ 300) ∧ (((znf M o 1 x1 (-1)) = x5 → (M o 8 ≤ 300) ∧ (M o 8 ≤ 300) ∧ Y G (d + 1) mX1_adopt 80 [(2, o), (0, x1), (0, x2), (0, x3), (0, x4), (0, x5), (0, 1), (0, (znf M o 4 x2 0)), (0, (znf M o 5 x2 (-1))), (0, 0), (9, 0)] [] M Q) ∧ (¬ (znf M o 1 x1 (-1)) = x5 → Y G (d + 1) mX1_adopt 55 [(2, o), (0, x1), (0, x2), (0, x3), (0, x4), (0, x5), (0, 1), (9, 0), (9, 0), (9, 0), (9, 0)] [] M Q))) :
    Y G (d + 1) mX1_adopt 33 [(2, o), (0, x1), (0, x2), (0, x3), (0, x4), (0, x5), (9, 0), (9, 0), (9, 0), (9, 0), (9, 0)] [] M Q := by
  refine z_iconst dX1_adopt_33 ki_1 ?_
  refine z_goto (tgt := 38) dX1_adopt_34 rfl ?_
  refine y_istore (ls' := [(2, o), (0, x1), (0, x2), (0, x3), (0, x4), (0, x5), (0, 1), (9, 0), (9, 0), (9, 0), (9, 0)]) dX1_adopt_38 rfl rfl ?_
  refine z_iload dX1_adopt_40 rfl ?_
  refine z_ifeq (tgt := 55) dX1_adopt_42 rfl (fun q => absurd q (by decide)) (fun _ => ?_)
  refine z_aloadn dX1_adopt_45 rfl (Or.inl rfl) ?_
  refine z_iloadn dX1_adopt_46 rfl ?_
  obtain ⟨q1, h⟩ := h
  refine y_cv (mt2 := mX1_kindOf) (en := [(2, o), (0, x1)]) (st := []) (as := [(0, x1)]) dX1_adopt_47 lX1_44 kX1_kindOf iX1_kindOf eX1_kindOf rfl (nd_0 ho) (by decide +kernel) (Nat.le_of_ble_eq_true rfl) (Nat.le_of_ble_eq_true rfl) rfl (s_kindOf hG ho q1 ?_)
  show Y G (d + 1) mX1_adopt 50 [(2, o), (0, x1), (0, x2), (0, x3), (0, x4), (0, x5), (0, 1), (9, 0), (9, 0), (9, 0), (9, 0)] [(0, (znf M o 1 x1 (-1)))] M Q
  refine z_iload dX1_adopt_50 rfl ?_
  refine z_icmpeq (tgt := 63) dX1_adopt_52 rfl (fun q => ?_) (fun q => ?_)
  · replace h := h.1 q
    refine z_aloadn dX1_adopt_63 rfl (Or.inl rfl) ?_
    refine z_iloadn dX1_adopt_64 rfl ?_
    obtain ⟨q2, h⟩ := h
    refine y_cv (mt2 := mX1_partsOf) (en := [(2, o), (0, x2)]) (st := []) (as := [(0, x2)]) dX1_adopt_65 lX1_54 kX1_partsOf iX1_partsOf eX1_partsOf rfl (nd_0 ho) (by decide +kernel) (Nat.le_of_ble_eq_true rfl) (Nat.le_of_ble_eq_true rfl) rfl (s_partsOf hG ho q2 ?_)
    show Y G (d + 1) mX1_adopt 68 [(2, o), (0, x1), (0, x2), (0, x3), (0, x4), (0, x5), (0, 1), (9, 0), (9, 0), (9, 0), (9, 0)] [(0, (znf M o 4 x2 0))] M Q
    refine y_istore (ls' := [(2, o), (0, x1), (0, x2), (0, x3), (0, x4), (0, x5), (0, 1), (0, (znf M o 4 x2 0)), (9, 0), (9, 0), (9, 0)]) dX1_adopt_68 rfl rfl ?_
    refine z_aloadn dX1_adopt_70 rfl (Or.inl rfl) ?_
    refine z_iloadn dX1_adopt_71 rfl ?_
    obtain ⟨q3, h⟩ := h
    refine y_cv (mt2 := mX1_firstOf) (en := [(2, o), (0, x2)]) (st := []) (as := [(0, x2)]) dX1_adopt_72 lX1_51 kX1_firstOf iX1_firstOf eX1_firstOf rfl (nd_0 ho) (by decide +kernel) (Nat.le_of_ble_eq_true rfl) (Nat.le_of_ble_eq_true rfl) rfl (s_firstOf hG ho q3 ?_)
    show Y G (d + 1) mX1_adopt 75 [(2, o), (0, x1), (0, x2), (0, x3), (0, x4), (0, x5), (0, 1), (0, (znf M o 4 x2 0)), (9, 0), (9, 0), (9, 0)] [(0, (znf M o 5 x2 (-1)))] M Q
    refine y_istore (ls' := [(2, o), (0, x1), (0, x2), (0, x3), (0, x4), (0, x5), (0, 1), (0, (znf M o 4 x2 0)), (0, (znf M o 5 x2 (-1))), (9, 0), (9, 0)]) dX1_adopt_75 rfl rfl ?_
    refine z_iconst dX1_adopt_77 ki_0 ?_
    refine y_istore (ls' := [(2, o), (0, x1), (0, x2), (0, x3), (0, x4), (0, x5), (0, 1), (0, (znf M o 4 x2 0)), (0, (znf M o 5 x2 (-1))), (0, 0), (9, 0)]) dX1_adopt_78 rfl rfl ?_
    exact h
  · replace h := h.2 q
    exact h
set_option maxRecDepth 20000 in
set_option maxHeartbeats 4000000 in
theorem bX1_adopt_37 {G : zG} {d : Nat} {M : zM} {Q : zV → zM → Prop} (hG : zP G) {o x1 x2 x3 x4 x5 : Int} (ho : zND o)
    (h : Y G (d + 1) mX1_adopt 55 [(2, o), (0, x1), (0, x2), (0, x3), (0, x4), (0, x5), (0, 0), (9, 0), (9, 0), (9, 0), (9, 0)] [] M Q) :
    Y G (d + 1) mX1_adopt 37 [(2, o), (0, x1), (0, x2), (0, x3), (0, x4), (0, x5), (9, 0), (9, 0), (9, 0), (9, 0), (9, 0)] [] M Q := by
  refine z_iconst dX1_adopt_37 ki_0 ?_
  refine y_istore (ls' := [(2, o), (0, x1), (0, x2), (0, x3), (0, x4), (0, x5), (0, 0), (9, 0), (9, 0), (9, 0), (9, 0)]) dX1_adopt_38 rfl rfl ?_
  refine z_iload dX1_adopt_40 rfl ?_
  refine z_ifeq (tgt := 55) dX1_adopt_42 rfl (fun _ => ?_) (fun q => absurd q (by decide))
  exact h
set_option maxRecDepth 20000 in
set_option maxHeartbeats 4000000 in
theorem bX1_adopt_55 {G : zG} {d : Nat} {M : zM} {Q : zV → zM → Prop} (hG : zP G) {o x1 x2 x3 x4 x5 x6 : Int} (ho : zND o)
    (h : Y G d mX1_append 0 [(2, o), (0, x1), (0, x2), (0, x3), (9, 0)] [] M (fun r M' => Y G (d + 1) mX1_adopt 62 [(2, o), (0, x1), (0, x2), (0, x3), (0, x4), (0, x5), (0, x6), (9, 0), (9, 0), (9, 0), (9, 0)] (zpush r []) M' Q)) :
    Y G (d + 1) mX1_adopt 55 [(2, o), (0, x1), (0, x2), (0, x3), (0, x4), (0, x5), (0, x6), (9, 0), (9, 0), (9, 0), (9, 0)] [] M Q := by
  refine z_aloadn dX1_adopt_55 rfl (Or.inl rfl) ?_
  refine z_iloadn dX1_adopt_56 rfl ?_
  refine z_iloadn dX1_adopt_57 rfl ?_
  refine z_iloadn dX1_adopt_58 rfl ?_
  refine y_cv (mt2 := mX1_append) (en := [(2, o), (0, x1), (0, x2), (0, x3), (9, 0)]) (st := []) (as := [(0, x1), (0, x2), (0, x3)]) dX1_adopt_59 lX1_74 kX1_append iX1_append eX1_append rfl (nd_0 ho) (by decide +kernel) (Nat.le_of_ble_eq_true rfl) (Nat.le_of_ble_eq_true rfl) rfl ?_
  exact h
set_option maxRecDepth 20000 in
set_option maxHeartbeats 4000000 in
theorem bX1_adopt_80 {G : zG} {d : Nat} {M : zM} {Q : zV → zM → Prop} (hG : zP G) {o x1 x2 x3 x4 x5 x6 x7 x8 x9 : Int} (ho : zND o)
    (h : ((x7 ≤ x9 → Q (9, 0) M) ∧ (x9 < x7 → (M o 8 ≤ 300) ∧ (M o 8 ≤ 300) ∧ (-2147483648 ≤ x3 * (znf M o 3 x8 1) ∧ x3 * (znf M o 3 x8 1) ≤ 2147483647) ∧ Y G d mX1_append 0 [(2, o), (0, x1), (0, x8), (0, (x3 * (znf M o 3 x8 1))), (9, 0)] [] M (fun r M' => Y G (d + 1) mX1_adopt 110 [(2, o), (0, x1), (0, x2), (0, x3), (0, x4), (0, x5), (0, x6), (0, x7), (0, x8), (0, x9), (0, (znf M o 7 x8 (-1)))] (zpush r []) M' Q)))) :
    Y G (d + 1) mX1_adopt 80 [(2, o), (0, x1), (0, x2), (0, x3), (0, x4), (0, x5), (0, x6), (0, x7), (0, x8), (0, x9), (9, 0)] [] M Q := by
  refine z_iload dX1_adopt_80 rfl ?_
  refine z_iload dX1_adopt_82 rfl ?_
  refine z_icmpge (tgt := 120) dX1_adopt_84 rfl (fun q => ?_) (fun q => ?_)
  · replace h := h.1 q
    exact z_return dX1_adopt_120 rfl rfl h
  · replace h := h.2 q
    refine z_aloadn dX1_adopt_87 rfl (Or.inl rfl) ?_
    refine z_iload dX1_adopt_88 rfl ?_
    obtain ⟨q1, h⟩ := h
    refine y_cv (mt2 := mX1_behind) (en := [(2, o), (0, x8)]) (st := []) (as := [(0, x8)]) dX1_adopt_90 lX1_68 kX1_behind iX1_behind eX1_behind rfl (nd_0 ho) (by decide +kernel) (Nat.le_of_ble_eq_true rfl) (Nat.le_of_ble_eq_true rfl) rfl (s_behind hG ho q1 ?_)
    show Y G (d + 1) mX1_adopt 93 [(2, o), (0, x1), (0, x2), (0, x3), (0, x4), (0, x5), (0, x6), (0, x7), (0, x8), (0, x9), (9, 0)] [(0, (znf M o 7 x8 (-1)))] M Q
    refine y_istore (ls' := [(2, o), (0, x1), (0, x2), (0, x3), (0, x4), (0, x5), (0, x6), (0, x7), (0, x8), (0, x9), (0, (znf M o 7 x8 (-1)))]) dX1_adopt_93 rfl rfl ?_
    refine z_aloadn dX1_adopt_95 rfl (Or.inl rfl) ?_
    refine z_iloadn dX1_adopt_96 rfl ?_
    refine z_iload dX1_adopt_97 rfl ?_
    refine z_iloadn dX1_adopt_99 rfl ?_
    refine z_aloadn dX1_adopt_100 rfl (Or.inl rfl) ?_
    refine z_iload dX1_adopt_101 rfl ?_
    obtain ⟨q2, h⟩ := h
    refine y_cv (mt2 := mX1_signOf) (en := [(2, o), (0, x8)]) (st := [(0, x3), (0, x8), (0, x1), (2, o)]) (as := [(0, x8)]) dX1_adopt_103 lX1_61 kX1_signOf iX1_signOf eX1_signOf rfl (nd_0 ho) (by decide +kernel) (Nat.le_of_ble_eq_true rfl) (Nat.le_of_ble_eq_true rfl) rfl (s_signOf hG ho q2 ?_)
    show Y G (d + 1) mX1_adopt 106 [(2, o), (0, x1), (0, x2), (0, x3), (0, x4), (0, x5), (0, x6), (0, x7), (0, x8), (0, x9), (0, (znf M o 7 x8 (-1)))] [(0, (znf M o 3 x8 1)), (0, x3), (0, x8), (0, x1), (2, o)] M Q
    obtain ⟨q3, h⟩ := h
    refine z_imul dX1_adopt_106 q3 ?_
    refine y_cv (mt2 := mX1_append) (en := [(2, o), (0, x1), (0, x8), (0, (x3 * (znf M o 3 x8 1))), (9, 0)]) (st := []) (as := [(0, x1), (0, x8), (0, (x3 * (znf M o 3 x8 1)))]) dX1_adopt_107 lX1_74 kX1_append iX1_append eX1_append rfl (nd_0 ho) (by decide +kernel) (Nat.le_of_ble_eq_true rfl) (Nat.le_of_ble_eq_true rfl) rfl ?_
    exact h
set_option maxRecDepth 20000 in
set_option maxHeartbeats 4000000 in
theorem bX1_adopt_62 {G : zG} {d : Nat} {M : zM} {Q : zV → zM → Prop} (hG : zP G) {o x1 x2 x3 x4 x5 x6 : Int} (ho : zND o)
    (h : Q (9, 0) M) :
    Y G (d + 1) mX1_adopt 62 [(2, o), (0, x1), (0, x2), (0, x3), (0, x4), (0, x5), (0, x6), (9, 0), (9, 0), (9, 0), (9, 0)] [] M Q := by
  exact z_return dX1_adopt_62 rfl rfl h
set_option maxRecDepth 20000 in
set_option maxHeartbeats 4000000 in
theorem bX1_adopt_110 {G : zG} {d : Nat} {M : zM} {Q : zV → zM → Prop} (hG : zP G) {o x1 x2 x3 x4 x5 x6 x7 x8 x9 x10 : Int} (ho : zND o)
    (h : (-2147483648 ≤ x9 + 1 ∧ x9 + 1 ≤ 2147483647) ∧ Y G (d + 1) mX1_adopt 80 [(2, o), (0, x1), (0, x2), (0, x3), (0, x4), (0, x5), (0, x6), (0, x7), (0, x10), (0, (x9 + 1)), (9, 0)] [] M Q) :
    Y G (d + 1) mX1_adopt 110 [(2, o), (0, x1), (0, x2), (0, x3), (0, x4), (0, x5), (0, x6), (0, x7), (0, x8), (0, x9), (0, x10)] [] M Q := by
  refine z_iload dX1_adopt_110 rfl ?_
  refine y_istore (ls' := [(2, o), (0, x1), (0, x2), (0, x3), (0, x4), (0, x5), (0, x6), (0, x7), (0, x10), (0, x9), (0, x10)]) dX1_adopt_112 rfl rfl ?_
  obtain ⟨q1, h⟩ := h
  refine y_iinc (ls' := [(2, o), (0, x1), (0, x2), (0, x3), (0, x4), (0, x5), (0, x6), (0, x7), (0, x10), (0, (x9 + 1)), (0, x10)]) dX1_adopt_114 rfl rfl q1 rfl ?_
  refine z_goto (tgt := 80) dX1_adopt_117 rfl ?_
  refine z_sub (ls' := [(2, o), (0, x1), (0, x2), (0, x3), (0, x4), (0, x5), (0, x6), (0, x7), (0, x10), (0, (x9 + 1)), (9, 0)]) ⟨Or.inl rfl, Or.inl rfl, Or.inl rfl, Or.inl rfl, Or.inl rfl, Or.inl rfl, Or.inl rfl, Or.inl rfl, Or.inl rfl, Or.inl rfl, Or.inr rfl, trivial⟩ ?_
  exact h
set_option maxRecDepth 20000 in
set_option maxHeartbeats 4000000 in
theorem bX1_change_0 {G : zG} {d : Nat} {M : zM} {Q : zV → zM → Prop} (hG : zP G) {o x1 x2 : Int} (ho : zND o)
    (h : (M o 8 ≤ 300) ∧ ((((znf M o 1 x1 (-1)) = 2) → Y G d mX1_leaveOut 0 [(2, o), (0, x1), (0, 0), (0, (zand x2 4)), (9, 0), (9, 0)] [] M (fun r M' => Y G (d + 1) mX1_change 65 [(2, o), (0, x1), (0, x2)] (zpush r []) M' Q)) ∧ (((znf M o 1 x1 (-1)) = 3) → Y G d mX1_leaveOut 0 [(2, o), (0, x1), (0, 1), (0, (zand x2 8)), (9, 0), (9, 0)] [] M (fun r M' => Y G (d + 1) mX1_change 95 [(2, o), (0, x1), (0, x2)] (zpush r []) M' Q)) ∧ (((znf M o 1 x1 (-1)) = 6 ∨ (znf M o 1 x1 (-1)) = 7) → Y G d mX1_sortParts 0 [(2, o), (0, x1), (0, (zand x2 16)), (9, 0), (9, 0), (9, 0), (9, 0)] [] M (fun r M' => Y G (d + 1) mX1_change 124 [(2, o), (0, x1), (0, x2)] (zpush r []) M' Q)) ∧ (((znf M o 1 x1 (-1)) = 8 ∨ (znf M o 1 x1 (-1)) = 9) → Y G d mX1_workNumbers 0 [(2, o), (0, x1), (0, x2), (9, 0), (9, 0), (9, 0), (9, 0), (9, 0)] [] M (fun r M' => Y G (d + 1) mX1_change 132 [(2, o), (0, x1), (0, x2)] (zpush r []) M' Q)) ∧ (((znf M o 1 x1 (-1)) = 10) → Y G d mX1_changeIf 0 [(2, o), (0, x1), (0, x2), (9, 0)] [] M (fun r M' => Y G (d + 1) mX1_change 154 [(2, o), (0, x1), (0, x2)] (zpush r []) M' Q)) ∧ (((znf M o 1 x1 (-1)) < 2 ∨ 10 < (znf M o 1 x1 (-1)) ∨ (znf M o 1 x1 (-1)) = 4 ∨ (znf M o 1 x1 (-1)) = 5) → Q (0, x1) M))) :
    Y G (d + 1) mX1_change 0 [(2, o), (0, x1), (0, x2)] [] M Q := by
  refine z_aloadn dX1_change_0 rfl (Or.inl rfl) ?_
  refine z_iloadn dX1_change_1 rfl ?_
  obtain ⟨q1, h⟩ := h
  refine y_cv (mt2 := mX1_kindOf) (en := [(2, o), (0, x1)]) (st := []) (as := [(0, x1)]) dX1_change_2 lX1_44 kX1_kindOf iX1_kindOf eX1_kindOf rfl (nd_0 ho) (by decide +kernel) (Nat.le_of_ble_eq_true rfl) (Nat.le_of_ble_eq_true rfl) rfl (s_kindOf hG ho q1 ?_)
  show Y G (d + 1) mX1_change 5 [(2, o), (0, x1), (0, x2)] [(0, (znf M o 1 x1 (-1)))] M Q
  rcases (show (znf M o 1 x1 (-1)) < 2 ∨ 10 < (znf M o 1 x1 (-1)) ∨ (znf M o 1 x1 (-1)) = 2 ∨ (znf M o 1 x1 (-1)) = 3 ∨ (znf M o 1 x1 (-1)) = 4 ∨ (znf M o 1 x1 (-1)) = 5 ∨ (znf M o 1 x1 (-1)) = 6 ∨ (znf M o 1 x1 (-1)) = 7 ∨ (znf M o 1 x1 (-1)) = 8 ∨ (znf M o 1 x1 (-1)) = 9 ∨ (znf M o 1 x1 (-1)) = 10 by omega) with q | q | q | q | q | q | q | q | q | q | q
  · replace h := h.2.2.2.2.2 (Or.inl q)
    refine z_tswOut (tgt := 155) dX1_change_5 (Or.inl q) rfl ?_
    refine z_iloadn dX1_change_155 rfl ?_
    exact z_ireturn dX1_change_156 (Or.inl rfl) rfl h
  · replace h := h.2.2.2.2.2 (Or.inr (Or.inl q))
    refine z_tswOut (tgt := 155) dX1_change_5 (Or.inr q) rfl ?_
    refine z_iloadn dX1_change_155 rfl ?_
    exact z_ireturn dX1_change_156 (Or.inl rfl) rfl h
  · replace h := h.1 q
    refine y_tsw (tgt := 56) (k := 2) dX1_change_5 q (by decide) rfl rfl ?_
    refine z_aloadn dX1_change_56 rfl (Or.inl rfl) ?_
    refine z_iloadn dX1_change_57 rfl ?_
    refine z_iconst dX1_change_58 ki_0 ?_
    refine z_iloadn dX1_change_59 rfl ?_
    refine z_iconst dX1_change_60 ki_4 ?_
    refine z_iand dX1_change_61 ?_
    refine y_cv (mt2 := mX1_leaveOut) (en := [(2, o), (0, x1), (0, 0), (0, (zand x2 4)), (9, 0), (9, 0)]) (st := []) (as := [(0, x1), (0, 0), (0, (zand x2 4))]) dX1_change_62 lX1_78 kX1_leaveOut iX1_leaveOut eX1_leaveOut rfl (nd_0 ho) (by decide +kernel) (Nat.le_of_ble_eq_true rfl) (Nat.le_of_ble_eq_true rfl) rfl ?_
    exact h
  · replace h := h.2.1 q
    refine y_tsw (tgt := 85) (k := 3) dX1_change_5 q (by decide) rfl rfl ?_
    refine z_aloadn dX1_change_85 rfl (Or.inl rfl) ?_
    refine z_iloadn dX1_change_86 rfl ?_
    refine z_iconst dX1_change_87 ki_1 ?_
    refine z_iloadn dX1_change_88 rfl ?_
    refine z_bipush dX1_change_89 kb_8 ?_
    refine z_iand dX1_change_91 ?_
    refine y_cv (mt2 := mX1_leaveOut) (en := [(2, o), (0, x1), (0, 1), (0, (zand x2 8)), (9, 0), (9, 0)]) (st := []) (as := [(0, x1), (0, 1), (0, (zand x2 8))]) dX1_change_92 lX1_78 kX1_leaveOut iX1_leaveOut eX1_leaveOut rfl (nd_0 ho) (by decide +kernel) (Nat.le_of_ble_eq_true rfl) (Nat.le_of_ble_eq_true rfl) rfl ?_
    exact h
  · replace h := h.2.2.2.2.2 (Or.inr (Or.inr (Or.inl q)))
    refine y_tsw (tgt := 155) (k := 4) dX1_change_5 q (by decide) rfl rfl ?_
    refine z_iloadn dX1_change_155 rfl ?_
    exact z_ireturn dX1_change_156 (Or.inl rfl) rfl h
  · replace h := h.2.2.2.2.2 (Or.inr (Or.inr (Or.inr q)))
    refine y_tsw (tgt := 155) (k := 5) dX1_change_5 q (by decide) rfl rfl ?_
    refine z_iloadn dX1_change_155 rfl ?_
    exact z_ireturn dX1_change_156 (Or.inl rfl) rfl h
  · replace h := h.2.2.1 (Or.inl q)
    refine y_tsw (tgt := 115) (k := 6) dX1_change_5 q (by decide) rfl rfl ?_
    refine z_aloadn dX1_change_115 rfl (Or.inl rfl) ?_
    refine z_iloadn dX1_change_116 rfl ?_
    refine z_iloadn dX1_change_117 rfl ?_
    refine z_bipush dX1_change_118 kb_16 ?_
    refine z_iand dX1_change_120 ?_
    refine y_cv (mt2 := mX1_sortParts) (en := [(2, o), (0, x1), (0, (zand x2 16)), (9, 0), (9, 0), (9, 0), (9, 0)]) (st := []) (as := [(0, x1), (0, (zand x2 16))]) dX1_change_121 lX1_85 kX1_sortParts iX1_sortParts eX1_sortParts rfl (nd_0 ho) (by decide +kernel) (Nat.le_of_ble_eq_true rfl) (Nat.le_of_ble_eq_true rfl) rfl ?_
    exact h
  · replace h := h.2.2.1 (Or.inr q)
    refine y_tsw (tgt := 115) (k := 7) dX1_change_5 q (by decide) rfl rfl ?_
    refine z_aloadn dX1_change_115 rfl (Or.inl rfl) ?_
    refine z_iloadn dX1_change_116 rfl ?_
    refine z_iloadn dX1_change_117 rfl ?_
    refine z_bipush dX1_change_118 kb_16 ?_
    refine z_iand dX1_change_120 ?_
    refine y_cv (mt2 := mX1_sortParts) (en := [(2, o), (0, x1), (0, (zand x2 16)), (9, 0), (9, 0), (9, 0), (9, 0)]) (st := []) (as := [(0, x1), (0, (zand x2 16))]) dX1_change_121 lX1_85 kX1_sortParts iX1_sortParts eX1_sortParts rfl (nd_0 ho) (by decide +kernel) (Nat.le_of_ble_eq_true rfl) (Nat.le_of_ble_eq_true rfl) rfl ?_
    exact h
  · replace h := h.2.2.2.1 (Or.inl q)
    refine y_tsw (tgt := 126) (k := 8) dX1_change_5 q (by decide) rfl rfl ?_
    refine z_aloadn dX1_change_126 rfl (Or.inl rfl) ?_
    refine z_iloadn dX1_change_127 rfl ?_
    refine z_iloadn dX1_change_128 rfl ?_
    refine y_cv (mt2 := mX1_workNumbers) (en := [(2, o), (0, x1), (0, x2), (9, 0), (9, 0), (9, 0), (9, 0), (9, 0)]) (st := []) (as := [(0, x1), (0, x2)]) dX1_change_129 lX1_81 kX1_workNumbers iX1_workNumbers eX1_workNumbers rfl (nd_0 ho) (by decide +kernel) (Nat.le_of_ble_eq_true rfl) (Nat.le_of_ble_eq_true rfl) rfl ?_
    exact h
  · replace h := h.2.2.2.1 (Or.inr q)
    refine y_tsw (tgt := 126) (k := 9) dX1_change_5 q (by decide) rfl rfl ?_
    refine z_aloadn dX1_change_126 rfl (Or.inl rfl) ?_
    refine z_iloadn dX1_change_127 rfl ?_
    refine z_iloadn dX1_change_128 rfl ?_
    refine y_cv (mt2 := mX1_workNumbers) (en := [(2, o), (0, x1), (0, x2), (9, 0), (9, 0), (9, 0), (9, 0), (9, 0)]) (st := []) (as := [(0, x1), (0, x2)]) dX1_change_129 lX1_81 kX1_workNumbers iX1_workNumbers eX1_workNumbers rfl (nd_0 ho) (by decide +kernel) (Nat.le_of_ble_eq_true rfl) (Nat.le_of_ble_eq_true rfl) rfl ?_
    exact h
  · replace h := h.2.2.2.2.1 q
    refine y_tsw (tgt := 148) (k := 10) dX1_change_5 q (by decide) rfl rfl ?_
    refine z_aloadn dX1_change_148 rfl (Or.inl rfl) ?_
    refine z_iloadn dX1_change_149 rfl ?_
    refine z_iloadn dX1_change_150 rfl ?_
    refine y_cv (mt2 := mX1_changeIf) (en := [(2, o), (0, x1), (0, x2), (9, 0)]) (st := []) (as := [(0, x1), (0, x2)]) dX1_change_151 lX1_94 kX1_changeIf iX1_changeIf eX1_changeIf rfl (nd_0 ho) (by decide +kernel) (Nat.le_of_ble_eq_true rfl) (Nat.le_of_ble_eq_true rfl) rfl ?_
    exact h
set_option maxRecDepth 20000 in
set_option maxHeartbeats 4000000 in
theorem bX1_change_65 {G : zG} {d : Nat} {M : zM} {Q : zV → zM → Prop} (hG : zP G) {o x1 x2 : Int} (ho : zND o)
    (h : Y G d mX1_workNumbers 0 [(2, o), (0, x1), (0, x2), (9, 0), (9, 0), (9, 0), (9, 0), (9, 0)] [] M (fun r M' => Y G (d + 1) mX1_change 71 [(2, o), (0, x1), (0, x2)] (zpush r []) M' Q)) :
    Y G (d + 1) mX1_change 65 [(2, o), (0, x1), (0, x2)] [] M Q := by
  refine z_aloadn dX1_change_65 rfl (Or.inl rfl) ?_
  refine z_iloadn dX1_change_66 rfl ?_
  refine z_iloadn dX1_change_67 rfl ?_
  refine y_cv (mt2 := mX1_workNumbers) (en := [(2, o), (0, x1), (0, x2), (9, 0), (9, 0), (9, 0), (9, 0), (9, 0)]) (st := []) (as := [(0, x1), (0, x2)]) dX1_change_68 lX1_81 kX1_workNumbers iX1_workNumbers eX1_workNumbers rfl (nd_0 ho) (by decide +kernel) (Nat.le_of_ble_eq_true rfl) (Nat.le_of_ble_eq_true rfl) rfl ?_
  exact h
set_option maxRecDepth 20000 in
set_option maxHeartbeats 4000000 in
theorem bX1_change_95 {G : zG} {d : Nat} {M : zM} {Q : zV → zM → Prop} (hG : zP G) {o x1 x2 : Int} (ho : zND o)
    (h : Y G d mX1_workNumbers 0 [(2, o), (0, x1), (0, x2), (9, 0), (9, 0), (9, 0), (9, 0), (9, 0)] [] M (fun r M' => Y G (d + 1) mX1_change 101 [(2, o), (0, x1), (0, x2)] (zpush r []) M' Q)) :
    Y G (d + 1) mX1_change 95 [(2, o), (0, x1), (0, x2)] [] M Q := by
  refine z_aloadn dX1_change_95 rfl (Or.inl rfl) ?_
  refine z_iloadn dX1_change_96 rfl ?_
  refine z_iloadn dX1_change_97 rfl ?_
  refine y_cv (mt2 := mX1_workNumbers) (en := [(2, o), (0, x1), (0, x2), (9, 0), (9, 0), (9, 0), (9, 0), (9, 0)]) (st := []) (as := [(0, x1), (0, x2)]) dX1_change_98 lX1_81 kX1_workNumbers iX1_workNumbers eX1_workNumbers rfl (nd_0 ho) (by decide +kernel) (Nat.le_of_ble_eq_true rfl) (Nat.le_of_ble_eq_true rfl) rfl ?_
  exact h
set_option maxRecDepth 20000 in
set_option maxHeartbeats 4000000 in
theorem bX1_change_124 {G : zG} {d : Nat} {M : zM} {Q : zV → zM → Prop} (hG : zP G) {o x1 x2 : Int} (ho : zND o)
    (h : Q (0, x1) M) :
    Y G (d + 1) mX1_change 124 [(2, o), (0, x1), (0, x2)] [] M Q := by
  refine z_iloadn dX1_change_124 rfl ?_
  exact z_ireturn dX1_change_125 (Or.inl rfl) rfl h
set_option maxRecDepth 20000 in
set_option maxHeartbeats 4000000 in
theorem bX1_change_132 {G : zG} {d : Nat} {M : zM} {Q : zV → zM → Prop} (hG : zP G) {o x1 x2 : Int} (ho : zND o)
    (h : Y G d mX1_sortParts 0 [(2, o), (0, x1), (0, (zand x2 32)), (9, 0), (9, 0), (9, 0), (9, 0)] [] M (fun r M' => Y G (d + 1) mX1_change 141 [(2, o), (0, x1), (0, x2)] (zpush r []) M' Q)) :
    Y G (d + 1) mX1_change 132 [(2, o), (0, x1), (0, x2)] [] M Q := by
  refine z_aloadn dX1_change_132 rfl (Or.inl rfl) ?_
  refine z_iloadn dX1_change_133 rfl ?_
  refine z_iloadn dX1_change_134 rfl ?_
  refine z_bipush dX1_change_135 kb_32 ?_
  refine z_iand dX1_change_137 ?_
  refine y_cv (mt2 := mX1_sortParts) (en := [(2, o), (0, x1), (0, (zand x2 32)), (9, 0), (9, 0), (9, 0), (9, 0)]) (st := []) (as := [(0, x1), (0, (zand x2 32))]) dX1_change_138 lX1_85 kX1_sortParts iX1_sortParts eX1_sortParts rfl (nd_0 ho) (by decide +kernel) (Nat.le_of_ble_eq_true rfl) (Nat.le_of_ble_eq_true rfl) rfl ?_
  exact h
set_option maxRecDepth 20000 in
set_option maxHeartbeats 4000000 in
theorem bX1_change_154 {G : zG} {d : Nat} {M : zM} {Q : zV → zM → Prop} (hG : zP G) {o x1 x2 x49 : Int} (ho : zND o)
    (h : Q (0, x49) M) :
    Y G (d + 1) mX1_change 154 [(2, o), (0, x1), (0, x2)] [(0, x49)] M Q := by
  exact z_ireturn dX1_change_154 (Or.inl rfl) rfl h
set_option maxRecDepth 20000 in
set_option maxHeartbeats 4000000 in
theorem bX1_change_71 {G : zG} {d : Nat} {M : zM} {Q : zV → zM → Prop} (hG : zP G) {o x1 x2 : Int} (ho : zND o)
    (h : Y G d mX1_sortParts 0 [(2, o), (0, x1), (0, (zand x2 1)), (9, 0), (9, 0), (9, 0), (9, 0)] [] M (fun r M' => Y G (d + 1) mX1_change 79 [(2, o), (0, x1), (0, x2)] (zpush r []) M' Q)) :
    Y G (d + 1) mX1_change 71 [(2, o), (0, x1), (0, x2)] [] M Q := by
  refine z_aloadn dX1_change_71 rfl (Or.inl rfl) ?_
  refine z_iloadn dX1_change_72 rfl ?_
  refine z_iloadn dX1_change_73 rfl ?_
  refine z_iconst dX1_change_74 ki_1 ?_
  refine z_iand dX1_change_75 ?_
  refine y_cv (mt2 := mX1_sortParts) (en := [(2, o), (0, x1), (0, (zand x2 1)), (9, 0), (9, 0), (9, 0), (9, 0)]) (st := []) (as := [(0, x1), (0, (zand x2 1))]) dX1_change_76 lX1_85 kX1_sortParts iX1_sortParts eX1_sortParts rfl (nd_0 ho) (by decide +kernel) (Nat.le_of_ble_eq_true rfl) (Nat.le_of_ble_eq_true rfl) rfl ?_
  exact h
set_option maxRecDepth 20000 in
set_option maxHeartbeats 4000000 in
theorem bX1_change_101 {G : zG} {d : Nat} {M : zM} {Q : zV → zM → Prop} (hG : zP G) {o x1 x2 : Int} (ho : zND o)
    (h : Y G d mX1_sortParts 0 [(2, o), (0, x1), (0, (zand x2 2)), (9, 0), (9, 0), (9, 0), (9, 0)] [] M (fun r M' => Y G (d + 1) mX1_change 109 [(2, o), (0, x1), (0, x2)] (zpush r []) M' Q)) :
    Y G (d + 1) mX1_change 101 [(2, o), (0, x1), (0, x2)] [] M Q := by
  refine z_aloadn dX1_change_101 rfl (Or.inl rfl) ?_
  refine z_iloadn dX1_change_102 rfl ?_
  refine z_iloadn dX1_change_103 rfl ?_
  refine z_iconst dX1_change_104 ki_2 ?_
  refine z_iand dX1_change_105 ?_
  refine y_cv (mt2 := mX1_sortParts) (en := [(2, o), (0, x1), (0, (zand x2 2)), (9, 0), (9, 0), (9, 0), (9, 0)]) (st := []) (as := [(0, x1), (0, (zand x2 2))]) dX1_change_106 lX1_85 kX1_sortParts iX1_sortParts eX1_sortParts rfl (nd_0 ho) (by decide +kernel) (Nat.le_of_ble_eq_true rfl) (Nat.le_of_ble_eq_true rfl) rfl ?_
  exact h
set_option maxRecDepth 20000 in
set_option maxHeartbeats 4000000 in
theorem bX1_change_141 {G : zG} {d : Nat} {M : zM} {Q : zV → zM → Prop} (hG : zP G) {o x1 x2 : Int} (ho : zND o)
    (h : Y G d mX1_eitherOr 0 [(2, o), (0, x1), (0, x2), (9, 0), (9, 0)] [] M (fun r M' => Y G (d + 1) mX1_change 147 [(2, o), (0, x1), (0, x2)] (zpush r []) M' Q)) :
    Y G (d + 1) mX1_change 141 [(2, o), (0, x1), (0, x2)] [] M Q := by
  refine z_aloadn dX1_change_141 rfl (Or.inl rfl) ?_
  refine z_iloadn dX1_change_142 rfl ?_
  refine z_iloadn dX1_change_143 rfl ?_
  refine y_cv (mt2 := mX1_eitherOr) (en := [(2, o), (0, x1), (0, x2), (9, 0), (9, 0)]) (st := []) (as := [(0, x1), (0, x2)]) dX1_change_144 lX1_91 kX1_eitherOr iX1_eitherOr eX1_eitherOr rfl (nd_0 ho) (by decide +kernel) (Nat.le_of_ble_eq_true rfl) (Nat.le_of_ble_eq_true rfl) rfl ?_
  exact h
set_option maxRecDepth 20000 in
set_option maxHeartbeats 4000000 in
theorem bX1_change_79 {G : zG} {d : Nat} {M : zM} {Q : zV → zM → Prop} (hG : zP G) {o x1 x2 : Int} (ho : zND o)
    (h : Y G d mX1_aloneOr 0 [(2, o), (0, x1), (9, 0)] [] M (fun r M' => Y G (d + 1) mX1_change 84 [(2, o), (0, x1), (0, x2)] (zpush r []) M' Q)) :
    Y G (d + 1) mX1_change 79 [(2, o), (0, x1), (0, x2)] [] M Q := by
  refine z_aloadn dX1_change_79 rfl (Or.inl rfl) ?_
  refine z_iloadn dX1_change_80 rfl ?_
  refine y_cv (mt2 := mX1_aloneOr) (en := [(2, o), (0, x1), (9, 0)]) (st := []) (as := [(0, x1)]) dX1_change_81 lX1_88 kX1_aloneOr iX1_aloneOr eX1_aloneOr rfl (nd_0 ho) (by decide +kernel) (Nat.le_of_ble_eq_true rfl) (Nat.le_of_ble_eq_true rfl) rfl ?_
  exact h
set_option maxRecDepth 20000 in
set_option maxHeartbeats 4000000 in
theorem bX1_change_109 {G : zG} {d : Nat} {M : zM} {Q : zV → zM → Prop} (hG : zP G) {o x1 x2 : Int} (ho : zND o)
    (h : Y G d mX1_aloneOr 0 [(2, o), (0, x1), (9, 0)] [] M (fun r M' => Y G (d + 1) mX1_change 114 [(2, o), (0, x1), (0, x2)] (zpush r []) M' Q)) :
    Y G (d + 1) mX1_change 109 [(2, o), (0, x1), (0, x2)] [] M Q := by
  refine z_aloadn dX1_change_109 rfl (Or.inl rfl) ?_
  refine z_iloadn dX1_change_110 rfl ?_
  refine y_cv (mt2 := mX1_aloneOr) (en := [(2, o), (0, x1), (9, 0)]) (st := []) (as := [(0, x1)]) dX1_change_111 lX1_88 kX1_aloneOr iX1_aloneOr eX1_aloneOr rfl (nd_0 ho) (by decide +kernel) (Nat.le_of_ble_eq_true rfl) (Nat.le_of_ble_eq_true rfl) rfl ?_
  exact h
set_option maxRecDepth 20000 in
set_option maxHeartbeats 4000000 in
theorem bX1_change_147 {G : zG} {d : Nat} {M : zM} {Q : zV → zM → Prop} (hG : zP G) {o x1 x2 x49 : Int} (ho : zND o)
    (h : Q (0, x49) M) :
    Y G (d + 1) mX1_change 147 [(2, o), (0, x1), (0, x2)] [(0, x49)] M Q := by
  exact z_ireturn dX1_change_147 (Or.inl rfl) rfl h
set_option maxRecDepth 20000 in
set_option maxHeartbeats 4000000 in
theorem bX1_change_84 {G : zG} {d : Nat} {M : zM} {Q : zV → zM → Prop} (hG : zP G) {o x1 x2 x49 : Int} (ho : zND o)
    (h : Q (0, x49) M) :
    Y G (d + 1) mX1_change 84 [(2, o), (0, x1), (0, x2)] [(0, x49)] M Q := by
  exact z_ireturn dX1_change_84 (Or.inl rfl) rfl h
set_option maxRecDepth 20000 in
set_option maxHeartbeats 4000000 in
theorem bX1_change_114 {G : zG} {d : Nat} {M : zM} {Q : zV → zM → Prop} (hG : zP G) {o x1 x2 x49 : Int} (ho : zND o)
    (h : Q (0, x49) M) :
    Y G (d + 1) mX1_change 114 [(2, o), (0, x1), (0, x2)] [(0, x49)] M Q := by
  exact z_ireturn dX1_change_114 (Or.inl rfl) rfl h
set_option maxRecDepth 20000 in
set_option maxHeartbeats 4000000 in
theorem bX1_aloneOr_0 {G : zG} {d : Nat} {M : zM} {Q : zV → zM → Prop} (hG : zP G) {o x1 : Int} (ho : zND o)
    (h : (M o 8 ≤ 300) ∧ (M o 8 ≤ 300) ∧ ((¬ (znf M o 4 x1 0) = 1 → Q (0, x1) M) ∧ ((znf M o 4 x1 0) = 1 → (M o 8 ≤ 300) ∧ (((znf M o 3 (znf M o 5 x1 (-1)) 1) ≤ 0 → Q (0, x1) M) ∧ (0 < (znf M o 3 (znf M o 5 x1 (-1)) 1) → Q (0, (znf M o 5 x1 (-1))) M))))) :
    Y G (d + 1) mX1_aloneOr 0 [(2, o), (0, x1), (9, 0)] [] M Q := by
  refine z_aloadn dX1_aloneOr_0 rfl (Or.inl rfl) ?_
  refine z_iloadn dX1_aloneOr_1 rfl ?_
  obtain ⟨q1, h⟩ := h
  refine y_cv (mt2 := mX1_firstOf) (en := [(2, o), (0, x1)]) (st := []) (as := [(0, x1)]) dX1_aloneOr_2 lX1_51 kX1_firstOf iX1_firstOf eX1_firstOf rfl (nd_0 ho) (by decide +kernel) (Nat.le_of_ble_eq_true rfl) (Nat.le_of_ble_eq_true rfl) rfl (s_firstOf hG ho q1 ?_)
  show Y G (d + 1) mX1_aloneOr 5 [(2, o), (0, x1), (9, 0)] [(0, (znf M o 5 x1 (-1)))] M Q
  refine y_istoren (ls' := [(2, o), (0, x1), (0, (znf M o 5 x1 (-1)))]) dX1_aloneOr_5 rfl rfl ?_
  refine z_aloadn dX1_aloneOr_6 rfl (Or.inl rfl) ?_
  refine z_iloadn dX1_aloneOr_7 rfl ?_
  obtain ⟨q2, h⟩ := h
  refine y_cv (mt2 := mX1_partsOf) (en := [(2, o), (0, x1)]) (st := []) (as := [(0, x1)]) dX1_aloneOr_8 lX1_54 kX1_partsOf iX1_partsOf eX1_partsOf rfl (nd_0 ho) (by decide +kernel) (Nat.le_of_ble_eq_true rfl) (Nat.le_of_ble_eq_true rfl) rfl (s_partsOf hG ho q2 ?_)
  show Y G (d + 1) mX1_aloneOr 11 [(2, o), (0, x1), (0, (znf M o 5 x1 (-1)))] [(0, (znf M o 4 x1 0))] M Q
  refine z_iconst dX1_aloneOr_11 ki_1 ?_
  refine z_icmpne (tgt := 27) dX1_aloneOr_12 rfl (fun q => ?_) (fun q => ?_)
  · replace h := h.1 q
    refine z_iloadn dX1_aloneOr_27 rfl ?_
    exact z_ireturn dX1_aloneOr_28 (Or.inl rfl) rfl h
  · replace h := h.2 q
    refine z_aloadn dX1_aloneOr_15 rfl (Or.inl rfl) ?_
    refine z_iloadn dX1_aloneOr_16 rfl ?_
    obtain ⟨q3, h⟩ := h
    refine y_cv (mt2 := mX1_signOf) (en := [(2, o), (0, (znf M o 5 x1 (-1)))]) (st := []) (as := [(0, (znf M o 5 x1 (-1)))]) dX1_aloneOr_17 lX1_61 kX1_signOf iX1_signOf eX1_signOf rfl (nd_0 ho) (by decide +kernel) (Nat.le_of_ble_eq_true rfl) (Nat.le_of_ble_eq_true rfl) rfl (s_signOf hG ho q3 ?_)
    show Y G (d + 1) mX1_aloneOr 20 [(2, o), (0, x1), (0, (znf M o 5 x1 (-1)))] [(0, (znf M o 3 (znf M o 5 x1 (-1)) 1))] M Q
    refine z_ifle (tgt := 27) dX1_aloneOr_20 rfl (fun q => ?_) (fun q => ?_)
    · replace h := h.1 q
      refine z_iloadn dX1_aloneOr_27 rfl ?_
      exact z_ireturn dX1_aloneOr_28 (Or.inl rfl) rfl h
    · replace h := h.2 q
      refine z_iloadn dX1_aloneOr_23 rfl ?_
      refine z_goto (tgt := 28) dX1_aloneOr_24 rfl ?_
      exact z_ireturn dX1_aloneOr_28 (Or.inl rfl) rfl h
set_option maxRecDepth 20000 in
set_option maxHeartbeats 4000000 in
theorem bX1_leaveOut_0 {G : zG} {d : Nat} {M : zM} {Q : zV → zM → Prop} (hG : zP G) {o x1 x2 x3 : Int} (ho : zND o)
    (h : ((¬ x3 = 0 → Y G d mX1_collectParts 0 [(2, o), (0, x1), (9, 0), (9, 0), (9, 0)] [] M (fun r M' => Y G (d + 1) mX1_leaveOut 10 [(2, o), (0, x1), (0, x2), (0, x3), (9, 0), (9, 0)] (zpush r []) M' Q)) ∧ (x3 = 0 → Q (9, 0) M))) :
    Y G (d + 1) mX1_leaveOut 0 [(2, o), (0, x1), (0, x2), (0, x3), (9, 0), (9, 0)] [] M Q := by
  refine z_iloadn dX1_leaveOut_0 rfl ?_
  refine z_ifne (tgt := 5) dX1_leaveOut_1 rfl (fun q => ?_) (fun q => ?_)
  · replace h := h.1 q
    refine z_aloadn dX1_leaveOut_5 rfl (Or.inl rfl) ?_
    refine z_iloadn dX1_leaveOut_6 rfl ?_
    refine y_cv (mt2 := mX1_collectParts) (en := [(2, o), (0, x1), (9, 0), (9, 0), (9, 0)]) (st := []) (as := [(0, x1)]) dX1_leaveOut_7 lX1_97 kX1_collectParts iX1_collectParts eX1_collectParts rfl (nd_0 ho) (by decide +kernel) (Nat.le_of_ble_eq_true rfl) (Nat.le_of_ble_eq_true rfl) rfl ?_
    exact h
  · replace h := h.2 q
    exact z_return dX1_leaveOut_4 rfl rfl h
set_option maxRecDepth 20000 in
set_option maxHeartbeats 4000000 in
theorem bX1_leaveOut_20 {G : zG} {d : Nat} {M : zM} {Q : zV → zM → Prop} (hG : zP G) {o x1 x2 x3 x4 x5 : Int} (ho : zND o)
    (h : ((x4 ≤ x5 → (M o 8 ≤ 300) ∧ ((¬ (znf M o 4 x1 0) = 0 → Q (9, 0) M) ∧ ((znf M o 4 x1 0) = 0 → Y G d mX1_become 0 [(2, o), (0, x1), (0, 0), (0, x2)] [] M (fun r M' => Y G (d + 1) mX1_leaveOut 100 [(2, o), (0, x1), (0, x2), (0, x3), (0, x4), (0, x5)] (zpush r []) M' Q)))) ∧ (x5 < x4 → (0 ≤ x5 ∧ x5 < 16) ∧ (M o 8 ≤ 300) ∧ ((¬ (znf M o 1 (M (o + 8) x5) (-1)) = 0 → (0 ≤ x5 ∧ x5 < 16) ∧ (0 ≤ x5 ∧ x5 < 16) ∧ (M o 8 ≤ 300) ∧ Y G d mX1_append 0 [(2, o), (0, x1), (0, (M (o + 8) x5)), (0, (znf M o 3 (M (o + 8) x5) 1)), (9, 0)] [] M (fun r M' => Y G (d + 1) mX1_leaveOut 79 [(2, o), (0, x1), (0, x2), (0, x3), (0, x4), (0, x5)] (zpush r []) M' Q)) ∧ ((znf M o 1 (M (o + 8) x5) (-1)) = 0 → (0 ≤ x5 ∧ x5 < 16) ∧ (M o 8 ≤ 300) ∧ (((znf M o 2 (M (o + 8) x5) 0) = x2 → (-2147483648 ≤ x5 + 1 ∧ x5 + 1 ≤ 2147483647) ∧ Y G (d + 1) mX1_leaveOut 20 [(2, o), (0, x1), (0, x2), (0, x3), (0, x4), (0, (x5 + 1))] [] M Q) ∧ (¬ (znf M o 2 (M (o + 8) x5) 0) = x2 → (0 ≤ x5 ∧ x5 < 16) ∧ (0 ≤ x5 ∧ x5 < 16) ∧ (M o 8 ≤ 300) ∧ Y G d mX1_append 0 [(2, o), (0, x1), (0, (M (o + 8) x5)), (0, (znf M o 3 (M (o + 8) x5) 1)), (9, 0)] [] M (fun r M' => Y G (d + 1) mX1_leaveOut 79 [(2, o), (0, x1), (0, x2), (0, x3), (0, x4), (0, x5)] (zpush r []) M' Q)))))))) :
    Y G (d + 1) mX1_leaveOut 20 [(2, o), (0, x1), (0, x2), (0, x3), (0, x4), (0, x5)] [] M Q := by
  refine z_iload dX1_leaveOut_20 rfl ?_
  refine z_iload dX1_leaveOut_22 rfl ?_
  refine z_icmpge (tgt := 85) dX1_leaveOut_24 rfl (fun q => ?_) (fun q => ?_)
  · replace h := h.1 q
    refine z_aloadn dX1_leaveOut_85 rfl (Or.inl rfl) ?_
    refine z_iloadn dX1_leaveOut_86 rfl ?_
    obtain ⟨q1, h⟩ := h
    refine y_cv (mt2 := mX1_partsOf) (en := [(2, o), (0, x1)]) (st := []) (as := [(0, x1)]) dX1_leaveOut_87 lX1_54 kX1_partsOf iX1_partsOf eX1_partsOf rfl (nd_0 ho) (by decide +kernel) (Nat.le_of_ble_eq_true rfl) (Nat.le_of_ble_eq_true rfl) rfl (s_partsOf hG ho q1 ?_)
    show Y G (d + 1) mX1_leaveOut 90 [(2, o), (0, x1), (0, x2), (0, x3), (0, x4), (0, x5)] [(0, (znf M o 4 x1 0))] M Q
    refine z_ifne (tgt := 100) dX1_leaveOut_90 rfl (fun q => ?_) (fun q => ?_)
    · replace h := h.1 q
      exact z_return dX1_leaveOut_100 rfl rfl h
    · replace h := h.2 q
      refine z_aloadn dX1_leaveOut_93 rfl (Or.inl rfl) ?_
      refine z_iloadn dX1_leaveOut_94 rfl ?_
      refine z_iconst dX1_leaveOut_95 ki_0 ?_
      refine z_iloadn dX1_leaveOut_96 rfl ?_
      refine y_cv (mt2 := mX1_become) (en := [(2, o), (0, x1), (0, 0), (0, x2)]) (st := []) (as := [(0, x1), (0, 0), (0, x2)]) dX1_leaveOut_97 lX1_104 kX1_become iX1_become eX1_become rfl (nd_0 ho) (by decide +kernel) (Nat.le_of_ble_eq_true rfl) (Nat.le_of_ble_eq_true rfl) rfl ?_
      exact h
  · replace h := h.2 q
    refine z_aloadn dX1_leaveOut_27 rfl (Or.inl rfl) ?_
    refine z_aloadn dX1_leaveOut_28 rfl (Or.inl rfl) ?_
    refine y_getr (v := (o + 8)) hG dX1_leaveOut_29 fX1_33 (nd_0 ho) (by decide) rfl (nd_x7 ho) (nd_ne ho 8 (by decide)) ?_
    refine z_iload dX1_leaveOut_32 rfl ?_
    obtain ⟨q2, h⟩ := h
    refine y_iald (x := (M (o + 8) x5)) dX1_leaveOut_34 (nd_8 ho) q2 rfl ?_
    obtain ⟨q3, h⟩ := h
    refine y_cv (mt2 := mX1_kindOf) (en := [(2, o), (0, (M (o + 8) x5))]) (st := []) (as := [(0, (M (o + 8) x5))]) dX1_leaveOut_35 lX1_44 kX1_kindOf iX1_kindOf eX1_kindOf rfl (nd_0 ho) (by decide +kernel) (Nat.le_of_ble_eq_true rfl) (Nat.le_of_ble_eq_true rfl) rfl (s_kindOf hG ho q3 ?_)
    show Y G (d + 1) mX1_leaveOut 38 [(2, o), (0, x1), (0, x2), (0, x3), (0, x4), (0, x5)] [(0, (znf M o 1 (M (o + 8) x5) (-1)))] M Q
    refine z_ifne (tgt := 56) dX1_leaveOut_38 rfl (fun q => ?_) (fun q => ?_)
    · replace h := h.1 q
      refine z_aloadn dX1_leaveOut_56 rfl (Or.inl rfl) ?_
      refine z_iloadn dX1_leaveOut_57 rfl ?_
      refine z_aloadn dX1_leaveOut_58 rfl (Or.inl rfl) ?_
      refine y_getr (v := (o + 8)) hG dX1_leaveOut_59 fX1_33 (nd_0 ho) (by decide) rfl (nd_x7 ho) (nd_ne ho 8 (by decide)) ?_
      refine z_iload dX1_leaveOut_62 rfl ?_
      obtain ⟨q4, h⟩ := h
      refine y_iald (x := (M (o + 8) x5)) dX1_leaveOut_64 (nd_8 ho) q4 rfl ?_
      refine z_aloadn dX1_leaveOut_65 rfl (Or.inl rfl) ?_
      refine z_aloadn dX1_leaveOut_66 rfl (Or.inl rfl) ?_
      refine y_getr (v := (o + 8)) hG dX1_leaveOut_67 fX1_33 (nd_0 ho) (by decide) rfl (nd_x7 ho) (nd_ne ho 8 (by decide)) ?_
      refine z_iload dX1_leaveOut_70 rfl ?_
      obtain ⟨q5, h⟩ := h
      refine y_iald (x := (M (o + 8) x5)) dX1_leaveOut_72 (nd_8 ho) q5 rfl ?_
      obtain ⟨q6, h⟩ := h
      refine y_cv (mt2 := mX1_signOf) (en := [(2, o), (0, (M (o + 8) x5))]) (st := [(0, (M (o + 8) x5)), (0, x1), (2, o)]) (as := [(0, (M (o + 8) x5))]) dX1_leaveOut_73 lX1_61 kX1_signOf iX1_signOf eX1_signOf rfl (nd_0 ho) (by decide +kernel) (Nat.le_of_ble_eq_true rfl) (Nat.le_of_ble_eq_true rfl) rfl (s_signOf hG ho q6 ?_)
      show Y G (d + 1) mX1_leaveOut 76 [(2, o), (0, x1), (0, x2), (0, x3), (0, x4), (0, x5)] [(0, (znf M o 3 (M (o + 8) x5) 1)), (0, (M (o + 8) x5)), (0, x1), (2, o)] M Q
      refine y_cv (mt2 := mX1_append) (en := [(2, o), (0, x1), (0, (M (o + 8) x5)), (0, (znf M o 3 (M (o + 8) x5) 1)), (9, 0)]) (st := []) (as := [(0, x1), (0, (M (o + 8) x5)), (0, (znf M o 3 (M (o + 8) x5) 1))]) dX1_leaveOut_76 lX1_74 kX1_append iX1_append eX1_append rfl (nd_0 ho) (by decide +kernel) (Nat.le_of_ble_eq_true rfl) (Nat.le_of_ble_eq_true rfl) rfl ?_
      exact h
    · replace h := h.2 q
      refine z_aloadn dX1_leaveOut_41 rfl (Or.inl rfl) ?_
      refine z_aloadn dX1_leaveOut_42 rfl (Or.inl rfl) ?_
      refine y_getr (v := (o + 8)) hG dX1_leaveOut_43 fX1_33 (nd_0 ho) (by decide) rfl (nd_x7 ho) (nd_ne ho 8 (by decide)) ?_
      refine z_iload dX1_leaveOut_46 rfl ?_
      obtain ⟨q7, h⟩ := h
      refine y_iald (x := (M (o + 8) x5)) dX1_leaveOut_48 (nd_8 ho) q7 rfl ?_
      obtain ⟨q8, h⟩ := h
      refine y_cv (mt2 := mX1_valueOf) (en := [(2, o), (0, (M (o + 8) x5))]) (st := []) (as := [(0, (M (o + 8) x5))]) dX1_leaveOut_49 lX1_48 kX1_valueOf iX1_valueOf eX1_valueOf rfl (nd_0 ho) (by decide +kernel) (Nat.le_of_ble_eq_true rfl) (Nat.le_of_ble_eq_true rfl) rfl (s_valueOf hG ho q8 ?_)
      show Y G (d + 1) mX1_leaveOut 52 [(2, o), (0, x1), (0, x2), (0, x3), (0, x4), (0, x5)] [(0, (znf M o 2 (M (o + 8) x5) 0))] M Q
      refine z_iloadn dX1_leaveOut_52 rfl ?_
      refine z_icmpeq (tgt := 79) dX1_leaveOut_53 rfl (fun q => ?_) (fun q => ?_)
      · replace h := h.1 q
        obtain ⟨q9, h⟩ := h
        refine y_iinc (ls' := [(2, o), (0, x1), (0, x2), (0, x3), (0, x4), (0, (x5 + 1))]) dX1_leaveOut_79 rfl rfl q9 rfl ?_
        refine z_goto (tgt := 20) dX1_leaveOut_82 rfl ?_
        exact h
      · replace h := h.2 q
        refine z_aloadn dX1_leaveOut_56 rfl (Or.inl rfl) ?_
        refine z_iloadn dX1_leaveOut_57 rfl ?_
        refine z_aloadn dX1_leaveOut_58 rfl (Or.inl rfl) ?_
        refine y_getr (v := (o + 8)) hG dX1_leaveOut_59 fX1_33 (nd_0 ho) (by decide) rfl (nd_x7 ho) (nd_ne ho 8 (by decide)) ?_
        refine z_iload dX1_leaveOut_62 rfl ?_
        obtain ⟨q10, h⟩ := h
        refine y_iald (x := (M (o + 8) x5)) dX1_leaveOut_64 (nd_8 ho) q10 rfl ?_
        refine z_aloadn dX1_leaveOut_65 rfl (Or.inl rfl) ?_
        refine z_aloadn dX1_leaveOut_66 rfl (Or.inl rfl) ?_
        refine y_getr (v := (o + 8)) hG dX1_leaveOut_67 fX1_33 (nd_0 ho) (by decide) rfl (nd_x7 ho) (nd_ne ho 8 (by decide)) ?_
        refine z_iload dX1_leaveOut_70 rfl ?_
        obtain ⟨q11, h⟩ := h
        refine y_iald (x := (M (o + 8) x5)) dX1_leaveOut_72 (nd_8 ho) q11 rfl ?_
        obtain ⟨q12, h⟩ := h
        refine y_cv (mt2 := mX1_signOf) (en := [(2, o), (0, (M (o + 8) x5))]) (st := [(0, (M (o + 8) x5)), (0, x1), (2, o)]) (as := [(0, (M (o + 8) x5))]) dX1_leaveOut_73 lX1_61 kX1_signOf iX1_signOf eX1_signOf rfl (nd_0 ho) (by decide +kernel) (Nat.le_of_ble_eq_true rfl) (Nat.le_of_ble_eq_true rfl) rfl (s_signOf hG ho q12 ?_)
        show Y G (d + 1) mX1_leaveOut 76 [(2, o), (0, x1), (0, x2), (0, x3), (0, x4), (0, x5)] [(0, (znf M o 3 (M (o + 8) x5) 1)), (0, (M (o + 8) x5)), (0, x1), (2, o)] M Q
        refine y_cv (mt2 := mX1_append) (en := [(2, o), (0, x1), (0, (M (o + 8) x5)), (0, (znf M o 3 (M (o + 8) x5) 1)), (9, 0)]) (st := []) (as := [(0, x1), (0, (M (o + 8) x5)), (0, (znf M o 3 (M (o + 8) x5) 1))]) dX1_leaveOut_76 lX1_74 kX1_append iX1_append eX1_append rfl (nd_0 ho) (by decide +kernel) (Nat.le_of_ble_eq_true rfl) (Nat.le_of_ble_eq_true rfl) rfl ?_
        exact h
set_option maxRecDepth 20000 in
set_option maxHeartbeats 4000000 in
theorem bX1_leaveOut_10 {G : zG} {d : Nat} {M : zM} {Q : zV → zM → Prop} (hG : zP G) {o x1 x2 x3 x49 : Int} (ho : zND o)
    (h : Y G d mX1_dropParts 0 [(2, o), (0, x1)] [] M (fun r M' => Y G (d + 1) mX1_leaveOut 17 [(2, o), (0, x1), (0, x2), (0, x3), (0, x49), (9, 0)] (zpush r []) M' Q)) :
    Y G (d + 1) mX1_leaveOut 10 [(2, o), (0, x1), (0, x2), (0, x3), (9, 0), (9, 0)] [(0, x49)] M Q := by
  refine y_istore (ls' := [(2, o), (0, x1), (0, x2), (0, x3), (0, x49), (9, 0)]) dX1_leaveOut_10 rfl rfl ?_
  refine z_aloadn dX1_leaveOut_12 rfl (Or.inl rfl) ?_
  refine z_iloadn dX1_leaveOut_13 rfl ?_
  refine y_cv (mt2 := mX1_dropParts) (en := [(2, o), (0, x1)]) (st := []) (as := [(0, x1)]) dX1_leaveOut_14 lX1_100 kX1_dropParts iX1_dropParts eX1_dropParts rfl (nd_0 ho) (by decide +kernel) (Nat.le_of_ble_eq_true rfl) (Nat.le_of_ble_eq_true rfl) rfl ?_
  exact h
set_option maxRecDepth 20000 in
set_option maxHeartbeats 4000000 in
theorem bX1_leaveOut_100 {G : zG} {d : Nat} {M : zM} {Q : zV → zM → Prop} (hG : zP G) {o x1 x2 x3 x4 x5 : Int} (ho : zND o)
    (h : Q (9, 0) M) :
    Y G (d + 1) mX1_leaveOut 100 [(2, o), (0, x1), (0, x2), (0, x3), (0, x4), (0, x5)] [] M Q := by
  exact z_return dX1_leaveOut_100 rfl rfl h
set_option maxRecDepth 20000 in
set_option maxHeartbeats 4000000 in
theorem bX1_leaveOut_79 {G : zG} {d : Nat} {M : zM} {Q : zV → zM → Prop} (hG : zP G) {o x1 x2 x3 x4 x5 : Int} (ho : zND o)
    (h : (-2147483648 ≤ x5 + 1 ∧ x5 + 1 ≤ 2147483647) ∧ Y G (d + 1) mX1_leaveOut 20 [(2, o), (0, x1), (0, x2), (0, x3), (0, x4), (0, (x5 + 1))] [] M Q) :
    Y G (d + 1) mX1_leaveOut 79 [(2, o), (0, x1), (0, x2), (0, x3), (0, x4), (0, x5)] [] M Q := by
  obtain ⟨q1, h⟩ := h
  refine y_iinc (ls' := [(2, o), (0, x1), (0, x2), (0, x3), (0, x4), (0, (x5 + 1))]) dX1_leaveOut_79 rfl rfl q1 rfl ?_
  refine z_goto (tgt := 20) dX1_leaveOut_82 rfl ?_
  exact h
set_option maxRecDepth 20000 in
set_option maxHeartbeats 4000000 in
theorem bX1_leaveOut_17 {G : zG} {d : Nat} {M : zM} {Q : zV → zM → Prop} (hG : zP G) {o x1 x2 x3 x4 : Int} (ho : zND o)
    (h : Y G (d + 1) mX1_leaveOut 20 [(2, o), (0, x1), (0, x2), (0, x3), (0, x4), (0, 0)] [] M Q) :
    Y G (d + 1) mX1_leaveOut 17 [(2, o), (0, x1), (0, x2), (0, x3), (0, x4), (9, 0)] [] M Q := by
  refine z_iconst dX1_leaveOut_17 ki_0 ?_
  refine y_istore (ls' := [(2, o), (0, x1), (0, x2), (0, x3), (0, x4), (0, 0)]) dX1_leaveOut_18 rfl rfl ?_
  exact h
set_option maxRecDepth 20000 in
set_option maxHeartbeats 4000000 in
theorem bX1_collectParts_0 {G : zG} {d : Nat} {M : zM} {Q : zV → zM → Prop} (hG : zP G) {o x1 : Int} (ho : zND o)
    (h : (M o 8 ≤ 300) ∧ (M o 8 ≤ 300) ∧ Y G (d + 1) mX1_collectParts 23 [(2, o), (0, x1), (0, (min (znf M o 4 x1 0) 16)), (0, (znf M o 5 x1 (-1))), (0, 0)] [] M Q) :
    Y G (d + 1) mX1_collectParts 0 [(2, o), (0, x1), (9, 0), (9, 0), (9, 0)] [] M Q := by
  refine z_aloadn dX1_collectParts_0 rfl (Or.inl rfl) ?_
  refine z_iloadn dX1_collectParts_1 rfl ?_
  obtain ⟨q1, h⟩ := h
  refine y_cv (mt2 := mX1_partsOf) (en := [(2, o), (0, x1)]) (st := []) (as := [(0, x1)]) dX1_collectParts_2 lX1_54 kX1_partsOf iX1_partsOf eX1_partsOf rfl (nd_0 ho) (by decide +kernel) (Nat.le_of_ble_eq_true rfl) (Nat.le_of_ble_eq_true rfl) rfl (s_partsOf hG ho q1 ?_)
  show Y G (d + 1) mX1_collectParts 5 [(2, o), (0, x1), (9, 0), (9, 0), (9, 0)] [(0, (znf M o 4 x1 0))] M Q
  refine z_aloadn dX1_collectParts_5 rfl (Or.inl rfl) ?_
  refine y_getr (v := (o + 8)) hG dX1_collectParts_6 fX1_33 (nd_0 ho) (by decide) rfl (nd_x7 ho) (nd_ne ho 8 (by decide)) ?_
  refine y_alen (x := 16) dX1_collectParts_9 (nd_8 ho) (by decide) (by decide) rfl ?_
  refine z_min dX1_collectParts_10 mwX1_107 (Nat.le_of_ble_eq_true rfl) ?_
  refine y_istoren (ls' := [(2, o), (0, x1), (0, (min (znf M o 4 x1 0) 16)), (9, 0), (9, 0)]) dX1_collectParts_13 rfl rfl ?_
  refine z_aloadn dX1_collectParts_14 rfl (Or.inl rfl) ?_
  refine z_iloadn dX1_collectParts_15 rfl ?_
  obtain ⟨q2, h⟩ := h
  refine y_cv (mt2 := mX1_firstOf) (en := [(2, o), (0, x1)]) (st := []) (as := [(0, x1)]) dX1_collectParts_16 lX1_51 kX1_firstOf iX1_firstOf eX1_firstOf rfl (nd_0 ho) (by decide +kernel) (Nat.le_of_ble_eq_true rfl) (Nat.le_of_ble_eq_true rfl) rfl (s_firstOf hG ho q2 ?_)
  show Y G (d + 1) mX1_collectParts 19 [(2, o), (0, x1), (0, (min (znf M o 4 x1 0) 16)), (9, 0), (9, 0)] [(0, (znf M o 5 x1 (-1)))] M Q
  refine y_istoren (ls' := [(2, o), (0, x1), (0, (min (znf M o 4 x1 0) 16)), (0, (znf M o 5 x1 (-1))), (9, 0)]) dX1_collectParts_19 rfl rfl ?_
  refine z_iconst dX1_collectParts_20 ki_0 ?_
  refine y_istore (ls' := [(2, o), (0, x1), (0, (min (znf M o 4 x1 0) 16)), (0, (znf M o 5 x1 (-1))), (0, 0)]) dX1_collectParts_21 rfl rfl ?_
  exact h
set_option maxRecDepth 20000 in
set_option maxHeartbeats 4000000 in
theorem bX1_collectParts_23 {G : zG} {d : Nat} {M : zM} {Q : zV → zM → Prop} (hG : zP G) {o x1 x2 x3 x4 : Int} (ho : zND o)
    (h : ((x2 ≤ x4 → Q (0, x2) M) ∧ (x4 < x2 → (0 ≤ x4 ∧ x4 < 16) ∧ ((zset M (o + 8) x4 x3) o 8 ≤ 300) ∧ (-2147483648 ≤ x4 + 1 ∧ x4 + 1 ≤ 2147483647) ∧ Y G (d + 1) mX1_collectParts 23 [(2, o), (0, x1), (0, x2), (0, (znf (zset M (o + 8) x4 x3) o 7 x3 (-1))), (0, (x4 + 1))] [] (zset M (o + 8) x4 x3) Q))) :
    Y G (d + 1) mX1_collectParts 23 [(2, o), (0, x1), (0, x2), (0, x3), (0, x4)] [] M Q := by
  refine z_iload dX1_collectParts_23 rfl ?_
  refine z_iloadn dX1_collectParts_25 rfl ?_
  refine z_icmpge (tgt := 49) dX1_collectParts_26 rfl (fun q => ?_) (fun q => ?_)
  · replace h := h.1 q
    refine z_iloadn dX1_collectParts_49 rfl ?_
    exact z_ireturn dX1_collectParts_50 (Or.inl rfl) rfl h
  · replace h := h.2 q
    refine z_aloadn dX1_collectParts_29 rfl (Or.inl rfl) ?_
    refine y_getr (v := (o + 8)) hG dX1_collectParts_30 fX1_33 (nd_0 ho) (by decide) rfl (nd_x7 ho) (nd_ne ho 8 (by decide)) ?_
    refine z_iload dX1_collectParts_33 rfl ?_
    refine z_iloadn dX1_collectParts_35 rfl ?_
    obtain ⟨q1, h⟩ := h
    refine y_iast hG dX1_collectParts_36 (nd_8 ho) q1 ?_
    refine z_aloadn dX1_collectParts_37 rfl (Or.inl rfl) ?_
    refine z_iloadn dX1_collectParts_38 rfl ?_
    obtain ⟨q2, h⟩ := h
    refine y_cv (mt2 := mX1_behind) (en := [(2, o), (0, x3)]) (st := []) (as := [(0, x3)]) dX1_collectParts_39 lX1_68 kX1_behind iX1_behind eX1_behind rfl (nd_0 ho) (by decide +kernel) (Nat.le_of_ble_eq_true rfl) (Nat.le_of_ble_eq_true rfl) rfl (s_behind hG ho q2 ?_)
    show Y G (d + 1) mX1_collectParts 42 [(2, o), (0, x1), (0, x2), (0, x3), (0, x4)] [(0, (znf (zset M (o + 8) x4 x3) o 7 x3 (-1)))] (zset M (o + 8) x4 x3) Q
    refine y_istoren (ls' := [(2, o), (0, x1), (0, x2), (0, (znf (zset M (o + 8) x4 x3) o 7 x3 (-1))), (0, x4)]) dX1_collectParts_42 rfl rfl ?_
    obtain ⟨q3, h⟩ := h
    refine y_iinc (ls' := [(2, o), (0, x1), (0, x2), (0, (znf (zset M (o + 8) x4 x3) o 7 x3 (-1))), (0, (x4 + 1))]) dX1_collectParts_43 rfl rfl q3 rfl ?_
    refine z_goto (tgt := 23) dX1_collectParts_46 rfl ?_
    exact h
set_option maxRecDepth 20000 in
set_option maxHeartbeats 4000000 in
theorem bX1_chainParts_0 {G : zG} {d : Nat} {M : zM} {Q : zV → zM → Prop} (hG : zP G) {o x1 x2 : Int} (ho : zND o)
    (h : Y G d mX1_dropParts 0 [(2, o), (0, x1)] [] M (fun r M' => Y G (d + 1) mX1_chainParts 5 [(2, o), (0, x1), (0, x2), (9, 0)] (zpush r []) M' Q)) :
    Y G (d + 1) mX1_chainParts 0 [(2, o), (0, x1), (0, x2), (9, 0)] [] M Q := by
  refine z_aloadn dX1_chainParts_0 rfl (Or.inl rfl) ?_
  refine z_iloadn dX1_chainParts_1 rfl ?_
  refine y_cv (mt2 := mX1_dropParts) (en := [(2, o), (0, x1)]) (st := []) (as := [(0, x1)]) dX1_chainParts_2 lX1_100 kX1_dropParts iX1_dropParts eX1_dropParts rfl (nd_0 ho) (by decide +kernel) (Nat.le_of_ble_eq_true rfl) (Nat.le_of_ble_eq_true rfl) rfl ?_
  exact h
set_option maxRecDepth 20000 in
set_option maxHeartbeats 4000000 in
theorem bX1_chainParts_7 {G : zG} {d : Nat} {M : zM} {Q : zV → zM → Prop} (hG : zP G) {o x1 x2 x3 : Int} (ho : zND o)
    (h : ((x2 ≤ x3 → Q (9, 0) M) ∧ (x3 < x2 → ((16 ≤ x3 → Q (9, 0) M) ∧ (x3 < 16 → (0 ≤ x3 ∧ x3 < 16) ∧ (0 ≤ x3 ∧ x3 < 16) ∧ (M o 8 ≤ 300) ∧ Y G d mX1_append 0 [(2, o), (0, x1), (0, (M (o + 8) x3)), (0, (znf M o 3 (M (o + 8) x3) 1)), (9, 0)] [] M (fun r M' => Y G (d + 1) mX1_chainParts 42 [(2, o), (0, x1), (0, x2), (0, x3)] (zpush r []) M' Q)))))) :
    Y G (d + 1) mX1_chainParts 7 [(2, o), (0, x1), (0, x2), (0, x3)] [] M Q := by
  refine z_iloadn dX1_chainParts_7 rfl ?_
  refine z_iloadn dX1_chainParts_8 rfl ?_
  refine z_icmpge (tgt := 48) dX1_chainParts_9 rfl (fun q => ?_) (fun q => ?_)
  · replace h := h.1 q
    exact z_return dX1_chainParts_48 rfl rfl h
  · replace h := h.2 q
    refine z_iloadn dX1_chainParts_12 rfl ?_
    refine z_aloadn dX1_chainParts_13 rfl (Or.inl rfl) ?_
    refine y_getr (v := (o + 8)) hG dX1_chainParts_14 fX1_33 (nd_0 ho) (by decide) rfl (nd_x7 ho) (nd_ne ho 8 (by decide)) ?_
    refine y_alen (x := 16) dX1_chainParts_17 (nd_8 ho) (by decide) (by decide) rfl ?_
    refine z_icmpge (tgt := 48) dX1_chainParts_18 rfl (fun q => ?_) (fun q => ?_)
    · replace h := h.1 q
      exact z_return dX1_chainParts_48 rfl rfl h
    · replace h := h.2 q
      refine z_aloadn dX1_chainParts_21 rfl (Or.inl rfl) ?_
      refine z_iloadn dX1_chainParts_22 rfl ?_
      refine z_aloadn dX1_chainParts_23 rfl (Or.inl rfl) ?_
      refine y_getr (v := (o + 8)) hG dX1_chainParts_24 fX1_33 (nd_0 ho) (by decide) rfl (nd_x7 ho) (nd_ne ho 8 (by decide)) ?_
      refine z_iloadn dX1_chainParts_27 rfl ?_
      obtain ⟨q1, h⟩ := h
      refine y_iald (x := (M (o + 8) x3)) dX1_chainParts_28 (nd_8 ho) q1 rfl ?_
      refine z_aloadn dX1_chainParts_29 rfl (Or.inl rfl) ?_
      refine z_aloadn dX1_chainParts_30 rfl (Or.inl rfl) ?_
      refine y_getr (v := (o + 8)) hG dX1_chainParts_31 fX1_33 (nd_0 ho) (by decide) rfl (nd_x7 ho) (nd_ne ho 8 (by decide)) ?_
      refine z_iloadn dX1_chainParts_34 rfl ?_
      obtain ⟨q2, h⟩ := h
      refine y_iald (x := (M (o + 8) x3)) dX1_chainParts_35 (nd_8 ho) q2 rfl ?_
      obtain ⟨q3, h⟩ := h
      refine y_cv (mt2 := mX1_signOf) (en := [(2, o), (0, (M (o + 8) x3))]) (st := [(0, (M (o + 8) x3)), (0, x1), (2, o)]) (as := [(0, (M (o + 8) x3))]) dX1_chainParts_36 lX1_61 kX1_signOf iX1_signOf eX1_signOf rfl (nd_0 ho) (by decide +kernel) (Nat.le_of_ble_eq_true rfl) (Nat.le_of_ble_eq_true rfl) rfl (s_signOf hG ho q3 ?_)
      show Y G (d + 1) mX1_chainParts 39 [(2, o), (0, x1), (0, x2), (0, x3)] [(0, (znf M o 3 (M (o + 8) x3) 1)), (0, (M (o + 8) x3)), (0, x1), (2, o)] M Q
      refine y_cv (mt2 := mX1_append) (en := [(2, o), (0, x1), (0, (M (o + 8) x3)), (0, (znf M o 3 (M (o + 8) x3) 1)), (9, 0)]) (st := []) (as := [(0, x1), (0, (M (o + 8) x3)), (0, (znf M o 3 (M (o + 8) x3) 1))]) dX1_chainParts_39 lX1_74 kX1_append iX1_append eX1_append rfl (nd_0 ho) (by decide +kernel) (Nat.le_of_ble_eq_true rfl) (Nat.le_of_ble_eq_true rfl) rfl ?_
      exact h
set_option maxRecDepth 20000 in
set_option maxHeartbeats 4000000 in
theorem bX1_chainParts_5 {G : zG} {d : Nat} {M : zM} {Q : zV → zM → Prop} (hG : zP G) {o x1 x2 : Int} (ho : zND o)
    (h : Y G (d + 1) mX1_chainParts 7 [(2, o), (0, x1), (0, x2), (0, 0)] [] M Q) :
    Y G (d + 1) mX1_chainParts 5 [(2, o), (0, x1), (0, x2), (9, 0)] [] M Q := by
  refine z_iconst dX1_chainParts_5 ki_0 ?_
  refine y_istoren (ls' := [(2, o), (0, x1), (0, x2), (0, 0)]) dX1_chainParts_6 rfl rfl ?_
  exact h
set_option maxRecDepth 20000 in
set_option maxHeartbeats 4000000 in
theorem bX1_chainParts_42 {G : zG} {d : Nat} {M : zM} {Q : zV → zM → Prop} (hG : zP G) {o x1 x2 x3 : Int} (ho : zND o)
    (h : (-2147483648 ≤ x3 + 1 ∧ x3 + 1 ≤ 2147483647) ∧ Y G (d + 1) mX1_chainParts 7 [(2, o), (0, x1), (0, x2), (0, (x3 + 1))] [] M Q) :
    Y G (d + 1) mX1_chainParts 42 [(2, o), (0, x1), (0, x2), (0, x3)] [] M Q := by
  obtain ⟨q1, h⟩ := h
  refine y_iinc (ls' := [(2, o), (0, x1), (0, x2), (0, (x3 + 1))]) dX1_chainParts_42 rfl rfl q1 rfl ?_
  refine z_goto (tgt := 7) dX1_chainParts_45 rfl ?_
  exact h
set_option maxRecDepth 20000 in
set_option maxHeartbeats 4000000 in
theorem bX1_workNumbers_0 {G : zG} {d : Nat} {M : zM} {Q : zV → zM → Prop} (hG : zP G) {o x1 x2 : Int} (ho : zND o)
    (h : (M o 8 ≤ 300) ∧ (M o 8 ≤ 300) ∧ (((zand x2 128) = 0 → Q (9, 0) M) ∧ (¬ (zand x2 128) = 0 → (M o 8 ≤ 300) ∧ ((¬ (znf M o 4 x1 0) = 0 → ((¬ (znf M o 1 x1 (-1)) = 2 → ((¬ (znf M o 1 x1 (-1)) = 3 → (M o 8 ≤ 300) ∧ Y G (d + 1) mX1_workNumbers 60 [(2, o), (0, x1), (0, x2), (0, (znf M o 1 x1 (-1))), (0, (znf M o 5 x1 (-1))), (1, (znf M o 2 (znf M o 5 x1 (-1)) 0)), (9, 0), (0, 0)] [] M Q) ∧ ((znf M o 1 x1 (-1)) = 3 → Y G (d + 1) mX1_workNumbers 60 [(2, o), (0, x1), (0, x2), (0, (znf M o 1 x1 (-1))), (0, (znf M o 5 x1 (-1))), (1, 1), (9, 0), (0, 0)] [] M Q))) ∧ ((znf M o 1 x1 (-1)) = 2 → Y G (d + 1) mX1_workNumbers 60 [(2, o), (0, x1), (0, x2), (0, (znf M o 1 x1 (-1))), (0, (znf M o 5 x1 (-1))), (1, 0), (9, 0), (0, 0)] [] M Q))) ∧ ((znf M o 4 x1 0) = 0 → Q (9, 0) M))))) :
    Y G (d + 1) mX1_workNumbers 0 [(2, o), (0, x1), (0, x2), (9, 0), (9, 0), (9, 0), (9, 0), (9, 0)] [] M Q := by
  refine z_aloadn dX1_workNumbers_0 rfl (Or.inl rfl) ?_
  refine z_iloadn dX1_workNumbers_1 rfl ?_
  obtain ⟨q1, h⟩ := h
  refine y_cv (mt2 := mX1_kindOf) (en := [(2, o), (0, x1)]) (st := []) (as := [(0, x1)]) dX1_workNumbers_2 lX1_44 kX1_kindOf iX1_kindOf eX1_kindOf rfl (nd_0 ho) (by decide +kernel) (Nat.le_of_ble_eq_true rfl) (Nat.le_of_ble_eq_true rfl) rfl (s_kindOf hG ho q1 ?_)
  show Y G (d + 1) mX1_workNumbers 5 [(2, o), (0, x1), (0, x2), (9, 0), (9, 0), (9, 0), (9, 0), (9, 0)] [(0, (znf M o 1 x1 (-1)))] M Q
  refine y_istoren (ls' := [(2, o), (0, x1), (0, x2), (0, (znf M o 1 x1 (-1))), (9, 0), (9, 0), (9, 0), (9, 0)]) dX1_workNumbers_5 rfl rfl ?_
  refine z_aloadn dX1_workNumbers_6 rfl (Or.inl rfl) ?_
  refine z_iloadn dX1_workNumbers_7 rfl ?_
  obtain ⟨q2, h⟩ := h
  refine y_cv (mt2 := mX1_firstOf) (en := [(2, o), (0, x1)]) (st := []) (as := [(0, x1)]) dX1_workNumbers_8 lX1_51 kX1_firstOf iX1_firstOf eX1_firstOf rfl (nd_0 ho) (by decide +kernel) (Nat.le_of_ble_eq_true rfl) (Nat.le_of_ble_eq_true rfl) rfl (s_firstOf hG ho q2 ?_)
  show Y G (d + 1) mX1_workNumbers 11 [(2, o), (0, x1), (0, x2), (0, (znf M o 1 x1 (-1))), (9, 0), (9, 0), (9, 0), (9, 0)] [(0, (znf M o 5 x1 (-1)))] M Q
  refine y_istore (ls' := [(2, o), (0, x1), (0, x2), (0, (znf M o 1 x1 (-1))), (0, (znf M o 5 x1 (-1))), (9, 0), (9, 0), (9, 0)]) dX1_workNumbers_11 rfl rfl ?_
  refine z_iloadn dX1_workNumbers_13 rfl ?_
  refine z_sipush dX1_workNumbers_14 ks_128 ?_
  refine z_iand dX1_workNumbers_17 ?_
  refine z_ifeq (tgt := 29) dX1_workNumbers_18 rfl (fun q => ?_) (fun q => ?_)
  · replace h := h.1 q
    exact z_return dX1_workNumbers_29 rfl rfl h
  · replace h := h.2 q
    refine z_aloadn dX1_workNumbers_21 rfl (Or.inl rfl) ?_
    refine z_iloadn dX1_workNumbers_22 rfl ?_
    obtain ⟨q3, h⟩ := h
    refine y_cv (mt2 := mX1_partsOf) (en := [(2, o), (0, x1)]) (st := []) (as := [(0, x1)]) dX1_workNumbers_23 lX1_54 kX1_partsOf iX1_partsOf eX1_partsOf rfl (nd_0 ho) (by decide +kernel) (Nat.le_of_ble_eq_true rfl) (Nat.le_of_ble_eq_true rfl) rfl (s_partsOf hG ho q3 ?_)
    show Y G (d + 1) mX1_workNumbers 26 [(2, o), (0, x1), (0, x2), (0, (znf M o 1 x1 (-1))), (0, (znf M o 5 x1 (-1))), (9, 0), (9, 0), (9, 0)] [(0, (znf M o 4 x1 0))] M Q
    refine z_ifne (tgt := 30) dX1_workNumbers_26 rfl (fun q => ?_) (fun q => ?_)
    · replace h := h.1 q
      refine z_iloadn dX1_workNumbers_30 rfl ?_
      refine z_iconst dX1_workNumbers_31 ki_2 ?_
      refine z_icmpne (tgt := 39) dX1_workNumbers_32 rfl (fun q => ?_) (fun q => ?_)
      · replace h := h.1 q
        refine z_iloadn dX1_workNumbers_39 rfl ?_
        refine z_iconst dX1_workNumbers_40 ki_3 ?_
        refine z_icmpne (tgt := 48) dX1_workNumbers_41 rfl (fun q => ?_) (fun q => ?_)
        · replace h := h.1 q
          refine z_aloadn dX1_workNumbers_48 rfl (Or.inl rfl) ?_
          refine z_iload dX1_workNumbers_49 rfl ?_
          obtain ⟨q4, h⟩ := h
          refine y_cv (mt2 := mX1_valueOf) (en := [(2, o), (0, (znf M o 5 x1 (-1)))]) (st := []) (as := [(0, (znf M o 5 x1 (-1)))]) dX1_workNumbers_51 lX1_48 kX1_valueOf iX1_valueOf eX1_valueOf rfl (nd_0 ho) (by decide +kernel) (Nat.le_of_ble_eq_true rfl) (Nat.le_of_ble_eq_true rfl) rfl (s_valueOf hG ho q4 ?_)
          show Y G (d + 1) mX1_workNumbers 54 [(2, o), (0, x1), (0, x2), (0, (znf M o 1 x1 (-1))), (0, (znf M o 5 x1 (-1))), (9, 0), (9, 0), (9, 0)] [(0, (znf M o 2 (znf M o 5 x1 (-1)) 0))] M Q
          refine z_i2l dX1_workNumbers_54 ?_
          refine y_lstore (ls' := [(2, o), (0, x1), (0, x2), (0, (znf M o 1 x1 (-1))), (0, (znf M o 5 x1 (-1))), (1, (znf M o 2 (znf M o 5 x1 (-1)) 0)), (9, 0), (9, 0)]) dX1_workNumbers_55 rfl (Nat.le_of_ble_eq_true rfl) rfl ?_
          refine z_iconst dX1_workNumbers_57 ki_0 ?_
          refine y_istore (ls' := [(2, o), (0, x1), (0, x2), (0, (znf M o 1 x1 (-1))), (0, (znf M o 5 x1 (-1))), (1, (znf M o 2 (znf M o 5 x1 (-1)) 0)), (9, 0), (0, 0)]) dX1_workNumbers_58 rfl rfl ?_
          exact h
        · replace h := h.2 q
          refine z_lconst (k := 1) dX1_workNumbers_44 ⟨by decide, ⟨by decide, by decide⟩⟩ ?_
          refine z_goto (tgt := 55) dX1_workNumbers_45 rfl ?_
          refine y_lstore (ls' := [(2, o), (0, x1), (0, x2), (0, (znf M o 1 x1 (-1))), (0, (znf M o 5 x1 (-1))), (1, 1), (9, 0), (9, 0)]) dX1_workNumbers_55 rfl (Nat.le_of_ble_eq_true rfl) rfl ?_
          refine z_iconst dX1_workNumbers_57 ki_0 ?_
          refine y_istore (ls' := [(2, o), (0, x1), (0, x2), (0, (znf M o 1 x1 (-1))), (0, (znf M o 5 x1 (-1))), (1, 1), (9, 0), (0, 0)]) dX1_workNumbers_58 rfl rfl ?_
          exact h
      · replace h := h.2 q
        refine z_lconst (k := 0) dX1_workNumbers_35 ⟨by decide, ⟨by decide, by decide⟩⟩ ?_
        refine z_goto (tgt := 55) dX1_workNumbers_36 rfl ?_
        refine y_lstore (ls' := [(2, o), (0, x1), (0, x2), (0, (znf M o 1 x1 (-1))), (0, (znf M o 5 x1 (-1))), (1, 0), (9, 0), (9, 0)]) dX1_workNumbers_55 rfl (Nat.le_of_ble_eq_true rfl) rfl ?_
        refine z_iconst dX1_workNumbers_57 ki_0 ?_
        refine y_istore (ls' := [(2, o), (0, x1), (0, x2), (0, (znf M o 1 x1 (-1))), (0, (znf M o 5 x1 (-1))), (1, 0), (9, 0), (0, 0)]) dX1_workNumbers_58 rfl rfl ?_
        exact h
    · replace h := h.2 q
      exact z_return dX1_workNumbers_29 rfl rfl h
set_option maxRecDepth 20000 in
set_option maxHeartbeats 4000000 in
theorem bX1_workNumbers_60 {G : zG} {d : Nat} {M : zM} {Q : zV → zM → Prop} (hG : zP G) {o x1 x2 x3 x4 x5 x7 : Int} (ho : zND o)
    (h : (M o 8 ≤ 300) ∧ (((znf M o 4 x1 0) ≤ x7 → Y G d mX1_become 0 [(2, o), (0, x1), (0, 0), (0, (zw x5))] [] M (fun r M' => Y G (d + 1) mX1_workNumbers 127 [(2, o), (0, x1), (0, x2), (0, x3), (0, x4), (1, x5), (9, 0), (0, x7)] (zpush r []) M' Q)) ∧ (x7 < (znf M o 4 x1 0) → (M o 8 ≤ 300) ∧ (((znf M o 1 x4 (-1)) = 0 → (M o 8 ≤ 300) ∧ (M o 8 ≤ 300) ∧ (zin 1 ((znf M o 3 x4 1) * (znf M o 2 x4 0))) ∧ Y G d mX1_workedWith 0 [(0, x3), (1, x5), (9, 0), (1, ((znf M o 3 x4 1) * (znf M o 2 x4 0))), (9, 0)] [] M (fun r M' => Y G (d + 1) mX1_workNumbers 101 [(2, o), (0, x1), (0, x2), (0, x3), (0, x4), (1, x5), (9, 0), (0, x7)] (zpush r []) M' Q)) ∧ (¬ (znf M o 1 x4 (-1)) = 0 → Q (9, 0) M))))) :
    Y G (d + 1) mX1_workNumbers 60 [(2, o), (0, x1), (0, x2), (0, x3), (0, x4), (1, x5), (9, 0), (0, x7)] [] M Q := by
  refine z_iload dX1_workNumbers_60 rfl ?_
  refine z_aloadn dX1_workNumbers_62 rfl (Or.inl rfl) ?_
  refine z_iloadn dX1_workNumbers_63 rfl ?_
  obtain ⟨q1, h⟩ := h
  refine y_cv (mt2 := mX1_partsOf) (en := [(2, o), (0, x1)]) (st := [(0, x7)]) (as := [(0, x1)]) dX1_workNumbers_64 lX1_54 kX1_partsOf iX1_partsOf eX1_partsOf rfl (nd_0 ho) (by decide +kernel) (Nat.le_of_ble_eq_true rfl) (Nat.le_of_ble_eq_true rfl) rfl (s_partsOf hG ho q1 ?_)
  show Y G (d + 1) mX1_workNumbers 67 [(2, o), (0, x1), (0, x2), (0, x3), (0, x4), (1, x5), (9, 0), (0, x7)] [(0, (znf M o 4 x1 0)), (0, x7)] M Q
  refine z_icmpge (tgt := 118) dX1_workNumbers_67 rfl (fun q => ?_) (fun q => ?_)
  · replace h := h.1 q
    refine z_aloadn dX1_workNumbers_118 rfl (Or.inl rfl) ?_
    refine z_iloadn dX1_workNumbers_119 rfl ?_
    refine z_iconst dX1_workNumbers_120 ki_0 ?_
    refine z_lload dX1_workNumbers_121 rfl ?_
    refine z_l2i dX1_workNumbers_123 ?_
    refine y_cv (mt2 := mX1_become) (en := [(2, o), (0, x1), (0, 0), (0, (zw x5))]) (st := []) (as := [(0, x1), (0, 0), (0, (zw x5))]) dX1_workNumbers_124 lX1_104 kX1_become iX1_become eX1_become rfl (nd_0 ho) (by decide +kernel) (Nat.le_of_ble_eq_true rfl) (Nat.le_of_ble_eq_true rfl) rfl ?_
    exact h
  · replace h := h.2 q
    refine z_aloadn dX1_workNumbers_70 rfl (Or.inl rfl) ?_
    refine z_iload dX1_workNumbers_71 rfl ?_
    obtain ⟨q2, h⟩ := h
    refine y_cv (mt2 := mX1_kindOf) (en := [(2, o), (0, x4)]) (st := []) (as := [(0, x4)]) dX1_workNumbers_73 lX1_44 kX1_kindOf iX1_kindOf eX1_kindOf rfl (nd_0 ho) (by decide +kernel) (Nat.le_of_ble_eq_true rfl) (Nat.le_of_ble_eq_true rfl) rfl (s_kindOf hG ho q2 ?_)
    show Y G (d + 1) mX1_workNumbers 76 [(2, o), (0, x1), (0, x2), (0, x3), (0, x4), (1, x5), (9, 0), (0, x7)] [(0, (znf M o 1 x4 (-1)))] M Q
    refine z_ifeq (tgt := 80) dX1_workNumbers_76 rfl (fun q => ?_) (fun q => ?_)
    · replace h := h.1 q
      refine z_iloadn dX1_workNumbers_80 rfl ?_
      refine z_lload dX1_workNumbers_81 rfl ?_
      refine z_aloadn dX1_workNumbers_83 rfl (Or.inl rfl) ?_
      refine z_iload dX1_workNumbers_84 rfl ?_
      obtain ⟨q3, h⟩ := h
      refine y_cv (mt2 := mX1_signOf) (en := [(2, o), (0, x4)]) (st := [(1, x5), (0, x3)]) (as := [(0, x4)]) dX1_workNumbers_86 lX1_61 kX1_signOf iX1_signOf eX1_signOf rfl (nd_0 ho) (by decide +kernel) (Nat.le_of_ble_eq_true rfl) (Nat.le_of_ble_eq_true rfl) rfl (s_signOf hG ho q3 ?_)
      show Y G (d + 1) mX1_workNumbers 89 [(2, o), (0, x1), (0, x2), (0, x3), (0, x4), (1, x5), (9, 0), (0, x7)] [(0, (znf M o 3 x4 1)), (1, x5), (0, x3)] M Q
      refine z_i2l dX1_workNumbers_89 ?_
      refine z_aloadn dX1_workNumbers_90 rfl (Or.inl rfl) ?_
      refine z_iload dX1_workNumbers_91 rfl ?_
      obtain ⟨q4, h⟩ := h
      refine y_cv (mt2 := mX1_valueOf) (en := [(2, o), (0, x4)]) (st := [(1, (znf M o 3 x4 1)), (1, x5), (0, x3)]) (as := [(0, x4)]) dX1_workNumbers_93 lX1_48 kX1_valueOf iX1_valueOf eX1_valueOf rfl (nd_0 ho) (by decide +kernel) (Nat.le_of_ble_eq_true rfl) (Nat.le_of_ble_eq_true rfl) rfl (s_valueOf hG ho q4 ?_)
      show Y G (d + 1) mX1_workNumbers 96 [(2, o), (0, x1), (0, x2), (0, x3), (0, x4), (1, x5), (9, 0), (0, x7)] [(0, (znf M o 2 x4 0)), (1, (znf M o 3 x4 1)), (1, x5), (0, x3)] M Q
      refine z_i2l dX1_workNumbers_96 ?_
      obtain ⟨q5, h⟩ := h
      refine z_lmul dX1_workNumbers_97 q5 ?_
      refine y_cs (mt2 := mX1_workedWith) (en := [(0, x3), (1, x5), (9, 0), (1, ((znf M o 3 x4 1) * (znf M o 2 x4 0))), (9, 0)]) (st := []) (as := [(0, x3), (1, x5), (1, ((znf M o 3 x4 1) * (znf M o 2 x4 0)))]) dX1_workNumbers_98 lX1_112 kX1_workedWith tX1_workedWith rfl (Nat.le_of_ble_eq_true rfl) (Nat.le_of_ble_eq_true rfl) rfl ?_
      exact h
    · replace h := h.2 q
      exact z_return dX1_workNumbers_79 rfl rfl h
set_option maxRecDepth 20000 in
set_option maxHeartbeats 4000000 in
theorem bX1_workNumbers_127 {G : zG} {d : Nat} {M : zM} {Q : zV → zM → Prop} (hG : zP G) {o x1 x2 x3 x4 x5 x7 : Int} (ho : zND o)
    (h : Q (9, 0) M) :
    Y G (d + 1) mX1_workNumbers 127 [(2, o), (0, x1), (0, x2), (0, x3), (0, x4), (1, x5), (9, 0), (0, x7)] [] M Q := by
  exact z_return dX1_workNumbers_127 rfl rfl h
set_option maxRecDepth 20000 in
set_option maxHeartbeats 4000000 in
theorem bX1_workNumbers_101 {G : zG} {d : Nat} {M : zM} {Q : zV → zM → Prop} (hG : zP G) {o x1 x2 x3 x4 x5 x7 x49 : Int} (ho : zND o)
    (h : (M o 8 ≤ 300) ∧ (-2147483648 ≤ x7 + 1 ∧ x7 + 1 ≤ 2147483647) ∧ Y G (d + 1) mX1_workNumbers 60 [(2, o), (0, x1), (0, x2), (0, x3), (0, (znf M o 7 x4 (-1))), (1, x49), (9, 0), (0, (x7 + 1))] [] M Q) :
    Y G (d + 1) mX1_workNumbers 101 [(2, o), (0, x1), (0, x2), (0, x3), (0, x4), (1, x5), (9, 0), (0, x7)] [(0, x49)] M Q := by
  refine z_i2l dX1_workNumbers_101 ?_
  refine y_lstore (ls' := [(2, o), (0, x1), (0, x2), (0, x3), (0, x4), (1, x49), (9, 0), (0, x7)]) dX1_workNumbers_102 rfl (Nat.le_of_ble_eq_true rfl) rfl ?_
  refine z_aloadn dX1_workNumbers_104 rfl (Or.inl rfl) ?_
  refine z_iload dX1_workNumbers_105 rfl ?_
  obtain ⟨q1, h⟩ := h
  refine y_cv (mt2 := mX1_behind) (en := [(2, o), (0, x4)]) (st := []) (as := [(0, x4)]) dX1_workNumbers_107 lX1_68 kX1_behind iX1_behind eX1_behind rfl (nd_0 ho) (by decide +kernel) (Nat.le_of_ble_eq_true rfl) (Nat.le_of_ble_eq_true rfl) rfl (s_behind hG ho q1 ?_)
  show Y G (d + 1) mX1_workNumbers 110 [(2, o), (0, x1), (0, x2), (0, x3), (0, x4), (1, x49), (9, 0), (0, x7)] [(0, (znf M o 7 x4 (-1)))] M Q
  refine y_istore (ls' := [(2, o), (0, x1), (0, x2), (0, x3), (0, (znf M o 7 x4 (-1))), (1, x49), (9, 0), (0, x7)]) dX1_workNumbers_110 rfl rfl ?_
  obtain ⟨q2, h⟩ := h
  refine y_iinc (ls' := [(2, o), (0, x1), (0, x2), (0, x3), (0, (znf M o 7 x4 (-1))), (1, x49), (9, 0), (0, (x7 + 1))]) dX1_workNumbers_112 rfl rfl q2 rfl ?_
  refine z_goto (tgt := 60) dX1_workNumbers_115 rfl ?_
  exact h
set_option maxRecDepth 20000 in
set_option maxHeartbeats 4000000 in
theorem bX1_workedWith_0 {G : zG} {d : Nat} {M : zM} {Q : zV → zM → Prop} (hG : zP G) {x0 x1 x3 : Int}
    (h : (((x0 = 2) → (zin 1 (x1 + x3)) ∧ Q (0, (zcl (x1 + x3))) M) ∧ ((x0 = 3) → (zin 1 (x1 * x3)) ∧ Q (0, (zcl (x1 * x3))) M) ∧ ((x0 = 8) → Q (0, (zcl (max x1 x3))) M) ∧ ((¬ x0 = 2 ∧ ¬ x0 = 3 ∧ ¬ x0 = 8) → Q (0, (zcl (min x1 x3))) M))) :
    Y G (d + 1) mX1_workedWith 0 [(0, x0), (1, x1), (9, 0), (1, x3), (9, 0)] [] M Q := by
  refine z_iloadn dX1_workedWith_0 rfl ?_
  rcases (show x0 = 2 ∨ x0 = 3 ∨ x0 = 8 ∨ (¬ x0 = 2 ∧ ¬ x0 = 3 ∧ ¬ x0 = 8) by omega) with q | q | q | q
  · replace h := h.1 q
    refine z_lsw (tgt := 36) (off := 35) dX1_workedWith_1 (by decide) (by rw [q]; first | done | rfl) rfl ?_
    refine z_lloadn dX1_workedWith_36 rfl ?_
    refine z_lloadn dX1_workedWith_37 rfl ?_
    obtain ⟨q1, h⟩ := h
    refine z_ladd dX1_workedWith_38 q1 ?_
    refine y_cs (mt2 := mX11_clamped) (en := [(1, (x1 + x3)), (9, 0)]) (st := []) (as := [(1, (x1 + x3))]) dX1_workedWith_39 lX1_116 kX11_clamped tX11_clamped rfl (Nat.le_of_ble_eq_true rfl) (Nat.le_of_ble_eq_true rfl) rfl (s_clamped hG ?_)
    show Y G (d + 1) mX1_workedWith 42 [(0, x0), (1, x1), (9, 0), (1, x3), (9, 0)] [(0, (zcl (x1 + x3)))] M Q
    exact z_ireturn dX1_workedWith_42 (Or.inl rfl) rfl h
  · replace h := h.2.1 q
    refine z_lsw (tgt := 43) (off := 42) dX1_workedWith_1 (by decide) (by rw [q]; first | done | rfl) rfl ?_
    refine z_lloadn dX1_workedWith_43 rfl ?_
    refine z_lloadn dX1_workedWith_44 rfl ?_
    obtain ⟨q2, h⟩ := h
    refine z_lmul dX1_workedWith_45 q2 ?_
    refine y_cs (mt2 := mX11_clamped) (en := [(1, (x1 * x3)), (9, 0)]) (st := []) (as := [(1, (x1 * x3))]) dX1_workedWith_46 lX1_116 kX11_clamped tX11_clamped rfl (Nat.le_of_ble_eq_true rfl) (Nat.le_of_ble_eq_true rfl) rfl (s_clamped hG ?_)
    show Y G (d + 1) mX1_workedWith 49 [(0, x0), (1, x1), (9, 0), (1, x3), (9, 0)] [(0, (zcl (x1 * x3)))] M Q
    exact z_ireturn dX1_workedWith_49 (Or.inl rfl) rfl h
  · replace h := h.2.2.1 q
    refine z_lsw (tgt := 50) (off := 49) dX1_workedWith_1 (by decide) (by rw [q]; first | done | rfl) rfl ?_
    refine z_lloadn dX1_workedWith_50 rfl ?_
    refine z_lloadn dX1_workedWith_51 rfl ?_
    refine z_lmax dX1_workedWith_52 mwX1_120 (Nat.le_of_ble_eq_true rfl) ?_
    refine y_cs (mt2 := mX11_clamped) (en := [(1, (max x1 x3)), (9, 0)]) (st := []) (as := [(1, (max x1 x3))]) dX1_workedWith_55 lX1_116 kX11_clamped tX11_clamped rfl (Nat.le_of_ble_eq_true rfl) (Nat.le_of_ble_eq_true rfl) rfl (s_clamped hG ?_)
    show Y G (d + 1) mX1_workedWith 58 [(0, x0), (1, x1), (9, 0), (1, x3), (9, 0)] [(0, (zcl (max x1 x3)))] M Q
    exact z_ireturn dX1_workedWith_58 (Or.inl rfl) rfl h
  · replace h := h.2.2.2 q
    refine z_lsw (tgt := 59) (off := 58) dX1_workedWith_1 (by decide) (by simp [Op.lookupswitch.offset]; repeat rw [if_neg (by omega)]) rfl ?_
    refine z_lloadn dX1_workedWith_59 rfl ?_
    refine z_lloadn dX1_workedWith_60 rfl ?_
    refine z_lmin dX1_workedWith_61 mwX1_124 (Nat.le_of_ble_eq_true rfl) ?_
    refine y_cs (mt2 := mX11_clamped) (en := [(1, (min x1 x3)), (9, 0)]) (st := []) (as := [(1, (min x1 x3))]) dX1_workedWith_64 lX1_116 kX11_clamped tX11_clamped rfl (Nat.le_of_ble_eq_true rfl) (Nat.le_of_ble_eq_true rfl) rfl (s_clamped hG ?_)
    show Y G (d + 1) mX1_workedWith 67 [(0, x0), (1, x1), (9, 0), (1, x3), (9, 0)] [(0, (zcl (min x1 x3)))] M Q
    exact z_ireturn dX1_workedWith_67 (Or.inl rfl) rfl h
set_option maxRecDepth 20000 in
set_option maxHeartbeats 4000000 in
theorem bX1_sortParts_0 {G : zG} {d : Nat} {M : zM} {Q : zV → zM → Prop} (hG : zP G) {o x1 x2 : Int} (ho : zND o)
    (h : ((x2 = 0 → Q (9, 0) M) ∧ (¬ x2 = 0 → (M o 8 ≤ 300) ∧ ((2 ≤ (znf M o 4 x1 0) → Y G d mX1_collectParts 0 [(2, o), (0, x1), (9, 0), (9, 0), (9, 0)] [] M (fun r M' => Y G (d + 1) mX1_sortParts 19 [(2, o), (0, x1), (0, x2), (9, 0), (9, 0), (9, 0), (9, 0)] (zpush r []) M' Q)) ∧ ((znf M o 4 x1 0) < 2 → Q (9, 0) M))))) :
    Y G (d + 1) mX1_sortParts 0 [(2, o), (0, x1), (0, x2), (9, 0), (9, 0), (9, 0), (9, 0)] [] M Q := by
  refine z_iloadn dX1_sortParts_0 rfl ?_
  refine z_ifeq (tgt := 13) dX1_sortParts_1 rfl (fun q => ?_) (fun q => ?_)
  · replace h := h.1 q
    exact z_return dX1_sortParts_13 rfl rfl h
  · replace h := h.2 q
    refine z_aloadn dX1_sortParts_4 rfl (Or.inl rfl) ?_
    refine z_iloadn dX1_sortParts_5 rfl ?_
    obtain ⟨q1, h⟩ := h
    refine y_cv (mt2 := mX1_partsOf) (en := [(2, o), (0, x1)]) (st := []) (as := [(0, x1)]) dX1_sortParts_6 lX1_54 kX1_partsOf iX1_partsOf eX1_partsOf rfl (nd_0 ho) (by decide +kernel) (Nat.le_of_ble_eq_true rfl) (Nat.le_of_ble_eq_true rfl) rfl (s_partsOf hG ho q1 ?_)
    show Y G (d + 1) mX1_sortParts 9 [(2, o), (0, x1), (0, x2), (9, 0), (9, 0), (9, 0), (9, 0)] [(0, (znf M o 4 x1 0))] M Q
    refine z_iconst dX1_sortParts_9 ki_2 ?_
    refine z_icmpge (tgt := 14) dX1_sortParts_10 rfl (fun q => ?_) (fun q => ?_)
    · replace h := h.1 q
      refine z_aloadn dX1_sortParts_14 rfl (Or.inl rfl) ?_
      refine z_iloadn dX1_sortParts_15 rfl ?_
      refine y_cv (mt2 := mX1_collectParts) (en := [(2, o), (0, x1), (9, 0), (9, 0), (9, 0)]) (st := []) (as := [(0, x1)]) dX1_sortParts_16 lX1_97 kX1_collectParts iX1_collectParts eX1_collectParts rfl (nd_0 ho) (by decide +kernel) (Nat.le_of_ble_eq_true rfl) (Nat.le_of_ble_eq_true rfl) rfl ?_
      exact h
    · replace h := h.2 q
      exact z_return dX1_sortParts_13 rfl rfl h
set_option maxRecDepth 20000 in
set_option maxHeartbeats 4000000 in
theorem bX1_sortParts_23 {G : zG} {d : Nat} {M : zM} {Q : zV → zM → Prop} (hG : zP G) {o x1 x2 x3 x4 : Int} (ho : zND o)
    (h : ((x3 ≤ x4 → Y G d mX1_chainParts 0 [(2, o), (0, x1), (0, x3), (9, 0)] [] M (fun r M' => Y G (d + 1) mX1_sortParts 110 [(2, o), (0, x1), (0, x2), (0, x3), (0, x4), (9, 0), (9, 0)] (zpush r []) M' Q)) ∧ (x4 < x3 → (0 ≤ x4 ∧ x4 < 16) ∧ Y G (d + 1) mX1_sortParts 42 [(2, o), (0, x1), (0, x2), (0, x3), (0, x4), (0, (M (o + 8) x4)), (0, x4)] [] M Q))) :
    Y G (d + 1) mX1_sortParts 23 [(2, o), (0, x1), (0, x2), (0, x3), (0, x4), (9, 0), (9, 0)] [] M Q := by
  refine z_iload dX1_sortParts_23 rfl ?_
  refine z_iloadn dX1_sortParts_25 rfl ?_
  refine z_icmpge (tgt := 104) dX1_sortParts_26 rfl (fun q => ?_) (fun q => ?_)
  · replace h := h.1 q
    refine z_aloadn dX1_sortParts_104 rfl (Or.inl rfl) ?_
    refine z_iloadn dX1_sortParts_105 rfl ?_
    refine z_iloadn dX1_sortParts_106 rfl ?_
    refine y_cv (mt2 := mX1_chainParts) (en := [(2, o), (0, x1), (0, x3), (9, 0)]) (st := []) (as := [(0, x1), (0, x3)]) dX1_sortParts_107 lX1_130 kX1_chainParts iX1_chainParts eX1_chainParts rfl (nd_0 ho) (by decide +kernel) (Nat.le_of_ble_eq_true rfl) (Nat.le_of_ble_eq_true rfl) rfl ?_
    exact h
  · replace h := h.2 q
    refine z_aloadn dX1_sortParts_29 rfl (Or.inl rfl) ?_
    refine y_getr (v := (o + 8)) hG dX1_sortParts_30 fX1_33 (nd_0 ho) (by decide) rfl (nd_x7 ho) (nd_ne ho 8 (by decide)) ?_
    refine z_iload dX1_sortParts_33 rfl ?_
    obtain ⟨q1, h⟩ := h
    refine y_iald (x := (M (o + 8) x4)) dX1_sortParts_35 (nd_8 ho) q1 rfl ?_
    refine y_istore (ls' := [(2, o), (0, x1), (0, x2), (0, x3), (0, x4), (0, (M (o + 8) x4)), (9, 0)]) dX1_sortParts_36 rfl rfl ?_
    refine z_iload dX1_sortParts_38 rfl ?_
    refine y_istore (ls' := [(2, o), (0, x1), (0, x2), (0, x3), (0, x4), (0, (M (o + 8) x4)), (0, x4)]) dX1_sortParts_40 rfl rfl ?_
    exact h
set_option maxRecDepth 20000 in
set_option maxHeartbeats 4000000 in
theorem bX1_sortParts_42 {G : zG} {d : Nat} {M : zM} {Q : zV → zM → Prop} (hG : zP G) {o x1 x2 x3 x4 x5 x6 : Int} (ho : zND o)
    (h : ((x6 ≤ 0 → (0 ≤ x6 ∧ x6 < 16) ∧ (-2147483648 ≤ x4 + 1 ∧ x4 + 1 ≤ 2147483647) ∧ Y G (d + 1) mX1_sortParts 23 [(2, o), (0, x1), (0, x2), (0, x3), (0, (x4 + 1)), (9, 0), (9, 0)] [] (zset M (o + 8) x6 x5) Q) ∧ (0 < x6 → (-2147483648 ≤ x6 - 1 ∧ x6 - 1 ≤ 2147483647) ∧ (0 ≤ (x6 - 1) ∧ (x6 - 1) < 16) ∧ Y G d mX1_orderOfTerms 0 [(2, o), (0, (M (o + 8) (x6 - 1))), (2, o), (0, x5), (0, 0), (9, 0)] [] M (fun r M' => Y G (d + 1) mX1_sortParts 64 [(2, o), (0, x1), (0, x2), (0, x3), (0, x4), (0, x5), (0, x6)] (zpush r []) M' Q)))) :
    Y G (d + 1) mX1_sortParts 42 [(2, o), (0, x1), (0, x2), (0, x3), (0, x4), (0, x5), (0, x6)] [] M Q := by
  refine z_iload dX1_sortParts_42 rfl ?_
  refine z_ifle (tgt := 89) dX1_sortParts_44 rfl (fun q => ?_) (fun q => ?_)
  · replace h := h.1 q
    refine z_aloadn dX1_sortParts_89 rfl (Or.inl rfl) ?_
    refine y_getr (v := (o + 8)) hG dX1_sortParts_90 fX1_33 (nd_0 ho) (by decide) rfl (nd_x7 ho) (nd_ne ho 8 (by decide)) ?_
    refine z_iload dX1_sortParts_93 rfl ?_
    refine z_iload dX1_sortParts_95 rfl ?_
    obtain ⟨q1, h⟩ := h
    refine y_iast hG dX1_sortParts_97 (nd_8 ho) q1 ?_
    obtain ⟨q2, h⟩ := h
    refine y_iinc (ls' := [(2, o), (0, x1), (0, x2), (0, x3), (0, (x4 + 1)), (0, x5), (0, x6)]) dX1_sortParts_98 rfl rfl q2 rfl ?_
    refine z_goto (tgt := 23) dX1_sortParts_101 rfl ?_
    refine z_sub (ls' := [(2, o), (0, x1), (0, x2), (0, x3), (0, (x4 + 1)), (9, 0), (9, 0)]) ⟨Or.inl rfl, Or.inl rfl, Or.inl rfl, Or.inl rfl, Or.inl rfl, Or.inr rfl, Or.inr rfl, trivial⟩ ?_
    exact h
  · replace h := h.2 q
    refine z_aloadn dX1_sortParts_47 rfl (Or.inl rfl) ?_
    refine z_aloadn dX1_sortParts_48 rfl (Or.inl rfl) ?_
    refine y_getr (v := (o + 8)) hG dX1_sortParts_49 fX1_33 (nd_0 ho) (by decide) rfl (nd_x7 ho) (nd_ne ho 8 (by decide)) ?_
    refine z_iload dX1_sortParts_52 rfl ?_
    refine z_iconst dX1_sortParts_54 ki_1 ?_
    obtain ⟨q3, h⟩ := h
    refine z_isub dX1_sortParts_55 q3 ?_
    obtain ⟨q4, h⟩ := h
    refine y_iald (x := (M (o + 8) (x6 - 1))) dX1_sortParts_56 (nd_8 ho) q4 rfl ?_
    refine z_aloadn dX1_sortParts_57 rfl (Or.inl rfl) ?_
    refine z_iload dX1_sortParts_58 rfl ?_
    refine z_iconst dX1_sortParts_60 ki_0 ?_
    refine y_cs (mt2 := mX1_orderOfTerms) (en := [(2, o), (0, (M (o + 8) (x6 - 1))), (2, o), (0, x5), (0, 0), (9, 0)]) (st := []) (as := [(2, o), (0, (M (o + 8) (x6 - 1))), (2, o), (0, x5), (0, 0)]) dX1_sortParts_61 lX1_126 kX1_orderOfTerms tX1_orderOfTerms rfl (Nat.le_of_ble_eq_true rfl) (Nat.le_of_ble_eq_true rfl) rfl ?_
    exact h
set_option maxRecDepth 20000 in
set_option maxHeartbeats 4000000 in
theorem bX1_sortParts_19 {G : zG} {d : Nat} {M : zM} {Q : zV → zM → Prop} (hG : zP G) {o x1 x2 x49 : Int} (ho : zND o)
    (h : Y G (d + 1) mX1_sortParts 23 [(2, o), (0, x1), (0, x2), (0, x49), (0, 1), (9, 0), (9, 0)] [] M Q) :
    Y G (d + 1) mX1_sortParts 19 [(2, o), (0, x1), (0, x2), (9, 0), (9, 0), (9, 0), (9, 0)] [(0, x49)] M Q := by
  refine y_istoren (ls' := [(2, o), (0, x1), (0, x2), (0, x49), (9, 0), (9, 0), (9, 0)]) dX1_sortParts_19 rfl rfl ?_
  refine z_iconst dX1_sortParts_20 ki_1 ?_
  refine y_istore (ls' := [(2, o), (0, x1), (0, x2), (0, x49), (0, 1), (9, 0), (9, 0)]) dX1_sortParts_21 rfl rfl ?_
  exact h
set_option maxRecDepth 20000 in
set_option maxHeartbeats 4000000 in
theorem bX1_sortParts_110 {G : zG} {d : Nat} {M : zM} {Q : zV → zM → Prop} (hG : zP G) {o x1 x2 x3 x4 : Int} (ho : zND o)
    (h : Q (9, 0) M) :
    Y G (d + 1) mX1_sortParts 110 [(2, o), (0, x1), (0, x2), (0, x3), (0, x4), (9, 0), (9, 0)] [] M Q := by
  exact z_return dX1_sortParts_110 rfl rfl h
set_option maxRecDepth 20000 in
set_option maxHeartbeats 4000000 in
theorem bX1_sortParts_64 {G : zG} {d : Nat} {M : zM} {Q : zV → zM → Prop} (hG : zP G) {o x1 x2 x3 x4 x5 x6 x49 : Int} (ho : zND o)
    (h : ((x49 ≤ 0 → (0 ≤ x6 ∧ x6 < 16) ∧ (-2147483648 ≤ x4 + 1 ∧ x4 + 1 ≤ 2147483647) ∧ Y G (d + 1) mX1_sortParts 23 [(2, o), (0, x1), (0, x2), (0, x3), (0, (x4 + 1)), (9, 0), (9, 0)] [] (zset M (o + 8) x6 x5) Q) ∧ (0 < x49 → (-2147483648 ≤ x6 - 1 ∧ x6 - 1 ≤ 2147483647) ∧ (0 ≤ (x6 - 1) ∧ (x6 - 1) < 16) ∧ (0 ≤ x6 ∧ x6 < 16) ∧ (-2147483648 ≤ x6 + (-1) ∧ x6 + (-1) ≤ 2147483647) ∧ Y G (d + 1) mX1_sortParts 42 [(2, o), (0, x1), (0, x2), (0, x3), (0, x4), (0, x5), (0, (x6 + (-1)))] [] (zset M (o + 8) x6 (M (o + 8) (x6 - 1))) Q))) :
    Y G (d + 1) mX1_sortParts 64 [(2, o), (0, x1), (0, x2), (0, x3), (0, x4), (0, x5), (0, x6)] [(0, x49)] M Q := by
  refine z_ifle (tgt := 89) dX1_sortParts_64 rfl (fun q => ?_) (fun q => ?_)
  · replace h := h.1 q
    refine z_aloadn dX1_sortParts_89 rfl (Or.inl rfl) ?_
    refine y_getr (v := (o + 8)) hG dX1_sortParts_90 fX1_33 (nd_0 ho) (by decide) rfl (nd_x7 ho) (nd_ne ho 8 (by decide)) ?_
    refine z_iload dX1_sortParts_93 rfl ?_
    refine z_iload dX1_sortParts_95 rfl ?_
    obtain ⟨q1, h⟩ := h
    refine y_iast hG dX1_sortParts_97 (nd_8 ho) q1 ?_
    obtain ⟨q2, h⟩ := h
    refine y_iinc (ls' := [(2, o), (0, x1), (0, x2), (0, x3), (0, (x4 + 1)), (0, x5), (0, x6)]) dX1_sortParts_98 rfl rfl q2 rfl ?_
    refine z_goto (tgt := 23) dX1_sortParts_101 rfl ?_
    refine z_sub (ls' := [(2, o), (0, x1), (0, x2), (0, x3), (0, (x4 + 1)), (9, 0), (9, 0)]) ⟨Or.inl rfl, Or.inl rfl, Or.inl rfl, Or.inl rfl, Or.inl rfl, Or.inr rfl, Or.inr rfl, trivial⟩ ?_
    exact h
  · replace h := h.2 q
    refine z_aloadn dX1_sortParts_67 rfl (Or.inl rfl) ?_
    refine y_getr (v := (o + 8)) hG dX1_sortParts_68 fX1_33 (nd_0 ho) (by decide) rfl (nd_x7 ho) (nd_ne ho 8 (by decide)) ?_
    refine z_iload dX1_sortParts_71 rfl ?_
    refine z_aloadn dX1_sortParts_73 rfl (Or.inl rfl) ?_
    refine y_getr (v := (o + 8)) hG dX1_sortParts_74 fX1_33 (nd_0 ho) (by decide) rfl (nd_x7 ho) (nd_ne ho 8 (by decide)) ?_
    refine z_iload dX1_sortParts_77 rfl ?_
    refine z_iconst dX1_sortParts_79 ki_1 ?_
    obtain ⟨q3, h⟩ := h
    refine z_isub dX1_sortParts_80 q3 ?_
    obtain ⟨q4, h⟩ := h
    refine y_iald (x := (M (o + 8) (x6 - 1))) dX1_sortParts_81 (nd_8 ho) q4 rfl ?_
    obtain ⟨q5, h⟩ := h
    refine y_iast hG dX1_sortParts_82 (nd_8 ho) q5 ?_
    obtain ⟨q6, h⟩ := h
    refine y_iinc (ls' := [(2, o), (0, x1), (0, x2), (0, x3), (0, x4), (0, x5), (0, (x6 + (-1)))]) dX1_sortParts_83 rfl rfl q6 rfl ?_
    refine z_goto (tgt := 42) dX1_sortParts_86 rfl ?_
    exact h
set_option maxRecDepth 20000 in
set_option maxHeartbeats 4000000 in
theorem bX1_eitherOr_0 {G : zG} {d : Nat} {M : zM} {Q : zV → zM → Prop} (hG : zP G) {o x1 x2 : Int} (ho : zND o)
    (h : (M o 8 ≤ 300) ∧ (M o 8 ≤ 300) ∧ ((¬ (znf M o 4 x1 0) = 2 → Q (0, x1) M) ∧ ((znf M o 4 x1 0) = 2 → (((zand x2 32) = 0 → Q (0, x1) M) ∧ (¬ (zand x2 32) = 0 → (M o 8 ≤ 300) ∧ Y G d mX1_orderOf 0 [(2, o), (0, (znf M o 5 x1 (-1))), (2, o), (0, (znf M o 7 (znf M o 5 x1 (-1)) (-1))), (0, 0), (9, 0), (9, 0), (9, 0), (9, 0)] [] M (fun r M' => Y G (d + 1) mX1_eitherOr 46 [(2, o), (0, x1), (0, x2), (0, (znf M o 5 x1 (-1))), (0, 1)] (zpush r []) M' Q)))))) :
    Y G (d + 1) mX1_eitherOr 0 [(2, o), (0, x1), (0, x2), (9, 0), (9, 0)] [] M Q := by
  refine z_aloadn dX1_eitherOr_0 rfl (Or.inl rfl) ?_
  refine z_iloadn dX1_eitherOr_1 rfl ?_
  obtain ⟨q1, h⟩ := h
  refine y_cv (mt2 := mX1_firstOf) (en := [(2, o), (0, x1)]) (st := []) (as := [(0, x1)]) dX1_eitherOr_2 lX1_51 kX1_firstOf iX1_firstOf eX1_firstOf rfl (nd_0 ho) (by decide +kernel) (Nat.le_of_ble_eq_true rfl) (Nat.le_of_ble_eq_true rfl) rfl (s_firstOf hG ho q1 ?_)
  show Y G (d + 1) mX1_eitherOr 5 [(2, o), (0, x1), (0, x2), (9, 0), (9, 0)] [(0, (znf M o 5 x1 (-1)))] M Q
  refine y_istoren (ls' := [(2, o), (0, x1), (0, x2), (0, (znf M o 5 x1 (-1))), (9, 0)]) dX1_eitherOr_5 rfl rfl ?_
  refine z_aloadn dX1_eitherOr_6 rfl (Or.inl rfl) ?_
  refine z_iloadn dX1_eitherOr_7 rfl ?_
  obtain ⟨q2, h⟩ := h
  refine y_cv (mt2 := mX1_partsOf) (en := [(2, o), (0, x1)]) (st := []) (as := [(0, x1)]) dX1_eitherOr_8 lX1_54 kX1_partsOf iX1_partsOf eX1_partsOf rfl (nd_0 ho) (by decide +kernel) (Nat.le_of_ble_eq_true rfl) (Nat.le_of_ble_eq_true rfl) rfl (s_partsOf hG ho q2 ?_)
  show Y G (d + 1) mX1_eitherOr 11 [(2, o), (0, x1), (0, x2), (0, (znf M o 5 x1 (-1))), (9, 0)] [(0, (znf M o 4 x1 0))] M Q
  refine z_iconst dX1_eitherOr_11 ki_2 ?_
  refine z_icmpne (tgt := 26) dX1_eitherOr_12 rfl (fun q => ?_) (fun q => ?_)
  · replace h := h.1 q
    refine z_iconst dX1_eitherOr_26 ki_0 ?_
    refine y_istore (ls' := [(2, o), (0, x1), (0, x2), (0, (znf M o 5 x1 (-1))), (0, 0)]) dX1_eitherOr_27 rfl rfl ?_
    refine z_iload dX1_eitherOr_29 rfl ?_
    refine z_ifeq (tgt := 53) dX1_eitherOr_31 rfl (fun _ => ?_) (fun q => absurd q (by decide))
    refine z_iloadn dX1_eitherOr_53 rfl ?_
    exact z_ireturn dX1_eitherOr_54 (Or.inl rfl) rfl h
  · replace h := h.2 q
    refine z_iloadn dX1_eitherOr_15 rfl ?_
    refine z_bipush dX1_eitherOr_16 kb_32 ?_
    refine z_iand dX1_eitherOr_18 ?_
    refine z_ifeq (tgt := 26) dX1_eitherOr_19 rfl (fun q => ?_) (fun q => ?_)
    · replace h := h.1 q
      refine z_iconst dX1_eitherOr_26 ki_0 ?_
      refine y_istore (ls' := [(2, o), (0, x1), (0, x2), (0, (znf M o 5 x1 (-1))), (0, 0)]) dX1_eitherOr_27 rfl rfl ?_
      refine z_iload dX1_eitherOr_29 rfl ?_
      refine z_ifeq (tgt := 53) dX1_eitherOr_31 rfl (fun _ => ?_) (fun q => absurd q (by decide))
      refine z_iloadn dX1_eitherOr_53 rfl ?_
      exact z_ireturn dX1_eitherOr_54 (Or.inl rfl) rfl h
    · replace h := h.2 q
      refine z_iconst dX1_eitherOr_22 ki_1 ?_
      refine z_goto (tgt := 27) dX1_eitherOr_23 rfl ?_
      refine y_istore (ls' := [(2, o), (0, x1), (0, x2), (0, (znf M o 5 x1 (-1))), (0, 1)]) dX1_eitherOr_27 rfl rfl ?_
      refine z_iload dX1_eitherOr_29 rfl ?_
      refine z_ifeq (tgt := 53) dX1_eitherOr_31 rfl (fun q => absurd q (by decide)) (fun _ => ?_)
      refine z_aloadn dX1_eitherOr_34 rfl (Or.inl rfl) ?_
      refine z_iloadn dX1_eitherOr_35 rfl ?_
      refine z_aloadn dX1_eitherOr_36 rfl (Or.inl rfl) ?_
      refine z_aloadn dX1_eitherOr_37 rfl (Or.inl rfl) ?_
      refine z_iloadn dX1_eitherOr_38 rfl ?_
      obtain ⟨q3, h⟩ := h
      refine y_cv (mt2 := mX1_behind) (en := [(2, o), (0, (znf M o 5 x1 (-1)))]) (st := [(2, o), (0, (znf M o 5 x1 (-1))), (2, o)]) (as := [(0, (znf M o 5 x1 (-1)))]) dX1_eitherOr_39 lX1_68 kX1_behind iX1_behind eX1_behind rfl (nd_0 ho) (by decide +kernel) (Nat.le_of_ble_eq_true rfl) (Nat.le_of_ble_eq_true rfl) rfl (s_behind hG ho q3 ?_)
      show Y G (d + 1) mX1_eitherOr 42 [(2, o), (0, x1), (0, x2), (0, (znf M o 5 x1 (-1))), (0, 1)] [(0, (znf M o 7 (znf M o 5 x1 (-1)) (-1))), (2, o), (0, (znf M o 5 x1 (-1))), (2, o)] M Q
      refine z_iconst dX1_eitherOr_42 ki_0 ?_
      refine y_cs (mt2 := mX1_orderOf) (en := [(2, o), (0, (znf M o 5 x1 (-1))), (2, o), (0, (znf M o 7 (znf M o 5 x1 (-1)) (-1))), (0, 0), (9, 0), (9, 0), (9, 0), (9, 0)]) (st := []) (as := [(2, o), (0, (znf M o 5 x1 (-1))), (2, o), (0, (znf M o 7 (znf M o 5 x1 (-1)) (-1))), (0, 0)]) dX1_eitherOr_43 lX1_133 kX1_orderOf tX1_orderOf rfl (Nat.le_of_ble_eq_true rfl) (Nat.le_of_ble_eq_true rfl) rfl ?_
      exact h
set_option maxRecDepth 20000 in
set_option maxHeartbeats 4000000 in
theorem bX1_eitherOr_46 {G : zG} {d : Nat} {M : zM} {Q : zV → zM → Prop} (hG : zP G) {o x1 x2 x3 x4 x49 : Int} (ho : zND o)
    (h : ((¬ x49 = 0 → Q (0, x1) M) ∧ (x49 = 0 → Q (0, x3) M))) :
    Y G (d + 1) mX1_eitherOr 46 [(2, o), (0, x1), (0, x2), (0, x3), (0, x4)] [(0, x49)] M Q := by
  refine z_ifne (tgt := 53) dX1_eitherOr_46 rfl (fun q => ?_) (fun q => ?_)
  · replace h := h.1 q
    refine z_iloadn dX1_eitherOr_53 rfl ?_
    exact z_ireturn dX1_eitherOr_54 (Or.inl rfl) rfl h
  · replace h := h.2 q
    refine z_iloadn dX1_eitherOr_49 rfl ?_
    refine z_goto (tgt := 54) dX1_eitherOr_50 rfl ?_
    exact z_ireturn dX1_eitherOr_54 (Or.inl rfl) rfl h
set_option maxRecDepth 20000 in
set_option maxHeartbeats 4000000 in
theorem bX1_changeIf_0 {G : zG} {d : Nat} {M : zM} {Q : zV → zM → Prop} (hG : zP G) {o x1 x2 : Int} (ho : zND o)
    (h : (((zand x2 64) = 0 → Q (0, x1) M) ∧ (¬ (zand x2 64) = 0 → Y G d mX1_collectParts 0 [(2, o), (0, x1), (9, 0), (9, 0), (9, 0)] [] M (fun r M' => Y G (d + 1) mX1_changeIf 12 [(2, o), (0, x1), (0, x2), (9, 0)] (zpush r []) M' Q)))) :
    Y G (d + 1) mX1_changeIf 0 [(2, o), (0, x1), (0, x2), (9, 0)] [] M Q := by
  refine z_iloadn dX1_changeIf_0 rfl ?_
  refine z_bipush dX1_changeIf_1 kb_64 ?_
  refine z_iand dX1_changeIf_3 ?_
  refine z_ifeq (tgt := 16) dX1_changeIf_4 rfl (fun q => ?_) (fun q => ?_)
  · replace h := h.1 q
    refine z_iloadn dX1_changeIf_16 rfl ?_
    exact z_ireturn dX1_changeIf_17 (Or.inl rfl) rfl h
  · replace h := h.2 q
    refine z_aloadn dX1_changeIf_7 rfl (Or.inl rfl) ?_
    refine z_iloadn dX1_changeIf_8 rfl ?_
    refine y_cv (mt2 := mX1_collectParts) (en := [(2, o), (0, x1), (9, 0), (9, 0), (9, 0)]) (st := []) (as := [(0, x1)]) dX1_changeIf_9 lX1_97 kX1_collectParts iX1_collectParts eX1_collectParts rfl (nd_0 ho) (by decide +kernel) (Nat.le_of_ble_eq_true rfl) (Nat.le_of_ble_eq_true rfl) rfl ?_
    exact h
set_option maxRecDepth 20000 in
set_option maxHeartbeats 4000000 in
theorem bX1_changeIf_12 {G : zG} {d : Nat} {M : zM} {Q : zV → zM → Prop} (hG : zP G) {o x1 x2 x49 : Int} (ho : zND o)
    (h : ((4 ≤ x49 → (M o 8 ≤ 300) ∧ (((znf M o 2 x1 0) = 2 → (M o 8 ≤ 300) ∧ ((¬ (znf M o 2 x1 0) = 2 → Y G d mX1_setValue 0 [(2, o), (0, x1), (0, 1)] [] M (fun r M' => Y G (d + 1) mX1_changeIf 55 [(2, o), (0, x1), (0, x2), (9, 0)] (zpush r []) M' Q)) ∧ ((znf M o 2 x1 0) = 2 → Y G d mX1_setValue 0 [(2, o), (0, x1), (0, 0)] [] M (fun r M' => Y G (d + 1) mX1_changeIf 55 [(2, o), (0, x1), (0, x2), (9, 0)] (zpush r []) M' Q)))) ∧ (¬ (znf M o 2 x1 0) = 2 → (M o 8 ≤ 300) ∧ ((¬ (znf M o 2 x1 0) = 3 → Y G d mX1_orderOf 0 [(2, o), (0, (M (o + 8) 2)), (2, o), (0, (M (o + 8) 3)), (0, 0), (9, 0), (9, 0), (9, 0), (9, 0)] [] M (fun r M' => Y G (d + 1) mX1_changeIf 105 [(2, o), (0, x1), (0, x2), (9, 0)] (zpush r []) M' Q)) ∧ ((znf M o 2 x1 0) = 3 → (M o 8 ≤ 300) ∧ ((¬ (znf M o 2 x1 0) = 2 → Y G d mX1_setValue 0 [(2, o), (0, x1), (0, 1)] [] M (fun r M' => Y G (d + 1) mX1_changeIf 55 [(2, o), (0, x1), (0, x2), (9, 0)] (zpush r []) M' Q)) ∧ ((znf M o 2 x1 0) = 2 → Y G d mX1_setValue 0 [(2, o), (0, x1), (0, 0)] [] M (fun r M' => Y G (d + 1) mX1_changeIf 55 [(2, o), (0, x1), (0, x2), (9, 0)] (zpush r []) M' Q)))))))) ∧ (x49 < 4 → Q (0, x1) M))) :
    Y G (d + 1) mX1_changeIf 12 [(2, o), (0, x1), (0, x2), (9, 0)] [(0, x49)] M Q := by
  refine z_iconst dX1_changeIf_12 ki_4 ?_
  refine z_icmpge (tgt := 18) dX1_changeIf_13 rfl (fun q => ?_) (fun q => ?_)
  · replace h := h.1 q
    refine z_aloadn dX1_changeIf_18 rfl (Or.inl rfl) ?_
    refine z_iloadn dX1_changeIf_19 rfl ?_
    obtain ⟨q1, h⟩ := h
    refine y_cv (mt2 := mX1_valueOf) (en := [(2, o), (0, x1)]) (st := []) (as := [(0, x1)]) dX1_changeIf_20 lX1_48 kX1_valueOf iX1_valueOf eX1_valueOf rfl (nd_0 ho) (by decide +kernel) (Nat.le_of_ble_eq_true rfl) (Nat.le_of_ble_eq_true rfl) rfl (s_valueOf hG ho q1 ?_)
    show Y G (d + 1) mX1_changeIf 23 [(2, o), (0, x1), (0, x2), (9, 0)] [(0, (znf M o 2 x1 0))] M Q
    refine z_iconst dX1_changeIf_23 ki_2 ?_
    refine z_icmpeq (tgt := 36) dX1_changeIf_24 rfl (fun q => ?_) (fun q => ?_)
    · replace h := h.1 q
      refine z_aloadn dX1_changeIf_36 rfl (Or.inl rfl) ?_
      refine z_iloadn dX1_changeIf_37 rfl ?_
      refine z_aloadn dX1_changeIf_38 rfl (Or.inl rfl) ?_
      refine z_iloadn dX1_changeIf_39 rfl ?_
      obtain ⟨q2, h⟩ := h
      refine y_cv (mt2 := mX1_valueOf) (en := [(2, o), (0, x1)]) (st := [(0, x1), (2, o)]) (as := [(0, x1)]) dX1_changeIf_40 lX1_48 kX1_valueOf iX1_valueOf eX1_valueOf rfl (nd_0 ho) (by decide +kernel) (Nat.le_of_ble_eq_true rfl) (Nat.le_of_ble_eq_true rfl) rfl (s_valueOf hG ho q2 ?_)
      show Y G (d + 1) mX1_changeIf 43 [(2, o), (0, x1), (0, x2), (9, 0)] [(0, (znf M o 2 x1 0)), (0, x1), (2, o)] M Q
      refine z_iconst dX1_changeIf_43 ki_2 ?_
      refine z_icmpne (tgt := 51) dX1_changeIf_44 rfl (fun q => ?_) (fun q => ?_)
      · replace h := h.1 q
        refine z_iconst dX1_changeIf_51 ki_1 ?_
        refine y_cv (mt2 := mX1_setValue) (en := [(2, o), (0, x1), (0, 1)]) (st := []) (as := [(0, x1), (0, 1)]) dX1_changeIf_52 lX1_136 kX1_setValue iX1_setValue eX1_setValue rfl (nd_0 ho) (by decide +kernel) (Nat.le_of_ble_eq_true rfl) (Nat.le_of_ble_eq_true rfl) rfl ?_
        exact h
      · replace h := h.2 q
        refine z_iconst dX1_changeIf_47 ki_0 ?_
        refine z_goto (tgt := 52) dX1_changeIf_48 rfl ?_
        refine y_cv (mt2 := mX1_setValue) (en := [(2, o), (0, x1), (0, 0)]) (st := []) (as := [(0, x1), (0, 0)]) dX1_changeIf_52 lX1_136 kX1_setValue iX1_setValue eX1_setValue rfl (nd_0 ho) (by decide +kernel) (Nat.le_of_ble_eq_true rfl) (Nat.le_of_ble_eq_true rfl) rfl ?_
        exact h
    · replace h := h.2 q
      refine z_aloadn dX1_changeIf_27 rfl (Or.inl rfl) ?_
      refine z_iloadn dX1_changeIf_28 rfl ?_
      obtain ⟨q3, h⟩ := h
      refine y_cv (mt2 := mX1_valueOf) (en := [(2, o), (0, x1)]) (st := []) (as := [(0, x1)]) dX1_changeIf_29 lX1_48 kX1_valueOf iX1_valueOf eX1_valueOf rfl (nd_0 ho) (by decide +kernel) (Nat.le_of_ble_eq_true rfl) (Nat.le_of_ble_eq_true rfl) rfl (s_valueOf hG ho q3 ?_)
      show Y G (d + 1) mX1_changeIf 32 [(2, o), (0, x1), (0, x2), (9, 0)] [(0, (znf M o 2 x1 0))] M Q
      refine z_iconst dX1_changeIf_32 ki_3 ?_
      refine z_icmpne (tgt := 87) dX1_changeIf_33 rfl (fun q => ?_) (fun q => ?_)
      · replace h := h.1 q
        refine z_aloadn dX1_changeIf_87 rfl (Or.inl rfl) ?_
        refine z_aloadn dX1_changeIf_88 rfl (Or.inl rfl) ?_
        refine y_getr (v := (o + 8)) hG dX1_changeIf_89 fX1_33 (nd_0 ho) (by decide) rfl (nd_x7 ho) (nd_ne ho 8 (by decide)) ?_
        refine z_iconst dX1_changeIf_92 ki_2 ?_
        refine y_iald (x := (M (o + 8) 2)) dX1_changeIf_93 (nd_8 ho) ⟨by decide, by decide⟩ rfl ?_
        refine z_aloadn dX1_changeIf_94 rfl (Or.inl rfl) ?_
        refine z_aloadn dX1_changeIf_95 rfl (Or.inl rfl) ?_
        refine y_getr (v := (o + 8)) hG dX1_changeIf_96 fX1_33 (nd_0 ho) (by decide) rfl (nd_x7 ho) (nd_ne ho 8 (by decide)) ?_
        refine z_iconst dX1_changeIf_99 ki_3 ?_
        refine y_iald (x := (M (o + 8) 3)) dX1_changeIf_100 (nd_8 ho) ⟨by decide, by decide⟩ rfl ?_
        refine z_iconst dX1_changeIf_101 ki_0 ?_
        refine y_cs (mt2 := mX1_orderOf) (en := [(2, o), (0, (M (o + 8) 2)), (2, o), (0, (M (o + 8) 3)), (0, 0), (9, 0), (9, 0), (9, 0), (9, 0)]) (st := []) (as := [(2, o), (0, (M (o + 8) 2)), (2, o), (0, (M (o + 8) 3)), (0, 0)]) dX1_changeIf_102 lX1_133 kX1_orderOf tX1_orderOf rfl (Nat.le_of_ble_eq_true rfl) (Nat.le_of_ble_eq_true rfl) rfl ?_
        exact h
      · replace h := h.2 q
        refine z_aloadn dX1_changeIf_36 rfl (Or.inl rfl) ?_
        refine z_iloadn dX1_changeIf_37 rfl ?_
        refine z_aloadn dX1_changeIf_38 rfl (Or.inl rfl) ?_
        refine z_iloadn dX1_changeIf_39 rfl ?_
        obtain ⟨q4, h⟩ := h
        refine y_cv (mt2 := mX1_valueOf) (en := [(2, o), (0, x1)]) (st := [(0, x1), (2, o)]) (as := [(0, x1)]) dX1_changeIf_40 lX1_48 kX1_valueOf iX1_valueOf eX1_valueOf rfl (nd_0 ho) (by decide +kernel) (Nat.le_of_ble_eq_true rfl) (Nat.le_of_ble_eq_true rfl) rfl (s_valueOf hG ho q4 ?_)
        show Y G (d + 1) mX1_changeIf 43 [(2, o), (0, x1), (0, x2), (9, 0)] [(0, (znf M o 2 x1 0)), (0, x1), (2, o)] M Q
        refine z_iconst dX1_changeIf_43 ki_2 ?_
        refine z_icmpne (tgt := 51) dX1_changeIf_44 rfl (fun q => ?_) (fun q => ?_)
        · replace h := h.1 q
          refine z_iconst dX1_changeIf_51 ki_1 ?_
          refine y_cv (mt2 := mX1_setValue) (en := [(2, o), (0, x1), (0, 1)]) (st := []) (as := [(0, x1), (0, 1)]) dX1_changeIf_52 lX1_136 kX1_setValue iX1_setValue eX1_setValue rfl (nd_0 ho) (by decide +kernel) (Nat.le_of_ble_eq_true rfl) (Nat.le_of_ble_eq_true rfl) rfl ?_
          exact h
        · replace h := h.2 q
          refine z_iconst dX1_changeIf_47 ki_0 ?_
          refine z_goto (tgt := 52) dX1_changeIf_48 rfl ?_
          refine y_cv (mt2 := mX1_setValue) (en := [(2, o), (0, x1), (0, 0)]) (st := []) (as := [(0, x1), (0, 0)]) dX1_changeIf_52 lX1_136 kX1_setValue iX1_setValue eX1_setValue rfl (nd_0 ho) (by decide +kernel) (Nat.le_of_ble_eq_true rfl) (Nat.le_of_ble_eq_true rfl) rfl ?_
          exact h
  · replace h := h.2 q
    refine z_iloadn dX1_changeIf_16 rfl ?_
    exact z_ireturn dX1_changeIf_17 (Or.inl rfl) rfl h
set_option maxRecDepth 20000 in
set_option maxHeartbeats 4000000 in
theorem bX1_changeIf_55 {G : zG} {d : Nat} {M : zM} {Q : zV → zM → Prop} (hG : zP G) {o x1 x2 : Int} (ho : zND o)
    (h : Y G d mX1_chainParts 0 [(2, o), (0, x1), (0, 4), (9, 0)] [] (zset (zset M (o + 8) 0 (M (o + 8) 1)) (o + 8) 1 (M (o + 8) 0)) (fun r M' => Y G (d + 1) mX1_changeIf 87 [(2, o), (0, x1), (0, x2), (0, (M (o + 8) 0))] (zpush r []) M' Q)) :
    Y G (d + 1) mX1_changeIf 55 [(2, o), (0, x1), (0, x2), (9, 0)] [] M Q := by
  refine z_aloadn dX1_changeIf_55 rfl (Or.inl rfl) ?_
  refine y_getr (v := (o + 8)) hG dX1_changeIf_56 fX1_33 (nd_0 ho) (by decide) rfl (nd_x7 ho) (nd_ne ho 8 (by decide)) ?_
  refine z_iconst dX1_changeIf_59 ki_0 ?_
  refine y_iald (x := (M (o + 8) 0)) dX1_changeIf_60 (nd_8 ho) ⟨by decide, by decide⟩ rfl ?_
  refine y_istoren (ls' := [(2, o), (0, x1), (0, x2), (0, (M (o + 8) 0))]) dX1_changeIf_61 rfl rfl ?_
  refine z_aloadn dX1_changeIf_62 rfl (Or.inl rfl) ?_
  refine y_getr (v := (o + 8)) hG dX1_changeIf_63 fX1_33 (nd_0 ho) (by decide) rfl (nd_x7 ho) (nd_ne ho 8 (by decide)) ?_
  refine z_iconst dX1_changeIf_66 ki_0 ?_
  refine z_aloadn dX1_changeIf_67 rfl (Or.inl rfl) ?_
  refine y_getr (v := (o + 8)) hG dX1_changeIf_68 fX1_33 (nd_0 ho) (by decide) rfl (nd_x7 ho) (nd_ne ho 8 (by decide)) ?_
  refine z_iconst dX1_changeIf_71 ki_1 ?_
  refine y_iald (x := (M (o + 8) 1)) dX1_changeIf_72 (nd_8 ho) ⟨by decide, by decide⟩ rfl ?_
  refine y_iast hG dX1_changeIf_73 (nd_8 ho) ⟨by decide, by decide⟩ ?_
  refine z_aloadn dX1_changeIf_74 rfl (Or.inl rfl) ?_
  refine y_getr (v := (o + 8)) hG dX1_changeIf_75 fX1_33 (nd_0 ho) (by decide) rfl (nd_x7 ho) (nd_ne ho 8 (by decide)) ?_
  refine z_iconst dX1_changeIf_78 ki_1 ?_
  refine z_iloadn dX1_changeIf_79 rfl ?_
  refine y_iast hG dX1_changeIf_80 (nd_8 ho) ⟨by decide, by decide⟩ ?_
  refine z_aloadn dX1_changeIf_81 rfl (Or.inl rfl) ?_
  refine z_iloadn dX1_changeIf_82 rfl ?_
  refine z_iconst dX1_changeIf_83 ki_4 ?_
  refine y_cv (mt2 := mX1_chainParts) (en := [(2, o), (0, x1), (0, 4), (9, 0)]) (st := []) (as := [(0, x1), (0, 4)]) dX1_changeIf_84 lX1_130 kX1_chainParts iX1_chainParts eX1_chainParts rfl (nd_0 ho) (by decide +kernel) (Nat.le_of_ble_eq_true rfl) (Nat.le_of_ble_eq_true rfl) rfl ?_
  exact h
set_option maxRecDepth 20000 in
set_option maxHeartbeats 4000000 in
theorem bX1_changeIf_105 {G : zG} {d : Nat} {M : zM} {Q : zV → zM → Prop} (hG : zP G) {o x1 x2 x49 : Int} (ho : zND o)
    (h : ((¬ x49 = 0 → Q (0, x1) M) ∧ (x49 = 0 → Q (0, (M (o + 8) 2)) M))) :
    Y G (d + 1) mX1_changeIf 105 [(2, o), (0, x1), (0, x2), (9, 0)] [(0, x49)] M Q := by
  refine z_ifne (tgt := 117) dX1_changeIf_105 rfl (fun q => ?_) (fun q => ?_)
  · replace h := h.1 q
    refine z_iloadn dX1_changeIf_117 rfl ?_
    exact z_ireturn dX1_changeIf_118 (Or.inl rfl) rfl h
  · replace h := h.2 q
    refine z_aloadn dX1_changeIf_108 rfl (Or.inl rfl) ?_
    refine y_getr (v := (o + 8)) hG dX1_changeIf_109 fX1_33 (nd_0 ho) (by decide) rfl (nd_x7 ho) (nd_ne ho 8 (by decide)) ?_
    refine z_iconst dX1_changeIf_112 ki_2 ?_
    refine y_iald (x := (M (o + 8) 2)) dX1_changeIf_113 (nd_8 ho) ⟨by decide, by decide⟩ rfl ?_
    refine z_goto (tgt := 118) dX1_changeIf_114 rfl ?_
    exact z_ireturn dX1_changeIf_118 (Or.inl rfl) rfl h
set_option maxRecDepth 20000 in
set_option maxHeartbeats 4000000 in
theorem bX1_changeIf_87 {G : zG} {d : Nat} {M : zM} {Q : zV → zM → Prop} (hG : zP G) {o x1 x2 : Int} (ho : zND o)
    (h : Y G d mX1_orderOf 0 [(2, o), (0, (M (o + 8) 2)), (2, o), (0, (M (o + 8) 3)), (0, 0), (9, 0), (9, 0), (9, 0), (9, 0)] [] M (fun r M' => Y G (d + 1) mX1_changeIf 105 [(2, o), (0, x1), (0, x2), (9, 0)] (zpush r []) M' Q)) :
    Y G (d + 1) mX1_changeIf 87 [(2, o), (0, x1), (0, x2), (9, 0)] [] M Q := by
  refine z_aloadn dX1_changeIf_87 rfl (Or.inl rfl) ?_
  refine z_aloadn dX1_changeIf_88 rfl (Or.inl rfl) ?_
  refine y_getr (v := (o + 8)) hG dX1_changeIf_89 fX1_33 (nd_0 ho) (by decide) rfl (nd_x7 ho) (nd_ne ho 8 (by decide)) ?_
  refine z_iconst dX1_changeIf_92 ki_2 ?_
  refine y_iald (x := (M (o + 8) 2)) dX1_changeIf_93 (nd_8 ho) ⟨by decide, by decide⟩ rfl ?_
  refine z_aloadn dX1_changeIf_94 rfl (Or.inl rfl) ?_
  refine z_aloadn dX1_changeIf_95 rfl (Or.inl rfl) ?_
  refine y_getr (v := (o + 8)) hG dX1_changeIf_96 fX1_33 (nd_0 ho) (by decide) rfl (nd_x7 ho) (nd_ne ho 8 (by decide)) ?_
  refine z_iconst dX1_changeIf_99 ki_3 ?_
  refine y_iald (x := (M (o + 8) 3)) dX1_changeIf_100 (nd_8 ho) ⟨by decide, by decide⟩ rfl ?_
  refine z_iconst dX1_changeIf_101 ki_0 ?_
  refine y_cs (mt2 := mX1_orderOf) (en := [(2, o), (0, (M (o + 8) 2)), (2, o), (0, (M (o + 8) 3)), (0, 0), (9, 0), (9, 0), (9, 0), (9, 0)]) (st := []) (as := [(2, o), (0, (M (o + 8) 2)), (2, o), (0, (M (o + 8) 3)), (0, 0)]) dX1_changeIf_102 lX1_133 kX1_orderOf tX1_orderOf rfl (Nat.le_of_ble_eq_true rfl) (Nat.le_of_ble_eq_true rfl) rfl ?_
  exact h
set_option maxRecDepth 20000 in
set_option maxHeartbeats 4000000 in
theorem bX1_orderOf_0 {G : zG} {d : Nat} {M : zM} {Q : zV → zM → Prop} (hG : zP G) {r0 x1 r2 x3 x4 : Int} (hr0 : zND r0) (hr2 : zND r2)
    (h : ((40 < x4 → Q (0, 0) M) ∧ (x4 ≤ 40 → ((x1 < 0 → Q (0, 0) M) ∧ (0 ≤ x1 → (((M r0 8) ≤ x1 → Q (0, 0) M) ∧ (x1 < (M r0 8) → ((x3 < 0 → Q (0, 0) M) ∧ (0 ≤ x3 → ((x3 < (M r2 8) → (0 ≤ x1 ∧ x1 < 300) ∧ (0 ≤ x3 ∧ x3 < 300) ∧ (((M (r0 + 1) x1) = (M (r2 + 1) x3) → (0 ≤ x1 ∧ x1 < 300) ∧ (0 ≤ x3 ∧ x3 < 300) ∧ (((M (r0 + 2) x1) = (M (r2 + 2) x3) → (0 ≤ x1 ∧ x1 < 300) ∧ (0 ≤ x3 ∧ x3 < 300) ∧ (((M (r0 + 4) x1) = (M (r2 + 4) x3) → (0 ≤ x1 ∧ x1 < 300) ∧ (0 ≤ x3 ∧ x3 < 300) ∧ Y G (d + 1) mX1_orderOf 148 [(2, r0), (0, x1), (2, r2), (0, x3), (0, x4), (0, 0), (0, (M (r0 + 5) x1)), (0, (M (r2 + 5) x3)), (0, 0)] [] M Q) ∧ (¬ (M (r0 + 4) x1) = (M (r2 + 4) x3) → (0 ≤ x1 ∧ x1 < 300) ∧ (0 ≤ x3 ∧ x3 < 300) ∧ Q (0, (zlcmp (M (r0 + 4) x1) (M (r2 + 4) x3))) M))) ∧ (¬ (M (r0 + 2) x1) = (M (r2 + 2) x3) → (0 ≤ x1 ∧ x1 < 300) ∧ (0 ≤ x3 ∧ x3 < 300) ∧ Q (0, (zlcmp (M (r0 + 2) x1) (M (r2 + 2) x3))) M))) ∧ (¬ (M (r0 + 1) x1) = (M (r2 + 1) x3) → (0 ≤ x1 ∧ x1 < 300) ∧ (0 ≤ x3 ∧ x3 < 300) ∧ Q (0, (zlcmp (M (r0 + 1) x1) (M (r2 + 1) x3))) M))) ∧ ((M r2 8) ≤ x3 → Q (0, 0) M))))))))))) :
    Y G (d + 1) mX1_orderOf 0 [(2, r0), (0, x1), (2, r2), (0, x3), (0, x4), (9, 0), (9, 0), (9, 0), (9, 0)] [] M Q := by
  refine z_iload dX1_orderOf_0 rfl ?_
  refine z_bipush dX1_orderOf_2 kb_40 ?_
  refine z_icmpgt (tgt := 31) dX1_orderOf_4 rfl (fun q => ?_) (fun q => ?_)
  · replace h := h.1 q
    refine z_iconst dX1_orderOf_31 ki_0 ?_
    exact z_ireturn dX1_orderOf_32 (Or.inl rfl) rfl h
  · replace h := h.2 q
    refine z_iloadn dX1_orderOf_7 rfl ?_
    refine z_iflt (tgt := 31) dX1_orderOf_8 rfl (fun q => ?_) (fun q => ?_)
    · replace h := h.1 q
      refine z_iconst dX1_orderOf_31 ki_0 ?_
      exact z_ireturn dX1_orderOf_32 (Or.inl rfl) rfl h
    · replace h := h.2 q
      refine z_iloadn dX1_orderOf_11 rfl ?_
      refine z_aloadn dX1_orderOf_12 rfl (Or.inl rfl) ?_
      refine y_getf (x := (M r0 8)) dX1_orderOf_13 fX1_36 (nd_0 hr0) (by decide) rfl rfl ?_
      refine z_icmpge (tgt := 31) dX1_orderOf_16 rfl (fun q => ?_) (fun q => ?_)
      · replace h := h.1 q
        refine z_iconst dX1_orderOf_31 ki_0 ?_
        exact z_ireturn dX1_orderOf_32 (Or.inl rfl) rfl h
      · replace h := h.2 q
        refine z_iloadn dX1_orderOf_19 rfl ?_
        refine z_iflt (tgt := 31) dX1_orderOf_20 rfl (fun q => ?_) (fun q => ?_)
        · replace h := h.1 q
          refine z_iconst dX1_orderOf_31 ki_0 ?_
          exact z_ireturn dX1_orderOf_32 (Or.inl rfl) rfl h
        · replace h := h.2 q
          refine z_iloadn dX1_orderOf_23 rfl ?_
          refine z_aloadn dX1_orderOf_24 rfl (Or.inl rfl) ?_
          refine y_getf (x := (M r2 8)) dX1_orderOf_25 fX1_36 (nd_0 hr2) (by decide) rfl rfl ?_
          refine z_icmplt (tgt := 33) dX1_orderOf_28 rfl (fun q => ?_) (fun q => ?_)
          · replace h := h.1 q
            refine z_aloadn dX1_orderOf_33 rfl (Or.inl rfl) ?_
            refine y_getr (v := (r0 + 1)) hG dX1_orderOf_34 fX1_9 (nd_0 hr0) (by decide) rfl (nd_x0 hr0) (nd_ne hr0 1 (by decide)) ?_
            refine z_iloadn dX1_orderOf_37 rfl ?_
            obtain ⟨q1, h⟩ := h
            refine y_iald (x := (M (r0 + 1) x1)) dX1_orderOf_38 (nd_1 hr0) q1 rfl ?_
            refine z_aloadn dX1_orderOf_39 rfl (Or.inl rfl) ?_
            refine y_getr (v := (r2 + 1)) hG dX1_orderOf_40 fX1_9 (nd_0 hr2) (by decide) rfl (nd_x0 hr2) (nd_ne hr2 1 (by decide)) ?_
            refine z_iloadn dX1_orderOf_43 rfl ?_
            obtain ⟨q2, h⟩ := h
            refine y_iald (x := (M (r2 + 1) x3)) dX1_orderOf_44 (nd_1 hr2) q2 rfl ?_
            refine z_icmpeq (tgt := 64) dX1_orderOf_45 rfl (fun q => ?_) (fun q => ?_)
            · replace h := h.1 q
              refine z_aloadn dX1_orderOf_64 rfl (Or.inl rfl) ?_
              refine y_getr (v := (r0 + 2)) hG dX1_orderOf_65 fX1_15 (nd_0 hr0) (by decide) rfl (nd_x1 hr0) (nd_ne hr0 2 (by decide)) ?_
              refine z_iloadn dX1_orderOf_68 rfl ?_
              obtain ⟨q3, h⟩ := h
              refine y_iald (x := (M (r0 + 2) x1)) dX1_orderOf_69 (nd_2 hr0) q3 rfl ?_
              refine z_aloadn dX1_orderOf_70 rfl (Or.inl rfl) ?_
              refine y_getr (v := (r2 + 2)) hG dX1_orderOf_71 fX1_15 (nd_0 hr2) (by decide) rfl (nd_x1 hr2) (nd_ne hr2 2 (by decide)) ?_
              refine z_iloadn dX1_orderOf_74 rfl ?_
              obtain ⟨q4, h⟩ := h
              refine y_iald (x := (M (r2 + 2) x3)) dX1_orderOf_75 (nd_2 hr2) q4 rfl ?_
              refine z_icmpeq (tgt := 95) dX1_orderOf_76 rfl (fun q => ?_) (fun q => ?_)
              · replace h := h.1 q
                refine z_aloadn dX1_orderOf_95 rfl (Or.inl rfl) ?_
                refine y_getr (v := (r0 + 4)) hG dX1_orderOf_96 fX1_21 (nd_0 hr0) (by decide) rfl (nd_x3 hr0) (nd_ne hr0 4 (by decide)) ?_
                refine z_iloadn dX1_orderOf_99 rfl ?_
                obtain ⟨q5, h⟩ := h
                refine y_iald (x := (M (r0 + 4) x1)) dX1_orderOf_100 (nd_4 hr0) q5 rfl ?_
                refine z_aloadn dX1_orderOf_101 rfl (Or.inl rfl) ?_
                refine y_getr (v := (r2 + 4)) hG dX1_orderOf_102 fX1_21 (nd_0 hr2) (by decide) rfl (nd_x3 hr2) (nd_ne hr2 4 (by decide)) ?_
                refine z_iloadn dX1_orderOf_105 rfl ?_
                obtain ⟨q6, h⟩ := h
                refine y_iald (x := (M (r2 + 4) x3)) dX1_orderOf_106 (nd_4 hr2) q6 rfl ?_
                refine z_icmpeq (tgt := 126) dX1_orderOf_107 rfl (fun q => ?_) (fun q => ?_)
                · replace h := h.1 q
                  refine z_iconst dX1_orderOf_126 ki_0 ?_
                  refine y_istore (ls' := [(2, r0), (0, x1), (2, r2), (0, x3), (0, x4), (0, 0), (9, 0), (9, 0), (9, 0)]) dX1_orderOf_127 rfl rfl ?_
                  refine z_aloadn dX1_orderOf_129 rfl (Or.inl rfl) ?_
                  refine y_getr (v := (r0 + 5)) hG dX1_orderOf_130 fX1_24 (nd_0 hr0) (by decide) rfl (nd_x4 hr0) (nd_ne hr0 5 (by decide)) ?_
                  refine z_iloadn dX1_orderOf_133 rfl ?_
                  obtain ⟨q7, h⟩ := h
                  refine y_iald (x := (M (r0 + 5) x1)) dX1_orderOf_134 (nd_5 hr0) q7 rfl ?_
                  refine y_istore (ls' := [(2, r0), (0, x1), (2, r2), (0, x3), (0, x4), (0, 0), (0, (M (r0 + 5) x1)), (9, 0), (9, 0)]) dX1_orderOf_135 rfl rfl ?_
                  refine z_aloadn dX1_orderOf_137 rfl (Or.inl rfl) ?_
                  refine y_getr (v := (r2 + 5)) hG dX1_orderOf_138 fX1_24 (nd_0 hr2) (by decide) rfl (nd_x4 hr2) (nd_ne hr2 5 (by decide)) ?_
                  refine z_iloadn dX1_orderOf_141 rfl ?_
                  obtain ⟨q8, h⟩ := h
                  refine y_iald (x := (M (r2 + 5) x3)) dX1_orderOf_142 (nd_5 hr2) q8 rfl ?_
                  refine y_istore (ls' := [(2, r0), (0, x1), (2, r2), (0, x3), (0, x4), (0, 0), (0, (M (r0 + 5) x1)), (0, (M (r2 + 5) x3)), (9, 0)]) dX1_orderOf_143 rfl rfl ?_
                  refine z_iconst dX1_orderOf_145 ki_0 ?_
                  refine y_istore (ls' := [(2, r0), (0, x1), (2, r2), (0, x3), (0, x4), (0, 0), (0, (M (r0 + 5) x1)), (0, (M (r2 + 5) x3)), (0, 0)]) dX1_orderOf_146 rfl rfl ?_
                  exact h
                · replace h := h.2 q
                  refine z_aloadn dX1_orderOf_110 rfl (Or.inl rfl) ?_
                  refine y_getr (v := (r0 + 4)) hG dX1_orderOf_111 fX1_21 (nd_0 hr0) (by decide) rfl (nd_x3 hr0) (nd_ne hr0 4 (by decide)) ?_
                  refine z_iloadn dX1_orderOf_114 rfl ?_
                  obtain ⟨q9, h⟩ := h
                  refine y_iald (x := (M (r0 + 4) x1)) dX1_orderOf_115 (nd_4 hr0) q9 rfl ?_
                  refine z_aloadn dX1_orderOf_116 rfl (Or.inl rfl) ?_
                  refine y_getr (v := (r2 + 4)) hG dX1_orderOf_117 fX1_21 (nd_0 hr2) (by decide) rfl (nd_x3 hr2) (nd_ne hr2 4 (by decide)) ?_
                  refine z_iloadn dX1_orderOf_120 rfl ?_
                  obtain ⟨q10, h⟩ := h
                  refine y_iald (x := (M (r2 + 4) x3)) dX1_orderOf_121 (nd_4 hr2) q10 rfl ?_
                  refine y_cs (mt2 := mJ6_compare_7cf53) (en := [(0, (M (r0 + 4) x1)), (0, (M (r2 + 4) x3))]) (st := []) (as := [(0, (M (r0 + 4) x1)), (0, (M (r2 + 4) x3))]) dX1_orderOf_122 lX1_139 kJ6_compare_7cf53 tJ6_compare_7cf53 rfl (Nat.le_of_ble_eq_true rfl) (Nat.le_of_ble_eq_true rfl) rfl (s_compare hG ?_)
                  show Y G (d + 1) mX1_orderOf 125 [(2, r0), (0, x1), (2, r2), (0, x3), (0, x4), (9, 0), (9, 0), (9, 0), (9, 0)] [(0, (zlcmp (M (r0 + 4) x1) (M (r2 + 4) x3)))] M Q
                  exact z_ireturn dX1_orderOf_125 (Or.inl rfl) rfl h
              · replace h := h.2 q
                refine z_aloadn dX1_orderOf_79 rfl (Or.inl rfl) ?_
                refine y_getr (v := (r0 + 2)) hG dX1_orderOf_80 fX1_15 (nd_0 hr0) (by decide) rfl (nd_x1 hr0) (nd_ne hr0 2 (by decide)) ?_
                refine z_iloadn dX1_orderOf_83 rfl ?_
                obtain ⟨q11, h⟩ := h
                refine y_iald (x := (M (r0 + 2) x1)) dX1_orderOf_84 (nd_2 hr0) q11 rfl ?_
                refine z_aloadn dX1_orderOf_85 rfl (Or.inl rfl) ?_
                refine y_getr (v := (r2 + 2)) hG dX1_orderOf_86 fX1_15 (nd_0 hr2) (by decide) rfl (nd_x1 hr2) (nd_ne hr2 2 (by decide)) ?_
                refine z_iloadn dX1_orderOf_89 rfl ?_
                obtain ⟨q12, h⟩ := h
                refine y_iald (x := (M (r2 + 2) x3)) dX1_orderOf_90 (nd_2 hr2) q12 rfl ?_
                refine y_cs (mt2 := mJ6_compare_7cf53) (en := [(0, (M (r0 + 2) x1)), (0, (M (r2 + 2) x3))]) (st := []) (as := [(0, (M (r0 + 2) x1)), (0, (M (r2 + 2) x3))]) dX1_orderOf_91 lX1_139 kJ6_compare_7cf53 tJ6_compare_7cf53 rfl (Nat.le_of_ble_eq_true rfl) (Nat.le_of_ble_eq_true rfl) rfl (s_compare hG ?_)
                show Y G (d + 1) mX1_orderOf 94 [(2, r0), (0, x1), (2, r2), (0, x3), (0, x4), (9, 0), (9, 0), (9, 0), (9, 0)] [(0, (zlcmp (M (r0 + 2) x1) (M (r2 + 2) x3)))] M Q
                exact z_ireturn dX1_orderOf_94 (Or.inl rfl) rfl h
            · replace h := h.2 q
              refine z_aloadn dX1_orderOf_48 rfl (Or.inl rfl) ?_
              refine y_getr (v := (r0 + 1)) hG dX1_orderOf_49 fX1_9 (nd_0 hr0) (by decide) rfl (nd_x0 hr0) (nd_ne hr0 1 (by decide)) ?_
              refine z_iloadn dX1_orderOf_52 rfl ?_
              obtain ⟨q13, h⟩ := h
              refine y_iald (x := (M (r0 + 1) x1)) dX1_orderOf_53 (nd_1 hr0) q13 rfl ?_
              refine z_aloadn dX1_orderOf_54 rfl (Or.inl rfl) ?_
              refine y_getr (v := (r2 + 1)) hG dX1_orderOf_55 fX1_9 (nd_0 hr2) (by decide) rfl (nd_x0 hr2) (nd_ne hr2 1 (by decide)) ?_
              refine z_iloadn dX1_orderOf_58 rfl ?_
              obtain ⟨q14, h⟩ := h
              refine y_iald (x := (M (r2 + 1) x3)) dX1_orderOf_59 (nd_1 hr2) q14 rfl ?_
              refine y_cs (mt2 := mJ6_compare_7cf53) (en := [(0, (M (r0 + 1) x1)), (0, (M (r2 + 1) x3))]) (st := []) (as := [(0, (M (r0 + 1) x1)), (0, (M (r2 + 1) x3))]) dX1_orderOf_60 lX1_139 kJ6_compare_7cf53 tJ6_compare_7cf53 rfl (Nat.le_of_ble_eq_true rfl) (Nat.le_of_ble_eq_true rfl) rfl (s_compare hG ?_)
              show Y G (d + 1) mX1_orderOf 63 [(2, r0), (0, x1), (2, r2), (0, x3), (0, x4), (9, 0), (9, 0), (9, 0), (9, 0)] [(0, (zlcmp (M (r0 + 1) x1) (M (r2 + 1) x3)))] M Q
              exact z_ireturn dX1_orderOf_63 (Or.inl rfl) rfl h
          · replace h := h.2 q
            refine z_iconst dX1_orderOf_31 ki_0 ?_
            exact z_ireturn dX1_orderOf_32 (Or.inl rfl) rfl h
set_option maxRecDepth 20000 in
set_option maxHeartbeats 4000000 in
theorem bX1_orderOf_148 {G : zG} {d : Nat} {M : zM} {Q : zV → zM → Prop} (hG : zP G) {r0 x1 r2 x3 x4 x5 x6 x7 x8 : Int} (hr0 : zND r0) (hr2 : zND r2)
    (h : (0 ≤ x1 ∧ x1 < 300) ∧ (((M (r0 + 4) x1) ≤ x8 → Q (0, x5) M) ∧ (x8 < (M (r0 + 4) x1) → ((¬ x5 = 0 → Q (0, x5) M) ∧ (x5 = 0 → (-2147483648 ≤ x4 + 1 ∧ x4 + 1 ≤ 2147483647) ∧ Y G d mX1_orderOfTerms 0 [(2, r0), (0, x6), (2, r2), (0, x7), (0, (x4 + 1)), (9, 0)] [] M (fun r M' => Y G (d + 1) mX1_orderOf 177 [(2, r0), (0, x1), (2, r2), (0, x3), (0, x4), (0, x5), (0, x6), (0, x7), (0, x8)] (zpush r []) M' Q)))))) :
    Y G (d + 1) mX1_orderOf 148 [(2, r0), (0, x1), (2, r2), (0, x3), (0, x4), (0, x5), (0, x6), (0, x7), (0, x8)] [] M Q := by
  refine z_iload dX1_orderOf_148 rfl ?_
  refine z_aloadn dX1_orderOf_150 rfl (Or.inl rfl) ?_
  refine y_getr (v := (r0 + 4)) hG dX1_orderOf_151 fX1_21 (nd_0 hr0) (by decide) rfl (nd_x3 hr0) (nd_ne hr0 4 (by decide)) ?_
  refine z_iloadn dX1_orderOf_154 rfl ?_
  obtain ⟨q1, h⟩ := h
  refine y_iald (x := (M (r0 + 4) x1)) dX1_orderOf_155 (nd_4 hr0) q1 rfl ?_
  refine z_icmpge (tgt := 201) dX1_orderOf_156 rfl (fun q => ?_) (fun q => ?_)
  · replace h := h.1 q
    refine z_iload dX1_orderOf_201 rfl ?_
    exact z_ireturn dX1_orderOf_203 (Or.inl rfl) rfl h
  · replace h := h.2 q
    refine z_iload dX1_orderOf_159 rfl ?_
    refine z_ifne (tgt := 201) dX1_orderOf_161 rfl (fun q => ?_) (fun q => ?_)
    · replace h := h.1 q
      refine z_iload dX1_orderOf_201 rfl ?_
      exact z_ireturn dX1_orderOf_203 (Or.inl rfl) rfl h
    · replace h := h.2 q
      refine z_aloadn dX1_orderOf_164 rfl (Or.inl rfl) ?_
      refine z_iload dX1_orderOf_165 rfl ?_
      refine z_aloadn dX1_orderOf_167 rfl (Or.inl rfl) ?_
      refine z_iload dX1_orderOf_168 rfl ?_
      refine z_iload dX1_orderOf_170 rfl ?_
      refine z_iconst dX1_orderOf_172 ki_1 ?_
      obtain ⟨q2, h⟩ := h
      refine z_iadd dX1_orderOf_173 q2 ?_
      refine y_cs (mt2 := mX1_orderOfTerms) (en := [(2, r0), (0, x6), (2, r2), (0, x7), (0, (x4 + 1)), (9, 0)]) (st := []) (as := [(2, r0), (0, x6), (2, r2), (0, x7), (0, (x4 + 1))]) dX1_orderOf_174 lX1_126 kX1_orderOfTerms tX1_orderOfTerms rfl (Nat.le_of_ble_eq_true rfl) (Nat.le_of_ble_eq_true rfl) rfl ?_
      exact h
set_option maxRecDepth 20000 in
set_option maxHeartbeats 4000000 in
theorem bX1_orderOf_177 {G : zG} {d : Nat} {M : zM} {Q : zV → zM → Prop} (hG : zP G) {r0 x1 r2 x3 x4 x5 x6 x7 x8 x49 : Int} (hr0 : zND r0) (hr2 : zND r2)
    (h : (M r0 8 ≤ 300) ∧ (M r2 8 ≤ 300) ∧ (-2147483648 ≤ x8 + 1 ∧ x8 + 1 ≤ 2147483647) ∧ Y G (d + 1) mX1_orderOf 148 [(2, r0), (0, x1), (2, r2), (0, x3), (0, x4), (0, x49), (0, (znf M r0 7 x6 (-1))), (0, (znf M r2 7 x7 (-1))), (0, (x8 + 1))] [] M Q) :
    Y G (d + 1) mX1_orderOf 177 [(2, r0), (0, x1), (2, r2), (0, x3), (0, x4), (0, x5), (0, x6), (0, x7), (0, x8)] [(0, x49)] M Q := by
  refine y_istore (ls' := [(2, r0), (0, x1), (2, r2), (0, x3), (0, x4), (0, x49), (0, x6), (0, x7), (0, x8)]) dX1_orderOf_177 rfl rfl ?_
  refine z_aloadn dX1_orderOf_179 rfl (Or.inl rfl) ?_
  refine z_iload dX1_orderOf_180 rfl ?_
  obtain ⟨q1, h⟩ := h
  refine y_cv (mt2 := mX1_behind) (en := [(2, r0), (0, x6)]) (st := []) (as := [(0, x6)]) dX1_orderOf_182 lX1_68 kX1_behind iX1_behind eX1_behind rfl (nd_0 hr0) (by decide +kernel) (Nat.le_of_ble_eq_true rfl) (Nat.le_of_ble_eq_true rfl) rfl (s_behind hG hr0 q1 ?_)
  show Y G (d + 1) mX1_orderOf 185 [(2, r0), (0, x1), (2, r2), (0, x3), (0, x4), (0, x49), (0, x6), (0, x7), (0, x8)] [(0, (znf M r0 7 x6 (-1)))] M Q
  refine y_istore (ls' := [(2, r0), (0, x1), (2, r2), (0, x3), (0, x4), (0, x49), (0, (znf M r0 7 x6 (-1))), (0, x7), (0, x8)]) dX1_orderOf_185 rfl rfl ?_
  refine z_aloadn dX1_orderOf_187 rfl (Or.inl rfl) ?_
  refine z_iload dX1_orderOf_188 rfl ?_
  obtain ⟨q2, h⟩ := h
  refine y_cv (mt2 := mX1_behind) (en := [(2, r2), (0, x7)]) (st := []) (as := [(0, x7)]) dX1_orderOf_190 lX1_68 kX1_behind iX1_behind eX1_behind rfl (nd_0 hr2) (by decide +kernel) (Nat.le_of_ble_eq_true rfl) (Nat.le_of_ble_eq_true rfl) rfl (s_behind hG hr2 q2 ?_)
  show Y G (d + 1) mX1_orderOf 193 [(2, r0), (0, x1), (2, r2), (0, x3), (0, x4), (0, x49), (0, (znf M r0 7 x6 (-1))), (0, x7), (0, x8)] [(0, (znf M r2 7 x7 (-1)))] M Q
  refine y_istore (ls' := [(2, r0), (0, x1), (2, r2), (0, x3), (0, x4), (0, x49), (0, (znf M r0 7 x6 (-1))), (0, (znf M r2 7 x7 (-1))), (0, x8)]) dX1_orderOf_193 rfl rfl ?_
  obtain ⟨q3, h⟩ := h
  refine y_iinc (ls' := [(2, r0), (0, x1), (2, r2), (0, x3), (0, x4), (0, x49), (0, (znf M r0 7 x6 (-1))), (0, (znf M r2 7 x7 (-1))), (0, (x8 + 1))]) dX1_orderOf_195 rfl rfl q3 rfl ?_
  refine z_goto (tgt := 148) dX1_orderOf_198 rfl ?_
  exact h
set_option maxRecDepth 20000 in
set_option maxHeartbeats 4000000 in
theorem bX1_orderOfTerms_0 {G : zG} {d : Nat} {M : zM} {Q : zV → zM → Prop} (hG : zP G) {r0 x1 r2 x3 x4 : Int} (hr0 : zND r0) (hr2 : zND r2)
    (h : (M r2 8 ≤ 300) ∧ (M r0 8 ≤ 300) ∧ (((zlcmp (znf M r2 3 x3 1) (znf M r0 3 x1 1)) = 0 → Y G d mX1_orderOf 0 [(2, r0), (0, x1), (2, r2), (0, x3), (0, x4), (9, 0), (9, 0), (9, 0), (9, 0)] [] M (fun r M' => Y G (d + 1) mX1_orderOfTerms 34 [(2, r0), (0, x1), (2, r2), (0, x3), (0, x4), (0, (zlcmp (znf M r2 3 x3 1) (znf M r0 3 x1 1)))] (zpush r []) M' Q)) ∧ (¬ (zlcmp (znf M r2 3 x3 1) (znf M r0 3 x1 1)) = 0 → Q (0, (zlcmp (znf M r2 3 x3 1) (znf M r0 3 x1 1))) M))) :
    Y G (d + 1) mX1_orderOfTerms 0 [(2, r0), (0, x1), (2, r2), (0, x3), (0, x4), (9, 0)] [] M Q := by
  refine z_aloadn dX1_orderOfTerms_0 rfl (Or.inl rfl) ?_
  refine z_iloadn dX1_orderOfTerms_1 rfl ?_
  obtain ⟨q1, h⟩ := h
  refine y_cv (mt2 := mX1_signOf) (en := [(2, r2), (0, x3)]) (st := []) (as := [(0, x3)]) dX1_orderOfTerms_2 lX1_61 kX1_signOf iX1_signOf eX1_signOf rfl (nd_0 hr2) (by decide +kernel) (Nat.le_of_ble_eq_true rfl) (Nat.le_of_ble_eq_true rfl) rfl (s_signOf hG hr2 q1 ?_)
  show Y G (d + 1) mX1_orderOfTerms 5 [(2, r0), (0, x1), (2, r2), (0, x3), (0, x4), (9, 0)] [(0, (znf M r2 3 x3 1))] M Q
  refine z_aloadn dX1_orderOfTerms_5 rfl (Or.inl rfl) ?_
  refine z_iloadn dX1_orderOfTerms_6 rfl ?_
  obtain ⟨q2, h⟩ := h
  refine y_cv (mt2 := mX1_signOf) (en := [(2, r0), (0, x1)]) (st := [(0, (znf M r2 3 x3 1))]) (as := [(0, x1)]) dX1_orderOfTerms_7 lX1_61 kX1_signOf iX1_signOf eX1_signOf rfl (nd_0 hr0) (by decide +kernel) (Nat.le_of_ble_eq_true rfl) (Nat.le_of_ble_eq_true rfl) rfl (s_signOf hG hr0 q2 ?_)
  show Y G (d + 1) mX1_orderOfTerms 10 [(2, r0), (0, x1), (2, r2), (0, x3), (0, x4), (9, 0)] [(0, (znf M r0 3 x1 1)), (0, (znf M r2 3 x3 1))] M Q
  refine y_cs (mt2 := mJ6_compare_7cf53) (en := [(0, (znf M r2 3 x3 1)), (0, (znf M r0 3 x1 1))]) (st := []) (as := [(0, (znf M r2 3 x3 1)), (0, (znf M r0 3 x1 1))]) dX1_orderOfTerms_10 lX1_139 kJ6_compare_7cf53 tJ6_compare_7cf53 rfl (Nat.le_of_ble_eq_true rfl) (Nat.le_of_ble_eq_true rfl) rfl (s_compare hG ?_)
  show Y G (d + 1) mX1_orderOfTerms 13 [(2, r0), (0, x1), (2, r2), (0, x3), (0, x4), (9, 0)] [(0, (zlcmp (znf M r2 3 x3 1) (znf M r0 3 x1 1)))] M Q
  refine y_istore (ls' := [(2, r0), (0, x1), (2, r2), (0, x3), (0, x4), (0, (zlcmp (znf M r2 3 x3 1) (znf M r0 3 x1 1)))]) dX1_orderOfTerms_13 rfl rfl ?_
  refine z_iload dX1_orderOfTerms_15 rfl ?_
  refine z_ifeq (tgt := 25) dX1_orderOfTerms_17 rfl (fun q => ?_) (fun q => ?_)
  · replace h := h.1 q
    refine z_aloadn dX1_orderOfTerms_25 rfl (Or.inl rfl) ?_
    refine z_iloadn dX1_orderOfTerms_26 rfl ?_
    refine z_aloadn dX1_orderOfTerms_27 rfl (Or.inl rfl) ?_
    refine z_iloadn dX1_orderOfTerms_28 rfl ?_
    refine z_iload dX1_orderOfTerms_29 rfl ?_
    refine y_cs (mt2 := mX1_orderOf) (en := [(2, r0), (0, x1), (2, r2), (0, x3), (0, x4), (9, 0), (9, 0), (9, 0), (9, 0)]) (st := []) (as := [(2, r0), (0, x1), (2, r2), (0, x3), (0, x4)]) dX1_orderOfTerms_31 lX1_133 kX1_orderOf tX1_orderOf rfl (Nat.le_of_ble_eq_true rfl) (Nat.le_of_ble_eq_true rfl) rfl ?_
    exact h
  · replace h := h.2 q
    refine z_iload dX1_orderOfTerms_20 rfl ?_
    refine z_goto (tgt := 34) dX1_orderOfTerms_22 rfl ?_
    exact z_ireturn dX1_orderOfTerms_34 (Or.inl rfl) rfl h
set_option maxRecDepth 20000 in
set_option maxHeartbeats 4000000 in
theorem bX1_orderOfTerms_34 {G : zG} {d : Nat} {M : zM} {Q : zV → zM → Prop} (hG : zP G) {r0 x1 r2 x3 x4 x5 x49 : Int} (hr0 : zND r0) (hr2 : zND r2)
    (h : Q (0, x49) M) :
    Y G (d + 1) mX1_orderOfTerms 34 [(2, r0), (0, x1), (2, r2), (0, x3), (0, x4), (0, x5)] [(0, x49)] M Q := by
  exact z_ireturn dX1_orderOfTerms_34 (Or.inl rfl) rfl h
set_option maxRecDepth 20000 in
set_option maxHeartbeats 4000000 in
theorem bX1_makeOf_0 {G : zG} {d : Nat} {M : zM} {Q : zV → zM → Prop} (hG : zP G) {o x1 x2 x3 x4 : Int} (ho : zND o)
    (h : Y G d mX1_make 0 [(2, o), (0, x1), (0, 0)] [] M (fun r M' => Y G (d + 1) mX1_makeOf 6 [(2, o), (0, x1), (0, x2), (0, x3), (0, x4), (9, 0)] (zpush r []) M' Q)) :
    Y G (d + 1) mX1_makeOf 0 [(2, o), (0, x1), (0, x2), (0, x3), (0, x4), (9, 0)] [] M Q := by
  refine z_aloadn dX1_makeOf_0 rfl (Or.inl rfl) ?_
  refine z_iloadn dX1_makeOf_1 rfl ?_
  refine z_iconst dX1_makeOf_2 ki_0 ?_
  refine y_cv (mt2 := mX1_make) (en := [(2, o), (0, x1), (0, 0)]) (st := []) (as := [(0, x1), (0, 0)]) dX1_makeOf_3 lX1_40 kX1_make iX1_make eX1_make rfl (nd_0 ho) (by decide +kernel) (Nat.le_of_ble_eq_true rfl) (Nat.le_of_ble_eq_true rfl) rfl ?_
  exact h
set_option maxRecDepth 20000 in
set_option maxHeartbeats 4000000 in
theorem bX1_makeOf_6 {G : zG} {d : Nat} {M : zM} {Q : zV → zM → Prop} (hG : zP G) {o x1 x2 x3 x4 x49 : Int} (ho : zND o)
    (h : ((x49 = (-1) → Q (0, x49) M) ∧ (¬ x49 = (-1) → (0 ≤ x49 ∧ x49 < 300) ∧ (0 ≤ x49 ∧ x49 < 300) ∧ (0 ≤ x49 ∧ x49 < 300) ∧ Q (0, x49) (zset (zset (zset M (o + 5) x49 x2) (o + 6) x49 x3) (o + 4) x49 x4)))) :
    Y G (d + 1) mX1_makeOf 6 [(2, o), (0, x1), (0, x2), (0, x3), (0, x4), (9, 0)] [(0, x49)] M Q := by
  refine y_istore (ls' := [(2, o), (0, x1), (0, x2), (0, x3), (0, x4), (0, x49)]) dX1_makeOf_6 rfl rfl ?_
  refine z_iload dX1_makeOf_8 rfl ?_
  refine z_iconst dX1_makeOf_10 ki_m1 ?_
  refine z_icmpeq (tgt := 39) dX1_makeOf_11 rfl (fun q => ?_) (fun q => ?_)
  · replace h := h.1 q
    refine z_iload dX1_makeOf_39 rfl ?_
    exact z_ireturn dX1_makeOf_41 (Or.inl rfl) rfl h
  · replace h := h.2 q
    refine z_aloadn dX1_makeOf_14 rfl (Or.inl rfl) ?_
    refine y_getr (v := (o + 5)) hG dX1_makeOf_15 fX1_24 (nd_0 ho) (by decide) rfl (nd_x4 ho) (nd_ne ho 5 (by decide)) ?_
    refine z_iload dX1_makeOf_18 rfl ?_
    refine z_iloadn dX1_makeOf_20 rfl ?_
    obtain ⟨q1, h⟩ := h
    refine y_iast hG dX1_makeOf_21 (nd_5 ho) q1 ?_
    refine z_aloadn dX1_makeOf_22 rfl (Or.inl rfl) ?_
    refine y_getr (v := (o + 6)) hG dX1_makeOf_23 fX1_27 (nd_0 ho) (by decide) rfl (nd_x5 ho) (nd_ne ho 6 (by decide)) ?_
    refine z_iload dX1_makeOf_26 rfl ?_
    refine z_iloadn dX1_makeOf_28 rfl ?_
    obtain ⟨q2, h⟩ := h
    refine y_iast hG dX1_makeOf_29 (nd_6 ho) q2 ?_
    refine z_aloadn dX1_makeOf_30 rfl (Or.inl rfl) ?_
    refine y_getr (v := (o + 4)) hG dX1_makeOf_31 fX1_21 (nd_0 ho) (by decide) rfl (nd_x3 ho) (nd_ne ho 4 (by decide)) ?_
    refine z_iload dX1_makeOf_34 rfl ?_
    refine z_iload dX1_makeOf_36 rfl ?_
    obtain ⟨q3, h⟩ := h
    refine y_iast hG dX1_makeOf_38 (nd_4 ho) q3 ?_
    refine z_iload dX1_makeOf_39 rfl ?_
    exact z_ireturn dX1_makeOf_41 (Or.inl rfl) rfl h
set_option maxRecDepth 20000 in
set_option maxHeartbeats 4000000 in
theorem bX1_append_0 {G : zG} {d : Nat} {M : zM} {Q : zV → zM → Prop} (hG : zP G) {o x1 x2 x3 : Int} (ho : zND o)
    (h : ((x1 < 0 → Q (9, 0) M) ∧ (0 ≤ x1 → (((M o 8) ≤ x1 → Q (9, 0) M) ∧ (x1 < (M o 8) → ((x2 < 0 → Q (9, 0) M) ∧ (0 ≤ x2 → ((x2 < (M o 8) → (0 ≤ x1 ∧ x1 < 300) ∧ (((M (o + 6) x1) < 0 → (0 ≤ x1 ∧ x1 < 300) ∧ (0 ≤ x1 ∧ x1 < 300) ∧ (0 ≤ x2 ∧ x2 < 300) ∧ (0 ≤ x2 ∧ x2 < 300) ∧ (0 ≤ x1 ∧ x1 < 300) ∧ (-2147483648 ≤ (M (o + 4) x1) + 1 ∧ (M (o + 4) x1) + 1 ≤ 2147483647) ∧ (0 ≤ x1 ∧ x1 < 300) ∧ Q (9, 0) (zset (zset (zset (zset (zset M (o + 5) x1 x2) (o + 6) x1 x2) (o + 7) x2 (-1)) (o + 3) x2 x3) (o + 4) x1 ((M (o + 4) x1) + 1))) ∧ (0 ≤ (M (o + 6) x1) → (((M o 8) ≤ (M (o + 6) x1) → (0 ≤ x1 ∧ x1 < 300) ∧ (0 ≤ x1 ∧ x1 < 300) ∧ (0 ≤ x2 ∧ x2 < 300) ∧ (0 ≤ x2 ∧ x2 < 300) ∧ (0 ≤ x1 ∧ x1 < 300) ∧ (-2147483648 ≤ (M (o + 4) x1) + 1 ∧ (M (o + 4) x1) + 1 ≤ 2147483647) ∧ (0 ≤ x1 ∧ x1 < 300) ∧ Q (9, 0) (zset (zset (zset (zset (zset M (o + 5) x1 x2) (o + 6) x1 x2) (o + 7) x2 (-1)) (o + 3) x2 x3) (o + 4) x1 ((M (o + 4) x1) + 1))) ∧ ((M (o + 6) x1) < (M o 8) → (0 ≤ (M (o + 6) x1) ∧ (M (o + 6) x1) < 300) ∧ (0 ≤ x1 ∧ x1 < 300) ∧ (0 ≤ x2 ∧ x2 < 300) ∧ (0 ≤ x2 ∧ x2 < 300) ∧ (0 ≤ x1 ∧ x1 < 300) ∧ (-2147483648 ≤ (M (o + 4) x1) + 1 ∧ (M (o + 4) x1) + 1 ≤ 2147483647) ∧ (0 ≤ x1 ∧ x1 < 300) ∧ Q (9, 0) (zset (zset (zset (zset (zset M (o + 7) (M (o + 6) x1) x2) (o + 6) x1 x2) (o + 7) x2 (-1)) (o + 3) x2 x3) (o + 4) x1 ((M (o + 4) x1) + 1))))))) ∧ ((M o 8) ≤ x2 → Q (9, 0) M))))))))) :
    Y G d mX1_append 0 [(2, o), (0, x1), (0, x2), (0, x3), (9, 0)] [] M Q := by
  refine z_iloadn dX1_append_0 rfl ?_
  refine z_iflt (tgt := 24) dX1_append_1 rfl (fun q => ?_) (fun q => ?_)
  · replace h := h.1 q
    exact z_return dX1_append_24 rfl rfl h
  · replace h := h.2 q
    refine z_iloadn dX1_append_4 rfl ?_
    refine z_aloadn dX1_append_5 rfl (Or.inl rfl) ?_
    refine y_getf (x := (M o 8)) dX1_append_6 fX1_36 (nd_0 ho) (by decide) rfl rfl ?_
    refine z_icmpge (tgt := 24) dX1_append_9 rfl (fun q => ?_) (fun q => ?_)
    · replace h := h.1 q
      exact z_return dX1_append_24 rfl rfl h
    · replace h := h.2 q
      refine z_iloadn dX1_append_12 rfl ?_
      refine z_iflt (tgt := 24) dX1_append_13 rfl (fun q => ?_) (fun q => ?_)
      · replace h := h.1 q
        exact z_return dX1_append_24 rfl rfl h
      · replace h := h.2 q
        refine z_iloadn dX1_append_16 rfl ?_
        refine z_aloadn dX1_append_17 rfl (Or.inl rfl) ?_
        refine y_getf (x := (M o 8)) dX1_append_18 fX1_36 (nd_0 ho) (by decide) rfl rfl ?_
        refine z_icmplt (tgt := 25) dX1_append_21 rfl (fun q => ?_) (fun q => ?_)
        · replace h := h.1 q
          refine z_aloadn dX1_append_25 rfl (Or.inl rfl) ?_
          refine y_getr (v := (o + 6)) hG dX1_append_26 fX1_27 (nd_0 ho) (by decide) rfl (nd_x5 ho) (nd_ne ho 6 (by decide)) ?_
          refine z_iloadn dX1_append_29 rfl ?_
          obtain ⟨q1, h⟩ := h
          refine y_iald (x := (M (o + 6) x1)) dX1_append_30 (nd_6 ho) q1 rfl ?_
          refine y_istore (ls' := [(2, o), (0, x1), (0, x2), (0, x3), (0, (M (o + 6) x1))]) dX1_append_31 rfl rfl ?_
          refine z_iload dX1_append_33 rfl ?_
          refine z_iflt (tgt := 58) dX1_append_35 rfl (fun q => ?_) (fun q => ?_)
          · replace h := h.1 q
            refine z_aloadn dX1_append_58 rfl (Or.inl rfl) ?_
            refine y_getr (v := (o + 5)) hG dX1_append_59 fX1_24 (nd_0 ho) (by decide) rfl (nd_x4 ho) (nd_ne ho 5 (by decide)) ?_
            refine z_iloadn dX1_append_62 rfl ?_
            refine z_iloadn dX1_append_63 rfl ?_
            obtain ⟨q2, h⟩ := h
            refine y_iast hG dX1_append_64 (nd_5 ho) q2 ?_
            refine z_aloadn dX1_append_65 rfl (Or.inl rfl) ?_
            refine y_getr (v := (o + 6)) hG dX1_append_66 fX1_27 (nd_0 ho) (by decide) rfl (nd_x5 ho) (nd_ne ho 6 (by decide)) ?_
            refine z_iloadn dX1_append_69 rfl ?_
            refine z_iloadn dX1_append_70 rfl ?_
            obtain ⟨q3, h⟩ := h
            refine y_iast hG dX1_append_71 (nd_6 ho) q3 ?_
            refine z_aloadn dX1_append_72 rfl (Or.inl rfl) ?_
            refine y_getr (v := (o + 7)) hG dX1_append_73 fX1_30 (nd_0 ho) (by decide) rfl (nd_x6 ho) (nd_ne ho 7 (by decide)) ?_
            refine z_iloadn dX1_append_76 rfl ?_
            refine z_iconst dX1_append_77 ki_m1 ?_
            obtain ⟨q4, h⟩ := h
            refine y_iast hG dX1_append_78 (nd_7 ho) q4 ?_
            refine z_aloadn dX1_append_79 rfl (Or.inl rfl) ?_
            refine y_getr (v := (o + 3)) hG dX1_append_80 fX1_18 (nd_0 ho) (by decide) rfl (nd_x2 ho) (nd_ne ho 3 (by decide)) ?_
            refine z_iloadn dX1_append_83 rfl ?_
            refine z_iloadn dX1_append_84 rfl ?_
            obtain ⟨q5, h⟩ := h
            refine y_iast hG dX1_append_85 (nd_3 ho) q5 ?_
            refine z_aloadn dX1_append_86 rfl (Or.inl rfl) ?_
            refine y_getr (v := (o + 4)) hG dX1_append_87 fX1_21 (nd_0 ho) (by decide) rfl (nd_x3 ho) (nd_ne ho 4 (by decide)) ?_
            refine z_iloadn dX1_append_90 rfl ?_
            refine z_dup2 dX1_append_91 (show (0 : Nat) ≠ 1 by decide) (show (2 : Nat) ≠ 1 by decide) ?_
            obtain ⟨q6, h⟩ := h
            refine y_iald (x := (M (o + 4) x1)) dX1_append_92 (nd_4 ho) q6 (((zset_ne (fun q => absurd q.1 (by omega))).trans (((zset_ne (fun q => absurd q.1 (by omega))).trans (((zset_ne (fun q => absurd q.1 (by omega))).trans (zset_ne (fun q => absurd q.1 (by omega))))))))) ?_
            refine z_iconst dX1_append_93 ki_1 ?_
            obtain ⟨q7, h⟩ := h
            refine z_iadd dX1_append_94 q7 ?_
            obtain ⟨q8, h⟩ := h
            refine y_iast hG dX1_append_95 (nd_4 ho) q8 ?_
            exact z_return dX1_append_96 rfl rfl h
          · replace h := h.2 q
            refine z_iload dX1_append_38 rfl ?_
            refine z_aloadn dX1_append_40 rfl (Or.inl rfl) ?_
            refine y_getf (x := (M o 8)) dX1_append_41 fX1_36 (nd_0 ho) (by decide) rfl rfl ?_
            refine z_icmpge (tgt := 58) dX1_append_44 rfl (fun q => ?_) (fun q => ?_)
            · replace h := h.1 q
              refine z_aloadn dX1_append_58 rfl (Or.inl rfl) ?_
              refine y_getr (v := (o + 5)) hG dX1_append_59 fX1_24 (nd_0 ho) (by decide) rfl (nd_x4 ho) (nd_ne ho 5 (by decide)) ?_
              refine z_iloadn dX1_append_62 rfl ?_
              refine z_iloadn dX1_append_63 rfl ?_
              obtain ⟨q9, h⟩ := h
              refine y_iast hG dX1_append_64 (nd_5 ho) q9 ?_
              refine z_aloadn dX1_append_65 rfl (Or.inl rfl) ?_
              refine y_getr (v := (o + 6)) hG dX1_append_66 fX1_27 (nd_0 ho) (by decide) rfl (nd_x5 ho) (nd_ne ho 6 (by decide)) ?_
              refine z_iloadn dX1_append_69 rfl ?_
              refine z_iloadn dX1_append_70 rfl ?_
              obtain ⟨q10, h⟩ := h
              refine y_iast hG dX1_append_71 (nd_6 ho) q10 ?_
              refine z_aloadn dX1_append_72 rfl (Or.inl rfl) ?_
              refine y_getr (v := (o + 7)) hG dX1_append_73 fX1_30 (nd_0 ho) (by decide) rfl (nd_x6 ho) (nd_ne ho 7 (by decide)) ?_
              refine z_iloadn dX1_append_76 rfl ?_
              refine z_iconst dX1_append_77 ki_m1 ?_
              obtain ⟨q11, h⟩ := h
              refine y_iast hG dX1_append_78 (nd_7 ho) q11 ?_
              refine z_aloadn dX1_append_79 rfl (Or.inl rfl) ?_
              refine y_getr (v := (o + 3)) hG dX1_append_80 fX1_18 (nd_0 ho) (by decide) rfl (nd_x2 ho) (nd_ne ho 3 (by decide)) ?_
              refine z_iloadn dX1_append_83 rfl ?_
              refine z_iloadn dX1_append_84 rfl ?_
              obtain ⟨q12, h⟩ := h
              refine y_iast hG dX1_append_85 (nd_3 ho) q12 ?_
              refine z_aloadn dX1_append_86 rfl (Or.inl rfl) ?_
              refine y_getr (v := (o + 4)) hG dX1_append_87 fX1_21 (nd_0 ho) (by decide) rfl (nd_x3 ho) (nd_ne ho 4 (by decide)) ?_
              refine z_iloadn dX1_append_90 rfl ?_
              refine z_dup2 dX1_append_91 (show (0 : Nat) ≠ 1 by decide) (show (2 : Nat) ≠ 1 by decide) ?_
              obtain ⟨q13, h⟩ := h
              refine y_iald (x := (M (o + 4) x1)) dX1_append_92 (nd_4 ho) q13 (((zset_ne (fun q => absurd q.1 (by omega))).trans (((zset_ne (fun q => absurd q.1 (by omega))).trans (((zset_ne (fun q => absurd q.1 (by omega))).trans (zset_ne (fun q => absurd q.1 (by omega))))))))) ?_
              refine z_iconst dX1_append_93 ki_1 ?_
              obtain ⟨q14, h⟩ := h
              refine z_iadd dX1_append_94 q14 ?_
              obtain ⟨q15, h⟩ := h
              refine y_iast hG dX1_append_95 (nd_4 ho) q15 ?_
              exact z_return dX1_append_96 rfl rfl h
            · replace h := h.2 q
              refine z_aloadn dX1_append_47 rfl (Or.inl rfl) ?_
              refine y_getr (v := (o + 7)) hG dX1_append_48 fX1_30 (nd_0 ho) (by decide) rfl (nd_x6 ho) (nd_ne ho 7 (by decide)) ?_
              refine z_iload dX1_append_51 rfl ?_
              refine z_iloadn dX1_append_53 rfl ?_
              obtain ⟨q16, h⟩ := h
              refine y_iast hG dX1_append_54 (nd_7 ho) q16 ?_
              refine z_goto (tgt := 65) dX1_append_55 rfl ?_
              refine z_aloadn dX1_append_65 rfl (Or.inl rfl) ?_
              refine y_getr (v := (o + 6)) hG dX1_append_66 fX1_27 (nd_0 ho) (by decide) rfl (nd_x5 ho) (nd_ne ho 6 (by decide)) ?_
              refine z_iloadn dX1_append_69 rfl ?_
              refine z_iloadn dX1_append_70 rfl ?_
              obtain ⟨q17, h⟩ := h
              refine y_iast hG dX1_append_71 (nd_6 ho) q17 ?_
              refine z_aloadn dX1_append_72 rfl (Or.inl rfl) ?_
              refine y_getr (v := (o + 7)) hG dX1_append_73 fX1_30 (nd_0 ho) (by decide) rfl (nd_x6 ho) (nd_ne ho 7 (by decide)) ?_
              refine z_iloadn dX1_append_76 rfl ?_
              refine z_iconst dX1_append_77 ki_m1 ?_
              obtain ⟨q18, h⟩ := h
              refine y_iast hG dX1_append_78 (nd_7 ho) q18 ?_
              refine z_aloadn dX1_append_79 rfl (Or.inl rfl) ?_
              refine y_getr (v := (o + 3)) hG dX1_append_80 fX1_18 (nd_0 ho) (by decide) rfl (nd_x2 ho) (nd_ne ho 3 (by decide)) ?_
              refine z_iloadn dX1_append_83 rfl ?_
              refine z_iloadn dX1_append_84 rfl ?_
              obtain ⟨q19, h⟩ := h
              refine y_iast hG dX1_append_85 (nd_3 ho) q19 ?_
              refine z_aloadn dX1_append_86 rfl (Or.inl rfl) ?_
              refine y_getr (v := (o + 4)) hG dX1_append_87 fX1_21 (nd_0 ho) (by decide) rfl (nd_x3 ho) (nd_ne ho 4 (by decide)) ?_
              refine z_iloadn dX1_append_90 rfl ?_
              refine z_dup2 dX1_append_91 (show (0 : Nat) ≠ 1 by decide) (show (2 : Nat) ≠ 1 by decide) ?_
              obtain ⟨q20, h⟩ := h
              refine y_iald (x := (M (o + 4) x1)) dX1_append_92 (nd_4 ho) q20 (((zset_ne (fun q => absurd q.1 (by omega))).trans (((zset_ne (fun q => absurd q.1 (by omega))).trans (((zset_ne (fun q => absurd q.1 (by omega))).trans (zset_ne (fun q => absurd q.1 (by omega))))))))) ?_
              refine z_iconst dX1_append_93 ki_1 ?_
              obtain ⟨q21, h⟩ := h
              refine z_iadd dX1_append_94 q21 ?_
              obtain ⟨q22, h⟩ := h
              refine y_iast hG dX1_append_95 (nd_4 ho) q22 ?_
              exact z_return dX1_append_96 rfl rfl h
        · replace h := h.2 q
          exact z_return dX1_append_24 rfl rfl h
