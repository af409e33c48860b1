set_option maxRecDepth 20000 in
set_option maxHeartbeats 4000000 in
theorem bX4_readSum_0 {G : zG} {d : Nat} {M : zM} {Q : zV → zM → Prop} (hG : zP G) {r1 x2 : Int} (hr1 : zND r1)
    (h : Y G d mX4_readProduct 0 [(2, 12), (2, r1), (0, x2), (9, 0), (9, 0), (9, 0), (9, 0), (9, 0)] [] M (fun r M' => Y G (d + 1) mX4_readSum 6 [(2, 12), (2, r1), (0, x2), (9, 0), (9, 0), (9, 0), (9, 0), (9, 0), (9, 0)] (zpush r []) M' Q)) :
    Y G (d + 1) mX4_readSum 0 [(2, 12), (2, r1), (0, x2), (9, 0), (9, 0), (9, 0), (9, 0), (9, 0), (9, 0)] [] M Q := by
  refine z_aloadn dX4_readSum_0 rfl (Or.inl rfl) ?_
  refine z_aloadn dX4_readSum_1 rfl (Or.inl rfl) ?_
  refine z_iloadn dX4_readSum_2 rfl ?_
  refine y_cv (mt2 := mX4_readProduct) (en := [(2, 12), (2, r1), (0, x2), (9, 0), (9, 0), (9, 0), (9, 0), (9, 0)]) (st := []) (as := [(2, r1), (0, x2)]) dX4_readSum_3 lX4_141 kX4_readProduct iX4_readProduct eX4_readProduct rfl sh12 (by decide +kernel) (Nat.le_of_ble_eq_true rfl) (Nat.le_of_ble_eq_true rfl) rfl ?_
  exact h
set_option maxRecDepth 20000 in
set_option maxHeartbeats 4000000 in
theorem bX4_readSum_47 {G : zG} {d : Nat} {M : zM} {Q : zV → zM → Prop} (hG : zP G) {r1 x2 x3 x4 x5 x6 : Int} (hr1 : zND r1)
    (h : ((300 ≤ x6 → Y G d mX1_makeOf 0 [(2, r1), (0, 2), (0, x3), (0, x4), (0, x5), (9, 0)] [] M (fun r M' => Y G (d + 1) mX4_readSum 175 [(2, 12), (2, r1), (0, x2), (0, x3), (0, x4), (0, x5), (0, x6), (9, 0), (9, 0)] (zpush r []) M' Q)) ∧ (x6 < 300 → (((M 13 7) = 7 → ((¬ (M 13 7) = 7 → Y G d mX8_advance 0 [(2, 13)] [] (zset M 12 6 (zor (M 12 6) 32)) (fun r M' => Y G (d + 1) mX4_readSum 126 [(2, 12), (2, r1), (0, x2), (0, x3), (0, x4), (0, x5), (0, x6), (0, (-1)), (9, 0)] (zpush r []) M' Q)) ∧ ((M 13 7) = 7 → Y G d mX8_advance 0 [(2, 13)] [] (zset M 12 6 (zor (M 12 6) 16)) (fun r M' => Y G (d + 1) mX4_readSum 126 [(2, 12), (2, r1), (0, x2), (0, x3), (0, x4), (0, x5), (0, x6), (0, 1), (9, 0)] (zpush r []) M' Q)))) ∧ (¬ (M 13 7) = 7 → ((¬ (M 13 7) = 8 → Y G d mX1_makeOf 0 [(2, r1), (0, 2), (0, x3), (0, x4), (0, x5), (9, 0)] [] M (fun r M' => Y G (d + 1) mX4_readSum 175 [(2, 12), (2, r1), (0, x2), (0, x3), (0, x4), (0, x5), (0, x6), (9, 0), (9, 0)] (zpush r []) M' Q)) ∧ ((M 13 7) = 8 → ((¬ (M 13 7) = 7 → Y G d mX8_advance 0 [(2, 13)] [] (zset M 12 6 (zor (M 12 6) 32)) (fun r M' => Y G (d + 1) mX4_readSum 126 [(2, 12), (2, r1), (0, x2), (0, x3), (0, x4), (0, x5), (0, x6), (0, (-1)), (9, 0)] (zpush r []) M' Q)) ∧ ((M 13 7) = 7 → Y G d mX8_advance 0 [(2, 13)] [] (zset M 12 6 (zor (M 12 6) 16)) (fun r M' => Y G (d + 1) mX4_readSum 126 [(2, 12), (2, r1), (0, x2), (0, x3), (0, x4), (0, x5), (0, x6), (0, 1), (9, 0)] (zpush r []) M' Q)))))))))) :
    Y G (d + 1) mX4_readSum 47 [(2, 12), (2, r1), (0, x2), (0, x3), (0, x4), (0, x5), (0, x6), (9, 0), (9, 0)] [] M Q := by
  refine z_iload dX4_readSum_47 rfl ?_
  refine z_sipush dX4_readSum_49 ks_300 ?_
  refine z_icmpge (tgt := 165) dX4_readSum_52 rfl (fun q => ?_) (fun q => ?_)
  · replace h := h.1 q
    refine z_aloadn dX4_readSum_165 rfl (Or.inl rfl) ?_
    refine z_iconst dX4_readSum_166 ki_2 ?_
    refine z_iloadn dX4_readSum_167 rfl ?_
    refine z_iload dX4_readSum_168 rfl ?_
    refine z_iload dX4_readSum_170 rfl ?_
    refine y_cv (mt2 := mX1_makeOf) (en := [(2, r1), (0, 2), (0, x3), (0, x4), (0, x5), (9, 0)]) (st := []) (as := [(0, 2), (0, x3), (0, x4), (0, x5)]) dX4_readSum_172 lX4_148 kX1_makeOf iX1_makeOf eX1_makeOf rfl (nd_0 hr1) (by decide +kernel) (Nat.le_of_ble_eq_true rfl) (Nat.le_of_ble_eq_true rfl) rfl ?_
    exact h
  · replace h := h.2 q
    refine z_aloadn dX4_readSum_55 rfl (Or.inl rfl) ?_
    refine y_getr (v := 13) hG dX4_readSum_56 fX4_12 sh12 (by decide) rfl (by decide +kernel) (by decide) ?_
    refine y_getf (x := (M 13 7)) dX4_readSum_59 fX4_37 sh13 (by decide) rfl rfl ?_
    refine z_bipush dX4_readSum_62 kb_7 ?_
    refine z_icmpeq (tgt := 79) dX4_readSum_64 rfl (fun q => ?_) (fun q => ?_)
    · replace h := h.1 q
      refine z_aloadn dX4_readSum_79 rfl (Or.inl rfl) ?_
      refine y_getr (v := 13) hG dX4_readSum_80 fX4_12 sh12 (by decide) rfl (by decide +kernel) (by decide) ?_
      refine y_getf (x := (M 13 7)) dX4_readSum_83 fX4_37 sh13 (by decide) rfl rfl ?_
      refine z_bipush dX4_readSum_86 kb_7 ?_
      refine z_icmpne (tgt := 95) dX4_readSum_88 rfl (fun q => ?_) (fun q => ?_)
      · replace h := h.1 q
        refine z_iconst dX4_readSum_95 ki_m1 ?_
        refine y_istore (ls' := [(2, 12), (2, r1), (0, x2), (0, x3), (0, x4), (0, x5), (0, x6), (0, (-1)), (9, 0)]) dX4_readSum_96 rfl rfl ?_
        refine z_aloadn dX4_readSum_98 rfl (Or.inl rfl) ?_
        refine z_dup dX4_readSum_99 (show (2 : Nat) ≠ 1 by decide) ?_
        refine y_getf (x := (M 12 6)) dX4_readSum_100 fX4_122 sh12 (by decide) rfl rfl ?_
        refine z_iload dX4_readSum_103 rfl ?_
        refine z_ifle (tgt := 113) dX4_readSum_105 rfl (fun _ => ?_) (fun q => absurd q (by decide))
        refine z_bipush dX4_readSum_113 kb_32 ?_
        refine z_ior dX4_readSum_115 ?_
        refine y_putf (M' := zset M 12 6 (zor (M 12 6) 32)) hG dX4_readSum_116 fX4_122 sh12 (by decide) ⟨rfl, rfl⟩ p4_6 (fun q => absurd q (by decide)) (by decide) rfl ?_
        refine z_aloadn dX4_readSum_119 rfl (Or.inl rfl) ?_
        refine y_getr (v := 13) hG dX4_readSum_120 fX4_12 sh12 (by decide) rfl (by decide +kernel) (by decide) ?_
        refine y_cv (mt2 := mX8_advance) (en := [(2, 13)]) (st := []) (as := []) dX4_readSum_123 lX4_69 kX8_advance iX8_advance eX8_advance rfl sh13 (by decide +kernel) (Nat.le_of_ble_eq_true rfl) (Nat.le_of_ble_eq_true rfl) rfl ?_
        exact h
      · replace h := h.2 q
        refine z_iconst dX4_readSum_91 ki_1 ?_
        refine z_goto (tgt := 96) dX4_readSum_92 rfl ?_
        refine y_istore (ls' := [(2, 12), (2, r1), (0, x2), (0, x3), (0, x4), (0, x5), (0, x6), (0, 1), (9, 0)]) dX4_readSum_96 rfl rfl ?_
        refine z_aloadn dX4_readSum_98 rfl (Or.inl rfl) ?_
        refine z_dup dX4_readSum_99 (show (2 : Nat) ≠ 1 by decide) ?_
        refine y_getf (x := (M 12 6)) dX4_readSum_100 fX4_122 sh12 (by decide) rfl rfl ?_
        refine z_iload dX4_readSum_103 rfl ?_
        refine z_ifle (tgt := 113) dX4_readSum_105 rfl (fun q => absurd q (by decide)) (fun _ => ?_)
        refine z_bipush dX4_readSum_108 kb_16 ?_
        refine z_goto (tgt := 115) dX4_readSum_110 rfl ?_
        refine z_ior dX4_readSum_115 ?_
        refine y_putf (M' := zset M 12 6 (zor (M 12 6) 16)) hG dX4_readSum_116 fX4_122 sh12 (by decide) ⟨rfl, rfl⟩ p4_6 (fun q => absurd q (by decide)) (by decide) rfl ?_
        refine z_aloadn dX4_readSum_119 rfl (Or.inl rfl) ?_
        refine y_getr (v := 13) hG dX4_readSum_120 fX4_12 sh12 (by decide) rfl (by decide +kernel) (by decide) ?_
        refine y_cv (mt2 := mX8_advance) (en := [(2, 13)]) (st := []) (as := []) dX4_readSum_123 lX4_69 kX8_advance iX8_advance eX8_advance rfl sh13 (by decide +kernel) (Nat.le_of_ble_eq_true rfl) (Nat.le_of_ble_eq_true rfl) rfl ?_
        exact h
    · replace h := h.2 q
      refine z_aloadn dX4_readSum_67 rfl (Or.inl rfl) ?_
      refine y_getr (v := 13) hG dX4_readSum_68 fX4_12 sh12 (by decide) rfl (by decide +kernel) (by decide) ?_
      refine y_getf (x := (M 13 7)) dX4_readSum_71 fX4_37 sh13 (by decide) rfl rfl ?_
      refine z_bipush dX4_readSum_74 kb_8 ?_
      refine z_icmpne (tgt := 165) dX4_readSum_76 rfl (fun q => ?_) (fun q => ?_)
      · replace h := h.1 q
        refine z_aloadn dX4_readSum_165 rfl (Or.inl rfl) ?_
        refine z_iconst dX4_readSum_166 ki_2 ?_
        refine z_iloadn dX4_readSum_167 rfl ?_
        refine z_iload dX4_readSum_168 rfl ?_
        refine z_iload dX4_readSum_170 rfl ?_
        refine y_cv (mt2 := mX1_makeOf) (en := [(2, r1), (0, 2), (0, x3), (0, x4), (0, x5), (9, 0)]) (st := []) (as := [(0, 2), (0, x3), (0, x4), (0, x5)]) dX4_readSum_172 lX4_148 kX1_makeOf iX1_makeOf eX1_makeOf rfl (nd_0 hr1) (by decide +kernel) (Nat.le_of_ble_eq_true rfl) (Nat.le_of_ble_eq_true rfl) rfl ?_
        exact h
      · replace h := h.2 q
        refine z_aloadn dX4_readSum_79 rfl (Or.inl rfl) ?_
        refine y_getr (v := 13) hG dX4_readSum_80 fX4_12 sh12 (by decide) rfl (by decide +kernel) (by decide) ?_
        refine y_getf (x := (M 13 7)) dX4_readSum_83 fX4_37 sh13 (by decide) rfl rfl ?_
        refine z_bipush dX4_readSum_86 kb_7 ?_
        refine z_icmpne (tgt := 95) dX4_readSum_88 rfl (fun q => ?_) (fun q => ?_)
        · replace h := h.1 q
          refine z_iconst dX4_readSum_95 ki_m1 ?_
          refine y_istore (ls' := [(2, 12), (2, r1), (0, x2), (0, x3), (0, x4), (0, x5), (0, x6), (0, (-1)), (9, 0)]) dX4_readSum_96 rfl rfl ?_
          refine z_aloadn dX4_readSum_98 rfl (Or.inl rfl) ?_
          refine z_dup dX4_readSum_99 (show (2 : Nat) ≠ 1 by decide) ?_
          refine y_getf (x := (M 12 6)) dX4_readSum_100 fX4_122 sh12 (by decide) rfl rfl ?_
          refine z_iload dX4_readSum_103 rfl ?_
          refine z_ifle (tgt := 113) dX4_readSum_105 rfl (fun _ => ?_) (fun q => absurd q (by decide))
          refine z_bipush dX4_readSum_113 kb_32 ?_
          refine z_ior dX4_readSum_115 ?_
          refine y_putf (M' := zset M 12 6 (zor (M 12 6) 32)) hG dX4_readSum_116 fX4_122 sh12 (by decide) ⟨rfl, rfl⟩ p4_6 (fun q => absurd q (by decide)) (by decide) rfl ?_
          refine z_aloadn dX4_readSum_119 rfl (Or.inl rfl) ?_
          refine y_getr (v := 13) hG dX4_readSum_120 fX4_12 sh12 (by decide) rfl (by decide +kernel) (by decide) ?_
          refine y_cv (mt2 := mX8_advance) (en := [(2, 13)]) (st := []) (as := []) dX4_readSum_123 lX4_69 kX8_advance iX8_advance eX8_advance rfl sh13 (by decide +kernel) (Nat.le_of_ble_eq_true rfl) (Nat.le_of_ble_eq_true rfl) rfl ?_
          exact h
        · replace h := h.2 q
          refine z_iconst dX4_readSum_91 ki_1 ?_
          refine z_goto (tgt := 96) dX4_readSum_92 rfl ?_
          refine y_istore (ls' := [(2, 12), (2, r1), (0, x2), (0, x3), (0, x4), (0, x5), (0, x6), (0, 1), (9, 0)]) dX4_readSum_96 rfl rfl ?_
          refine z_aloadn dX4_readSum_98 rfl (Or.inl rfl) ?_
          refine z_dup dX4_readSum_99 (show (2 : Nat) ≠ 1 by decide) ?_
          refine y_getf (x := (M 12 6)) dX4_readSum_100 fX4_122 sh12 (by decide) rfl rfl ?_
          refine z_iload dX4_readSum_103 rfl ?_
          refine z_ifle (tgt := 113) dX4_readSum_105 rfl (fun q => absurd q (by decide)) (fun _ => ?_)
          refine z_bipush dX4_readSum_108 kb_16 ?_
          refine z_goto (tgt := 115) dX4_readSum_110 rfl ?_
          refine z_ior dX4_readSum_115 ?_
          refine y_putf (M' := zset M 12 6 (zor (M 12 6) 16)) hG dX4_readSum_116 fX4_122 sh12 (by decide) ⟨rfl, rfl⟩ p4_6 (fun q => absurd q (by decide)) (by decide) rfl ?_
          refine z_aloadn dX4_readSum_119 rfl (Or.inl rfl) ?_
          refine y_getr (v := 13) hG dX4_readSum_120 fX4_12 sh12 (by decide) rfl (by decide +kernel) (by decide) ?_
          refine y_cv (mt2 := mX8_advance) (en := [(2, 13)]) (st := []) (as := []) dX4_readSum_123 lX4_69 kX8_advance iX8_advance eX8_advance rfl sh13 (by decide +kernel) (Nat.le_of_ble_eq_true rfl) (Nat.le_of_ble_eq_true rfl) rfl ?_
          exact h
set_option maxRecDepth 20000 in
set_option maxHeartbeats 4000000 in
theorem bX4_readSum_6 {G : zG} {d : Nat} {M : zM} {Q : zV → zM → Prop} (hG : zP G) {r1 x2 x49 : Int} (hr1 : zND r1)
    (h : ((x49 = (-1) → Q (0, x49) M) ∧ (¬ x49 = (-1) → (((M 13 7) = 7 → Y G (d + 1) mX4_readSum 47 [(2, 12), (2, r1), (0, x2), (0, x49), (0, x49), (0, 1), (0, 0), (9, 0), (9, 0)] [] M Q) ∧ (¬ (M 13 7) = 7 → (((M 13 7) = 8 → Y G (d + 1) mX4_readSum 47 [(2, 12), (2, r1), (0, x2), (0, x49), (0, x49), (0, 1), (0, 0), (9, 0), (9, 0)] [] M Q) ∧ (¬ (M 13 7) = 8 → Q (0, x49) M))))))) :
    Y G (d + 1) mX4_readSum 6 [(2, 12), (2, r1), (0, x2), (9, 0), (9, 0), (9, 0), (9, 0), (9, 0), (9, 0)] [(0, x49)] M Q := by
  refine y_istoren (ls' := [(2, 12), (2, r1), (0, x2), (0, x49), (9, 0), (9, 0), (9, 0), (9, 0), (9, 0)]) dX4_readSum_6 rfl rfl ?_
  refine z_iloadn dX4_readSum_7 rfl ?_
  refine z_iconst dX4_readSum_8 ki_m1 ?_
  refine z_icmpeq (tgt := 36) dX4_readSum_9 rfl (fun q => ?_) (fun q => ?_)
  · replace h := h.1 q
    refine z_iloadn dX4_readSum_36 rfl ?_
    exact z_ireturn dX4_readSum_37 (Or.inl rfl) rfl h
  · replace h := h.2 q
    refine z_aloadn dX4_readSum_12 rfl (Or.inl rfl) ?_
    refine y_getr (v := 13) hG dX4_readSum_13 fX4_12 sh12 (by decide) rfl (by decide +kernel) (by decide) ?_
    refine y_getf (x := (M 13 7)) dX4_readSum_16 fX4_37 sh13 (by decide) rfl rfl ?_
    refine z_bipush dX4_readSum_19 kb_7 ?_
    refine z_icmpeq (tgt := 38) dX4_readSum_21 rfl (fun q => ?_) (fun q => ?_)
    · replace h := h.1 q
      refine z_iloadn dX4_readSum_38 rfl ?_
      refine y_istore (ls' := [(2, 12), (2, r1), (0, x2), (0, x49), (0, x49), (9, 0), (9, 0), (9, 0), (9, 0)]) dX4_readSum_39 rfl rfl ?_
      refine z_iconst dX4_readSum_41 ki_1 ?_
      refine y_istore (ls' := [(2, 12), (2, r1), (0, x2), (0, x49), (0, x49), (0, 1), (9, 0), (9, 0), (9, 0)]) dX4_readSum_42 rfl rfl ?_
      refine z_iconst dX4_readSum_44 ki_0 ?_
      refine y_istore (ls' := [(2, 12), (2, r1), (0, x2), (0, x49), (0, x49), (0, 1), (0, 0), (9, 0), (9, 0)]) dX4_readSum_45 rfl rfl ?_
      exact h
    · replace h := h.2 q
      refine z_aloadn dX4_readSum_24 rfl (Or.inl rfl) ?_
      refine y_getr (v := 13) hG dX4_readSum_25 fX4_12 sh12 (by decide) rfl (by decide +kernel) (by decide) ?_
      refine y_getf (x := (M 13 7)) dX4_readSum_28 fX4_37 sh13 (by decide) rfl rfl ?_
      refine z_bipush dX4_readSum_31 kb_8 ?_
      refine z_icmpeq (tgt := 38) dX4_readSum_33 rfl (fun q => ?_) (fun q => ?_)
      · replace h := h.1 q
        refine z_iloadn dX4_readSum_38 rfl ?_
        refine y_istore (ls' := [(2, 12), (2, r1), (0, x2), (0, x49), (0, x49), (9, 0), (9, 0), (9, 0), (9, 0)]) dX4_readSum_39 rfl rfl ?_
        refine z_iconst dX4_readSum_41 ki_1 ?_
        refine y_istore (ls' := [(2, 12), (2, r1), (0, x2), (0, x49), (0, x49), (0, 1), (9, 0), (9, 0), (9, 0)]) dX4_readSum_42 rfl rfl ?_
        refine z_iconst dX4_readSum_44 ki_0 ?_
        refine y_istore (ls' := [(2, 12), (2, r1), (0, x2), (0, x49), (0, x49), (0, 1), (0, 0), (9, 0), (9, 0)]) dX4_readSum_45 rfl rfl ?_
        exact h
      · replace h := h.2 q
        refine z_iloadn dX4_readSum_36 rfl ?_
        exact z_ireturn dX4_readSum_37 (Or.inl rfl) rfl h
set_option maxRecDepth 20000 in
set_option maxHeartbeats 4000000 in
theorem bX4_readSum_175 {G : zG} {d : Nat} {M : zM} {Q : zV → zM → Prop} (hG : zP G) {r1 x2 x3 x4 x5 x6 x49 : Int} (hr1 : zND r1)
    (h : Q (0, x49) M) :
    Y G (d + 1) mX4_readSum 175 [(2, 12), (2, r1), (0, x2), (0, x3), (0, x4), (0, x5), (0, x6), (9, 0), (9, 0)] [(0, x49)] M Q := by
  exact z_ireturn dX4_readSum_175 (Or.inl rfl) rfl h
set_option maxRecDepth 20000 in
set_option maxHeartbeats 4000000 in
theorem bX4_readSum_126 {G : zG} {d : Nat} {M : zM} {Q : zV → zM → Prop} (hG : zP G) {r1 x2 x3 x4 x5 x6 x7 : Int} (hr1 : zND r1)
    (h : Y G d mX4_readProduct 0 [(2, 12), (2, r1), (0, x2), (9, 0), (9, 0), (9, 0), (9, 0), (9, 0)] [] M (fun r M' => Y G (d + 1) mX4_readSum 132 [(2, 12), (2, r1), (0, x2), (0, x3), (0, x4), (0, x5), (0, x6), (0, x7), (9, 0)] (zpush r []) M' Q)) :
    Y G (d + 1) mX4_readSum 126 [(2, 12), (2, r1), (0, x2), (0, x3), (0, x4), (0, x5), (0, x6), (0, x7), (9, 0)] [] M Q := by
  refine z_aloadn dX4_readSum_126 rfl (Or.inl rfl) ?_
  refine z_aloadn dX4_readSum_127 rfl (Or.inl rfl) ?_
  refine z_iloadn dX4_readSum_128 rfl ?_
  refine y_cv (mt2 := mX4_readProduct) (en := [(2, 12), (2, r1), (0, x2), (9, 0), (9, 0), (9, 0), (9, 0), (9, 0)]) (st := []) (as := [(2, r1), (0, x2)]) dX4_readSum_129 lX4_141 kX4_readProduct iX4_readProduct eX4_readProduct rfl sh12 (by decide +kernel) (Nat.le_of_ble_eq_true rfl) (Nat.le_of_ble_eq_true rfl) rfl ?_
  exact h
set_option maxRecDepth 20000 in
set_option maxHeartbeats 4000000 in
theorem bX4_readSum_132 {G : zG} {d : Nat} {M : zM} {Q : zV → zM → Prop} (hG : zP G) {r1 x2 x3 x4 x5 x6 x7 x49 : Int} (hr1 : zND r1)
    (h : ((¬ x49 = (-1) → Y G d mX1_link 0 [(2, r1), (0, x4), (0, x49), (0, x7)] [] M (fun r M' => Y G (d + 1) mX4_readSum 152 [(2, 12), (2, r1), (0, x2), (0, x3), (0, x4), (0, x5), (0, x6), (0, x7), (0, x49)] (zpush r []) M' Q)) ∧ (x49 = (-1) → Q (0, (-1)) M))) :
    Y G (d + 1) mX4_readSum 132 [(2, 12), (2, r1), (0, x2), (0, x3), (0, x4), (0, x5), (0, x6), (0, x7), (9, 0)] [(0, x49)] M Q := by
  refine y_istore (ls' := [(2, 12), (2, r1), (0, x2), (0, x3), (0, x4), (0, x5), (0, x6), (0, x7), (0, x49)]) dX4_readSum_132 rfl rfl ?_
  refine z_iload dX4_readSum_134 rfl ?_
  refine z_iconst dX4_readSum_136 ki_m1 ?_
  refine z_icmpne (tgt := 142) dX4_readSum_137 rfl (fun q => ?_) (fun q => ?_)
  · replace h := h.1 q
    refine z_aloadn dX4_readSum_142 rfl (Or.inl rfl) ?_
    refine z_iload dX4_readSum_143 rfl ?_
    refine z_iload dX4_readSum_145 rfl ?_
    refine z_iload dX4_readSum_147 rfl ?_
    refine y_cv (mt2 := mX1_link) (en := [(2, r1), (0, x4), (0, x49), (0, x7)]) (st := []) (as := [(0, x4), (0, x49), (0, x7)]) dX4_readSum_149 lX4_144 kX1_link iX1_link eX1_link rfl (nd_0 hr1) (by decide +kernel) (Nat.le_of_ble_eq_true rfl) (Nat.le_of_ble_eq_true rfl) rfl ?_
    exact h
  · replace h := h.2 q
    refine z_iconst dX4_readSum_140 ki_m1 ?_
    exact z_ireturn dX4_readSum_141 (Or.inl rfl) rfl h
set_option maxRecDepth 20000 in
set_option maxHeartbeats 4000000 in
theorem bX4_readSum_152 {G : zG} {d : Nat} {M : zM} {Q : zV → zM → Prop} (hG : zP G) {r1 x2 x3 x4 x5 x6 x7 x8 : Int} (hr1 : zND r1)
    (h : (-2147483648 ≤ x5 + 1 ∧ x5 + 1 ≤ 2147483647) ∧ (-2147483648 ≤ x6 + 1 ∧ x6 + 1 ≤ 2147483647) ∧ Y G (d + 1) mX4_readSum 47 [(2, 12), (2, r1), (0, x2), (0, x3), (0, x8), (0, (x5 + 1)), (0, (x6 + 1)), (9, 0), (9, 0)] [] M Q) :
    Y G (d + 1) mX4_readSum 152 [(2, 12), (2, r1), (0, x2), (0, x3), (0, x4), (0, x5), (0, x6), (0, x7), (0, x8)] [] M Q := by
  refine z_iload dX4_readSum_152 rfl ?_
  refine y_istore (ls' := [(2, 12), (2, r1), (0, x2), (0, x3), (0, x8), (0, x5), (0, x6), (0, x7), (0, x8)]) dX4_readSum_154 rfl rfl ?_
  obtain ⟨q1, h⟩ := h
  refine y_iinc (ls' := [(2, 12), (2, r1), (0, x2), (0, x3), (0, x8), (0, (x5 + 1)), (0, x6), (0, x7), (0, x8)]) dX4_readSum_156 rfl rfl q1 rfl ?_
  obtain ⟨q2, h⟩ := h
  refine y_iinc (ls' := [(2, 12), (2, r1), (0, x2), (0, x3), (0, x8), (0, (x5 + 1)), (0, (x6 + 1)), (0, x7), (0, x8)]) dX4_readSum_159 rfl rfl q2 rfl ?_
  refine z_goto (tgt := 47) dX4_readSum_162 rfl ?_
  refine z_sub (ls' := [(2, 12), (2, r1), (0, x2), (0, x3), (0, x8), (0, (x5 + 1)), (0, (x6 + 1)), (9, 0), (9, 0)]) ⟨Or.inl rfl, Or.inl rfl, Or.inl rfl, Or.inl rfl, Or.inl rfl, Or.inl rfl, Or.inl rfl, Or.inr rfl, Or.inr rfl, trivial⟩ ?_
  exact h
set_option maxRecDepth 20000 in
set_option maxHeartbeats 4000000 in
theorem bX4_readProduct_0 {G : zG} {d : Nat} {M : zM} {Q : zV → zM → Prop} (hG : zP G) {r1 x2 : Int} (hr1 : zND r1)
    (h : Y G d mX4_readOne 0 [(2, 12), (2, r1), (0, x2), (9, 0)] [] M (fun r M' => Y G (d + 1) mX4_readProduct 6 [(2, 12), (2, r1), (0, x2), (9, 0), (9, 0), (9, 0), (9, 0), (9, 0)] (zpush r []) M' Q)) :
    Y G (d + 1) mX4_readProduct 0 [(2, 12), (2, r1), (0, x2), (9, 0), (9, 0), (9, 0), (9, 0), (9, 0)] [] M Q := by
  refine z_aloadn dX4_readProduct_0 rfl (Or.inl rfl) ?_
  refine z_aloadn dX4_readProduct_1 rfl (Or.inl rfl) ?_
  refine z_iloadn dX4_readProduct_2 rfl ?_
  refine y_cv (mt2 := mX4_readOne) (en := [(2, 12), (2, r1), (0, x2), (9, 0)]) (st := []) (as := [(2, r1), (0, x2)]) dX4_readProduct_3 lX4_152 kX4_readOne iX4_readOne eX4_readOne rfl sh12 (by decide +kernel) (Nat.le_of_ble_eq_true rfl) (Nat.le_of_ble_eq_true rfl) rfl ?_
  exact h
set_option maxRecDepth 20000 in
set_option maxHeartbeats 4000000 in
theorem bX4_readProduct_46 {G : zG} {d : Nat} {M : zM} {Q : zV → zM → Prop} (hG : zP G) {r1 x2 x3 x4 x5 x6 : Int} (hr1 : zND r1)
    (h : ((300 ≤ x6 → Y G d mX1_makeOf 0 [(2, r1), (0, 3), (0, x3), (0, x4), (0, x5), (9, 0)] [] M (fun r M' => Y G (d + 1) mX4_readProduct 121 [(2, 12), (2, r1), (0, x2), (0, x3), (0, x4), (0, x5), (0, x6), (9, 0)] (zpush r []) M' Q)) ∧ (x6 < 300 → ((¬ (M 13 7) = 9 → Y G d mX1_makeOf 0 [(2, r1), (0, 3), (0, x3), (0, x4), (0, x5), (9, 0)] [] M (fun r M' => Y G (d + 1) mX4_readProduct 121 [(2, 12), (2, r1), (0, x2), (0, x3), (0, x4), (0, x5), (0, x6), (9, 0)] (zpush r []) M' Q)) ∧ ((M 13 7) = 9 → Y G d mX8_advance 0 [(2, 13)] [] M (fun r M' => Y G (d + 1) mX4_readProduct 73 [(2, 12), (2, r1), (0, x2), (0, x3), (0, x4), (0, x5), (0, x6), (9, 0)] (zpush r []) M' Q)))))) :
    Y G (d + 1) mX4_readProduct 46 [(2, 12), (2, r1), (0, x2), (0, x3), (0, x4), (0, x5), (0, x6), (9, 0)] [] M Q := by
  refine z_iload dX4_readProduct_46 rfl ?_
  refine z_sipush dX4_readProduct_48 ks_300 ?_
  refine z_icmpge (tgt := 111) dX4_readProduct_51 rfl (fun q => ?_) (fun q => ?_)
  · replace h := h.1 q
    refine z_aloadn dX4_readProduct_111 rfl (Or.inl rfl) ?_
    refine z_iconst dX4_readProduct_112 ki_3 ?_
    refine z_iloadn dX4_readProduct_113 rfl ?_
    refine z_iload dX4_readProduct_114 rfl ?_
    refine z_iload dX4_readProduct_116 rfl ?_
    refine y_cv (mt2 := mX1_makeOf) (en := [(2, r1), (0, 3), (0, x3), (0, x4), (0, x5), (9, 0)]) (st := []) (as := [(0, 3), (0, x3), (0, x4), (0, x5)]) dX4_readProduct_118 lX4_148 kX1_makeOf iX1_makeOf eX1_makeOf rfl (nd_0 hr1) (by decide +kernel) (Nat.le_of_ble_eq_true rfl) (Nat.le_of_ble_eq_true rfl) rfl ?_
    exact h
  · replace h := h.2 q
    refine z_aloadn dX4_readProduct_54 rfl (Or.inl rfl) ?_
    refine y_getr (v := 13) hG dX4_readProduct_55 fX4_12 sh12 (by decide) rfl (by decide +kernel) (by decide) ?_
    refine y_getf (x := (M 13 7)) dX4_readProduct_58 fX4_37 sh13 (by decide) rfl rfl ?_
    refine z_bipush dX4_readProduct_61 kb_9 ?_
    refine z_icmpne (tgt := 111) dX4_readProduct_63 rfl (fun q => ?_) (fun q => ?_)
    · replace h := h.1 q
      refine z_aloadn dX4_readProduct_111 rfl (Or.inl rfl) ?_
      refine z_iconst dX4_readProduct_112 ki_3 ?_
      refine z_iloadn dX4_readProduct_113 rfl ?_
      refine z_iload dX4_readProduct_114 rfl ?_
      refine z_iload dX4_readProduct_116 rfl ?_
      refine y_cv (mt2 := mX1_makeOf) (en := [(2, r1), (0, 3), (0, x3), (0, x4), (0, x5), (9, 0)]) (st := []) (as := [(0, 3), (0, x3), (0, x4), (0, x5)]) dX4_readProduct_118 lX4_148 kX1_makeOf iX1_makeOf eX1_makeOf rfl (nd_0 hr1) (by decide +kernel) (Nat.le_of_ble_eq_true rfl) (Nat.le_of_ble_eq_true rfl) rfl ?_
      exact h
    · replace h := h.2 q
      refine z_aloadn dX4_readProduct_66 rfl (Or.inl rfl) ?_
      refine y_getr (v := 13) hG dX4_readProduct_67 fX4_12 sh12 (by decide) rfl (by decide +kernel) (by decide) ?_
      refine y_cv (mt2 := mX8_advance) (en := [(2, 13)]) (st := []) (as := []) dX4_readProduct_70 lX4_69 kX8_advance iX8_advance eX8_advance rfl sh13 (by decide +kernel) (Nat.le_of_ble_eq_true rfl) (Nat.le_of_ble_eq_true rfl) rfl ?_
      exact h
set_option maxRecDepth 20000 in
set_option maxHeartbeats 4000000 in
theorem bX4_readProduct_6 {G : zG} {d : Nat} {M : zM} {Q : zV → zM → Prop} (hG : zP G) {r1 x2 x49 : Int} (hr1 : zND r1)
    (h : ((x49 = (-1) → Q (0, x49) M) ∧ (¬ x49 = (-1) → (((M 13 7) = 9 → Y G (d + 1) mX4_readProduct 46 [(2, 12), (2, r1), (0, x2), (0, x49), (0, x49), (0, 1), (0, 0), (9, 0)] [] (zset M 12 6 (zor (M 12 6) 64)) Q) ∧ (¬ (M 13 7) = 9 → Q (0, x49) M))))) :
    Y G (d + 1) mX4_readProduct 6 [(2, 12), (2, r1), (0, x2), (9, 0), (9, 0), (9, 0), (9, 0), (9, 0)] [(0, x49)] M Q := by
  refine y_istoren (ls' := [(2, 12), (2, r1), (0, x2), (0, x49), (9, 0), (9, 0), (9, 0), (9, 0)]) dX4_readProduct_6 rfl rfl ?_
  refine z_iloadn dX4_readProduct_7 rfl ?_
  refine z_iconst dX4_readProduct_8 ki_m1 ?_
  refine z_icmpeq (tgt := 24) dX4_readProduct_9 rfl (fun q => ?_) (fun q => ?_)
  · replace h := h.1 q
    refine z_iloadn dX4_readProduct_24 rfl ?_
    exact z_ireturn dX4_readProduct_25 (Or.inl rfl) rfl h
  · replace h := h.2 q
    refine z_aloadn dX4_readProduct_12 rfl (Or.inl rfl) ?_
    refine y_getr (v := 13) hG dX4_readProduct_13 fX4_12 sh12 (by decide) rfl (by decide +kernel) (by decide) ?_
    refine y_getf (x := (M 13 7)) dX4_readProduct_16 fX4_37 sh13 (by decide) rfl rfl ?_
    refine z_bipush dX4_readProduct_19 kb_9 ?_
    refine z_icmpeq (tgt := 26) dX4_readProduct_21 rfl (fun q => ?_) (fun q => ?_)
    · replace h := h.1 q
      refine z_iloadn dX4_readProduct_26 rfl ?_
      refine y_istore (ls' := [(2, 12), (2, r1), (0, x2), (0, x49), (0, x49), (9, 0), (9, 0), (9, 0)]) dX4_readProduct_27 rfl rfl ?_
      refine z_iconst dX4_readProduct_29 ki_1 ?_
      refine y_istore (ls' := [(2, 12), (2, r1), (0, x2), (0, x49), (0, x49), (0, 1), (9, 0), (9, 0)]) dX4_readProduct_30 rfl rfl ?_
      refine z_aloadn dX4_readProduct_32 rfl (Or.inl rfl) ?_
      refine z_dup dX4_readProduct_33 (show (2 : Nat) ≠ 1 by decide) ?_
      refine y_getf (x := (M 12 6)) dX4_readProduct_34 fX4_122 sh12 (by decide) rfl rfl ?_
      refine z_bipush dX4_readProduct_37 kb_64 ?_
      refine z_ior dX4_readProduct_39 ?_
      refine y_putf (M' := zset M 12 6 (zor (M 12 6) 64)) hG dX4_readProduct_40 fX4_122 sh12 (by decide) ⟨rfl, rfl⟩ p4_6 (fun q => absurd q (by decide)) (by decide) rfl ?_
      refine z_iconst dX4_readProduct_43 ki_0 ?_
      refine y_istore (ls' := [(2, 12), (2, r1), (0, x2), (0, x49), (0, x49), (0, 1), (0, 0), (9, 0)]) dX4_readProduct_44 rfl rfl ?_
      exact h
    · replace h := h.2 q
      refine z_iloadn dX4_readProduct_24 rfl ?_
      exact z_ireturn dX4_readProduct_25 (Or.inl rfl) rfl h
set_option maxRecDepth 20000 in
set_option maxHeartbeats 4000000 in
theorem bX4_readProduct_121 {G : zG} {d : Nat} {M : zM} {Q : zV → zM → Prop} (hG : zP G) {r1 x2 x3 x4 x5 x6 x49 : Int} (hr1 : zND r1)
    (h : Q (0, x49) M) :
    Y G (d + 1) mX4_readProduct 121 [(2, 12), (2, r1), (0, x2), (0, x3), (0, x4), (0, x5), (0, x6), (9, 0)] [(0, x49)] M Q := by
  exact z_ireturn dX4_readProduct_121 (Or.inl rfl) rfl h
set_option maxRecDepth 20000 in
set_option maxHeartbeats 4000000 in
theorem bX4_readProduct_73 {G : zG} {d : Nat} {M : zM} {Q : zV → zM → Prop} (hG : zP G) {r1 x2 x3 x4 x5 x6 : Int} (hr1 : zND r1)
    (h : Y G d mX4_readOne 0 [(2, 12), (2, r1), (0, x2), (9, 0)] [] M (fun r M' => Y G (d + 1) mX4_readProduct 79 [(2, 12), (2, r1), (0, x2), (0, x3), (0, x4), (0, x5), (0, x6), (9, 0)] (zpush r []) M' Q)) :
    Y G (d + 1) mX4_readProduct 73 [(2, 12), (2, r1), (0, x2), (0, x3), (0, x4), (0, x5), (0, x6), (9, 0)] [] M Q := by
  refine z_aloadn dX4_readProduct_73 rfl (Or.inl rfl) ?_
  refine z_aloadn dX4_readProduct_74 rfl (Or.inl rfl) ?_
  refine z_iloadn dX4_readProduct_75 rfl ?_
  refine y_cv (mt2 := mX4_readOne) (en := [(2, 12), (2, r1), (0, x2), (9, 0)]) (st := []) (as := [(2, r1), (0, x2)]) dX4_readProduct_76 lX4_152 kX4_readOne iX4_readOne eX4_readOne rfl sh12 (by decide +kernel) (Nat.le_of_ble_eq_true rfl) (Nat.le_of_ble_eq_true rfl) rfl ?_
  exact h
set_option maxRecDepth 20000 in
set_option maxHeartbeats 4000000 in
theorem bX4_readProduct_79 {G : zG} {d : Nat} {M : zM} {Q : zV → zM → Prop} (hG : zP G) {r1 x2 x3 x4 x5 x6 x49 : Int} (hr1 : zND r1)
    (h : ((¬ x49 = (-1) → Y G d mX1_link 0 [(2, r1), (0, x4), (0, x49), (0, 1)] [] M (fun r M' => Y G (d + 1) mX4_readProduct 98 [(2, 12), (2, r1), (0, x2), (0, x3), (0, x4), (0, x5), (0, x6), (0, x49)] (zpush r []) M' Q)) ∧ (x49 = (-1) → Q (0, (-1)) M))) :
    Y G (d + 1) mX4_readProduct 79 [(2, 12), (2, r1), (0, x2), (0, x3), (0, x4), (0, x5), (0, x6), (9, 0)] [(0, x49)] M Q := by
  refine y_istore (ls' := [(2, 12), (2, r1), (0, x2), (0, x3), (0, x4), (0, x5), (0, x6), (0, x49)]) dX4_readProduct_79 rfl rfl ?_
  refine z_iload dX4_readProduct_81 rfl ?_
  refine z_iconst dX4_readProduct_83 ki_m1 ?_
  refine z_icmpne (tgt := 89) dX4_readProduct_84 rfl (fun q => ?_) (fun q => ?_)
  · replace h := h.1 q
    refine z_aloadn dX4_readProduct_89 rfl (Or.inl rfl) ?_
    refine z_iload dX4_readProduct_90 rfl ?_
    refine z_iload dX4_readProduct_92 rfl ?_
    refine z_iconst dX4_readProduct_94 ki_1 ?_
    refine y_cv (mt2 := mX1_link) (en := [(2, r1), (0, x4), (0, x49), (0, 1)]) (st := []) (as := [(0, x4), (0, x49), (0, 1)]) dX4_readProduct_95 lX4_144 kX1_link iX1_link eX1_link rfl (nd_0 hr1) (by decide +kernel) (Nat.le_of_ble_eq_true rfl) (Nat.le_of_ble_eq_true rfl) rfl ?_
    exact h
  · replace h := h.2 q
    refine z_iconst dX4_readProduct_87 ki_m1 ?_
    exact z_ireturn dX4_readProduct_88 (Or.inl rfl) rfl h
set_option maxRecDepth 20000 in
set_option maxHeartbeats 4000000 in
theorem bX4_readProduct_98 {G : zG} {d : Nat} {M : zM} {Q : zV → zM → Prop} (hG : zP G) {r1 x2 x3 x4 x5 x6 x7 : Int} (hr1 : zND r1)
    (h : (-2147483648 ≤ x5 + 1 ∧ x5 + 1 ≤ 2147483647) ∧ (-2147483648 ≤ x6 + 1 ∧ x6 + 1 ≤ 2147483647) ∧ Y G (d + 1) mX4_readProduct 46 [(2, 12), (2, r1), (0, x2), (0, x3), (0, x7), (0, (x5 + 1)), (0, (x6 + 1)), (9, 0)] [] M Q) :
    Y G (d + 1) mX4_readProduct 98 [(2, 12), (2, r1), (0, x2), (0, x3), (0, x4), (0, x5), (0, x6), (0, x7)] [] M Q := by
  refine z_iload dX4_readProduct_98 rfl ?_
  refine y_istore (ls' := [(2, 12), (2, r1), (0, x2), (0, x3), (0, x7), (0, x5), (0, x6), (0, x7)]) dX4_readProduct_100 rfl rfl ?_
  obtain ⟨q1, h⟩ := h
  refine y_iinc (ls' := [(2, 12), (2, r1), (0, x2), (0, x3), (0, x7), (0, (x5 + 1)), (0, x6), (0, x7)]) dX4_readProduct_102 rfl rfl q1 rfl ?_
  obtain ⟨q2, h⟩ := h
  refine y_iinc (ls' := [(2, 12), (2, r1), (0, x2), (0, x3), (0, x7), (0, (x5 + 1)), (0, (x6 + 1)), (0, x7)]) dX4_readProduct_105 rfl rfl q2 rfl ?_
  refine z_goto (tgt := 46) dX4_readProduct_108 rfl ?_
  refine z_sub (ls' := [(2, 12), (2, r1), (0, x2), (0, x3), (0, x7), (0, (x5 + 1)), (0, (x6 + 1)), (9, 0)]) ⟨Or.inl rfl, Or.inl rfl, Or.inl rfl, Or.inl rfl, Or.inl rfl, Or.inl rfl, Or.inl rfl, Or.inr rfl, trivial⟩ ?_
  exact h
set_option maxRecDepth 20000 in
set_option maxHeartbeats 4000000 in
theorem bX4_readOne_0 {G : zG} {d : Nat} {M : zM} {Q : zV → zM → Prop} (hG : zP G) {r1 x2 : Int} (hr1 : zND r1)
    (h : (((M 13 7) = 2 → Y G d mX4_readLeaf 0 [(2, 12), (2, r1), (9, 0), (9, 0)] [] M (fun r M' => Y G (d + 1) mX4_readOne 29 [(2, 12), (2, r1), (0, x2), (0, (M 13 7))] (zpush r []) M' Q)) ∧ (¬ (M 13 7) = 2 → ((44 ≤ (M 13 7) ∧ (M 13 7) ≤ 47 → Y G d mX4_readLeaf 0 [(2, 12), (2, r1), (9, 0), (9, 0)] [] M (fun r M' => Y G (d + 1) mX4_readOne 29 [(2, 12), (2, r1), (0, x2), (0, (M 13 7))] (zpush r []) M' Q)) ∧ (¬ (44 ≤ (M 13 7) ∧ (M 13 7) ≤ 47) → ((¬ (M 13 7) = 10 → ((36 ≤ (M 13 7) ∧ (M 13 7) ≤ 41 → Y G d mX4_readWordOf 0 [(2, 12), (2, r1), (0, x2), (9, 0), (9, 0), (9, 0), (9, 0), (9, 0)] [] M (fun r M' => Y G (d + 1) mX4_readOne 60 [(2, 12), (2, r1), (0, x2), (0, (M 13 7))] (zpush r []) M' Q)) ∧ (¬ (36 ≤ (M 13 7) ∧ (M 13 7) ≤ 41) → ((¬ (M 13 7) = 42 → Y G d mX4_fail 0 [(2, 12), (0, 1)] [] M (fun r M' => Y G (d + 1) mX4_readOne 81 [(2, 12), (2, r1), (0, x2), (0, (M 13 7))] (zpush r []) M' Q)) ∧ ((M 13 7) = 42 → Y G d mX4_readIf 0 [(2, 12), (2, r1), (0, x2), (9, 0), (9, 0), (9, 0), (9, 0), (9, 0), (9, 0)] [] M (fun r M' => Y G (d + 1) mX4_readOne 73 [(2, 12), (2, r1), (0, x2), (0, (M 13 7))] (zpush r []) M' Q)))))) ∧ ((M 13 7) = 10 → Y G d mX4_readBracket 0 [(2, 12), (2, r1), (0, x2), (9, 0)] [] M (fun r M' => Y G (d + 1) mX4_readOne 42 [(2, 12), (2, r1), (0, x2), (0, (M 13 7))] (zpush r []) M' Q)))))))) :
    Y G (d + 1) mX4_readOne 0 [(2, 12), (2, r1), (0, x2), (9, 0)] [] M Q := by
  refine z_aloadn dX4_readOne_0 rfl (Or.inl rfl) ?_
  refine y_getr (v := 13) hG dX4_readOne_1 fX4_12 sh12 (by decide) rfl (by decide +kernel) (by decide) ?_
  refine y_getf (x := (M 13 7)) dX4_readOne_4 fX4_37 sh13 (by decide) rfl rfl ?_
  refine y_istoren (ls' := [(2, 12), (2, r1), (0, x2), (0, (M 13 7))]) dX4_readOne_7 rfl rfl ?_
  refine z_iloadn dX4_readOne_8 rfl ?_
  refine z_iconst dX4_readOne_9 ki_2 ?_
  refine z_icmpeq (tgt := 24) dX4_readOne_10 rfl (fun q => ?_) (fun q => ?_)
  · replace h := h.1 q
    refine z_aloadn dX4_readOne_24 rfl (Or.inl rfl) ?_
    refine z_aloadn dX4_readOne_25 rfl (Or.inl rfl) ?_
    refine y_cv (mt2 := mX4_readLeaf) (en := [(2, 12), (2, r1), (9, 0), (9, 0)]) (st := []) (as := [(2, r1)]) dX4_readOne_26 lX4_155 kX4_readLeaf iX4_readLeaf eX4_readLeaf rfl sh12 (by decide +kernel) (Nat.le_of_ble_eq_true rfl) (Nat.le_of_ble_eq_true rfl) rfl ?_
    exact h
  · replace h := h.2 q
    refine z_iloadn dX4_readOne_13 rfl ?_
    refine z_bipush dX4_readOne_14 kb_44 ?_
    refine z_bipush dX4_readOne_16 kb_47 ?_
    refine y_cs (mt2 := mX11_within) (en := [(0, (M 13 7)), (0, 44), (0, 47)]) (st := []) (as := [(0, (M 13 7)), (0, 44), (0, 47)]) dX4_readOne_18 lX4_58 kX11_within tX11_within rfl (Nat.le_of_ble_eq_true rfl) (Nat.le_of_ble_eq_true rfl) rfl (s_within hG (fun q => ?_) (fun q => ?_))
    · replace h := h.1 q
      show Y G (d + 1) mX4_readOne 21 [(2, 12), (2, r1), (0, x2), (0, (M 13 7))] [(0, 1)] M Q
      refine z_ifeq (tgt := 30) dX4_readOne_21 rfl (fun q => absurd q (by decide)) (fun _ => ?_)
      refine z_aloadn dX4_readOne_24 rfl (Or.inl rfl) ?_
      refine z_aloadn dX4_readOne_25 rfl (Or.inl rfl) ?_
      refine y_cv (mt2 := mX4_readLeaf) (en := [(2, 12), (2, r1), (9, 0), (9, 0)]) (st := []) (as := [(2, r1)]) dX4_readOne_26 lX4_155 kX4_readLeaf iX4_readLeaf eX4_readLeaf rfl sh12 (by decide +kernel) (Nat.le_of_ble_eq_true rfl) (Nat.le_of_ble_eq_true rfl) rfl ?_
      exact h
    · replace h := h.2 q
      show Y G (d + 1) mX4_readOne 21 [(2, 12), (2, r1), (0, x2), (0, (M 13 7))] [(0, 0)] M Q
      refine z_ifeq (tgt := 30) dX4_readOne_21 rfl (fun _ => ?_) (fun q => absurd q (by decide))
      refine z_iloadn dX4_readOne_30 rfl ?_
      refine z_bipush dX4_readOne_31 kb_10 ?_
      refine z_icmpne (tgt := 43) dX4_readOne_33 rfl (fun q => ?_) (fun q => ?_)
      · replace h := h.1 q
        refine z_iloadn dX4_readOne_43 rfl ?_
        refine z_bipush dX4_readOne_44 kb_36 ?_
        refine z_bipush dX4_readOne_46 kb_41 ?_
        refine y_cs (mt2 := mX11_within) (en := [(0, (M 13 7)), (0, 36), (0, 41)]) (st := []) (as := [(0, (M 13 7)), (0, 36), (0, 41)]) dX4_readOne_48 lX4_58 kX11_within tX11_within rfl (Nat.le_of_ble_eq_true rfl) (Nat.le_of_ble_eq_true rfl) rfl (s_within hG (fun q => ?_) (fun q => ?_))
        · replace h := h.1 q
          show Y G (d + 1) mX4_readOne 51 [(2, 12), (2, r1), (0, x2), (0, (M 13 7))] [(0, 1)] M Q
          refine z_ifeq (tgt := 61) dX4_readOne_51 rfl (fun q => absurd q (by decide)) (fun _ => ?_)
          refine z_aloadn dX4_readOne_54 rfl (Or.inl rfl) ?_
          refine z_aloadn dX4_readOne_55 rfl (Or.inl rfl) ?_
          refine z_iloadn dX4_readOne_56 rfl ?_
          refine y_cv (mt2 := mX4_readWordOf) (en := [(2, 12), (2, r1), (0, x2), (9, 0), (9, 0), (9, 0), (9, 0), (9, 0)]) (st := []) (as := [(2, r1), (0, x2)]) dX4_readOne_57 lX4_162 kX4_readWordOf iX4_readWordOf eX4_readWordOf rfl sh12 (by decide +kernel) (Nat.le_of_ble_eq_true rfl) (Nat.le_of_ble_eq_true rfl) rfl ?_
          exact h
        · replace h := h.2 q
          show Y G (d + 1) mX4_readOne 51 [(2, 12), (2, r1), (0, x2), (0, (M 13 7))] [(0, 0)] M Q
          refine z_ifeq (tgt := 61) dX4_readOne_51 rfl (fun _ => ?_) (fun q => absurd q (by decide))
          refine z_iloadn dX4_readOne_61 rfl ?_
          refine z_bipush dX4_readOne_62 kb_42 ?_
          refine z_icmpne (tgt := 76) dX4_readOne_64 rfl (fun q => ?_) (fun q => ?_)
          · replace h := h.1 q
            refine z_aloadn dX4_readOne_76 rfl (Or.inl rfl) ?_
            refine z_iconst dX4_readOne_77 ki_1 ?_
            refine y_cv (mt2 := mX4_fail) (en := [(2, 12), (0, 1)]) (st := []) (as := [(0, 1)]) dX4_readOne_78 lX4_62 kX4_fail iX4_fail eX4_fail rfl sh12 (by decide +kernel) (Nat.le_of_ble_eq_true rfl) (Nat.le_of_ble_eq_true rfl) rfl ?_
            exact h
          · replace h := h.2 q
            refine z_aloadn dX4_readOne_67 rfl (Or.inl rfl) ?_
            refine z_aloadn dX4_readOne_68 rfl (Or.inl rfl) ?_
            refine z_iloadn dX4_readOne_69 rfl ?_
            refine y_cv (mt2 := mX4_readIf) (en := [(2, 12), (2, r1), (0, x2), (9, 0), (9, 0), (9, 0), (9, 0), (9, 0), (9, 0)]) (st := []) (as := [(2, r1), (0, x2)]) dX4_readOne_70 lX4_165 kX4_readIf iX4_readIf eX4_readIf rfl sh12 (by decide +kernel) (Nat.le_of_ble_eq_true rfl) (Nat.le_of_ble_eq_true rfl) rfl ?_
            exact h
      · replace h := h.2 q
        refine z_aloadn dX4_readOne_36 rfl (Or.inl rfl) ?_
        refine z_aloadn dX4_readOne_37 rfl (Or.inl rfl) ?_
        refine z_iloadn dX4_readOne_38 rfl ?_
        refine y_cv (mt2 := mX4_readBracket) (en := [(2, 12), (2, r1), (0, x2), (9, 0)]) (st := []) (as := [(2, r1), (0, x2)]) dX4_readOne_39 lX4_159 kX4_readBracket iX4_readBracket eX4_readBracket rfl sh12 (by decide +kernel) (Nat.le_of_ble_eq_true rfl) (Nat.le_of_ble_eq_true rfl) rfl ?_
        exact h
set_option maxRecDepth 20000 in
set_option maxHeartbeats 4000000 in
theorem bX4_readOne_29 {G : zG} {d : Nat} {M : zM} {Q : zV → zM → Prop} (hG : zP G) {r1 x2 x3 x49 : Int} (hr1 : zND r1)
    (h : Q (0, x49) M) :
    Y G (d + 1) mX4_readOne 29 [(2, 12), (2, r1), (0, x2), (0, x3)] [(0, x49)] M Q := by
  exact z_ireturn dX4_readOne_29 (Or.inl rfl) rfl h
set_option maxRecDepth 20000 in
set_option maxHeartbeats 4000000 in
theorem bX4_readOne_60 {G : zG} {d : Nat} {M : zM} {Q : zV → zM → Prop} (hG : zP G) {r1 x2 x3 x49 : Int} (hr1 : zND r1)
    (h : Q (0, x49) M) :
    Y G (d + 1) mX4_readOne 60 [(2, 12), (2, r1), (0, x2), (0, x3)] [(0, x49)] M Q := by
  exact z_ireturn dX4_readOne_60 (Or.inl rfl) rfl h
set_option maxRecDepth 20000 in
set_option maxHeartbeats 4000000 in
theorem bX4_readOne_81 {G : zG} {d : Nat} {M : zM} {Q : zV → zM → Prop} (hG : zP G) {r1 x2 x3 x49 : Int} (hr1 : zND r1)
    (h : Q (0, x49) M) :
    Y G (d + 1) mX4_readOne 81 [(2, 12), (2, r1), (0, x2), (0, x3)] [(0, x49)] M Q := by
  exact z_ireturn dX4_readOne_81 (Or.inl rfl) rfl h
set_option maxRecDepth 20000 in
set_option maxHeartbeats 4000000 in
theorem bX4_readOne_73 {G : zG} {d : Nat} {M : zM} {Q : zV → zM → Prop} (hG : zP G) {r1 x2 x3 x49 : Int} (hr1 : zND r1)
    (h : Q (0, x49) M) :
    Y G (d + 1) mX4_readOne 73 [(2, 12), (2, r1), (0, x2), (0, x3)] [(0, x49)] M Q := by
  refine z_goto (tgt := 81) dX4_readOne_73 rfl ?_
  exact z_ireturn dX4_readOne_81 (Or.inl rfl) rfl h
set_option maxRecDepth 20000 in
set_option maxHeartbeats 4000000 in
theorem bX4_readOne_42 {G : zG} {d : Nat} {M : zM} {Q : zV → zM → Prop} (hG : zP G) {r1 x2 x3 x49 : Int} (hr1 : zND r1)
    (h : Q (0, x49) M) :
    Y G (d + 1) mX4_readOne 42 [(2, 12), (2, r1), (0, x2), (0, x3)] [(0, x49)] M Q := by
  exact z_ireturn dX4_readOne_42 (Or.inl rfl) rfl h
set_option maxRecDepth 20000 in
set_option maxHeartbeats 4000000 in
theorem bX4_readLeaf_0 {G : zG} {d : Nat} {M : zM} {Q : zV → zM → Prop} (hG : zP G) {r1 : Int} (hr1 : zND r1)
    (h : ((¬ (M 13 7) = 2 → Y G (d + 1) mX4_readLeaf 39 [(2, 12), (2, r1), (0, 0), (9, 0)] [] M Q) ∧ ((M 13 7) = 2 → (((M 13 9) ≤ 99 → Y G (d + 1) mX4_readLeaf 39 [(2, 12), (2, r1), (0, 1), (9, 0)] [] M Q) ∧ (99 < (M 13 9) → Y G d mX4_fail 0 [(2, 12), (0, 2)] [] M (fun r M' => Y G (d + 1) mX4_readLeaf 38 [(2, 12), (2, r1), (0, 1), (9, 0)] (zpush r []) M' Q)))))) :
    Y G (d + 1) mX4_readLeaf 0 [(2, 12), (2, r1), (9, 0), (9, 0)] [] M Q := by
  refine z_aloadn dX4_readLeaf_0 rfl (Or.inl rfl) ?_
  refine y_getr (v := 13) hG dX4_readLeaf_1 fX4_12 sh12 (by decide) rfl (by decide +kernel) (by decide) ?_
  refine y_getf (x := (M 13 7)) dX4_readLeaf_4 fX4_37 sh13 (by decide) rfl rfl ?_
  refine z_iconst dX4_readLeaf_7 ki_2 ?_
  refine z_icmpne (tgt := 15) dX4_readLeaf_8 rfl (fun q => ?_) (fun q => ?_)
  · replace h := h.1 q
    refine z_iconst dX4_readLeaf_15 ki_0 ?_
    refine y_istoren (ls' := [(2, 12), (2, r1), (0, 0), (9, 0)]) dX4_readLeaf_16 rfl rfl ?_
    refine z_iloadn dX4_readLeaf_17 rfl ?_
    refine z_ifeq (tgt := 39) dX4_readLeaf_18 rfl (fun _ => ?_) (fun q => absurd q (by decide))
    exact h
  · replace h := h.2 q
    refine z_iconst dX4_readLeaf_11 ki_1 ?_
    refine z_goto (tgt := 16) dX4_readLeaf_12 rfl ?_
    refine y_istoren (ls' := [(2, 12), (2, r1), (0, 1), (9, 0)]) dX4_readLeaf_16 rfl rfl ?_
    refine z_iloadn dX4_readLeaf_17 rfl ?_
    refine z_ifeq (tgt := 39) dX4_readLeaf_18 rfl (fun q => absurd q (by decide)) (fun _ => ?_)
    refine z_aloadn dX4_readLeaf_21 rfl (Or.inl rfl) ?_
    refine y_getr (v := 13) hG dX4_readLeaf_22 fX4_12 sh12 (by decide) rfl (by decide +kernel) (by decide) ?_
    refine y_getf (x := (M 13 9)) dX4_readLeaf_25 fX4_110 sh13 (by decide) rfl rfl ?_
    refine z_bipush dX4_readLeaf_28 kb_99 ?_
    refine z_icmple (tgt := 39) dX4_readLeaf_30 rfl (fun q => ?_) (fun q => ?_)
    · replace h := h.1 q
      exact h
    · replace h := h.2 q
      refine z_aloadn dX4_readLeaf_33 rfl (Or.inl rfl) ?_
      refine z_iconst dX4_readLeaf_34 ki_2 ?_
      refine y_cv (mt2 := mX4_fail) (en := [(2, 12), (0, 2)]) (st := []) (as := [(0, 2)]) dX4_readLeaf_35 lX4_62 kX4_fail iX4_fail eX4_fail rfl sh12 (by decide +kernel) (Nat.le_of_ble_eq_true rfl) (Nat.le_of_ble_eq_true rfl) rfl ?_
      exact h
set_option maxRecDepth 20000 in
set_option maxHeartbeats 4000000 in
theorem bX4_readLeaf_39 {G : zG} {d : Nat} {M : zM} {Q : zV → zM → Prop} (hG : zP G) {r1 x2 : Int} (hr1 : zND r1)
    (h : (((M 12 4) < 16 → (-2147483648 ≤ (M 12 4) + 1 ∧ (M 12 4) + 1 ≤ 2147483647) ∧ ((x2 = 0 → (-2147483648 ≤ (M 13 7) - 44 ∧ (M 13 7) - 44 ≤ 2147483647) ∧ ((x2 = 0 → Y G (d + 1) mX4_readLeaf 120 [(2, 12), (2, r1), (0, x2), (0, ((M 13 7) - 44))] [] (zset (zset M 12 4 ((M 12 4) + 1)) 12 6 (zor (M 12 6) (zshl 1 ((M 13 7) - 44)))) Q) ∧ (¬ x2 = 0 → Y G (d + 1) mX4_readLeaf 120 [(2, 12), (2, r1), (0, x2), (0, ((M 13 7) - 44))] [] (zset (zset M 12 4 ((M 12 4) + 1)) 12 7 (max (M 12 7) ((M 13 7) - 44))) Q))) ∧ (¬ x2 = 0 → ((x2 = 0 → Y G (d + 1) mX4_readLeaf 120 [(2, 12), (2, r1), (0, x2), (0, (M 13 9))] [] (zset (zset M 12 4 ((M 12 4) + 1)) 12 6 (zor (M 12 6) (zshl 1 (M 13 9)))) Q) ∧ (¬ x2 = 0 → Y G (d + 1) mX4_readLeaf 120 [(2, 12), (2, r1), (0, x2), (0, (M 13 9))] [] (zset (zset M 12 4 ((M 12 4) + 1)) 12 7 (max (M 12 7) (M 13 9))) Q))))) ∧ (16 ≤ (M 12 4) → Y G d mX4_fail 0 [(2, 12), (0, 4)] [] M (fun r M' => Y G (d + 1) mX4_readLeaf 53 [(2, 12), (2, r1), (0, x2), (9, 0)] (zpush r []) M' Q)))) :
    Y G (d + 1) mX4_readLeaf 39 [(2, 12), (2, r1), (0, x2), (9, 0)] [] M Q := by
  refine z_aloadn dX4_readLeaf_39 rfl (Or.inl rfl) ?_
  refine y_getf (x := (M 12 4)) dX4_readLeaf_40 fX4_116 sh12 (by decide) rfl rfl ?_
  refine z_bipush dX4_readLeaf_43 kb_16 ?_
  refine z_icmplt (tgt := 54) dX4_readLeaf_45 rfl (fun q => ?_) (fun q => ?_)
  · replace h := h.1 q
    refine z_aloadn dX4_readLeaf_54 rfl (Or.inl rfl) ?_
    refine z_dup dX4_readLeaf_55 (show (2 : Nat) ≠ 1 by decide) ?_
    refine y_getf (x := (M 12 4)) dX4_readLeaf_56 fX4_116 sh12 (by decide) rfl rfl ?_
    refine z_iconst dX4_readLeaf_59 ki_1 ?_
    obtain ⟨q1, h⟩ := h
    refine z_iadd dX4_readLeaf_60 q1 ?_
    refine y_putf (M' := zset M 12 4 ((M 12 4) + 1)) hG dX4_readLeaf_61 fX4_116 sh12 (by decide) ⟨rfl, rfl⟩ p4_4 (fun q => absurd q (by decide)) (by decide) rfl ?_
    refine z_iloadn dX4_readLeaf_64 rfl ?_
    refine z_ifeq (tgt := 78) dX4_readLeaf_65 rfl (fun q => ?_) (fun q => ?_)
    · replace h := h.1 q
      refine z_aloadn dX4_readLeaf_78 rfl (Or.inl rfl) ?_
      refine y_getr (v := 13) hG dX4_readLeaf_79 fX4_12 sh12 (by decide) rfl (by decide +kernel) (by decide) ?_
      refine y_getf (x := (M 13 7)) dX4_readLeaf_82 fX4_37 sh13 (by decide) rfl (zset_ne (fun q => absurd q.1 (by decide))) ?_
      refine z_bipush dX4_readLeaf_85 kb_44 ?_
      obtain ⟨q2, h⟩ := h
      refine z_isub dX4_readLeaf_87 q2 ?_
      refine y_istoren (ls' := [(2, 12), (2, r1), (0, x2), (0, ((M 13 7) - 44))]) dX4_readLeaf_88 rfl rfl ?_
      refine z_iloadn dX4_readLeaf_89 rfl ?_
      refine z_ifeq (tgt := 108) dX4_readLeaf_90 rfl (fun q => ?_) (fun q => ?_)
      · replace h := h.1 q
        refine z_aloadn dX4_readLeaf_108 rfl (Or.inl rfl) ?_
        refine z_dup dX4_readLeaf_109 (show (2 : Nat) ≠ 1 by decide) ?_
        refine y_getf (x := (M 12 6)) dX4_readLeaf_110 fX4_122 sh12 (by decide) rfl (zset_ne (fun q => absurd q.2 (by decide))) ?_
        refine z_iconst dX4_readLeaf_113 ki_1 ?_
        refine z_iloadn dX4_readLeaf_114 rfl ?_
        refine z_ishl dX4_readLeaf_115 ?_
        refine z_ior dX4_readLeaf_116 ?_
        refine y_putf (M' := zset (zset M 12 4 ((M 12 4) + 1)) 12 6 (zor (M 12 6) (zshl 1 ((M 13 7) - 44)))) hG dX4_readLeaf_117 fX4_122 sh12 (by decide) ⟨rfl, rfl⟩ p4_6 (fun q => absurd q (by decide)) (by decide) rfl ?_
        exact h
      · replace h := h.2 q
        refine z_aloadn dX4_readLeaf_93 rfl (Or.inl rfl) ?_
        refine z_aloadn dX4_readLeaf_94 rfl (Or.inl rfl) ?_
        refine y_getf (x := (M 12 7)) dX4_readLeaf_95 fX4_125 sh12 (by decide) rfl (zset_ne (fun q => absurd q.2 (by decide))) ?_
        refine z_iloadn dX4_readLeaf_98 rfl ?_
        refine z_max dX4_readLeaf_99 mwX4_168 (Nat.le_of_ble_eq_true rfl) ?_
        refine y_putf (M' := zset (zset M 12 4 ((M 12 4) + 1)) 12 7 (max (M 12 7) ((M 13 7) - 44))) hG dX4_readLeaf_102 fX4_125 sh12 (by decide) ⟨rfl, rfl⟩ p4_7 (fun q => absurd q (by decide)) (by decide) rfl ?_
        refine z_goto (tgt := 120) dX4_readLeaf_105 rfl ?_
        exact h
    · replace h := h.2 q
      refine z_aloadn dX4_readLeaf_68 rfl (Or.inl rfl) ?_
      refine y_getr (v := 13) hG dX4_readLeaf_69 fX4_12 sh12 (by decide) rfl (by decide +kernel) (by decide) ?_
      refine y_getf (x := (M 13 9)) dX4_readLeaf_72 fX4_110 sh13 (by decide) rfl (zset_ne (fun q => absurd q.1 (by decide))) ?_
      refine z_goto (tgt := 88) dX4_readLeaf_75 rfl ?_
      refine y_istoren (ls' := [(2, 12), (2, r1), (0, x2), (0, (M 13 9))]) dX4_readLeaf_88 rfl rfl ?_
      refine z_iloadn dX4_readLeaf_89 rfl ?_
      refine z_ifeq (tgt := 108) dX4_readLeaf_90 rfl (fun q => ?_) (fun q => ?_)
      · replace h := h.1 q
        refine z_aloadn dX4_readLeaf_108 rfl (Or.inl rfl) ?_
        refine z_dup dX4_readLeaf_109 (show (2 : Nat) ≠ 1 by decide) ?_
        refine y_getf (x := (M 12 6)) dX4_readLeaf_110 fX4_122 sh12 (by decide) rfl (zset_ne (fun q => absurd q.2 (by decide))) ?_
        refine z_iconst dX4_readLeaf_113 ki_1 ?_
        refine z_iloadn dX4_readLeaf_114 rfl ?_
        refine z_ishl dX4_readLeaf_115 ?_
        refine z_ior dX4_readLeaf_116 ?_
        refine y_putf (M' := zset (zset M 12 4 ((M 12 4) + 1)) 12 6 (zor (M 12 6) (zshl 1 (M 13 9)))) hG dX4_readLeaf_117 fX4_122 sh12 (by decide) ⟨rfl, rfl⟩ p4_6 (fun q => absurd q (by decide)) (by decide) rfl ?_
        exact h
      · replace h := h.2 q
        refine z_aloadn dX4_readLeaf_93 rfl (Or.inl rfl) ?_
        refine z_aloadn dX4_readLeaf_94 rfl (Or.inl rfl) ?_
        refine y_getf (x := (M 12 7)) dX4_readLeaf_95 fX4_125 sh12 (by decide) rfl (zset_ne (fun q => absurd q.2 (by decide))) ?_
        refine z_iloadn dX4_readLeaf_98 rfl ?_
        refine z_max dX4_readLeaf_99 mwX4_168 (Nat.le_of_ble_eq_true rfl) ?_
        refine y_putf (M' := zset (zset M 12 4 ((M 12 4) + 1)) 12 7 (max (M 12 7) (M 13 9))) hG dX4_readLeaf_102 fX4_125 sh12 (by decide) ⟨rfl, rfl⟩ p4_7 (fun q => absurd q (by decide)) (by decide) rfl ?_
        refine z_goto (tgt := 120) dX4_readLeaf_105 rfl ?_
        exact h
  · replace h := h.2 q
    refine z_aloadn dX4_readLeaf_48 rfl (Or.inl rfl) ?_
    refine z_iconst dX4_readLeaf_49 ki_4 ?_
    refine y_cv (mt2 := mX4_fail) (en := [(2, 12), (0, 4)]) (st := []) (as := [(0, 4)]) dX4_readLeaf_50 lX4_62 kX4_fail iX4_fail eX4_fail rfl sh12 (by decide +kernel) (Nat.le_of_ble_eq_true rfl) (Nat.le_of_ble_eq_true rfl) rfl ?_
    exact h
set_option maxRecDepth 20000 in
set_option maxHeartbeats 4000000 in
theorem bX4_readLeaf_120 {G : zG} {d : Nat} {M : zM} {Q : zV → zM → Prop} (hG : zP G) {r1 x2 x3 : Int} (hr1 : zND r1)
    (h : Y G d mX8_advance 0 [(2, 13)] [] M (fun r M' => Y G (d + 1) mX4_readLeaf 127 [(2, 12), (2, r1), (0, x2), (0, x3)] (zpush r []) M' Q)) :
    Y G (d + 1) mX4_readLeaf 120 [(2, 12), (2, r1), (0, x2), (0, x3)] [] M Q := by
  refine z_aloadn dX4_readLeaf_120 rfl (Or.inl rfl) ?_
  refine y_getr (v := 13) hG dX4_readLeaf_121 fX4_12 sh12 (by decide) rfl (by decide +kernel) (by decide) ?_
  refine y_cv (mt2 := mX8_advance) (en := [(2, 13)]) (st := []) (as := []) dX4_readLeaf_124 lX4_69 kX8_advance iX8_advance eX8_advance rfl sh13 (by decide +kernel) (Nat.le_of_ble_eq_true rfl) (Nat.le_of_ble_eq_true rfl) rfl ?_
  exact h
set_option maxRecDepth 20000 in
set_option maxHeartbeats 4000000 in
theorem bX4_readLeaf_38 {G : zG} {d : Nat} {M : zM} {Q : zV → zM → Prop} (hG : zP G) {r1 x2 x49 : Int} (hr1 : zND r1)
    (h : Q (0, x49) M) :
    Y G (d + 1) mX4_readLeaf 38 [(2, 12), (2, r1), (0, x2), (9, 0)] [(0, x49)] M Q := by
  exact z_ireturn dX4_readLeaf_38 (Or.inl rfl) rfl h
set_option maxRecDepth 20000 in
set_option maxHeartbeats 4000000 in
theorem bX4_readLeaf_53 {G : zG} {d : Nat} {M : zM} {Q : zV → zM → Prop} (hG : zP G) {r1 x2 x49 : Int} (hr1 : zND r1)
    (h : Q (0, x49) M) :
    Y G (d + 1) mX4_readLeaf 53 [(2, 12), (2, r1), (0, x2), (9, 0)] [(0, x49)] M Q := by
  exact z_ireturn dX4_readLeaf_53 (Or.inl rfl) rfl h
set_option maxRecDepth 20000 in
set_option maxHeartbeats 4000000 in
theorem bX4_readLeaf_127 {G : zG} {d : Nat} {M : zM} {Q : zV → zM → Prop} (hG : zP G) {r1 x2 x3 : Int} (hr1 : zND r1)
    (h : ((x2 = 0 → Y G d mX1_make 0 [(2, r1), (0, 1), (0, x3)] [] M (fun r M' => Y G (d + 1) mX4_readLeaf 141 [(2, 12), (2, r1), (0, x2), (0, x3)] (zpush r []) M' Q)) ∧ (¬ x2 = 0 → Y G d mX1_make 0 [(2, r1), (0, 0), (0, x3)] [] M (fun r M' => Y G (d + 1) mX4_readLeaf 141 [(2, 12), (2, r1), (0, x2), (0, x3)] (zpush r []) M' Q)))) :
    Y G (d + 1) mX4_readLeaf 127 [(2, 12), (2, r1), (0, x2), (0, x3)] [] M Q := by
  refine z_aloadn dX4_readLeaf_127 rfl (Or.inl rfl) ?_
  refine z_iloadn dX4_readLeaf_128 rfl ?_
  refine z_ifeq (tgt := 136) dX4_readLeaf_129 rfl (fun q => ?_) (fun q => ?_)
  · replace h := h.1 q
    refine z_iconst dX4_readLeaf_136 ki_1 ?_
    refine z_iloadn dX4_readLeaf_137 rfl ?_
    refine y_cv (mt2 := mX1_make) (en := [(2, r1), (0, 1), (0, x3)]) (st := []) (as := [(0, 1), (0, x3)]) dX4_readLeaf_138 lX4_174 kX1_make iX1_make eX1_make rfl (nd_0 hr1) (by decide +kernel) (Nat.le_of_ble_eq_true rfl) (Nat.le_of_ble_eq_true rfl) rfl ?_
    exact h
  · replace h := h.2 q
    refine z_iconst dX4_readLeaf_132 ki_0 ?_
    refine z_goto (tgt := 137) dX4_readLeaf_133 rfl ?_
    refine z_iloadn dX4_readLeaf_137 rfl ?_
    refine y_cv (mt2 := mX1_make) (en := [(2, r1), (0, 0), (0, x3)]) (st := []) (as := [(0, 0), (0, x3)]) dX4_readLeaf_138 lX4_174 kX1_make iX1_make eX1_make rfl (nd_0 hr1) (by decide +kernel) (Nat.le_of_ble_eq_true rfl) (Nat.le_of_ble_eq_true rfl) rfl ?_
    exact h
set_option maxRecDepth 20000 in
set_option maxHeartbeats 4000000 in
theorem bX4_readLeaf_141 {G : zG} {d : Nat} {M : zM} {Q : zV → zM → Prop} (hG : zP G) {r1 x2 x3 x49 : Int} (hr1 : zND r1)
    (h : Q (0, x49) M) :
    Y G (d + 1) mX4_readLeaf 141 [(2, 12), (2, r1), (0, x2), (0, x3)] [(0, x49)] M Q := by
  exact z_ireturn dX4_readLeaf_141 (Or.inl rfl) rfl h
set_option maxRecDepth 20000 in
set_option maxHeartbeats 4000000 in
theorem bX4_enter_0 {G : zG} {d : Nat} {M : zM} {Q : zV → zM → Prop} (hG : zP G) {x1 x2 : Int}
    (h : ((¬ (M 13 7) = x1 → (-2147483648 ≤ x2 + 1 ∧ x2 + 1 ≤ 2147483647) ∧ Y G d mX4_expect 0 [(2, 12), (0, x1)] [] (zset M 12 5 (max (M 12 5) (x2 + 1))) (fun r M' => Y G (d + 1) mX4_enter 51 [(2, 12), (0, x1), (0, x2)] (zpush r []) M' Q)) ∧ ((M 13 7) = x1 → ((x2 < 8 → (-2147483648 ≤ x2 + 1 ∧ x2 + 1 ≤ 2147483647) ∧ Y G d mX4_expect 0 [(2, 12), (0, x1)] [] (zset M 12 5 (max (M 12 5) (x2 + 1))) (fun r M' => Y G (d + 1) mX4_enter 51 [(2, 12), (0, x1), (0, x2)] (zpush r []) M' Q)) ∧ (8 ≤ x2 → Y G d mX4_fail 0 [(2, 12), (0, 3)] [] M (fun r M' => Y G (d + 1) mX4_enter 22 [(2, 12), (0, x1), (0, x2)] (zpush r []) M' Q)))))) :
    Y G (d + 1) mX4_enter 0 [(2, 12), (0, x1), (0, x2)] [] M Q := by
  refine z_aloadn dX4_enter_0 rfl (Or.inl rfl) ?_
  refine y_getr (v := 13) hG dX4_enter_1 fX4_12 sh12 (by decide) rfl (by decide +kernel) (by decide) ?_
  refine y_getf (x := (M 13 7)) dX4_enter_4 fX4_37 sh13 (by decide) rfl rfl ?_
  refine z_iloadn dX4_enter_7 rfl ?_
  refine z_icmpne (tgt := 32) dX4_enter_8 rfl (fun q => ?_) (fun q => ?_)
  · replace h := h.1 q
    refine z_aloadn dX4_enter_32 rfl (Or.inl rfl) ?_
    refine z_aloadn dX4_enter_33 rfl (Or.inl rfl) ?_
    refine y_getf (x := (M 12 5)) dX4_enter_34 fX4_119 sh12 (by decide) rfl rfl ?_
    refine z_iloadn dX4_enter_37 rfl ?_
    refine z_iconst dX4_enter_38 ki_1 ?_
    obtain ⟨q1, h⟩ := h
    refine z_iadd dX4_enter_39 q1 ?_
    refine z_max dX4_enter_40 mwX4_168 (Nat.le_of_ble_eq_true rfl) ?_
    refine y_putf (M' := zset M 12 5 (max (M 12 5) (x2 + 1))) hG dX4_enter_43 fX4_119 sh12 (by decide) ⟨rfl, rfl⟩ p4_5 (fun q => absurd q (by decide)) (by decide) rfl ?_
    refine z_aloadn dX4_enter_46 rfl (Or.inl rfl) ?_
    refine z_iloadn dX4_enter_47 rfl ?_
    refine y_cv (mt2 := mX4_expect) (en := [(2, 12), (0, x1)]) (st := []) (as := [(0, x1)]) dX4_enter_48 lX4_48 kX4_expect iX4_expect eX4_expect rfl sh12 (by decide +kernel) (Nat.le_of_ble_eq_true rfl) (Nat.le_of_ble_eq_true rfl) rfl ?_
    exact h
  · replace h := h.2 q
    refine z_iloadn dX4_enter_11 rfl ?_
    refine z_bipush dX4_enter_12 kb_8 ?_
    refine z_icmplt (tgt := 32) dX4_enter_14 rfl (fun q => ?_) (fun q => ?_)
    · replace h := h.1 q
      refine z_aloadn dX4_enter_32 rfl (Or.inl rfl) ?_
      refine z_aloadn dX4_enter_33 rfl (Or.inl rfl) ?_
      refine y_getf (x := (M 12 5)) dX4_enter_34 fX4_119 sh12 (by decide) rfl rfl ?_
      refine z_iloadn dX4_enter_37 rfl ?_
      refine z_iconst dX4_enter_38 ki_1 ?_
      obtain ⟨q2, h⟩ := h
      refine z_iadd dX4_enter_39 q2 ?_
      refine z_max dX4_enter_40 mwX4_168 (Nat.le_of_ble_eq_true rfl) ?_
      refine y_putf (M' := zset M 12 5 (max (M 12 5) (x2 + 1))) hG dX4_enter_43 fX4_119 sh12 (by decide) ⟨rfl, rfl⟩ p4_5 (fun q => absurd q (by decide)) (by decide) rfl ?_
      refine z_aloadn dX4_enter_46 rfl (Or.inl rfl) ?_
      refine z_iloadn dX4_enter_47 rfl ?_
      refine y_cv (mt2 := mX4_expect) (en := [(2, 12), (0, x1)]) (st := []) (as := [(0, x1)]) dX4_enter_48 lX4_48 kX4_expect iX4_expect eX4_expect rfl sh12 (by decide +kernel) (Nat.le_of_ble_eq_true rfl) (Nat.le_of_ble_eq_true rfl) rfl ?_
      exact h
    · replace h := h.2 q
      refine z_aloadn dX4_enter_17 rfl (Or.inl rfl) ?_
      refine z_iconst dX4_enter_18 ki_3 ?_
      refine y_cv (mt2 := mX4_fail) (en := [(2, 12), (0, 3)]) (st := []) (as := [(0, 3)]) dX4_enter_19 lX4_62 kX4_fail iX4_fail eX4_fail rfl sh12 (by decide +kernel) (Nat.le_of_ble_eq_true rfl) (Nat.le_of_ble_eq_true rfl) rfl ?_
      exact h
set_option maxRecDepth 20000 in
set_option maxHeartbeats 4000000 in
theorem bX4_enter_51 {G : zG} {d : Nat} {M : zM} {Q : zV → zM → Prop} (hG : zP G) {x1 x2 x49 : Int}
    (h : (0 ≤ x49 ∧ x49 ≤ 1) ∧ Q (0, x49) M) :
    Y G (d + 1) mX4_enter 51 [(2, 12), (0, x1), (0, x2)] [(0, x49)] M Q := by
  obtain ⟨q1, h⟩ := h
  exact z_ireturn dX4_enter_51 (Or.inr ⟨rfl, q1⟩) rfl h
set_option maxRecDepth 20000 in
set_option maxHeartbeats 4000000 in
theorem bX4_enter_22 {G : zG} {d : Nat} {M : zM} {Q : zV → zM → Prop} (hG : zP G) {x1 x2 x49 : Int}
    (h : ((x49 = (-1) → Q (0, 0) M) ∧ (¬ x49 = (-1) → Q (0, 1) M))) :
    Y G (d + 1) mX4_enter 22 [(2, 12), (0, x1), (0, x2)] [(0, x49)] M Q := by
  refine z_iconst dX4_enter_22 ki_m1 ?_
  refine z_icmpeq (tgt := 30) dX4_enter_23 rfl (fun q => ?_) (fun q => ?_)
  · replace h := h.1 q
    refine z_iconst dX4_enter_30 ki_0 ?_
    exact z_ireturn dX4_enter_31 (Or.inr ⟨rfl, ⟨by decide, by decide⟩⟩) rfl h
  · replace h := h.2 q
    refine z_iconst dX4_enter_26 ki_1 ?_
    refine z_goto (tgt := 31) dX4_enter_27 rfl ?_
    exact z_ireturn dX4_enter_31 (Or.inr ⟨rfl, ⟨by decide, by decide⟩⟩) rfl h
set_option maxRecDepth 20000 in
set_option maxHeartbeats 4000000 in
theorem bX4_readBracket_0 {G : zG} {d : Nat} {M : zM} {Q : zV → zM → Prop} (hG : zP G) {r1 x2 : Int} (hr1 : zND r1)
    (h : Y G d mX4_enter 0 [(2, 12), (0, 10), (0, x2)] [] M (fun r M' => Y G (d + 1) mX4_readBracket 7 [(2, 12), (2, r1), (0, x2), (9, 0)] (zpush r []) M' Q)) :
    Y G (d + 1) mX4_readBracket 0 [(2, 12), (2, r1), (0, x2), (9, 0)] [] M Q := by
  refine z_aloadn dX4_readBracket_0 rfl (Or.inl rfl) ?_
  refine z_bipush dX4_readBracket_1 kb_10 ?_
  refine z_iloadn dX4_readBracket_3 rfl ?_
  refine y_cv (mt2 := mX4_enter) (en := [(2, 12), (0, 10), (0, x2)]) (st := []) (as := [(0, 10), (0, x2)]) dX4_readBracket_4 lX4_177 kX4_enter iX4_enter eX4_enter rfl sh12 (by decide +kernel) (Nat.le_of_ble_eq_true rfl) (Nat.le_of_ble_eq_true rfl) rfl ?_
  exact h
set_option maxRecDepth 20000 in
set_option maxHeartbeats 4000000 in
theorem bX4_readBracket_7 {G : zG} {d : Nat} {M : zM} {Q : zV → zM → Prop} (hG : zP G) {r1 x2 x49 : Int} (hr1 : zND r1)
    (h : ((¬ x49 = 0 → (-2147483648 ≤ x2 + 1 ∧ x2 + 1 ≤ 2147483647) ∧ Y G d mX4_readSum 0 [(2, 12), (2, r1), (0, (x2 + 1)), (9, 0), (9, 0), (9, 0), (9, 0), (9, 0), (9, 0)] [] (zset M 12 6 (zor (M 12 6) 128)) (fun r M' => Y G (d + 1) mX4_readBracket 32 [(2, 12), (2, r1), (0, x2), (9, 0)] (zpush r []) M' Q)) ∧ (x49 = 0 → Q (0, (-1)) M))) :
    Y G (d + 1) mX4_readBracket 7 [(2, 12), (2, r1), (0, x2), (9, 0)] [(0, x49)] M Q := by
  refine z_ifne (tgt := 12) dX4_readBracket_7 rfl (fun q => ?_) (fun q => ?_)
  · replace h := h.1 q
    refine z_aloadn dX4_readBracket_12 rfl (Or.inl rfl) ?_
    refine z_dup dX4_readBracket_13 (show (2 : Nat) ≠ 1 by decide) ?_
    refine y_getf (x := (M 12 6)) dX4_readBracket_14 fX4_122 sh12 (by decide) rfl rfl ?_
    refine z_sipush dX4_readBracket_17 ks_128 ?_
    refine z_ior dX4_readBracket_20 ?_
    refine y_putf (M' := zset M 12 6 (zor (M 12 6) 128)) hG dX4_readBracket_21 fX4_122 sh12 (by decide) ⟨rfl, rfl⟩ p4_6 (fun q => absurd q (by decide)) (by decide) rfl ?_
    refine z_aloadn dX4_readBracket_24 rfl (Or.inl rfl) ?_
    refine z_aloadn dX4_readBracket_25 rfl (Or.inl rfl) ?_
    refine z_iloadn dX4_readBracket_26 rfl ?_
    refine z_iconst dX4_readBracket_27 ki_1 ?_
    obtain ⟨q1, h⟩ := h
    refine z_iadd dX4_readBracket_28 q1 ?_
    refine y_cv (mt2 := mX4_readSum) (en := [(2, 12), (2, r1), (0, (x2 + 1)), (9, 0), (9, 0), (9, 0), (9, 0), (9, 0), (9, 0)]) (st := []) (as := [(2, r1), (0, (x2 + 1))]) dX4_readBracket_29 lX4_137 kX4_readSum iX4_readSum eX4_readSum rfl sh12 (by decide +kernel) (Nat.le_of_ble_eq_true rfl) (Nat.le_of_ble_eq_true rfl) rfl ?_
    exact h
  · replace h := h.2 q
    refine z_iconst dX4_readBracket_10 ki_m1 ?_
    exact z_ireturn dX4_readBracket_11 (Or.inl rfl) rfl h
set_option maxRecDepth 20000 in
set_option maxHeartbeats 4000000 in
theorem bX4_readBracket_32 {G : zG} {d : Nat} {M : zM} {Q : zV → zM → Prop} (hG : zP G) {r1 x2 x49 : Int} (hr1 : zND r1)
    (h : ((x49 = (-1) → Q (0, (-1)) M) ∧ (¬ x49 = (-1) → Y G d mX4_expect 0 [(2, 12), (0, 11)] [] M (fun r M' => Y G (d + 1) mX4_readBracket 44 [(2, 12), (2, r1), (0, x2), (0, x49)] (zpush r []) M' Q)))) :
    Y G (d + 1) mX4_readBracket 32 [(2, 12), (2, r1), (0, x2), (9, 0)] [(0, x49)] M Q := by
  refine y_istoren (ls' := [(2, 12), (2, r1), (0, x2), (0, x49)]) dX4_readBracket_32 rfl rfl ?_
  refine z_iloadn dX4_readBracket_33 rfl ?_
  refine z_iconst dX4_readBracket_34 ki_m1 ?_
  refine z_icmpeq (tgt := 51) dX4_readBracket_35 rfl (fun q => ?_) (fun q => ?_)
  · replace h := h.1 q
    refine z_iconst dX4_readBracket_51 ki_m1 ?_
    exact z_ireturn dX4_readBracket_52 (Or.inl rfl) rfl h
  · replace h := h.2 q
    refine z_aloadn dX4_readBracket_38 rfl (Or.inl rfl) ?_
    refine z_bipush dX4_readBracket_39 kb_11 ?_
    refine y_cv (mt2 := mX4_expect) (en := [(2, 12), (0, 11)]) (st := []) (as := [(0, 11)]) dX4_readBracket_41 lX4_48 kX4_expect iX4_expect eX4_expect rfl sh12 (by decide +kernel) (Nat.le_of_ble_eq_true rfl) (Nat.le_of_ble_eq_true rfl) rfl ?_
    exact h
set_option maxRecDepth 20000 in
set_option maxHeartbeats 4000000 in
theorem bX4_readBracket_44 {G : zG} {d : Nat} {M : zM} {Q : zV → zM → Prop} (hG : zP G) {r1 x2 x3 x49 : Int} (hr1 : zND r1)
    (h : ((x49 = 0 → Q (0, (-1)) M) ∧ (¬ x49 = 0 → Q (0, x3) M))) :
    Y G (d + 1) mX4_readBracket 44 [(2, 12), (2, r1), (0, x2), (0, x3)] [(0, x49)] M Q := by
  refine z_ifeq (tgt := 51) dX4_readBracket_44 rfl (fun q => ?_) (fun q => ?_)
  · replace h := h.1 q
    refine z_iconst dX4_readBracket_51 ki_m1 ?_
    exact z_ireturn dX4_readBracket_52 (Or.inl rfl) rfl h
  · replace h := h.2 q
    refine z_iloadn dX4_readBracket_47 rfl ?_
    refine z_goto (tgt := 52) dX4_readBracket_48 rfl ?_
    exact z_ireturn dX4_readBracket_52 (Or.inl rfl) rfl h
set_option maxRecDepth 20000 in
set_option maxHeartbeats 4000000 in
theorem bX4_readWordOf_0 {G : zG} {d : Nat} {M : zM} {Q : zV → zM → Prop} (hG : zP G) {r1 x2 : Int} (hr1 : zND r1)
    (h : (-2147483648 ≤ (M 13 7) - 36 ∧ (M 13 7) - 36 ≤ 2147483647) ∧ (((M 13 7) < 38 → Y G d mX8_advance 0 [(2, 13)] [] M (fun r M' => Y G (d + 1) mX4_readWordOf 37 [(2, 12), (2, r1), (0, x2), (0, ((M 13 7) - 36)), (0, 0), (9, 0), (9, 0), (9, 0)] (zpush r []) M' Q)) ∧ (38 ≤ (M 13 7) → Y G d mX8_advance 0 [(2, 13)] [] M (fun r M' => Y G (d + 1) mX4_readWordOf 37 [(2, 12), (2, r1), (0, x2), (0, ((M 13 7) - 36)), (0, 1), (9, 0), (9, 0), (9, 0)] (zpush r []) M' Q)))) :
    Y G (d + 1) mX4_readWordOf 0 [(2, 12), (2, r1), (0, x2), (9, 0), (9, 0), (9, 0), (9, 0), (9, 0)] [] M Q := by
  refine z_aloadn dX4_readWordOf_0 rfl (Or.inl rfl) ?_
  refine y_getr (v := 13) hG dX4_readWordOf_1 fX4_12 sh12 (by decide) rfl (by decide +kernel) (by decide) ?_
  refine y_getf (x := (M 13 7)) dX4_readWordOf_4 fX4_37 sh13 (by decide) rfl rfl ?_
  refine z_bipush dX4_readWordOf_7 kb_36 ?_
  obtain ⟨q1, h⟩ := h
  refine z_isub dX4_readWordOf_9 q1 ?_
  refine y_istoren (ls' := [(2, 12), (2, r1), (0, x2), (0, ((M 13 7) - 36)), (9, 0), (9, 0), (9, 0), (9, 0)]) dX4_readWordOf_10 rfl rfl ?_
  refine z_aloadn dX4_readWordOf_11 rfl (Or.inl rfl) ?_
  refine y_getr (v := 13) hG dX4_readWordOf_12 fX4_12 sh12 (by decide) rfl (by decide +kernel) (by decide) ?_
  refine y_getf (x := (M 13 7)) dX4_readWordOf_15 fX4_37 sh13 (by decide) rfl rfl ?_
  refine z_bipush dX4_readWordOf_18 kb_38 ?_
  refine z_icmplt (tgt := 27) dX4_readWordOf_20 rfl (fun q => ?_) (fun q => ?_)
  · replace h := h.1 q
    refine z_iconst dX4_readWordOf_27 ki_0 ?_
    refine y_istore (ls' := [(2, 12), (2, r1), (0, x2), (0, ((M 13 7) - 36)), (0, 0), (9, 0), (9, 0), (9, 0)]) dX4_readWordOf_28 rfl rfl ?_
    refine z_aloadn dX4_readWordOf_30 rfl (Or.inl rfl) ?_
    refine y_getr (v := 13) hG dX4_readWordOf_31 fX4_12 sh12 (by decide) rfl (by decide +kernel) (by decide) ?_
    refine y_cv (mt2 := mX8_advance) (en := [(2, 13)]) (st := []) (as := []) dX4_readWordOf_34 lX4_69 kX8_advance iX8_advance eX8_advance rfl sh13 (by decide +kernel) (Nat.le_of_ble_eq_true rfl) (Nat.le_of_ble_eq_true rfl) rfl ?_
    exact h
  · replace h := h.2 q
    refine z_iconst dX4_readWordOf_23 ki_1 ?_
    refine z_goto (tgt := 28) dX4_readWordOf_24 rfl ?_
    refine y_istore (ls' := [(2, 12), (2, r1), (0, x2), (0, ((M 13 7) - 36)), (0, 1), (9, 0), (9, 0), (9, 0)]) dX4_readWordOf_28 rfl rfl ?_
    refine z_aloadn dX4_readWordOf_30 rfl (Or.inl rfl) ?_
    refine y_getr (v := 13) hG dX4_readWordOf_31 fX4_12 sh12 (by decide) rfl (by decide +kernel) (by decide) ?_
    refine y_cv (mt2 := mX8_advance) (en := [(2, 13)]) (st := []) (as := []) dX4_readWordOf_34 lX4_69 kX8_advance iX8_advance eX8_advance rfl sh13 (by decide +kernel) (Nat.le_of_ble_eq_true rfl) (Nat.le_of_ble_eq_true rfl) rfl ?_
    exact h
set_option maxRecDepth 20000 in
set_option maxHeartbeats 4000000 in
theorem bX4_readWordOf_37 {G : zG} {d : Nat} {M : zM} {Q : zV → zM → Prop} (hG : zP G) {r1 x2 x3 x4 : Int} (hr1 : zND r1)
    (h : Y G d mX4_enter 0 [(2, 12), (0, 10), (0, x2)] [] M (fun r M' => Y G (d + 1) mX4_readWordOf 44 [(2, 12), (2, r1), (0, x2), (0, x3), (0, x4), (9, 0), (9, 0), (9, 0)] (zpush r []) M' Q)) :
    Y G (d + 1) mX4_readWordOf 37 [(2, 12), (2, r1), (0, x2), (0, x3), (0, x4), (9, 0), (9, 0), (9, 0)] [] M Q := by
  refine z_aloadn dX4_readWordOf_37 rfl (Or.inl rfl) ?_
  refine z_bipush dX4_readWordOf_38 kb_10 ?_
  refine z_iloadn dX4_readWordOf_40 rfl ?_
  refine y_cv (mt2 := mX4_enter) (en := [(2, 12), (0, 10), (0, x2)]) (st := []) (as := [(0, 10), (0, x2)]) dX4_readWordOf_41 lX4_177 kX4_enter iX4_enter eX4_enter rfl sh12 (by decide +kernel) (Nat.le_of_ble_eq_true rfl) (Nat.le_of_ble_eq_true rfl) rfl ?_
  exact h
set_option maxRecDepth 20000 in
set_option maxHeartbeats 4000000 in
theorem bX4_readWordOf_44 {G : zG} {d : Nat} {M : zM} {Q : zV → zM → Prop} (hG : zP G) {r1 x2 x3 x4 x49 : Int} (hr1 : zND r1)
    (h : ((¬ x49 = 0 → (-2147483648 ≤ x2 + 1 ∧ x2 + 1 ≤ 2147483647) ∧ Y G d mX4_readSum 0 [(2, 12), (2, r1), (0, (x2 + 1)), (9, 0), (9, 0), (9, 0), (9, 0), (9, 0), (9, 0)] [] (zset M 12 6 (zor (M 12 6) (zshl 256 x3))) (fun r M' => Y G (d + 1) mX4_readWordOf 71 [(2, 12), (2, r1), (0, x2), (0, x3), (0, x4), (9, 0), (9, 0), (9, 0)] (zpush r []) M' Q)) ∧ (x49 = 0 → Q (0, (-1)) M))) :
    Y G (d + 1) mX4_readWordOf 44 [(2, 12), (2, r1), (0, x2), (0, x3), (0, x4), (9, 0), (9, 0), (9, 0)] [(0, x49)] M Q := by
  refine z_ifne (tgt := 49) dX4_readWordOf_44 rfl (fun q => ?_) (fun q => ?_)
  · replace h := h.1 q
    refine z_aloadn dX4_readWordOf_49 rfl (Or.inl rfl) ?_
    refine z_dup dX4_readWordOf_50 (show (2 : Nat) ≠ 1 by decide) ?_
    refine y_getf (x := (M 12 6)) dX4_readWordOf_51 fX4_122 sh12 (by decide) rfl rfl ?_
    refine z_sipush dX4_readWordOf_54 ks_256 ?_
    refine z_iloadn dX4_readWordOf_57 rfl ?_
    refine z_ishl dX4_readWordOf_58 ?_
    refine z_ior dX4_readWordOf_59 ?_
    refine y_putf (M' := zset M 12 6 (zor (M 12 6) (zshl 256 x3))) hG dX4_readWordOf_60 fX4_122 sh12 (by decide) ⟨rfl, rfl⟩ p4_6 (fun q => absurd q (by decide)) (by decide) rfl ?_
    refine z_aloadn dX4_readWordOf_63 rfl (Or.inl rfl) ?_
    refine z_aloadn dX4_readWordOf_64 rfl (Or.inl rfl) ?_
    refine z_iloadn dX4_readWordOf_65 rfl ?_
    refine z_iconst dX4_readWordOf_66 ki_1 ?_
    obtain ⟨q1, h⟩ := h
    refine z_iadd dX4_readWordOf_67 q1 ?_
    refine y_cv (mt2 := mX4_readSum) (en := [(2, 12), (2, r1), (0, (x2 + 1)), (9, 0), (9, 0), (9, 0), (9, 0), (9, 0), (9, 0)]) (st := []) (as := [(2, r1), (0, (x2 + 1))]) dX4_readWordOf_68 lX4_137 kX4_readSum iX4_readSum eX4_readSum rfl sh12 (by decide +kernel) (Nat.le_of_ble_eq_true rfl) (Nat.le_of_ble_eq_true rfl) rfl ?_
    exact h
  · replace h := h.2 q
    refine z_iconst dX4_readWordOf_47 ki_m1 ?_
    exact z_ireturn dX4_readWordOf_48 (Or.inl rfl) rfl h
set_option maxRecDepth 20000 in
set_option maxHeartbeats 4000000 in
theorem bX4_readWordOf_71 {G : zG} {d : Nat} {M : zM} {Q : zV → zM → Prop} (hG : zP G) {r1 x2 x3 x4 x49 : Int} (hr1 : zND r1)
    (h : ((x4 = 0 → ((x4 = 0 → ((x49 = (-1) → Q (0, (-1)) M) ∧ (¬ x49 = (-1) → Y G d mX4_expect 0 [(2, 12), (0, 11)] [] M (fun r M' => Y G (d + 1) mX4_readWordOf 129 [(2, 12), (2, r1), (0, x2), (0, x3), (0, x4), (0, x49), (0, (-1)), (9, 0)] (zpush r []) M' Q)))) ∧ (¬ x4 = 0 → Q (0, (-1)) M))) ∧ (¬ x4 = 0 → ((x49 = (-1) → ((x4 = 0 → ((x49 = (-1) → Q (0, (-1)) M) ∧ (¬ x49 = (-1) → Y G d mX4_expect 0 [(2, 12), (0, 11)] [] M (fun r M' => Y G (d + 1) mX4_readWordOf 129 [(2, 12), (2, r1), (0, x2), (0, x3), (0, x4), (0, x49), (0, (-1)), (9, 0)] (zpush r []) M' Q)))) ∧ (¬ x4 = 0 → Q (0, (-1)) M))) ∧ (¬ x49 = (-1) → Y G d mX4_expect 0 [(2, 12), (0, 12)] [] M (fun r M' => Y G (d + 1) mX4_readWordOf 90 [(2, 12), (2, r1), (0, x2), (0, x3), (0, x4), (0, x49), (9, 0), (9, 0)] (zpush r []) M' Q)))))) :
    Y G (d + 1) mX4_readWordOf 71 [(2, 12), (2, r1), (0, x2), (0, x3), (0, x4), (9, 0), (9, 0), (9, 0)] [(0, x49)] M Q := by
  refine y_istore (ls' := [(2, 12), (2, r1), (0, x2), (0, x3), (0, x4), (0, x49), (9, 0), (9, 0)]) dX4_readWordOf_71 rfl rfl ?_
  refine z_iload dX4_readWordOf_73 rfl ?_
  refine z_ifeq (tgt := 104) dX4_readWordOf_75 rfl (fun q => ?_) (fun q => ?_)
  · replace h := h.1 q
    refine z_iconst dX4_readWordOf_104 ki_m1 ?_
    refine y_istore (ls' := [(2, 12), (2, r1), (0, x2), (0, x3), (0, x4), (0, x49), (0, (-1)), (9, 0)]) dX4_readWordOf_105 rfl rfl ?_
    refine z_iload dX4_readWordOf_107 rfl ?_
    refine z_ifeq (tgt := 117) dX4_readWordOf_109 rfl (fun q => ?_) (fun q => ?_)
    · replace h := h.1 q
      refine z_iload dX4_readWordOf_117 rfl ?_
      refine z_iconst dX4_readWordOf_119 ki_m1 ?_
      refine z_icmpeq (tgt := 132) dX4_readWordOf_120 rfl (fun q => ?_) (fun q => ?_)
      · replace h := h.1 q
        refine z_iconst dX4_readWordOf_132 ki_m1 ?_
        exact z_ireturn dX4_readWordOf_133 (Or.inl rfl) rfl h
      · replace h := h.2 q
        refine z_aloadn dX4_readWordOf_123 rfl (Or.inl rfl) ?_
        refine z_bipush dX4_readWordOf_124 kb_11 ?_
        refine y_cv (mt2 := mX4_expect) (en := [(2, 12), (0, 11)]) (st := []) (as := [(0, 11)]) dX4_readWordOf_126 lX4_48 kX4_expect iX4_expect eX4_expect rfl sh12 (by decide +kernel) (Nat.le_of_ble_eq_true rfl) (Nat.le_of_ble_eq_true rfl) rfl ?_
        exact h
    · replace h := h.2 q
      refine z_iload dX4_readWordOf_112 rfl ?_
      refine z_goto (tgt := 119) dX4_readWordOf_114 rfl ?_
      refine z_iconst dX4_readWordOf_119 ki_m1 ?_
      refine z_icmpeq (tgt := 132) dX4_readWordOf_120 rfl (fun _ => ?_) (fun q => absurd q (by decide))
      refine z_iconst dX4_readWordOf_132 ki_m1 ?_
      exact z_ireturn dX4_readWordOf_133 (Or.inl rfl) rfl h
  · replace h := h.2 q
    refine z_iload dX4_readWordOf_78 rfl ?_
    refine z_iconst dX4_readWordOf_80 ki_m1 ?_
    refine z_icmpeq (tgt := 104) dX4_readWordOf_81 rfl (fun q => ?_) (fun q => ?_)
    · replace h := h.1 q
      refine z_iconst dX4_readWordOf_104 ki_m1 ?_
      refine y_istore (ls' := [(2, 12), (2, r1), (0, x2), (0, x3), (0, x4), (0, x49), (0, (-1)), (9, 0)]) dX4_readWordOf_105 rfl rfl ?_
      refine z_iload dX4_readWordOf_107 rfl ?_
      refine z_ifeq (tgt := 117) dX4_readWordOf_109 rfl (fun q => ?_) (fun q => ?_)
      · replace h := h.1 q
        refine z_iload dX4_readWordOf_117 rfl ?_
        refine z_iconst dX4_readWordOf_119 ki_m1 ?_
        refine z_icmpeq (tgt := 132) dX4_readWordOf_120 rfl (fun q => ?_) (fun q => ?_)
        · replace h := h.1 q
          refine z_iconst dX4_readWordOf_132 ki_m1 ?_
          exact z_ireturn dX4_readWordOf_133 (Or.inl rfl) rfl h
        · replace h := h.2 q
          refine z_aloadn dX4_readWordOf_123 rfl (Or.inl rfl) ?_
          refine z_bipush dX4_readWordOf_124 kb_11 ?_
          refine y_cv (mt2 := mX4_expect) (en := [(2, 12), (0, 11)]) (st := []) (as := [(0, 11)]) dX4_readWordOf_126 lX4_48 kX4_expect iX4_expect eX4_expect rfl sh12 (by decide +kernel) (Nat.le_of_ble_eq_true rfl) (Nat.le_of_ble_eq_true rfl) rfl ?_
          exact h
      · replace h := h.2 q
        refine z_iload dX4_readWordOf_112 rfl ?_
        refine z_goto (tgt := 119) dX4_readWordOf_114 rfl ?_
        refine z_iconst dX4_readWordOf_119 ki_m1 ?_
        refine z_icmpeq (tgt := 132) dX4_readWordOf_120 rfl (fun _ => ?_) (fun q => absurd q (by decide))
        refine z_iconst dX4_readWordOf_132 ki_m1 ?_
        exact z_ireturn dX4_readWordOf_133 (Or.inl rfl) rfl h
    · replace h := h.2 q
      refine z_aloadn dX4_readWordOf_84 rfl (Or.inl rfl) ?_
      refine z_bipush dX4_readWordOf_85 kb_12 ?_
      refine y_cv (mt2 := mX4_expect) (en := [(2, 12), (0, 12)]) (st := []) (as := [(0, 12)]) dX4_readWordOf_87 lX4_48 kX4_expect iX4_expect eX4_expect rfl sh12 (by decide +kernel) (Nat.le_of_ble_eq_true rfl) (Nat.le_of_ble_eq_true rfl) rfl ?_
      exact h
set_option maxRecDepth 20000 in
set_option maxHeartbeats 4000000 in
theorem bX4_readWordOf_129 {G : zG} {d : Nat} {M : zM} {Q : zV → zM → Prop} (hG : zP G) {r1 x2 x3 x4 x5 x6 x49 : Int} (hr1 : zND r1)
    (h : ((¬ x49 = 0 → (-2147483648 ≤ 4 + x3 ∧ 4 + x3 ≤ 2147483647) ∧ Y G d mX1_make 0 [(2, r1), (0, (4 + x3)), (0, 0)] [] M (fun r M' => Y G (d + 1) mX4_readWordOf 142 [(2, 12), (2, r1), (0, x2), (0, x3), (0, x4), (0, x5), (0, x6), (9, 0)] (zpush r []) M' Q)) ∧ (x49 = 0 → Q (0, (-1)) M))) :
    Y G (d + 1) mX4_readWordOf 129 [(2, 12), (2, r1), (0, x2), (0, x3), (0, x4), (0, x5), (0, x6), (9, 0)] [(0, x49)] M Q := by
  refine z_ifne (tgt := 134) dX4_readWordOf_129 rfl (fun q => ?_) (fun q => ?_)
  · replace h := h.1 q
    refine z_aloadn dX4_readWordOf_134 rfl (Or.inl rfl) ?_
    refine z_iconst dX4_readWordOf_135 ki_4 ?_
    refine z_iloadn dX4_readWordOf_136 rfl ?_
    obtain ⟨q1, h⟩ := h
    refine z_iadd dX4_readWordOf_137 q1 ?_
    refine z_iconst dX4_readWordOf_138 ki_0 ?_
    refine y_cv (mt2 := mX1_make) (en := [(2, r1), (0, (4 + x3)), (0, 0)]) (st := []) (as := [(0, (4 + x3)), (0, 0)]) dX4_readWordOf_139 lX4_174 kX1_make iX1_make eX1_make rfl (nd_0 hr1) (by decide +kernel) (Nat.le_of_ble_eq_true rfl) (Nat.le_of_ble_eq_true rfl) rfl ?_
    exact h
  · replace h := h.2 q
    refine z_iconst dX4_readWordOf_132 ki_m1 ?_
    exact z_ireturn dX4_readWordOf_133 (Or.inl rfl) rfl h
set_option maxRecDepth 20000 in
set_option maxHeartbeats 4000000 in
theorem bX4_readWordOf_90 {G : zG} {d : Nat} {M : zM} {Q : zV → zM → Prop} (hG : zP G) {r1 x2 x3 x4 x5 x49 : Int} (hr1 : zND r1)
    (h : ((x49 = 0 → ((x4 = 0 → ((x5 = (-1) → Q (0, (-1)) M) ∧ (¬ x5 = (-1) → Y G d mX4_expect 0 [(2, 12), (0, 11)] [] M (fun r M' => Y G (d + 1) mX4_readWordOf 129 [(2, 12), (2, r1), (0, x2), (0, x3), (0, x4), (0, x5), (0, (-1)), (9, 0)] (zpush r []) M' Q)))) ∧ (¬ x4 = 0 → Q (0, (-1)) M))) ∧ (¬ x49 = 0 → (-2147483648 ≤ x2 + 1 ∧ x2 + 1 ≤ 2147483647) ∧ Y G d mX4_readSum 0 [(2, 12), (2, r1), (0, (x2 + 1)), (9, 0), (9, 0), (9, 0), (9, 0), (9, 0), (9, 0)] [] M (fun r M' => Y G (d + 1) mX4_readWordOf 101 [(2, 12), (2, r1), (0, x2), (0, x3), (0, x4), (0, x5), (9, 0), (9, 0)] (zpush r []) M' Q)))) :
    Y G (d + 1) mX4_readWordOf 90 [(2, 12), (2, r1), (0, x2), (0, x3), (0, x4), (0, x5), (9, 0), (9, 0)] [(0, x49)] M Q := by
  refine z_ifeq (tgt := 104) dX4_readWordOf_90 rfl (fun q => ?_) (fun q => ?_)
  · replace h := h.1 q
    refine z_iconst dX4_readWordOf_104 ki_m1 ?_
    refine y_istore (ls' := [(2, 12), (2, r1), (0, x2), (0, x3), (0, x4), (0, x5), (0, (-1)), (9, 0)]) dX4_readWordOf_105 rfl rfl ?_
    refine z_iload dX4_readWordOf_107 rfl ?_
    refine z_ifeq (tgt := 117) dX4_readWordOf_109 rfl (fun q => ?_) (fun q => ?_)
    · replace h := h.1 q
      refine z_iload dX4_readWordOf_117 rfl ?_
      refine z_iconst dX4_readWordOf_119 ki_m1 ?_
      refine z_icmpeq (tgt := 132) dX4_readWordOf_120 rfl (fun q => ?_) (fun q => ?_)
      · replace h := h.1 q
        refine z_iconst dX4_readWordOf_132 ki_m1 ?_
        exact z_ireturn dX4_readWordOf_133 (Or.inl rfl) rfl h
      · replace h := h.2 q
        refine z_aloadn dX4_readWordOf_123 rfl (Or.inl rfl) ?_
        refine z_bipush dX4_readWordOf_124 kb_11 ?_
        refine y_cv (mt2 := mX4_expect) (en := [(2, 12), (0, 11)]) (st := []) (as := [(0, 11)]) dX4_readWordOf_126 lX4_48 kX4_expect iX4_expect eX4_expect rfl sh12 (by decide +kernel) (Nat.le_of_ble_eq_true rfl) (Nat.le_of_ble_eq_true rfl) rfl ?_
        exact h
    · replace h := h.2 q
      refine z_iload dX4_readWordOf_112 rfl ?_
      refine z_goto (tgt := 119) dX4_readWordOf_114 rfl ?_
      refine z_iconst dX4_readWordOf_119 ki_m1 ?_
      refine z_icmpeq (tgt := 132) dX4_readWordOf_120 rfl (fun _ => ?_) (fun q => absurd q (by decide))
      refine z_iconst dX4_readWordOf_132 ki_m1 ?_
      exact z_ireturn dX4_readWordOf_133 (Or.inl rfl) rfl h
  · replace h := h.2 q
    refine z_aloadn dX4_readWordOf_93 rfl (Or.inl rfl) ?_
    refine z_aloadn dX4_readWordOf_94 rfl (Or.inl rfl) ?_
    refine z_iloadn dX4_readWordOf_95 rfl ?_
    refine z_iconst dX4_readWordOf_96 ki_1 ?_
    obtain ⟨q1, h⟩ := h
    refine z_iadd dX4_readWordOf_97 q1 ?_
    refine y_cv (mt2 := mX4_readSum) (en := [(2, 12), (2, r1), (0, (x2 + 1)), (9, 0), (9, 0), (9, 0), (9, 0), (9, 0), (9, 0)]) (st := []) (as := [(2, r1), (0, (x2 + 1))]) dX4_readWordOf_98 lX4_137 kX4_readSum iX4_readSum eX4_readSum rfl sh12 (by decide +kernel) (Nat.le_of_ble_eq_true rfl) (Nat.le_of_ble_eq_true rfl) rfl ?_
    exact h
set_option maxRecDepth 20000 in
set_option maxHeartbeats 4000000 in
theorem bX4_readWordOf_142 {G : zG} {d : Nat} {M : zM} {Q : zV → zM → Prop} (hG : zP G) {r1 x2 x3 x4 x5 x6 x49 : Int} (hr1 : zND r1)
    (h : Y G d mX1_append 0 [(2, r1), (0, x49), (0, x5), (0, 1), (9, 0)] [] M (fun r M' => Y G (d + 1) mX4_readWordOf 153 [(2, 12), (2, r1), (0, x2), (0, x3), (0, x4), (0, x5), (0, x6), (0, x49)] (zpush r []) M' Q)) :
    Y G (d + 1) mX4_readWordOf 142 [(2, 12), (2, r1), (0, x2), (0, x3), (0, x4), (0, x5), (0, x6), (9, 0)] [(0, x49)] M Q := by
  refine y_istore (ls' := [(2, 12), (2, r1), (0, x2), (0, x3), (0, x4), (0, x5), (0, x6), (0, x49)]) dX4_readWordOf_142 rfl rfl ?_
  refine z_aloadn dX4_readWordOf_144 rfl (Or.inl rfl) ?_
  refine z_iload dX4_readWordOf_145 rfl ?_
  refine z_iload dX4_readWordOf_147 rfl ?_
  refine z_iconst dX4_readWordOf_149 ki_1 ?_
  refine y_cv (mt2 := mX1_append) (en := [(2, r1), (0, x49), (0, x5), (0, 1), (9, 0)]) (st := []) (as := [(0, x49), (0, x5), (0, 1)]) dX4_readWordOf_150 lX4_181 kX1_append iX1_append eX1_append rfl (nd_0 hr1) (by decide +kernel) (Nat.le_of_ble_eq_true rfl) (Nat.le_of_ble_eq_true rfl) rfl ?_
  exact h
set_option maxRecDepth 20000 in
set_option maxHeartbeats 4000000 in
theorem bX4_readWordOf_101 {G : zG} {d : Nat} {M : zM} {Q : zV → zM → Prop} (hG : zP G) {r1 x2 x3 x4 x5 x49 : Int} (hr1 : zND r1)
    (h : ((x4 = 0 → ((x5 = (-1) → Q (0, (-1)) M) ∧ (¬ x5 = (-1) → Y G d mX4_expect 0 [(2, 12), (0, 11)] [] M (fun r M' => Y G (d + 1) mX4_readWordOf 129 [(2, 12), (2, r1), (0, x2), (0, x3), (0, x4), (0, x5), (0, x49), (9, 0)] (zpush r []) M' Q)))) ∧ (¬ x4 = 0 → ((x49 = (-1) → Q (0, (-1)) M) ∧ (¬ x49 = (-1) → Y G d mX4_expect 0 [(2, 12), (0, 11)] [] M (fun r M' => Y G (d + 1) mX4_readWordOf 129 [(2, 12), (2, r1), (0, x2), (0, x3), (0, x4), (0, x5), (0, x49), (9, 0)] (zpush r []) M' Q)))))) :
    Y G (d + 1) mX4_readWordOf 101 [(2, 12), (2, r1), (0, x2), (0, x3), (0, x4), (0, x5), (9, 0), (9, 0)] [(0, x49)] M Q := by
  refine z_goto (tgt := 105) dX4_readWordOf_101 rfl ?_
  refine y_istore (ls' := [(2, 12), (2, r1), (0, x2), (0, x3), (0, x4), (0, x5), (0, x49), (9, 0)]) dX4_readWordOf_105 rfl rfl ?_
  refine z_iload dX4_readWordOf_107 rfl ?_
  refine z_ifeq (tgt := 117) dX4_readWordOf_109 rfl (fun q => ?_) (fun q => ?_)
  · replace h := h.1 q
    refine z_iload dX4_readWordOf_117 rfl ?_
    refine z_iconst dX4_readWordOf_119 ki_m1 ?_
    refine z_icmpeq (tgt := 132) dX4_readWordOf_120 rfl (fun q => ?_) (fun q => ?_)
    · replace h := h.1 q
      refine z_iconst dX4_readWordOf_132 ki_m1 ?_
      exact z_ireturn dX4_readWordOf_133 (Or.inl rfl) rfl h
    · replace h := h.2 q
      refine z_aloadn dX4_readWordOf_123 rfl (Or.inl rfl) ?_
      refine z_bipush dX4_readWordOf_124 kb_11 ?_
      refine y_cv (mt2 := mX4_expect) (en := [(2, 12), (0, 11)]) (st := []) (as := [(0, 11)]) dX4_readWordOf_126 lX4_48 kX4_expect iX4_expect eX4_expect rfl sh12 (by decide +kernel) (Nat.le_of_ble_eq_true rfl) (Nat.le_of_ble_eq_true rfl) rfl ?_
      exact h
  · replace h := h.2 q
    refine z_iload dX4_readWordOf_112 rfl ?_
    refine z_goto (tgt := 119) dX4_readWordOf_114 rfl ?_
    refine z_iconst dX4_readWordOf_119 ki_m1 ?_
    refine z_icmpeq (tgt := 132) dX4_readWordOf_120 rfl (fun q => ?_) (fun q => ?_)
    · replace h := h.1 q
      refine z_iconst dX4_readWordOf_132 ki_m1 ?_
      exact z_ireturn dX4_readWordOf_133 (Or.inl rfl) rfl h
    · replace h := h.2 q
      refine z_aloadn dX4_readWordOf_123 rfl (Or.inl rfl) ?_
      refine z_bipush dX4_readWordOf_124 kb_11 ?_
      refine y_cv (mt2 := mX4_expect) (en := [(2, 12), (0, 11)]) (st := []) (as := [(0, 11)]) dX4_readWordOf_126 lX4_48 kX4_expect iX4_expect eX4_expect rfl sh12 (by decide +kernel) (Nat.le_of_ble_eq_true rfl) (Nat.le_of_ble_eq_true rfl) rfl ?_
      exact h
set_option maxRecDepth 20000 in
set_option maxHeartbeats 4000000 in
theorem bX4_readWordOf_153 {G : zG} {d : Nat} {M : zM} {Q : zV → zM → Prop} (hG : zP G) {r1 x2 x3 x4 x5 x6 x7 : Int} (hr1 : zND r1)
    (h : Y G d mX1_append 0 [(2, r1), (0, x7), (0, x6), (0, 1), (9, 0)] [] M (fun r M' => Y G (d + 1) mX4_readWordOf 162 [(2, 12), (2, r1), (0, x2), (0, x3), (0, x4), (0, x5), (0, x6), (0, x7)] (zpush r []) M' Q)) :
    Y G (d + 1) mX4_readWordOf 153 [(2, 12), (2, r1), (0, x2), (0, x3), (0, x4), (0, x5), (0, x6), (0, x7)] [] M Q := by
  refine z_aloadn dX4_readWordOf_153 rfl (Or.inl rfl) ?_
  refine z_iload dX4_readWordOf_154 rfl ?_
  refine z_iload dX4_readWordOf_156 rfl ?_
  refine z_iconst dX4_readWordOf_158 ki_1 ?_
  refine y_cv (mt2 := mX1_append) (en := [(2, r1), (0, x7), (0, x6), (0, 1), (9, 0)]) (st := []) (as := [(0, x7), (0, x6), (0, 1)]) dX4_readWordOf_159 lX4_181 kX1_append iX1_append eX1_append rfl (nd_0 hr1) (by decide +kernel) (Nat.le_of_ble_eq_true rfl) (Nat.le_of_ble_eq_true rfl) rfl ?_
  exact h
set_option maxRecDepth 20000 in
set_option maxHeartbeats 4000000 in
theorem bX4_readWordOf_162 {G : zG} {d : Nat} {M : zM} {Q : zV → zM → Prop} (hG : zP G) {r1 x2 x3 x4 x5 x6 x7 : Int} (hr1 : zND r1)
    (h : Q (0, x7) M) :
    Y G (d + 1) mX4_readWordOf 162 [(2, 12), (2, r1), (0, x2), (0, x3), (0, x4), (0, x5), (0, x6), (0, x7)] [] M Q := by
  refine z_iload dX4_readWordOf_162 rfl ?_
  exact z_ireturn dX4_readWordOf_164 (Or.inl rfl) rfl h
set_option maxRecDepth 20000 in
set_option maxHeartbeats 4000000 in
theorem bX4_readIf_0 {G : zG} {d : Nat} {M : zM} {Q : zV → zM → Prop} (hG : zP G) {r1 x2 : Int} (hr1 : zND r1)
    (h : Y G d mX4_enter 0 [(2, 12), (0, 42), (0, x2)] [] M (fun r M' => Y G (d + 1) mX4_readIf 7 [(2, 12), (2, r1), (0, x2), (9, 0), (9, 0), (9, 0), (9, 0), (9, 0), (9, 0)] (zpush r []) M' Q)) :
    Y G (d + 1) mX4_readIf 0 [(2, 12), (2, r1), (0, x2), (9, 0), (9, 0), (9, 0), (9, 0), (9, 0), (9, 0)] [] M Q := by
  refine z_aloadn dX4_readIf_0 rfl (Or.inl rfl) ?_
  refine z_bipush dX4_readIf_1 kb_42 ?_
  refine z_iloadn dX4_readIf_3 rfl ?_
  refine y_cv (mt2 := mX4_enter) (en := [(2, 12), (0, 42), (0, x2)]) (st := []) (as := [(0, 42), (0, x2)]) dX4_readIf_4 lX4_177 kX4_enter iX4_enter eX4_enter rfl sh12 (by decide +kernel) (Nat.le_of_ble_eq_true rfl) (Nat.le_of_ble_eq_true rfl) rfl ?_
  exact h
set_option maxRecDepth 20000 in
set_option maxHeartbeats 4000000 in
theorem bX4_readIf_7 {G : zG} {d : Nat} {M : zM} {Q : zV → zM → Prop} (hG : zP G) {r1 x2 x49 : Int} (hr1 : zND r1)
    (h : ((¬ x49 = 0 → (-2147483648 ≤ x2 + 1 ∧ x2 + 1 ≤ 2147483647) ∧ Y G d mX4_readSum 0 [(2, 12), (2, r1), (0, (x2 + 1)), (9, 0), (9, 0), (9, 0), (9, 0), (9, 0), (9, 0)] [] (zset M 12 6 (zor (M 12 6) 16384)) (fun r M' => Y G (d + 1) mX4_readIf 32 [(2, 12), (2, r1), (0, x2), (9, 0), (9, 0), (9, 0), (9, 0), (9, 0), (9, 0)] (zpush r []) M' Q)) ∧ (x49 = 0 → Q (0, (-1)) M))) :
    Y G (d + 1) mX4_readIf 7 [(2, 12), (2, r1), (0, x2), (9, 0), (9, 0), (9, 0), (9, 0), (9, 0), (9, 0)] [(0, x49)] M Q := by
  refine z_ifne (tgt := 12) dX4_readIf_7 rfl (fun q => ?_) (fun q => ?_)
  · replace h := h.1 q
    refine z_aloadn dX4_readIf_12 rfl (Or.inl rfl) ?_
    refine z_dup dX4_readIf_13 (show (2 : Nat) ≠ 1 by decide) ?_
    refine y_getf (x := (M 12 6)) dX4_readIf_14 fX4_122 sh12 (by decide) rfl rfl ?_
    refine z_sipush dX4_readIf_17 ks_16384 ?_
    refine z_ior dX4_readIf_20 ?_
    refine y_putf (M' := zset M 12 6 (zor (M 12 6) 16384)) hG dX4_readIf_21 fX4_122 sh12 (by decide) ⟨rfl, rfl⟩ p4_6 (fun q => absurd q (by decide)) (by decide) rfl ?_
    refine z_aloadn dX4_readIf_24 rfl (Or.inl rfl) ?_
    refine z_aloadn dX4_readIf_25 rfl (Or.inl rfl) ?_
    refine z_iloadn dX4_readIf_26 rfl ?_
    refine z_iconst dX4_readIf_27 ki_1 ?_
    obtain ⟨q1, h⟩ := h
    refine z_iadd dX4_readIf_28 q1 ?_
    refine y_cv (mt2 := mX4_readSum) (en := [(2, 12), (2, r1), (0, (x2 + 1)), (9, 0), (9, 0), (9, 0), (9, 0), (9, 0), (9, 0)]) (st := []) (as := [(2, r1), (0, (x2 + 1))]) dX4_readIf_29 lX4_137 kX4_readSum iX4_readSum eX4_readSum rfl sh12 (by decide +kernel) (Nat.le_of_ble_eq_true rfl) (Nat.le_of_ble_eq_true rfl) rfl ?_
    exact h
  · replace h := h.2 q
    refine z_iconst dX4_readIf_10 ki_m1 ?_
    exact z_ireturn dX4_readIf_11 (Or.inl rfl) rfl h
set_option maxRecDepth 20000 in
set_option maxHeartbeats 4000000 in
theorem bX4_readIf_32 {G : zG} {d : Nat} {M : zM} {Q : zV → zM → Prop} (hG : zP G) {r1 x2 x49 : Int} (hr1 : zND r1)
    (h : Y G d mX4_comparisonOf 0 [(0, (M 13 7))] [] M (fun r M' => Y G (d + 1) mX4_readIf 43 [(2, 12), (2, r1), (0, x2), (0, x49), (9, 0), (9, 0), (9, 0), (9, 0), (9, 0)] (zpush r []) M' Q)) :
    Y G (d + 1) mX4_readIf 32 [(2, 12), (2, r1), (0, x2), (9, 0), (9, 0), (9, 0), (9, 0), (9, 0), (9, 0)] [(0, x49)] M Q := by
  refine y_istoren (ls' := [(2, 12), (2, r1), (0, x2), (0, x49), (9, 0), (9, 0), (9, 0), (9, 0), (9, 0)]) dX4_readIf_32 rfl rfl ?_
  refine z_aloadn dX4_readIf_33 rfl (Or.inl rfl) ?_
  refine y_getr (v := 13) hG dX4_readIf_34 fX4_12 sh12 (by decide) rfl (by decide +kernel) (by decide) ?_
  refine y_getf (x := (M 13 7)) dX4_readIf_37 fX4_37 sh13 (by decide) rfl rfl ?_
  refine y_cs (mt2 := mX4_comparisonOf) (en := [(0, (M 13 7))]) (st := []) (as := [(0, (M 13 7))]) dX4_readIf_40 lX4_184 kX4_comparisonOf tX4_comparisonOf rfl (Nat.le_of_ble_eq_true rfl) (Nat.le_of_ble_eq_true rfl) rfl ?_
  exact h
set_option maxRecDepth 20000 in
set_option maxHeartbeats 4000000 in
theorem bX4_readIf_43 {G : zG} {d : Nat} {M : zM} {Q : zV → zM → Prop} (hG : zP G) {r1 x2 x3 x49 : Int} (hr1 : zND r1)
    (h : ((x3 = (-1) → ((¬ x3 = (-1) → Y G d mX4_fail 0 [(2, 12), (0, 1)] [] M (fun r M' => Y G (d + 1) mX4_readIf 70 [(2, 12), (2, r1), (0, x2), (0, x3), (0, x49), (9, 0), (9, 0), (9, 0), (9, 0)] (zpush r []) M' Q)) ∧ (x3 = (-1) → Q (0, (-1)) M))) ∧ (¬ x3 = (-1) → ((¬ x49 = (-1) → Y G d mX8_advance 0 [(2, 13)] [] M (fun r M' => Y G (d + 1) mX4_readIf 78 [(2, 12), (2, r1), (0, x2), (0, x3), (0, x49), (9, 0), (9, 0), (9, 0), (9, 0)] (zpush r []) M' Q)) ∧ (x49 = (-1) → ((¬ x3 = (-1) → Y G d mX4_fail 0 [(2, 12), (0, 1)] [] M (fun r M' => Y G (d + 1) mX4_readIf 70 [(2, 12), (2, r1), (0, x2), (0, x3), (0, x49), (9, 0), (9, 0), (9, 0), (9, 0)] (zpush r []) M' Q)) ∧ (x3 = (-1) → Q (0, (-1)) M))))))) :
    Y G (d + 1) mX4_readIf 43 [(2, 12), (2, r1), (0, x2), (0, x3), (9, 0), (9, 0), (9, 0), (9, 0), (9, 0)] [(0, x49)] M Q := by
  refine y_istore (ls' := [(2, 12), (2, r1), (0, x2), (0, x3), (0, x49), (9, 0), (9, 0), (9, 0), (9, 0)]) dX4_readIf_43 rfl rfl ?_
  refine z_iloadn dX4_readIf_45 rfl ?_
  refine z_iconst dX4_readIf_46 ki_m1 ?_
  refine z_icmpeq (tgt := 56) dX4_readIf_47 rfl (fun q => ?_) (fun q => ?_)
  · replace h := h.1 q
    refine z_iloadn dX4_readIf_56 rfl ?_
    refine z_iconst dX4_readIf_57 ki_m1 ?_
    refine z_icmpne (tgt := 65) dX4_readIf_58 rfl (fun q => ?_) (fun q => ?_)
    · replace h := h.1 q
      refine z_aloadn dX4_readIf_65 rfl (Or.inl rfl) ?_
      refine z_iconst dX4_readIf_66 ki_1 ?_
      refine y_cv (mt2 := mX4_fail) (en := [(2, 12), (0, 1)]) (st := []) (as := [(0, 1)]) dX4_readIf_67 lX4_62 kX4_fail iX4_fail eX4_fail rfl sh12 (by decide +kernel) (Nat.le_of_ble_eq_true rfl) (Nat.le_of_ble_eq_true rfl) rfl ?_
      exact h
    · replace h := h.2 q
      refine z_iconst dX4_readIf_61 ki_m1 ?_
      refine z_goto (tgt := 70) dX4_readIf_62 rfl ?_
      exact z_ireturn dX4_readIf_70 (Or.inl rfl) rfl h
  · replace h := h.2 q
    refine z_iload dX4_readIf_50 rfl ?_
    refine z_iconst dX4_readIf_52 ki_m1 ?_
    refine z_icmpne (tgt := 71) dX4_readIf_53 rfl (fun q => ?_) (fun q => ?_)
    · replace h := h.1 q
      refine z_aloadn dX4_readIf_71 rfl (Or.inl rfl) ?_
      refine y_getr (v := 13) hG dX4_readIf_72 fX4_12 sh12 (by decide) rfl (by decide +kernel) (by decide) ?_
      refine y_cv (mt2 := mX8_advance) (en := [(2, 13)]) (st := []) (as := []) dX4_readIf_75 lX4_69 kX8_advance iX8_advance eX8_advance rfl sh13 (by decide +kernel) (Nat.le_of_ble_eq_true rfl) (Nat.le_of_ble_eq_true rfl) rfl ?_
      exact h
    · replace h := h.2 q
      refine z_iloadn dX4_readIf_56 rfl ?_
      refine z_iconst dX4_readIf_57 ki_m1 ?_
      refine z_icmpne (tgt := 65) dX4_readIf_58 rfl (fun q => ?_) (fun q => ?_)
      · replace h := h.1 q
        refine z_aloadn dX4_readIf_65 rfl (Or.inl rfl) ?_
        refine z_iconst dX4_readIf_66 ki_1 ?_
        refine y_cv (mt2 := mX4_fail) (en := [(2, 12), (0, 1)]) (st := []) (as := [(0, 1)]) dX4_readIf_67 lX4_62 kX4_fail iX4_fail eX4_fail rfl sh12 (by decide +kernel) (Nat.le_of_ble_eq_true rfl) (Nat.le_of_ble_eq_true rfl) rfl ?_
        exact h
      · replace h := h.2 q
        refine z_iconst dX4_readIf_61 ki_m1 ?_
        refine z_goto (tgt := 70) dX4_readIf_62 rfl ?_
        exact z_ireturn dX4_readIf_70 (Or.inl rfl) rfl h
set_option maxRecDepth 20000 in
set_option maxHeartbeats 4000000 in
theorem bX4_readIf_70 {G : zG} {d : Nat} {M : zM} {Q : zV → zM → Prop} (hG : zP G) {r1 x2 x3 x4 x49 : Int} (hr1 : zND r1)
    (h : Q (0, x49) M) :
    Y G (d + 1) mX4_readIf 70 [(2, 12), (2, r1), (0, x2), (0, x3), (0, x4), (9, 0), (9, 0), (9, 0), (9, 0)] [(0, x49)] M Q := by
  exact z_ireturn dX4_readIf_70 (Or.inl rfl) rfl h
set_option maxRecDepth 20000 in
set_option maxHeartbeats 4000000 in
theorem bX4_readIf_78 {G : zG} {d : Nat} {M : zM} {Q : zV → zM → Prop} (hG : zP G) {r1 x2 x3 x4 : Int} (hr1 : zND r1)
    (h : (-2147483648 ≤ x2 + 1 ∧ x2 + 1 ≤ 2147483647) ∧ Y G d mX4_readSum 0 [(2, 12), (2, r1), (0, (x2 + 1)), (9, 0), (9, 0), (9, 0), (9, 0), (9, 0), (9, 0)] [] M (fun r M' => Y G (d + 1) mX4_readIf 86 [(2, 12), (2, r1), (0, x2), (0, x3), (0, x4), (9, 0), (9, 0), (9, 0), (9, 0)] (zpush r []) M' Q)) :
    Y G (d + 1) mX4_readIf 78 [(2, 12), (2, r1), (0, x2), (0, x3), (0, x4), (9, 0), (9, 0), (9, 0), (9, 0)] [] M Q := by
  refine z_aloadn dX4_readIf_78 rfl (Or.inl rfl) ?_
  refine z_aloadn dX4_readIf_79 rfl (Or.inl rfl) ?_
  refine z_iloadn dX4_readIf_80 rfl ?_
  refine z_iconst dX4_readIf_81 ki_1 ?_
  obtain ⟨q1, h⟩ := h
  refine z_iadd dX4_readIf_82 q1 ?_
  refine y_cv (mt2 := mX4_readSum) (en := [(2, 12), (2, r1), (0, (x2 + 1)), (9, 0), (9, 0), (9, 0), (9, 0), (9, 0), (9, 0)]) (st := []) (as := [(2, r1), (0, (x2 + 1))]) dX4_readIf_83 lX4_137 kX4_readSum iX4_readSum eX4_readSum rfl sh12 (by decide +kernel) (Nat.le_of_ble_eq_true rfl) (Nat.le_of_ble_eq_true rfl) rfl ?_
  exact h
set_option maxRecDepth 20000 in
set_option maxHeartbeats 4000000 in
theorem bX4_readIf_86 {G : zG} {d : Nat} {M : zM} {Q : zV → zM → Prop} (hG : zP G) {r1 x2 x3 x4 x49 : Int} (hr1 : zND r1)
    (h : ((x49 = (-1) → Q (0, (-1)) M) ∧ (¬ x49 = (-1) → Y G d mX4_expect 0 [(2, 12), (0, 14)] [] M (fun r M' => Y G (d + 1) mX4_readIf 100 [(2, 12), (2, r1), (0, x2), (0, x3), (0, x4), (0, x49), (9, 0), (9, 0), (9, 0)] (zpush r []) M' Q)))) :
    Y G (d + 1) mX4_readIf 86 [(2, 12), (2, r1), (0, x2), (0, x3), (0, x4), (9, 0), (9, 0), (9, 0), (9, 0)] [(0, x49)] M Q := by
  refine y_istore (ls' := [(2, 12), (2, r1), (0, x2), (0, x3), (0, x4), (0, x49), (9, 0), (9, 0), (9, 0)]) dX4_readIf_86 rfl rfl ?_
  refine z_iload dX4_readIf_88 rfl ?_
  refine z_iconst dX4_readIf_90 ki_m1 ?_
  refine z_icmpeq (tgt := 114) dX4_readIf_91 rfl (fun q => ?_) (fun q => ?_)
  · replace h := h.1 q
    refine z_iconst dX4_readIf_114 ki_m1 ?_
    refine y_istore (ls' := [(2, 12), (2, r1), (0, x2), (0, x3), (0, x4), (0, x49), (0, (-1)), (9, 0), (9, 0)]) dX4_readIf_115 rfl rfl ?_
    refine z_iload dX4_readIf_117 rfl ?_
    refine z_iconst dX4_readIf_119 ki_m1 ?_
    refine z_icmpeq (tgt := 143) dX4_readIf_120 rfl (fun _ => ?_) (fun q => absurd q (by decide))
    refine z_iconst dX4_readIf_143 ki_m1 ?_
    refine y_istore (ls' := [(2, 12), (2, r1), (0, x2), (0, x3), (0, x4), (0, x49), (0, (-1)), (0, (-1)), (9, 0)]) dX4_readIf_144 rfl rfl ?_
    refine z_iload dX4_readIf_146 rfl ?_
    refine z_iconst dX4_readIf_148 ki_m1 ?_
    refine z_icmpeq (tgt := 161) dX4_readIf_149 rfl (fun _ => ?_) (fun q => absurd q (by decide))
    refine z_iconst dX4_readIf_161 ki_m1 ?_
    exact z_ireturn dX4_readIf_162 (Or.inl rfl) rfl h
  · replace h := h.2 q
    refine z_aloadn dX4_readIf_94 rfl (Or.inl rfl) ?_
    refine z_bipush dX4_readIf_95 kb_14 ?_
    refine y_cv (mt2 := mX4_expect) (en := [(2, 12), (0, 14)]) (st := []) (as := [(0, 14)]) dX4_readIf_97 lX4_48 kX4_expect iX4_expect eX4_expect rfl sh12 (by decide +kernel) (Nat.le_of_ble_eq_true rfl) (Nat.le_of_ble_eq_true rfl) rfl ?_
    exact h
set_option maxRecDepth 20000 in
set_option maxHeartbeats 4000000 in
theorem bX4_readIf_100 {G : zG} {d : Nat} {M : zM} {Q : zV → zM → Prop} (hG : zP G) {r1 x2 x3 x4 x5 x49 : Int} (hr1 : zND r1)
    (h : ((x49 = 0 → Q (0, (-1)) M) ∧ (¬ x49 = 0 → (-2147483648 ≤ x2 + 1 ∧ x2 + 1 ≤ 2147483647) ∧ Y G d mX4_readSum 0 [(2, 12), (2, r1), (0, (x2 + 1)), (9, 0), (9, 0), (9, 0), (9, 0), (9, 0), (9, 0)] [] M (fun r M' => Y G (d + 1) mX4_readIf 111 [(2, 12), (2, r1), (0, x2), (0, x3), (0, x4), (0, x5), (9, 0), (9, 0), (9, 0)] (zpush r []) M' Q)))) :
    Y G (d + 1) mX4_readIf 100 [(2, 12), (2, r1), (0, x2), (0, x3), (0, x4), (0, x5), (9, 0), (9, 0), (9, 0)] [(0, x49)] M Q := by
  refine z_ifeq (tgt := 114) dX4_readIf_100 rfl (fun q => ?_) (fun q => ?_)
  · replace h := h.1 q
    refine z_iconst dX4_readIf_114 ki_m1 ?_
    refine y_istore (ls' := [(2, 12), (2, r1), (0, x2), (0, x3), (0, x4), (0, x5), (0, (-1)), (9, 0), (9, 0)]) dX4_readIf_115 rfl rfl ?_
    refine z_iload dX4_readIf_117 rfl ?_
    refine z_iconst dX4_readIf_119 ki_m1 ?_
    refine z_icmpeq (tgt := 143) dX4_readIf_120 rfl (fun _ => ?_) (fun q => absurd q (by decide))
    refine z_iconst dX4_readIf_143 ki_m1 ?_
    refine y_istore (ls' := [(2, 12), (2, r1), (0, x2), (0, x3), (0, x4), (0, x5), (0, (-1)), (0, (-1)), (9, 0)]) dX4_readIf_144 rfl rfl ?_
    refine z_iload dX4_readIf_146 rfl ?_
    refine z_iconst dX4_readIf_148 ki_m1 ?_
    refine z_icmpeq (tgt := 161) dX4_readIf_149 rfl (fun _ => ?_) (fun q => absurd q (by decide))
    refine z_iconst dX4_readIf_161 ki_m1 ?_
    exact z_ireturn dX4_readIf_162 (Or.inl rfl) rfl h
  · replace h := h.2 q
    refine z_aloadn dX4_readIf_103 rfl (Or.inl rfl) ?_
    refine z_aloadn dX4_readIf_104 rfl (Or.inl rfl) ?_
    refine z_iloadn dX4_readIf_105 rfl ?_
    refine z_iconst dX4_readIf_106 ki_1 ?_
    obtain ⟨q1, h⟩ := h
    refine z_iadd dX4_readIf_107 q1 ?_
    refine y_cv (mt2 := mX4_readSum) (en := [(2, 12), (2, r1), (0, (x2 + 1)), (9, 0), (9, 0), (9, 0), (9, 0), (9, 0), (9, 0)]) (st := []) (as := [(2, r1), (0, (x2 + 1))]) dX4_readIf_108 lX4_137 kX4_readSum iX4_readSum eX4_readSum rfl sh12 (by decide +kernel) (Nat.le_of_ble_eq_true rfl) (Nat.le_of_ble_eq_true rfl) rfl ?_
    exact h
set_option maxRecDepth 20000 in
set_option maxHeartbeats 4000000 in
theorem bX4_readIf_111 {G : zG} {d : Nat} {M : zM} {Q : zV → zM → Prop} (hG : zP G) {r1 x2 x3 x4 x5 x49 : Int} (hr1 : zND r1)
    (h : ((x49 = (-1) → Q (0, (-1)) M) ∧ (¬ x49 = (-1) → Y G d mX4_expect 0 [(2, 12), (0, 15)] [] M (fun r M' => Y G (d + 1) mX4_readIf 129 [(2, 12), (2, r1), (0, x2), (0, x3), (0, x4), (0, x5), (0, x49), (9, 0), (9, 0)] (zpush r []) M' Q)))) :
    Y G (d + 1) mX4_readIf 111 [(2, 12), (2, r1), (0, x2), (0, x3), (0, x4), (0, x5), (9, 0), (9, 0), (9, 0)] [(0, x49)] M Q := by
  refine z_goto (tgt := 115) dX4_readIf_111 rfl ?_
  refine y_istore (ls' := [(2, 12), (2, r1), (0, x2), (0, x3), (0, x4), (0, x5), (0, x49), (9, 0), (9, 0)]) dX4_readIf_115 rfl rfl ?_
  refine z_iload dX4_readIf_117 rfl ?_
  refine z_iconst dX4_readIf_119 ki_m1 ?_
  refine z_icmpeq (tgt := 143) dX4_readIf_120 rfl (fun q => ?_) (fun q => ?_)
  · replace h := h.1 q
    refine z_iconst dX4_readIf_143 ki_m1 ?_
    refine y_istore (ls' := [(2, 12), (2, r1), (0, x2), (0, x3), (0, x4), (0, x5), (0, x49), (0, (-1)), (9, 0)]) dX4_readIf_144 rfl rfl ?_
    refine z_iload dX4_readIf_146 rfl ?_
    refine z_iconst dX4_readIf_148 ki_m1 ?_
    refine z_icmpeq (tgt := 161) dX4_readIf_149 rfl (fun _ => ?_) (fun q => absurd q (by decide))
    refine z_iconst dX4_readIf_161 ki_m1 ?_
    exact z_ireturn dX4_readIf_162 (Or.inl rfl) rfl h
  · replace h := h.2 q
    refine z_aloadn dX4_readIf_123 rfl (Or.inl rfl) ?_
    refine z_bipush dX4_readIf_124 kb_15 ?_
    refine y_cv (mt2 := mX4_expect) (en := [(2, 12), (0, 15)]) (st := []) (as := [(0, 15)]) dX4_readIf_126 lX4_48 kX4_expect iX4_expect eX4_expect rfl sh12 (by decide +kernel) (Nat.le_of_ble_eq_true rfl) (Nat.le_of_ble_eq_true rfl) rfl ?_
    exact h
set_option maxRecDepth 20000 in
set_option maxHeartbeats 4000000 in
theorem bX4_readIf_129 {G : zG} {d : Nat} {M : zM} {Q : zV → zM → Prop} (hG : zP G) {r1 x2 x3 x4 x5 x6 x49 : Int} (hr1 : zND r1)
    (h : ((x49 = 0 → Q (0, (-1)) M) ∧ (¬ x49 = 0 → (-2147483648 ≤ x2 + 1 ∧ x2 + 1 ≤ 2147483647) ∧ Y G d mX4_readSum 0 [(2, 12), (2, r1), (0, (x2 + 1)), (9, 0), (9, 0), (9, 0), (9, 0), (9, 0), (9, 0)] [] M (fun r M' => Y G (d + 1) mX4_readIf 140 [(2, 12), (2, r1), (0, x2), (0, x3), (0, x4), (0, x5), (0, x6), (9, 0), (9, 0)] (zpush r []) M' Q)))) :
    Y G (d + 1) mX4_readIf 129 [(2, 12), (2, r1), (0, x2), (0, x3), (0, x4), (0, x5), (0, x6), (9, 0), (9, 0)] [(0, x49)] M Q := by
  refine z_ifeq (tgt := 143) dX4_readIf_129 rfl (fun q => ?_) (fun q => ?_)
  · replace h := h.1 q
    refine z_iconst dX4_readIf_143 ki_m1 ?_
    refine y_istore (ls' := [(2, 12), (2, r1), (0, x2), (0, x3), (0, x4), (0, x5), (0, x6), (0, (-1)), (9, 0)]) dX4_readIf_144 rfl rfl ?_
    refine z_iload dX4_readIf_146 rfl ?_
    refine z_iconst dX4_readIf_148 ki_m1 ?_
    refine z_icmpeq (tgt := 161) dX4_readIf_149 rfl (fun _ => ?_) (fun q => absurd q (by decide))
    refine z_iconst dX4_readIf_161 ki_m1 ?_
    exact z_ireturn dX4_readIf_162 (Or.inl rfl) rfl h
  · replace h := h.2 q
    refine z_aloadn dX4_readIf_132 rfl (Or.inl rfl) ?_
    refine z_aloadn dX4_readIf_133 rfl (Or.inl rfl) ?_
    refine z_iloadn dX4_readIf_134 rfl ?_
    refine z_iconst dX4_readIf_135 ki_1 ?_
    obtain ⟨q1, h⟩ := h
    refine z_iadd dX4_readIf_136 q1 ?_
    refine y_cv (mt2 := mX4_readSum) (en := [(2, 12), (2, r1), (0, (x2 + 1)), (9, 0), (9, 0), (9, 0), (9, 0), (9, 0), (9, 0)]) (st := []) (as := [(2, r1), (0, (x2 + 1))]) dX4_readIf_137 lX4_137 kX4_readSum iX4_readSum eX4_readSum rfl sh12 (by decide +kernel) (Nat.le_of_ble_eq_true rfl) (Nat.le_of_ble_eq_true rfl) rfl ?_
    exact h
set_option maxRecDepth 20000 in
set_option maxHeartbeats 4000000 in
theorem bX4_readIf_140 {G : zG} {d : Nat} {M : zM} {Q : zV → zM → Prop} (hG : zP G) {r1 x2 x3 x4 x5 x6 x49 : Int} (hr1 : zND r1)
    (h : ((x49 = (-1) → Q (0, (-1)) M) ∧ (¬ x49 = (-1) → Y G d mX4_expect 0 [(2, 12), (0, 43)] [] M (fun r M' => Y G (d + 1) mX4_readIf 158 [(2, 12), (2, r1), (0, x2), (0, x3), (0, x4), (0, x5), (0, x6), (0, x49), (9, 0)] (zpush r []) M' Q)))) :
    Y G (d + 1) mX4_readIf 140 [(2, 12), (2, r1), (0, x2), (0, x3), (0, x4), (0, x5), (0, x6), (9, 0), (9, 0)] [(0, x49)] M Q := by
  refine z_goto (tgt := 144) dX4_readIf_140 rfl ?_
  refine y_istore (ls' := [(2, 12), (2, r1), (0, x2), (0, x3), (0, x4), (0, x5), (0, x6), (0, x49), (9, 0)]) dX4_readIf_144 rfl rfl ?_
  refine z_iload dX4_readIf_146 rfl ?_
  refine z_iconst dX4_readIf_148 ki_m1 ?_
  refine z_icmpeq (tgt := 161) dX4_readIf_149 rfl (fun q => ?_) (fun q => ?_)
  · replace h := h.1 q
    refine z_iconst dX4_readIf_161 ki_m1 ?_
    exact z_ireturn dX4_readIf_162 (Or.inl rfl) rfl h
  · replace h := h.2 q
    refine z_aloadn dX4_readIf_152 rfl (Or.inl rfl) ?_
    refine z_bipush dX4_readIf_153 kb_43 ?_
    refine y_cv (mt2 := mX4_expect) (en := [(2, 12), (0, 43)]) (st := []) (as := [(0, 43)]) dX4_readIf_155 lX4_48 kX4_expect iX4_expect eX4_expect rfl sh12 (by decide +kernel) (Nat.le_of_ble_eq_true rfl) (Nat.le_of_ble_eq_true rfl) rfl ?_
    exact h
set_option maxRecDepth 20000 in
set_option maxHeartbeats 4000000 in
theorem bX4_readIf_158 {G : zG} {d : Nat} {M : zM} {Q : zV → zM → Prop} (hG : zP G) {r1 x2 x3 x4 x5 x6 x7 x49 : Int} (hr1 : zND r1)
    (h : ((¬ x49 = 0 → Y G d mX1_make 0 [(2, r1), (0, 10), (0, x4)] [] M (fun r M' => Y G (d + 1) mX4_readIf 171 [(2, 12), (2, r1), (0, x2), (0, x3), (0, x4), (0, x5), (0, x6), (0, x7), (9, 0)] (zpush r []) M' Q)) ∧ (x49 = 0 → Q (0, (-1)) M))) :
    Y G (d + 1) mX4_readIf 158 [(2, 12), (2, r1), (0, x2), (0, x3), (0, x4), (0, x5), (0, x6), (0, x7), (9, 0)] [(0, x49)] M Q := by
  refine z_ifne (tgt := 163) dX4_readIf_158 rfl (fun q => ?_) (fun q => ?_)
  · replace h := h.1 q
    refine z_aloadn dX4_readIf_163 rfl (Or.inl rfl) ?_
    refine z_bipush dX4_readIf_164 kb_10 ?_
    refine z_iload dX4_readIf_166 rfl ?_
    refine y_cv (mt2 := mX1_make) (en := [(2, r1), (0, 10), (0, x4)]) (st := []) (as := [(0, 10), (0, x4)]) dX4_readIf_168 lX4_174 kX1_make iX1_make eX1_make rfl (nd_0 hr1) (by decide +kernel) (Nat.le_of_ble_eq_true rfl) (Nat.le_of_ble_eq_true rfl) rfl ?_
    exact h
  · replace h := h.2 q
    refine z_iconst dX4_readIf_161 ki_m1 ?_
    exact z_ireturn dX4_readIf_162 (Or.inl rfl) rfl h
set_option maxRecDepth 20000 in
set_option maxHeartbeats 4000000 in
theorem bX4_readIf_171 {G : zG} {d : Nat} {M : zM} {Q : zV → zM → Prop} (hG : zP G) {r1 x2 x3 x4 x5 x6 x7 x49 : Int} (hr1 : zND r1)
    (h : Y G d mX1_append 0 [(2, r1), (0, x49), (0, x3), (0, 1), (9, 0)] [] M (fun r M' => Y G (d + 1) mX4_readIf 181 [(2, 12), (2, r1), (0, x2), (0, x3), (0, x4), (0, x5), (0, x6), (0, x7), (0, x49)] (zpush r []) M' Q)) :
    Y G (d + 1) mX4_readIf 171 [(2, 12), (2, r1), (0, x2), (0, x3), (0, x4), (0, x5), (0, x6), (0, x7), (9, 0)] [(0, x49)] M Q := by
  refine y_istore (ls' := [(2, 12), (2, r1), (0, x2), (0, x3), (0, x4), (0, x5), (0, x6), (0, x7), (0, x49)]) dX4_readIf_171 rfl rfl ?_
  refine z_aloadn dX4_readIf_173 rfl (Or.inl rfl) ?_
  refine z_iload dX4_readIf_174 rfl ?_
  refine z_iloadn dX4_readIf_176 rfl ?_
  refine z_iconst dX4_readIf_177 ki_1 ?_
  refine y_cv (mt2 := mX1_append) (en := [(2, r1), (0, x49), (0, x3), (0, 1), (9, 0)]) (st := []) (as := [(0, x49), (0, x3), (0, 1)]) dX4_readIf_178 lX4_181 kX1_append iX1_append eX1_append rfl (nd_0 hr1) (by decide +kernel) (Nat.le_of_ble_eq_true rfl) (Nat.le_of_ble_eq_true rfl) rfl ?_
  exact h
set_option maxRecDepth 20000 in
set_option maxHeartbeats 4000000 in
theorem bX4_readIf_181 {G : zG} {d : Nat} {M : zM} {Q : zV → zM → Prop} (hG : zP G) {r1 x2 x3 x4 x5 x6 x7 x8 : Int} (hr1 : zND r1)
    (h : Y G d mX1_append 0 [(2, r1), (0, x8), (0, x5), (0, 1), (9, 0)] [] M (fun r M' => Y G (d + 1) mX4_readIf 190 [(2, 12), (2, r1), (0, x2), (0, x3), (0, x4), (0, x5), (0, x6), (0, x7), (0, x8)] (zpush r []) M' Q)) :
    Y G (d + 1) mX4_readIf 181 [(2, 12), (2, r1), (0, x2), (0, x3), (0, x4), (0, x5), (0, x6), (0, x7), (0, x8)] [] M Q := by
  refine z_aloadn dX4_readIf_181 rfl (Or.inl rfl) ?_
  refine z_iload dX4_readIf_182 rfl ?_
  refine z_iload dX4_readIf_184 rfl ?_
  refine z_iconst dX4_readIf_186 ki_1 ?_
  refine y_cv (mt2 := mX1_append) (en := [(2, r1), (0, x8), (0, x5), (0, 1), (9, 0)]) (st := []) (as := [(0, x8), (0, x5), (0, 1)]) dX4_readIf_187 lX4_181 kX1_append iX1_append eX1_append rfl (nd_0 hr1) (by decide +kernel) (Nat.le_of_ble_eq_true rfl) (Nat.le_of_ble_eq_true rfl) rfl ?_
  exact h
set_option maxRecDepth 20000 in
set_option maxHeartbeats 4000000 in
theorem bX4_readIf_190 {G : zG} {d : Nat} {M : zM} {Q : zV → zM → Prop} (hG : zP G) {r1 x2 x3 x4 x5 x6 x7 x8 : Int} (hr1 : zND r1)
    (h : Y G d mX1_append 0 [(2, r1), (0, x8), (0, x6), (0, 1), (9, 0)] [] M (fun r M' => Y G (d + 1) mX4_readIf 199 [(2, 12), (2, r1), (0, x2), (0, x3), (0, x4), (0, x5), (0, x6), (0, x7), (0, x8)] (zpush r []) M' Q)) :
    Y G (d + 1) mX4_readIf 190 [(2, 12), (2, r1), (0, x2), (0, x3), (0, x4), (0, x5), (0, x6), (0, x7), (0, x8)] [] M Q := by
  refine z_aloadn dX4_readIf_190 rfl (Or.inl rfl) ?_
  refine z_iload dX4_readIf_191 rfl ?_
  refine z_iload dX4_readIf_193 rfl ?_
  refine z_iconst dX4_readIf_195 ki_1 ?_
  refine y_cv (mt2 := mX1_append) (en := [(2, r1), (0, x8), (0, x6), (0, 1), (9, 0)]) (st := []) (as := [(0, x8), (0, x6), (0, 1)]) dX4_readIf_196 lX4_181 kX1_append iX1_append eX1_append rfl (nd_0 hr1) (by decide +kernel) (Nat.le_of_ble_eq_true rfl) (Nat.le_of_ble_eq_true rfl) rfl ?_
  exact h
set_option maxRecDepth 20000 in
set_option maxHeartbeats 4000000 in
theorem bX4_readIf_199 {G : zG} {d : Nat} {M : zM} {Q : zV → zM → Prop} (hG : zP G) {r1 x2 x3 x4 x5 x6 x7 x8 : Int} (hr1 : zND r1)
    (h : Y G d mX1_append 0 [(2, r1), (0, x8), (0, x7), (0, 1), (9, 0)] [] M (fun r M' => Y G (d + 1) mX4_readIf 208 [(2, 12), (2, r1), (0, x2), (0, x3), (0, x4), (0, x5), (0, x6), (0, x7), (0, x8)] (zpush r []) M' Q)) :
    Y G (d + 1) mX4_readIf 199 [(2, 12), (2, r1), (0, x2), (0, x3), (0, x4), (0, x5), (0, x6), (0, x7), (0, x8)] [] M Q := by
  refine z_aloadn dX4_readIf_199 rfl (Or.inl rfl) ?_
  refine z_iload dX4_readIf_200 rfl ?_
  refine z_iload dX4_readIf_202 rfl ?_
  refine z_iconst dX4_readIf_204 ki_1 ?_
  refine y_cv (mt2 := mX1_append) (en := [(2, r1), (0, x8), (0, x7), (0, 1), (9, 0)]) (st := []) (as := [(0, x8), (0, x7), (0, 1)]) dX4_readIf_205 lX4_181 kX1_append iX1_append eX1_append rfl (nd_0 hr1) (by decide +kernel) (Nat.le_of_ble_eq_true rfl) (Nat.le_of_ble_eq_true rfl) rfl ?_
  exact h
set_option maxRecDepth 20000 in
set_option maxHeartbeats 4000000 in
theorem bX4_readIf_208 {G : zG} {d : Nat} {M : zM} {Q : zV → zM → Prop} (hG : zP G) {r1 x2 x3 x4 x5 x6 x7 x8 : Int} (hr1 : zND r1)
    (h : Q (0, x8) M) :
    Y G (d + 1) mX4_readIf 208 [(2, 12), (2, r1), (0, x2), (0, x3), (0, x4), (0, x5), (0, x6), (0, x7), (0, x8)] [] M Q := by
  refine z_iload dX4_readIf_208 rfl ?_
  exact z_ireturn dX4_readIf_210 (Or.inl rfl) rfl h
set_option maxRecDepth 20000 in
set_option maxHeartbeats 4000000 in
theorem bX4_comparisonOf_0 {G : zG} {d : Nat} {M : zM} {Q : zV → zM → Prop} (hG : zP G) {x0 : Int}
    (h : (((x0 = 3) → Q (0, 0) M) ∧ ((x0 = 4) → Q (0, 2) M) ∧ ((x0 = 5) → Q (0, 4) M) ∧ ((x0 = 6) → Q (0, 5) M) ∧ ((x0 = 16) → Q (0, 1) M) ∧ ((x0 = 17) → Q (0, 3) M) ∧ ((x0 < 3 ∨ 17 < x0 ∨ x0 = 7 ∨ x0 = 8 ∨ x0 = 9 ∨ x0 = 10 ∨ x0 = 11 ∨ x0 = 12 ∨ x0 = 13 ∨ x0 = 14 ∨ x0 = 15) → Q (0, (-1)) M))) :
    Y G d mX4_comparisonOf 0 [(0, x0)] [] M Q := by
  refine z_iloadn dX4_comparisonOf_0 rfl ?_
  rcases (show x0 < 3 ∨ 17 < x0 ∨ x0 = 3 ∨ x0 = 4 ∨ x0 = 5 ∨ x0 = 6 ∨ x0 = 7 ∨ x0 = 8 ∨ x0 = 9 ∨ x0 = 10 ∨ x0 = 11 ∨ x0 = 12 ∨ x0 = 13 ∨ x0 = 14 ∨ x0 = 15 ∨ x0 = 16 ∨ x0 = 17 by omega) with q | q | q | q | q | q | q | q | q | q | q | q | q | q | q | q | q
  · replace h := h.2.2.2.2.2.2 (Or.inl q)
    refine z_tswOut (tgt := 88) dX4_comparisonOf_1 (Or.inl q) rfl ?_
    refine z_iconst dX4_comparisonOf_88 ki_m1 ?_
    exact z_ireturn dX4_comparisonOf_89 (Or.inl rfl) rfl h
  · replace h := h.2.2.2.2.2.2 (Or.inr (Or.inl q))
    refine z_tswOut (tgt := 88) dX4_comparisonOf_1 (Or.inr q) rfl ?_
    refine z_iconst dX4_comparisonOf_88 ki_m1 ?_
    exact z_ireturn dX4_comparisonOf_89 (Or.inl rfl) rfl h
  · replace h := h.1 q
    refine y_tsw (tgt := 76) (k := 3) dX4_comparisonOf_1 q (by decide) rfl rfl ?_
    refine z_iconst dX4_comparisonOf_76 ki_0 ?_
    exact z_ireturn dX4_comparisonOf_77 (Or.inl rfl) rfl h
  · replace h := h.2.1 q
    refine y_tsw (tgt := 80) (k := 4) dX4_comparisonOf_1 q (by decide) rfl rfl ?_
    refine z_iconst dX4_comparisonOf_80 ki_2 ?_
    exact z_ireturn dX4_comparisonOf_81 (Or.inl rfl) rfl h
  · replace h := h.2.2.1 q
    refine y_tsw (tgt := 84) (k := 5) dX4_comparisonOf_1 q (by decide) rfl rfl ?_
    refine z_iconst dX4_comparisonOf_84 ki_4 ?_
    exact z_ireturn dX4_comparisonOf_85 (Or.inl rfl) rfl h
  · replace h := h.2.2.2.1 q
    refine y_tsw (tgt := 86) (k := 6) dX4_comparisonOf_1 q (by decide) rfl rfl ?_
    refine z_iconst dX4_comparisonOf_86 ki_5 ?_
    exact z_ireturn dX4_comparisonOf_87 (Or.inl rfl) rfl h
  · replace h := h.2.2.2.2.2.2 (Or.inr (Or.inr (Or.inl q)))
    refine y_tsw (tgt := 88) (k := 7) dX4_comparisonOf_1 q (by decide) rfl rfl ?_
    refine z_iconst dX4_comparisonOf_88 ki_m1 ?_
    exact z_ireturn dX4_comparisonOf_89 (Or.inl rfl) rfl h
  · replace h := h.2.2.2.2.2.2 (Or.inr (Or.inr (Or.inr (Or.inl q))))
    refine y_tsw (tgt := 88) (k := 8) dX4_comparisonOf_1 q (by decide) rfl rfl ?_
    refine z_iconst dX4_comparisonOf_88 ki_m1 ?_
    exact z_ireturn dX4_comparisonOf_89 (Or.inl rfl) rfl h
  · replace h := h.2.2.2.2.2.2 (Or.inr (Or.inr (Or.inr (Or.inr (Or.inl q)))))
    refine y_tsw (tgt := 88) (k := 9) dX4_comparisonOf_1 q (by decide) rfl rfl ?_
    refine z_iconst dX4_comparisonOf_88 ki_m1 ?_
    exact z_ireturn dX4_comparisonOf_89 (Or.inl rfl) rfl h
  · replace h := h.2.2.2.2.2.2 (Or.inr (Or.inr (Or.inr (Or.inr (Or.inr (Or.inl q))))))
    refine y_tsw (tgt := 88) (k := 10) dX4_comparisonOf_1 q (by decide) rfl rfl ?_
    refine z_iconst dX4_comparisonOf_88 ki_m1 ?_
    exact z_ireturn dX4_comparisonOf_89 (Or.inl rfl) rfl h
  · replace h := h.2.2.2.2.2.2 (Or.inr (Or.inr (Or.inr (Or.inr (Or.inr (Or.inr (Or.inl q)))))))
    refine y_tsw (tgt := 88) (k := 11) dX4_comparisonOf_1 q (by decide) rfl rfl ?_
    refine z_iconst dX4_comparisonOf_88 ki_m1 ?_
    exact z_ireturn dX4_comparisonOf_89 (Or.inl rfl) rfl h
  · replace h := h.2.2.2.2.2.2 (Or.inr (Or.inr (Or.inr (Or.inr (Or.inr (Or.inr (Or.inr (Or.inl q))))))))
    refine y_tsw (tgt := 88) (k := 12) dX4_comparisonOf_1 q (by decide) rfl rfl ?_
    refine z_iconst dX4_comparisonOf_88 ki_m1 ?_
    exact z_ireturn dX4_comparisonOf_89 (Or.inl rfl) rfl h
  · replace h := h.2.2.2.2.2.2 (Or.inr (Or.inr (Or.inr (Or.inr (Or.inr (Or.inr (Or.inr (Or.inr (Or.inl q)))))))))
    refine y_tsw (tgt := 88) (k := 13) dX4_comparisonOf_1 q (by decide) rfl rfl ?_
    refine z_iconst dX4_comparisonOf_88 ki_m1 ?_
    exact z_ireturn dX4_comparisonOf_89 (Or.inl rfl) rfl h
  · replace h := h.2.2.2.2.2.2 (Or.inr (Or.inr (Or.inr (Or.inr (Or.inr (Or.inr (Or.inr (Or.inr (Or.inr (Or.inl q))))))))))
    refine y_tsw (tgt := 88) (k := 14) dX4_comparisonOf_1 q (by decide) rfl rfl ?_
    refine z_iconst dX4_comparisonOf_88 ki_m1 ?_
    exact z_ireturn dX4_comparisonOf_89 (Or.inl rfl) rfl h
  · replace h := h.2.2.2.2.2.2 (Or.inr (Or.inr (Or.inr (Or.inr (Or.inr (Or.inr (Or.inr (Or.inr (Or.inr (Or.inr q))))))))))
    refine y_tsw (tgt := 88) (k := 15) dX4_comparisonOf_1 q (by decide) rfl rfl ?_
    refine z_iconst dX4_comparisonOf_88 ki_m1 ?_
    exact z_ireturn dX4_comparisonOf_89 (Or.inl rfl) rfl h
  · replace h := h.2.2.2.2.1 q
    refine y_tsw (tgt := 78) (k := 16) dX4_comparisonOf_1 q (by decide) rfl rfl ?_
    refine z_iconst dX4_comparisonOf_78 ki_1 ?_
    exact z_ireturn dX4_comparisonOf_79 (Or.inl rfl) rfl h
  · replace h := h.2.2.2.2.2.1 q
    refine y_tsw (tgt := 82) (k := 17) dX4_comparisonOf_1 q (by decide) rfl rfl ?_
    refine z_iconst dX4_comparisonOf_82 ki_3 ?_
    exact z_ireturn dX4_comparisonOf_83 (Or.inl rfl) rfl h
set_option maxRecDepth 20000 in
set_option maxHeartbeats 4000000 in
theorem bX4_readScript_0 {G : zG} {d : Nat} {M : zM} {Q : zV → zM → Prop} (hG : zP G) {r1 : Int} (hr1 : zSC r1)
    (h : Y G d mX7_empty 0 [(2, r1)] [] (zset (zset (zset M 12 1 1) 12 2 0) 12 3 (-1)) (fun r M' => Y G (d + 1) mX4_readScript 25 [(2, 12), (2, r1), (9, 0), (9, 0)] (zpush r []) M' Q)) :
    Y G (d + 1) mX4_readScript 0 [(2, 12), (2, r1), (9, 0), (9, 0)] [] M Q := by
  refine z_aloadn dX4_readScript_0 rfl (Or.inl rfl) ?_
  refine z_ifnonnull (tgt := 6) dX4_readScript_1 rfl (fun _ => ?_) (fun q => absurd q (by have := sc_pos hr1; omega))
  refine z_aloadn dX4_readScript_6 rfl (Or.inl rfl) ?_
  refine z_iconst dX4_readScript_7 ki_1 ?_
  refine y_putf (M' := zset M 12 1 1) hG dX4_readScript_8 fX4_18 sh12 (by decide) ⟨rfl, rfl⟩ p4_1 (fun _ => ⟨by decide, by decide⟩) (by decide) rfl ?_
  refine z_aloadn dX4_readScript_11 rfl (Or.inl rfl) ?_
  refine z_iconst dX4_readScript_12 ki_0 ?_
  refine y_putf (M' := zset (zset M 12 1 1) 12 2 0) hG dX4_readScript_13 fX4_22 sh12 (by decide) ⟨rfl, rfl⟩ p4_2 (fun q => absurd q (by decide)) (by decide) rfl ?_
  refine z_aloadn dX4_readScript_16 rfl (Or.inl rfl) ?_
  refine z_iconst dX4_readScript_17 ki_m1 ?_
  refine y_putf (M' := zset (zset (zset M 12 1 1) 12 2 0) 12 3 (-1)) hG dX4_readScript_18 fX4_26 sh12 (by decide) ⟨rfl, rfl⟩ p4_3 (fun q => absurd q (by decide)) (by decide) rfl ?_
  refine z_aloadn dX4_readScript_21 rfl (Or.inl rfl) ?_
  refine y_cv (mt2 := mX7_empty) (en := [(2, r1)]) (st := []) (as := []) dX4_readScript_22 lX4_29 kX7_empty iX7_empty eX7_empty rfl (sc_0 hr1) (by decide +kernel) (Nat.le_of_ble_eq_true rfl) (Nat.le_of_ble_eq_true rfl) rfl ?_
  exact h
set_option maxRecDepth 20000 in
set_option maxHeartbeats 4000000 in
theorem bX4_readScript_34 {G : zG} {d : Nat} {M : zM} {Q : zV → zM → Prop} (hG : zP G) {r1 x2 : Int} (hr1 : zSC r1)
    (h : ((24 < x2 → Q (0, 1) M) ∧ (x2 ≤ 24 → (((M 13 7) = 0 → Q (0, 1) M) ∧ (¬ (M 13 7) = 0 → Y G d mX4_beginClause 0 [(2, 12), (2, r1)] [] M (fun r M' => Y G (d + 1) mX4_readScript 63 [(2, 12), (2, r1), (0, x2), (0, (M 13 7))] (zpush r []) M' Q)))))) :
    Y G (d + 1) mX4_readScript 34 [(2, 12), (2, r1), (0, x2), (9, 0)] [] M Q := by
  refine z_iloadn dX4_readScript_34 rfl ?_
  refine z_bipush dX4_readScript_35 kb_24 ?_
  refine z_icmpgt (tgt := 102) dX4_readScript_37 rfl (fun q => ?_) (fun q => ?_)
  · replace h := h.1 q
    refine z_iconst dX4_readScript_102 ki_1 ?_
    exact z_ireturn dX4_readScript_103 (Or.inr ⟨rfl, ⟨by decide, by decide⟩⟩) rfl h
  · replace h := h.2 q
    refine z_aloadn dX4_readScript_40 rfl (Or.inl rfl) ?_
    refine y_getr (v := 13) hG dX4_readScript_41 fX4_12 sh12 (by decide) rfl (by decide +kernel) (by decide) ?_
    refine y_getf (x := (M 13 7)) dX4_readScript_44 fX4_37 sh13 (by decide) rfl rfl ?_
    refine z_ifeq (tgt := 102) dX4_readScript_47 rfl (fun q => ?_) (fun q => ?_)
    · replace h := h.1 q
      refine z_iconst dX4_readScript_102 ki_1 ?_
      exact z_ireturn dX4_readScript_103 (Or.inr ⟨rfl, ⟨by decide, by decide⟩⟩) rfl h
    · replace h := h.2 q
      refine z_aloadn dX4_readScript_50 rfl (Or.inl rfl) ?_
      refine y_getr (v := 13) hG dX4_readScript_51 fX4_12 sh12 (by decide) rfl (by decide +kernel) (by decide) ?_
      refine y_getf (x := (M 13 7)) dX4_readScript_54 fX4_37 sh13 (by decide) rfl rfl ?_
      refine y_istoren (ls' := [(2, 12), (2, r1), (0, x2), (0, (M 13 7))]) dX4_readScript_57 rfl rfl ?_
      refine z_aloadn dX4_readScript_58 rfl (Or.inl rfl) ?_
      refine z_aloadn dX4_readScript_59 rfl (Or.inl rfl) ?_
      refine y_cv (mt2 := mX4_beginClause) (en := [(2, 12), (2, r1)]) (st := []) (as := [(2, r1)]) dX4_readScript_60 lX4_40 kX4_beginClause iX4_beginClause eX4_beginClause rfl sh12 (by decide +kernel) (Nat.le_of_ble_eq_true rfl) (Nat.le_of_ble_eq_true rfl) rfl ?_
      exact h
set_option maxRecDepth 20000 in
set_option maxHeartbeats 4000000 in
theorem bX4_readScript_25 {G : zG} {d : Nat} {M : zM} {Q : zV → zM → Prop} (hG : zP G) {r1 : Int} (hr1 : zSC r1)
    (h : Y G d mX8_split 0 [(2, 13), (9, 0), (9, 0), (9, 0)] [] M (fun r M' => Y G (d + 1) mX4_readScript 32 [(2, 12), (2, r1), (9, 0), (9, 0)] (zpush r []) M' Q)) :
    Y G (d + 1) mX4_readScript 25 [(2, 12), (2, r1), (9, 0), (9, 0)] [] M Q := by
  refine z_aloadn dX4_readScript_25 rfl (Or.inl rfl) ?_
  refine y_getr (v := 13) hG dX4_readScript_26 fX4_12 sh12 (by decide) rfl (by decide +kernel) (by decide) ?_
  refine y_cv (mt2 := mX8_split) (en := [(2, 13), (9, 0), (9, 0), (9, 0)]) (st := []) (as := []) dX4_readScript_29 lX4_34 kX8_split iX8_split eX8_split rfl sh13 (by decide +kernel) (Nat.le_of_ble_eq_true rfl) (Nat.le_of_ble_eq_true rfl) rfl ?_
  exact h
set_option maxRecDepth 20000 in
set_option maxHeartbeats 4000000 in
theorem bX4_readScript_63 {G : zG} {d : Nat} {M : zM} {Q : zV → zM → Prop} (hG : zP G) {r1 x2 x3 x49 : Int} (hr1 : zSC r1)
    (h : ((x49 = 0 → Q (0, 0) M) ∧ (¬ x49 = 0 → Y G d mX4_readRest 0 [(2, 12), (2, r1), (0, x3)] [] M (fun r M' => Y G (d + 1) mX4_readScript 72 [(2, 12), (2, r1), (0, x2), (0, x3)] (zpush r []) M' Q)))) :
    Y G (d + 1) mX4_readScript 63 [(2, 12), (2, r1), (0, x2), (0, x3)] [(0, x49)] M Q := by
  refine z_ifeq (tgt := 84) dX4_readScript_63 rfl (fun q => ?_) (fun q => ?_)
  · replace h := h.1 q
    refine z_iconst dX4_readScript_84 ki_0 ?_
    exact z_ireturn dX4_readScript_85 (Or.inr ⟨rfl, ⟨by decide, by decide⟩⟩) rfl h
  · replace h := h.2 q
    refine z_aloadn dX4_readScript_66 rfl (Or.inl rfl) ?_
    refine z_aloadn dX4_readScript_67 rfl (Or.inl rfl) ?_
    refine z_iloadn dX4_readScript_68 rfl ?_
    refine y_cv (mt2 := mX4_readRest) (en := [(2, 12), (2, r1), (0, x3)]) (st := []) (as := [(2, r1), (0, x3)]) dX4_readScript_69 lX4_44 kX4_readRest iX4_readRest eX4_readRest rfl sh12 (by decide +kernel) (Nat.le_of_ble_eq_true rfl) (Nat.le_of_ble_eq_true rfl) rfl ?_
    exact h
set_option maxRecDepth 20000 in
set_option maxHeartbeats 4000000 in
theorem bX4_readScript_32 {G : zG} {d : Nat} {M : zM} {Q : zV → zM → Prop} (hG : zP G) {r1 : Int} (hr1 : zSC r1)
    (h : Y G (d + 1) mX4_readScript 34 [(2, 12), (2, r1), (0, 0), (9, 0)] [] M Q) :
    Y G (d + 1) mX4_readScript 32 [(2, 12), (2, r1), (9, 0), (9, 0)] [] M Q := by
  refine z_iconst dX4_readScript_32 ki_0 ?_
  refine y_istoren (ls' := [(2, 12), (2, r1), (0, 0), (9, 0)]) dX4_readScript_33 rfl rfl ?_
  exact h
set_option maxRecDepth 20000 in
set_option maxHeartbeats 4000000 in
theorem bX4_readScript_72 {G : zG} {d : Nat} {M : zM} {Q : zV → zM → Prop} (hG : zP G) {r1 x2 x3 x49 : Int} (hr1 : zSC r1)
    (h : ((x49 = 0 → Q (0, 0) M) ∧ (¬ x49 = 0 → Y G d mX4_expect 0 [(2, 12), (0, 13)] [] M (fun r M' => Y G (d + 1) mX4_readScript 81 [(2, 12), (2, r1), (0, x2), (0, x3)] (zpush r []) M' Q)))) :
    Y G (d + 1) mX4_readScript 72 [(2, 12), (2, r1), (0, x2), (0, x3)] [(0, x49)] M Q := by
  refine z_ifeq (tgt := 84) dX4_readScript_72 rfl (fun q => ?_) (fun q => ?_)
  · replace h := h.1 q
    refine z_iconst dX4_readScript_84 ki_0 ?_
    exact z_ireturn dX4_readScript_85 (Or.inr ⟨rfl, ⟨by decide, by decide⟩⟩) rfl h
  · replace h := h.2 q
    refine z_aloadn dX4_readScript_75 rfl (Or.inl rfl) ?_
    refine z_bipush dX4_readScript_76 kb_13 ?_
    refine y_cv (mt2 := mX4_expect) (en := [(2, 12), (0, 13)]) (st := []) (as := [(0, 13)]) dX4_readScript_78 lX4_48 kX4_expect iX4_expect eX4_expect rfl sh12 (by decide +kernel) (Nat.le_of_ble_eq_true rfl) (Nat.le_of_ble_eq_true rfl) rfl ?_
    exact h
set_option maxRecDepth 20000 in
set_option maxHeartbeats 4000000 in
theorem bX4_readScript_81 {G : zG} {d : Nat} {M : zM} {Q : zV → zM → Prop} (hG : zP G) {r1 x2 x3 x49 : Int} (hr1 : zSC r1)
    (h : ((¬ x49 = 0 → (-2147483648 ≤ (M r1 3) + 1 ∧ (M r1 3) + 1 ≤ 2147483647) ∧ (-2147483648 ≤ x2 + 1 ∧ x2 + 1 ≤ 2147483647) ∧ Y G (d + 1) mX4_readScript 34 [(2, 12), (2, r1), (0, (x2 + 1)), (9, 0)] [] (zset M r1 3 ((M r1 3) + 1)) Q) ∧ (x49 = 0 → Q (0, 0) M))) :
    Y G (d + 1) mX4_readScript 81 [(2, 12), (2, r1), (0, x2), (0, x3)] [(0, x49)] M Q := by
  refine z_ifne (tgt := 86) dX4_readScript_81 rfl (fun q => ?_) (fun q => ?_)
  · replace h := h.1 q
    refine z_aloadn dX4_readScript_86 rfl (Or.inl rfl) ?_
    refine z_dup dX4_readScript_87 (show (2 : Nat) ≠ 1 by decide) ?_
    refine y_getf (x := (M r1 3)) dX4_readScript_88 fX4_52 (sc_0 hr1) (by decide) rfl rfl ?_
    refine z_iconst dX4_readScript_91 ki_1 ?_
    obtain ⟨q1, h⟩ := h
    refine z_iadd dX4_readScript_92 q1 ?_
    refine y_putf (M' := zset M r1 3 ((M r1 3) + 1)) hG dX4_readScript_93 fX4_52 (sc_0 hr1) (by decide) ⟨rfl, rfl⟩ p7_3 (fun q => absurd q (by decide)) (by decide) rfl ?_
    obtain ⟨q2, h⟩ := h
    refine y_iinc (ls' := [(2, 12), (2, r1), (0, (x2 + 1)), (0, x3)]) dX4_readScript_96 rfl rfl q2 rfl ?_
    refine z_goto (tgt := 34) dX4_readScript_99 rfl ?_
    refine z_sub (ls' := [(2, 12), (2, r1), (0, (x2 + 1)), (9, 0)]) ⟨Or.inl rfl, Or.inl rfl, Or.inl rfl, Or.inr rfl, trivial⟩ ?_
    exact h
  · replace h := h.2 q
    refine z_iconst dX4_readScript_84 ki_0 ?_
    exact z_ireturn dX4_readScript_85 (Or.inr ⟨rfl, ⟨by decide, by decide⟩⟩) rfl h
set_option maxRecDepth 20000 in
set_option maxHeartbeats 4000000 in
theorem bX4_fail_0 {G : zG} {d : Nat} {M : zM} {Q : zV → zM → Prop} (hG : zP G) {x1 : Int}
    (h : Q (0, (-1)) (zset (zset M 12 2 x1) 12 3 (M 13 8))) :
    Y G d mX4_fail 0 [(2, 12), (0, x1)] [] M Q := by
  refine z_aloadn dX4_fail_0 rfl (Or.inl rfl) ?_
  refine z_iloadn dX4_fail_1 rfl ?_
  refine y_putf (M' := zset M 12 2 x1) hG dX4_fail_2 fX4_22 sh12 (by decide) ⟨rfl, rfl⟩ p4_2 (fun q => absurd q (by decide)) (by decide) rfl ?_
  refine z_aloadn dX4_fail_5 rfl (Or.inl rfl) ?_
  refine z_aloadn dX4_fail_6 rfl (Or.inl rfl) ?_
  refine y_getr (v := 13) hG dX4_fail_7 fX4_12 sh12 (by decide) rfl (by decide +kernel) (by decide) ?_
  refine y_getf (x := (M 13 8)) dX4_fail_10 fX4_55 sh13 (by decide) rfl (zset_ne (fun q => absurd q.1 (by decide))) ?_
  refine y_putf (M' := zset (zset M 12 2 x1) 12 3 (M 13 8)) hG dX4_fail_13 fX4_26 sh12 (by decide) ⟨rfl, rfl⟩ p4_3 (fun q => absurd q (by decide)) (by decide) rfl ?_
  refine z_iconst dX4_fail_16 ki_m1 ?_
  exact z_ireturn dX4_fail_17 (Or.inl rfl) rfl h
set_option maxRecDepth 20000 in
set_option maxHeartbeats 4000000 in
theorem bX4_beginClause_0 {G : zG} {d : Nat} {M : zM} {Q : zV → zM → Prop} (hG : zP G) {r1 : Int} (hr1 : zSC r1)
    (h : ((20 ≤ (M 13 7) ∧ (M 13 7) ≤ 28 → (((M r1 3) < 24 → Y G d mX7_beginClause 0 [(2, r1), (0, (M 13 7)), (9, 0)] [] M (fun r M' => Y G (d + 1) mX4_beginClause 67 [(2, 12), (2, r1)] (zpush r []) M' Q)) ∧ (24 ≤ (M r1 3) → Y G d mX4_fail 0 [(2, 12), (0, 5)] [] M (fun r M' => Y G (d + 1) mX4_beginClause 46 [(2, 12), (2, r1)] (zpush r []) M' Q)))) ∧ (¬ (20 ≤ (M 13 7) ∧ (M 13 7) ≤ 28) → Y G d mX4_fail 0 [(2, 12), (0, 1)] [] M (fun r M' => Y G (d + 1) mX4_beginClause 22 [(2, 12), (2, r1)] (zpush r []) M' Q)))) :
    Y G (d + 1) mX4_beginClause 0 [(2, 12), (2, r1)] [] M Q := by
  refine z_aloadn dX4_beginClause_0 rfl (Or.inl rfl) ?_
  refine y_getr (v := 13) hG dX4_beginClause_1 fX4_12 sh12 (by decide) rfl (by decide +kernel) (by decide) ?_
  refine y_getf (x := (M 13 7)) dX4_beginClause_4 fX4_37 sh13 (by decide) rfl rfl ?_
  refine z_bipush dX4_beginClause_7 kb_20 ?_
  refine z_bipush dX4_beginClause_9 kb_28 ?_
  refine y_cs (mt2 := mX11_within) (en := [(0, (M 13 7)), (0, 20), (0, 28)]) (st := []) (as := [(0, (M 13 7)), (0, 20), (0, 28)]) dX4_beginClause_11 lX4_58 kX11_within tX11_within rfl (Nat.le_of_ble_eq_true rfl) (Nat.le_of_ble_eq_true rfl) rfl (s_within hG (fun q => ?_) (fun q => ?_))
  · replace h := h.1 q
    show Y G (d + 1) mX4_beginClause 14 [(2, 12), (2, r1)] [(0, 1)] M Q
    refine z_ifne (tgt := 32) dX4_beginClause_14 rfl (fun _ => ?_) (fun q => absurd q (by decide))
    refine z_aloadn dX4_beginClause_32 rfl (Or.inl rfl) ?_
    refine y_getf (x := (M r1 3)) dX4_beginClause_33 fX4_52 (sc_0 hr1) (by decide) rfl rfl ?_
    refine z_bipush dX4_beginClause_36 kb_24 ?_
    refine z_icmplt (tgt := 56) dX4_beginClause_38 rfl (fun q => ?_) (fun q => ?_)
    · replace h := h.1 q
      refine z_aloadn dX4_beginClause_56 rfl (Or.inl rfl) ?_
      refine z_aloadn dX4_beginClause_57 rfl (Or.inl rfl) ?_
      refine y_getr (v := 13) hG dX4_beginClause_58 fX4_12 sh12 (by decide) rfl (by decide +kernel) (by decide) ?_
      refine y_getf (x := (M 13 7)) dX4_beginClause_61 fX4_37 sh13 (by decide) rfl rfl ?_
      refine y_cv (mt2 := mX7_beginClause) (en := [(2, r1), (0, (M 13 7)), (9, 0)]) (st := []) (as := [(0, (M 13 7))]) dX4_beginClause_64 lX4_66 kX7_beginClause iX7_beginClause eX7_beginClause rfl (sc_0 hr1) (by decide +kernel) (Nat.le_of_ble_eq_true rfl) (Nat.le_of_ble_eq_true rfl) rfl ?_
      exact h
    · replace h := h.2 q
      refine z_aloadn dX4_beginClause_41 rfl (Or.inl rfl) ?_
      refine z_iconst dX4_beginClause_42 ki_5 ?_
      refine y_cv (mt2 := mX4_fail) (en := [(2, 12), (0, 5)]) (st := []) (as := [(0, 5)]) dX4_beginClause_43 lX4_62 kX4_fail iX4_fail eX4_fail rfl sh12 (by decide +kernel) (Nat.le_of_ble_eq_true rfl) (Nat.le_of_ble_eq_true rfl) rfl ?_
      exact h
  · replace h := h.2 q
    show Y G (d + 1) mX4_beginClause 14 [(2, 12), (2, r1)] [(0, 0)] M Q
    refine z_ifne (tgt := 32) dX4_beginClause_14 rfl (fun q => absurd q (by decide)) (fun _ => ?_)
    refine z_aloadn dX4_beginClause_17 rfl (Or.inl rfl) ?_
    refine z_iconst dX4_beginClause_18 ki_1 ?_
    refine y_cv (mt2 := mX4_fail) (en := [(2, 12), (0, 1)]) (st := []) (as := [(0, 1)]) dX4_beginClause_19 lX4_62 kX4_fail iX4_fail eX4_fail rfl sh12 (by decide +kernel) (Nat.le_of_ble_eq_true rfl) (Nat.le_of_ble_eq_true rfl) rfl ?_
    exact h
set_option maxRecDepth 20000 in
set_option maxHeartbeats 4000000 in
theorem bX4_beginClause_67 {G : zG} {d : Nat} {M : zM} {Q : zV → zM → Prop} (hG : zP G) {r1 : Int} (hr1 : zSC r1)
    (h : Y G d mX8_advance 0 [(2, 13)] [] M (fun r M' => Y G (d + 1) mX4_beginClause 74 [(2, 12), (2, r1)] (zpush r []) M' Q)) :
    Y G (d + 1) mX4_beginClause 67 [(2, 12), (2, r1)] [] M Q := by
  refine z_aloadn dX4_beginClause_67 rfl (Or.inl rfl) ?_
  refine y_getr (v := 13) hG dX4_beginClause_68 fX4_12 sh12 (by decide) rfl (by decide +kernel) (by decide) ?_
  refine y_cv (mt2 := mX8_advance) (en := [(2, 13)]) (st := []) (as := []) dX4_beginClause_71 lX4_69 kX8_advance iX8_advance eX8_advance rfl sh13 (by decide +kernel) (Nat.le_of_ble_eq_true rfl) (Nat.le_of_ble_eq_true rfl) rfl ?_
  exact h
set_option maxRecDepth 20000 in
set_option maxHeartbeats 4000000 in
theorem bX4_beginClause_46 {G : zG} {d : Nat} {M : zM} {Q : zV → zM → Prop} (hG : zP G) {r1 x49 : Int} (hr1 : zSC r1)
    (h : ((x49 = (-1) → Q (0, 0) M) ∧ (¬ x49 = (-1) → Q (0, 1) M))) :
    Y G (d + 1) mX4_beginClause 46 [(2, 12), (2, r1)] [(0, x49)] M Q := by
  refine z_iconst dX4_beginClause_46 ki_m1 ?_
  refine z_icmpeq (tgt := 54) dX4_beginClause_47 rfl (fun q => ?_) (fun q => ?_)
  · replace h := h.1 q
    refine z_iconst dX4_beginClause_54 ki_0 ?_
    exact z_ireturn dX4_beginClause_55 (Or.inr ⟨rfl, ⟨by decide, by decide⟩⟩) rfl h
  · replace h := h.2 q
    refine z_iconst dX4_beginClause_50 ki_1 ?_
    refine z_goto (tgt := 55) dX4_beginClause_51 rfl ?_
    exact z_ireturn dX4_beginClause_55 (Or.inr ⟨rfl, ⟨by decide, by decide⟩⟩) rfl h
set_option maxRecDepth 20000 in
set_option maxHeartbeats 4000000 in
theorem bX4_beginClause_22 {G : zG} {d : Nat} {M : zM} {Q : zV → zM → Prop} (hG : zP G) {r1 x49 : Int} (hr1 : zSC r1)
    (h : ((x49 = (-1) → Q (0, 0) M) ∧ (¬ x49 = (-1) → Q (0, 1) M))) :
    Y G (d + 1) mX4_beginClause 22 [(2, 12), (2, r1)] [(0, x49)] M Q := by
  refine z_iconst dX4_beginClause_22 ki_m1 ?_
  refine z_icmpeq (tgt := 30) dX4_beginClause_23 rfl (fun q => ?_) (fun q => ?_)
  · replace h := h.1 q
    refine z_iconst dX4_beginClause_30 ki_0 ?_
    exact z_ireturn dX4_beginClause_31 (Or.inr ⟨rfl, ⟨by decide, by decide⟩⟩) rfl h
  · replace h := h.2 q
    refine z_iconst dX4_beginClause_26 ki_1 ?_
    refine z_goto (tgt := 31) dX4_beginClause_27 rfl ?_
    exact z_ireturn dX4_beginClause_31 (Or.inr ⟨rfl, ⟨by decide, by decide⟩⟩) rfl h
set_option maxRecDepth 20000 in
set_option maxHeartbeats 4000000 in
theorem bX4_beginClause_74 {G : zG} {d : Nat} {M : zM} {Q : zV → zM → Prop} (hG : zP G) {r1 : Int} (hr1 : zSC r1)
    (h : Q (0, 1) M) :
    Y G (d + 1) mX4_beginClause 74 [(2, 12), (2, r1)] [] M Q := by
  refine z_iconst dX4_beginClause_74 ki_1 ?_
  exact z_ireturn dX4_beginClause_75 (Or.inr ⟨rfl, ⟨by decide, by decide⟩⟩) rfl h
set_option maxRecDepth 20000 in
set_option maxHeartbeats 4000000 in
theorem bX4_readRest_0 {G : zG} {d : Nat} {M : zM} {Q : zV → zM → Prop} (hG : zP G) {r1 x2 : Int} (hr1 : zSC r1)
    (h : (((x2 = 20) → Y G d mX4_readQuestion 0 [(2, 12), (2, r1), (9, 0), (9, 0)] [] M (fun r M' => Y G (d + 1) mX4_readRest 53 [(2, 12), (2, r1), (0, x2)] (zpush r []) M' Q)) ∧ ((x2 = 21) → Y G d mX4_readThing 0 [(2, 12), (2, r1)] [] M (fun r M' => Y G (d + 1) mX4_readRest 59 [(2, 12), (2, r1), (0, x2)] (zpush r []) M' Q)) ∧ ((x2 = 22) → Y G d mX4_follow 0 [(2, 12), (2, r1), (4, 1), (9, 0)] [] M (fun r M' => Y G (d + 1) mX4_readRest 87 [(2, 12), (2, r1), (0, x2)] (zpush r []) M' Q)) ∧ ((x2 = 23) → Y G d mX4_follow 0 [(2, 12), (2, r1), (4, 3), (9, 0)] [] M (fun r M' => Y G (d + 1) mX4_readRest 127 [(2, 12), (2, r1), (0, x2)] (zpush r []) M' Q)) ∧ ((x2 = 24) → Y G d mX4_follow 0 [(2, 12), (2, r1), (4, 4), (9, 0)] [] M (fun r M' => Y G (d + 1) mX4_readRest 136 [(2, 12), (2, r1), (0, x2)] (zpush r []) M' Q)) ∧ ((x2 = 25) → Y G d mX4_follow 0 [(2, 12), (2, r1), (4, 5), (9, 0)] [] M (fun r M' => Y G (d + 1) mX4_readRest 145 [(2, 12), (2, r1), (0, x2)] (zpush r []) M' Q)) ∧ ((x2 = 26) → Y G d mX4_follow 0 [(2, 12), (2, r1), (4, 6), (9, 0)] [] M (fun r M' => Y G (d + 1) mX4_readRest 154 [(2, 12), (2, r1), (0, x2)] (zpush r []) M' Q)) ∧ ((x2 = 27) → Y G d mX4_follow 0 [(2, 12), (2, r1), (4, 7), (9, 0)] [] M (fun r M' => Y G (d + 1) mX4_readRest 163 [(2, 12), (2, r1), (0, x2)] (zpush r []) M' Q)) ∧ ((x2 < 20 ∨ 27 < x2) → Y G d mX4_follow 0 [(2, 12), (2, r1), (4, 9), (9, 0)] [] M (fun r M' => Y G (d + 1) mX4_readRest 172 [(2, 12), (2, r1), (0, x2)] (zpush r []) M' Q)))) :
    Y G (d + 1) mX4_readRest 0 [(2, 12), (2, r1), (0, x2)] [] M Q := by
  refine z_iloadn dX4_readRest_0 rfl ?_
  rcases (show x2 < 20 ∨ 27 < x2 ∨ x2 = 20 ∨ x2 = 21 ∨ x2 = 22 ∨ x2 = 23 ∨ x2 = 24 ∨ x2 = 25 ∨ x2 = 26 ∨ x2 = 27 by omega) with q | q | q | q | q | q | q | q | q | q
  · replace h := h.2.2.2.2.2.2.2.2 (Or.inl q)
    refine z_tswOut (tgt := 164) dX4_readRest_1 (Or.inl q) rfl ?_
    refine z_aloadn dX4_readRest_164 rfl (Or.inl rfl) ?_
    refine z_aloadn dX4_readRest_165 rfl (Or.inl rfl) ?_
    refine z_getform (j := 8) dX4_readRest_166 (by decide) gsX4_107 ?_
    refine y_cv (mt2 := mX4_follow) (en := [(2, 12), (2, r1), (4, 9), (9, 0)]) (st := []) (as := [(2, r1), (4, 9)]) dX4_readRest_169 lX4_82 kX4_follow iX4_follow eX4_follow rfl sh12 (by decide +kernel) (Nat.le_of_ble_eq_true rfl) (Nat.le_of_ble_eq_true rfl) rfl ?_
    exact h
  · replace h := h.2.2.2.2.2.2.2.2 (Or.inr q)
    refine z_tswOut (tgt := 164) dX4_readRest_1 (Or.inr q) rfl ?_
    refine z_aloadn dX4_readRest_164 rfl (Or.inl rfl) ?_
    refine z_aloadn dX4_readRest_165 rfl (Or.inl rfl) ?_
    refine z_getform (j := 8) dX4_readRest_166 (by decide) gsX4_107 ?_
    refine y_cv (mt2 := mX4_follow) (en := [(2, 12), (2, r1), (4, 9), (9, 0)]) (st := []) (as := [(2, r1), (4, 9)]) dX4_readRest_169 lX4_82 kX4_follow iX4_follow eX4_follow rfl sh12 (by decide +kernel) (Nat.le_of_ble_eq_true rfl) (Nat.le_of_ble_eq_true rfl) rfl ?_
    exact h
  · replace h := h.1 q
    refine y_tsw (tgt := 48) (k := 20) dX4_readRest_1 q (by decide) rfl rfl ?_
    refine z_aloadn dX4_readRest_48 rfl (Or.inl rfl) ?_
    refine z_aloadn dX4_readRest_49 rfl (Or.inl rfl) ?_
    refine y_cv (mt2 := mX4_readQuestion) (en := [(2, 12), (2, r1), (9, 0), (9, 0)]) (st := []) (as := [(2, r1)]) dX4_readRest_50 lX4_72 kX4_readQuestion iX4_readQuestion eX4_readQuestion rfl sh12 (by decide +kernel) (Nat.le_of_ble_eq_true rfl) (Nat.le_of_ble_eq_true rfl) rfl ?_
    exact h
  · replace h := h.2.1 q
    refine y_tsw (tgt := 54) (k := 21) dX4_readRest_1 q (by decide) rfl rfl ?_
    refine z_aloadn dX4_readRest_54 rfl (Or.inl rfl) ?_
    refine z_aloadn dX4_readRest_55 rfl (Or.inl rfl) ?_
    refine y_cv (mt2 := mX4_readThing) (en := [(2, 12), (2, r1)]) (st := []) (as := [(2, r1)]) dX4_readRest_56 lX4_75 kX4_readThing iX4_readThing eX4_readThing rfl sh12 (by decide +kernel) (Nat.le_of_ble_eq_true rfl) (Nat.le_of_ble_eq_true rfl) rfl ?_
    exact h
  · replace h := h.2.2.1 q
    refine y_tsw (tgt := 79) (k := 22) dX4_readRest_1 q (by decide) rfl rfl ?_
    refine z_aloadn dX4_readRest_79 rfl (Or.inl rfl) ?_
    refine z_aloadn dX4_readRest_80 rfl (Or.inl rfl) ?_
    refine z_getform (j := 0) dX4_readRest_81 (by decide) gsX4_86 ?_
    refine y_cv (mt2 := mX4_follow) (en := [(2, 12), (2, r1), (4, 1), (9, 0)]) (st := []) (as := [(2, r1), (4, 1)]) dX4_readRest_84 lX4_82 kX4_follow iX4_follow eX4_follow rfl sh12 (by decide +kernel) (Nat.le_of_ble_eq_true rfl) (Nat.le_of_ble_eq_true rfl) rfl ?_
    exact h
  · replace h := h.2.2.2.1 q
    refine y_tsw (tgt := 119) (k := 23) dX4_readRest_1 q (by decide) rfl rfl ?_
    refine z_aloadn dX4_readRest_119 rfl (Or.inl rfl) ?_
    refine z_aloadn dX4_readRest_120 rfl (Or.inl rfl) ?_
    refine z_getform (j := 2) dX4_readRest_121 (by decide) gsX4_92 ?_
    refine y_cv (mt2 := mX4_follow) (en := [(2, 12), (2, r1), (4, 3), (9, 0)]) (st := []) (as := [(2, r1), (4, 3)]) dX4_readRest_124 lX4_82 kX4_follow iX4_follow eX4_follow rfl sh12 (by decide +kernel) (Nat.le_of_ble_eq_true rfl) (Nat.le_of_ble_eq_true rfl) rfl ?_
    exact h
  · replace h := h.2.2.2.2.1 q
    refine y_tsw (tgt := 128) (k := 24) dX4_readRest_1 q (by decide) rfl rfl ?_
    refine z_aloadn dX4_readRest_128 rfl (Or.inl rfl) ?_
    refine z_aloadn dX4_readRest_129 rfl (Or.inl rfl) ?_
    refine z_getform (j := 3) dX4_readRest_130 (by decide) gsX4_95 ?_
    refine y_cv (mt2 := mX4_follow) (en := [(2, 12), (2, r1), (4, 4), (9, 0)]) (st := []) (as := [(2, r1), (4, 4)]) dX4_readRest_133 lX4_82 kX4_follow iX4_follow eX4_follow rfl sh12 (by decide +kernel) (Nat.le_of_ble_eq_true rfl) (Nat.le_of_ble_eq_true rfl) rfl ?_
    exact h
  · replace h := h.2.2.2.2.2.1 q
    refine y_tsw (tgt := 137) (k := 25) dX4_readRest_1 q (by decide) rfl rfl ?_
    refine z_aloadn dX4_readRest_137 rfl (Or.inl rfl) ?_
    refine z_aloadn dX4_readRest_138 rfl (Or.inl rfl) ?_
    refine z_getform (j := 4) dX4_readRest_139 (by decide) gsX4_98 ?_
    refine y_cv (mt2 := mX4_follow) (en := [(2, 12), (2, r1), (4, 5), (9, 0)]) (st := []) (as := [(2, r1), (4, 5)]) dX4_readRest_142 lX4_82 kX4_follow iX4_follow eX4_follow rfl sh12 (by decide +kernel) (Nat.le_of_ble_eq_true rfl) (Nat.le_of_ble_eq_true rfl) rfl ?_
    exact h
  · replace h := h.2.2.2.2.2.2.1 q
    refine y_tsw (tgt := 146) (k := 26) dX4_readRest_1 q (by decide) rfl rfl ?_
    refine z_aloadn dX4_readRest_146 rfl (Or.inl rfl) ?_
    refine z_aloadn dX4_readRest_147 rfl (Or.inl rfl) ?_
    refine z_getform (j := 5) dX4_readRest_148 (by decide) gsX4_101 ?_
    refine y_cv (mt2 := mX4_follow) (en := [(2, 12), (2, r1), (4, 6), (9, 0)]) (st := []) (as := [(2, r1), (4, 6)]) dX4_readRest_151 lX4_82 kX4_follow iX4_follow eX4_follow rfl sh12 (by decide +kernel) (Nat.le_of_ble_eq_true rfl) (Nat.le_of_ble_eq_true rfl) rfl ?_
    exact h
  · replace h := h.2.2.2.2.2.2.2.1 q
    refine y_tsw (tgt := 155) (k := 27) dX4_readRest_1 q (by decide) rfl rfl ?_
    refine z_aloadn dX4_readRest_155 rfl (Or.inl rfl) ?_
    refine z_aloadn dX4_readRest_156 rfl (Or.inl rfl) ?_
    refine z_getform (j := 6) dX4_readRest_157 (by decide) gsX4_104 ?_
    refine y_cv (mt2 := mX4_follow) (en := [(2, 12), (2, r1), (4, 7), (9, 0)]) (st := []) (as := [(2, r1), (4, 7)]) dX4_readRest_160 lX4_82 kX4_follow iX4_follow eX4_follow rfl sh12 (by decide +kernel) (Nat.le_of_ble_eq_true rfl) (Nat.le_of_ble_eq_true rfl) rfl ?_
    exact h
set_option maxRecDepth 20000 in
set_option maxHeartbeats 4000000 in
theorem bX4_readRest_53 {G : zG} {d : Nat} {M : zM} {Q : zV → zM → Prop} (hG : zP G) {r1 x2 x49 : Int} (hr1 : zSC r1)
    (h : (0 ≤ x49 ∧ x49 ≤ 1) ∧ Q (0, x49) M) :
    Y G (d + 1) mX4_readRest 53 [(2, 12), (2, r1), (0, x2)] [(0, x49)] M Q := by
  obtain ⟨q1, h⟩ := h
  exact z_ireturn dX4_readRest_53 (Or.inr ⟨rfl, q1⟩) rfl h
set_option maxRecDepth 20000 in
set_option maxHeartbeats 4000000 in
theorem bX4_readRest_59 {G : zG} {d : Nat} {M : zM} {Q : zV → zM → Prop} (hG : zP G) {r1 x2 x49 : Int} (hr1 : zSC r1)
    (h : ((x49 = 0 → Q (0, 0) M) ∧ (¬ x49 = 0 → Y G d mX4_follow 0 [(2, 12), (2, r1), (4, 8), (9, 0)] [] M (fun r M' => Y G (d + 1) mX4_readRest 70 [(2, 12), (2, r1), (0, x2)] (zpush r []) M' Q)))) :
    Y G (d + 1) mX4_readRest 59 [(2, 12), (2, r1), (0, x2)] [(0, x49)] M Q := by
  refine z_ifeq (tgt := 77) dX4_readRest_59 rfl (fun q => ?_) (fun q => ?_)
  · replace h := h.1 q
    refine z_iconst dX4_readRest_77 ki_0 ?_
    exact z_ireturn dX4_readRest_78 (Or.inr ⟨rfl, ⟨by decide, by decide⟩⟩) rfl h
  · replace h := h.2 q
    refine z_aloadn dX4_readRest_62 rfl (Or.inl rfl) ?_
    refine z_aloadn dX4_readRest_63 rfl (Or.inl rfl) ?_
    refine z_getform (j := 7) dX4_readRest_64 (by decide) gsX4_78 ?_
    refine y_cv (mt2 := mX4_follow) (en := [(2, 12), (2, r1), (4, 8), (9, 0)]) (st := []) (as := [(2, r1), (4, 8)]) dX4_readRest_67 lX4_82 kX4_follow iX4_follow eX4_follow rfl sh12 (by decide +kernel) (Nat.le_of_ble_eq_true rfl) (Nat.le_of_ble_eq_true rfl) rfl ?_
    exact h
set_option maxRecDepth 20000 in
set_option maxHeartbeats 4000000 in
theorem bX4_readRest_87 {G : zG} {d : Nat} {M : zM} {Q : zV → zM → Prop} (hG : zP G) {r1 x2 x49 : Int} (hr1 : zSC r1)
    (h : ((x49 = 0 → Q (0, 0) M) ∧ (¬ x49 = 0 → ((¬ (M 13 7) = 30 → Q (0, 1) M) ∧ ((M 13 7) = 30 → Y G d mX4_follow 0 [(2, 12), (2, r1), (4, 2), (9, 0)] [] M (fun r M' => Y G (d + 1) mX4_readRest 110 [(2, 12), (2, r1), (0, x2)] (zpush r []) M' Q)))))) :
    Y G (d + 1) mX4_readRest 87 [(2, 12), (2, r1), (0, x2)] [(0, x49)] M Q := by
  refine z_ifeq (tgt := 117) dX4_readRest_87 rfl (fun q => ?_) (fun q => ?_)
  · replace h := h.1 q
    refine z_iconst dX4_readRest_117 ki_0 ?_
    exact z_ireturn dX4_readRest_118 (Or.inr ⟨rfl, ⟨by decide, by decide⟩⟩) rfl h
  · replace h := h.2 q
    refine z_aloadn dX4_readRest_90 rfl (Or.inl rfl) ?_
    refine y_getr (v := 13) hG dX4_readRest_91 fX4_12 sh12 (by decide) rfl (by decide +kernel) (by decide) ?_
    refine y_getf (x := (M 13 7)) dX4_readRest_94 fX4_37 sh13 (by decide) rfl rfl ?_
    refine z_bipush dX4_readRest_97 kb_30 ?_
    refine z_icmpne (tgt := 113) dX4_readRest_99 rfl (fun q => ?_) (fun q => ?_)
    · replace h := h.1 q
      refine z_iconst dX4_readRest_113 ki_1 ?_
      refine z_goto (tgt := 118) dX4_readRest_114 rfl ?_
      exact z_ireturn dX4_readRest_118 (Or.inr ⟨rfl, ⟨by decide, by decide⟩⟩) rfl h
    · replace h := h.2 q
      refine z_aloadn dX4_readRest_102 rfl (Or.inl rfl) ?_
      refine z_aloadn dX4_readRest_103 rfl (Or.inl rfl) ?_
      refine z_getform (j := 1) dX4_readRest_104 (by decide) gsX4_89 ?_
      refine y_cv (mt2 := mX4_follow) (en := [(2, 12), (2, r1), (4, 2), (9, 0)]) (st := []) (as := [(2, r1), (4, 2)]) dX4_readRest_107 lX4_82 kX4_follow iX4_follow eX4_follow rfl sh12 (by decide +kernel) (Nat.le_of_ble_eq_true rfl) (Nat.le_of_ble_eq_true rfl) rfl ?_
      exact h
set_option maxRecDepth 20000 in
set_option maxHeartbeats 4000000 in
theorem bX4_readRest_127 {G : zG} {d : Nat} {M : zM} {Q : zV → zM → Prop} (hG : zP G) {r1 x2 x49 : Int} (hr1 : zSC r1)
    (h : (0 ≤ x49 ∧ x49 ≤ 1) ∧ Q (0, x49) M) :
    Y G (d + 1) mX4_readRest 127 [(2, 12), (2, r1), (0, x2)] [(0, x49)] M Q := by
  obtain ⟨q1, h⟩ := h
  exact z_ireturn dX4_readRest_127 (Or.inr ⟨rfl, q1⟩) rfl h
set_option maxRecDepth 20000 in
set_option maxHeartbeats 4000000 in
theorem bX4_readRest_136 {G : zG} {d : Nat} {M : zM} {Q : zV → zM → Prop} (hG : zP G) {r1 x2 x49 : Int} (hr1 : zSC r1)
    (h : (0 ≤ x49 ∧ x49 ≤ 1) ∧ Q (0, x49) M) :
    Y G (d + 1) mX4_readRest 136 [(2, 12), (2, r1), (0, x2)] [(0, x49)] M Q := by
  obtain ⟨q1, h⟩ := h
  exact z_ireturn dX4_readRest_136 (Or.inr ⟨rfl, q1⟩) rfl h
set_option maxRecDepth 20000 in
set_option maxHeartbeats 4000000 in
theorem bX4_readRest_145 {G : zG} {d : Nat} {M : zM} {Q : zV → zM → Prop} (hG : zP G) {r1 x2 x49 : Int} (hr1 : zSC r1)
    (h : (0 ≤ x49 ∧ x49 ≤ 1) ∧ Q (0, x49) M) :
    Y G (d + 1) mX4_readRest 145 [(2, 12), (2, r1), (0, x2)] [(0, x49)] M Q := by
  obtain ⟨q1, h⟩ := h
  exact z_ireturn dX4_readRest_145 (Or.inr ⟨rfl, q1⟩) rfl h
set_option maxRecDepth 20000 in
set_option maxHeartbeats 4000000 in
theorem bX4_readRest_154 {G : zG} {d : Nat} {M : zM} {Q : zV → zM → Prop} (hG : zP G) {r1 x2 x49 : Int} (hr1 : zSC r1)
    (h : (0 ≤ x49 ∧ x49 ≤ 1) ∧ Q (0, x49) M) :
    Y G (d + 1) mX4_readRest 154 [(2, 12), (2, r1), (0, x2)] [(0, x49)] M Q := by
  obtain ⟨q1, h⟩ := h
  exact z_ireturn dX4_readRest_154 (Or.inr ⟨rfl, q1⟩) rfl h
set_option maxRecDepth 20000 in
set_option maxHeartbeats 4000000 in
theorem bX4_readRest_163 {G : zG} {d : Nat} {M : zM} {Q : zV → zM → Prop} (hG : zP G) {r1 x2 x49 : Int} (hr1 : zSC r1)
    (h : (0 ≤ x49 ∧ x49 ≤ 1) ∧ Q (0, x49) M) :
    Y G (d + 1) mX4_readRest 163 [(2, 12), (2, r1), (0, x2)] [(0, x49)] M Q := by
  obtain ⟨q1, h⟩ := h
  exact z_ireturn dX4_readRest_163 (Or.inr ⟨rfl, q1⟩) rfl h
set_option maxRecDepth 20000 in
set_option maxHeartbeats 4000000 in
theorem bX4_readRest_172 {G : zG} {d : Nat} {M : zM} {Q : zV → zM → Prop} (hG : zP G) {r1 x2 x49 : Int} (hr1 : zSC r1)
    (h : (0 ≤ x49 ∧ x49 ≤ 1) ∧ Q (0, x49) M) :
    Y G (d + 1) mX4_readRest 172 [(2, 12), (2, r1), (0, x2)] [(0, x49)] M Q := by
  obtain ⟨q1, h⟩ := h
  exact z_ireturn dX4_readRest_172 (Or.inr ⟨rfl, q1⟩) rfl h
set_option maxRecDepth 20000 in
set_option maxHeartbeats 4000000 in
theorem bX4_readRest_70 {G : zG} {d : Nat} {M : zM} {Q : zV → zM → Prop} (hG : zP G) {r1 x2 x49 : Int} (hr1 : zSC r1)
    (h : ((x49 = 0 → Q (0, 0) M) ∧ (¬ x49 = 0 → Q (0, 1) M))) :
    Y G (d + 1) mX4_readRest 70 [(2, 12), (2, r1), (0, x2)] [(0, x49)] M Q := by
  refine z_ifeq (tgt := 77) dX4_readRest_70 rfl (fun q => ?_) (fun q => ?_)
  · replace h := h.1 q
    refine z_iconst dX4_readRest_77 ki_0 ?_
    exact z_ireturn dX4_readRest_78 (Or.inr ⟨rfl, ⟨by decide, by decide⟩⟩) rfl h
  · replace h := h.2 q
    refine z_iconst dX4_readRest_73 ki_1 ?_
    refine z_goto (tgt := 78) dX4_readRest_74 rfl ?_
    exact z_ireturn dX4_readRest_78 (Or.inr ⟨rfl, ⟨by decide, by decide⟩⟩) rfl h
set_option maxRecDepth 20000 in
set_option maxHeartbeats 4000000 in
theorem bX4_readRest_110 {G : zG} {d : Nat} {M : zM} {Q : zV → zM → Prop} (hG : zP G) {r1 x2 x49 : Int} (hr1 : zSC r1)
    (h : ((x49 = 0 → Q (0, 0) M) ∧ (¬ x49 = 0 → Q (0, 1) M))) :
    Y G (d + 1) mX4_readRest 110 [(2, 12), (2, r1), (0, x2)] [(0, x49)] M Q := by
  refine z_ifeq (tgt := 117) dX4_readRest_110 rfl (fun q => ?_) (fun q => ?_)
  · replace h := h.1 q
    refine z_iconst dX4_readRest_117 ki_0 ?_
    exact z_ireturn dX4_readRest_118 (Or.inr ⟨rfl, ⟨by decide, by decide⟩⟩) rfl h
  · replace h := h.2 q
    refine z_iconst dX4_readRest_113 ki_1 ?_
    refine z_goto (tgt := 118) dX4_readRest_114 rfl ?_
    exact z_ireturn dX4_readRest_118 (Or.inr ⟨rfl, ⟨by decide, by decide⟩⟩) rfl h
set_option maxRecDepth 20000 in
set_option maxHeartbeats 4000000 in
theorem bX4_expect_0 {G : zG} {d : Nat} {M : zM} {Q : zV → zM → Prop} (hG : zP G) {x1 : Int}
    (h : (((M 13 7) = x1 → Y G d mX8_advance 0 [(2, 13)] [] M (fun r M' => Y G (d + 1) mX4_expect 33 [(2, 12), (0, x1)] (zpush r []) M' Q)) ∧ (¬ (M 13 7) = x1 → Y G d mX4_fail 0 [(2, 12), (0, 1)] [] M (fun r M' => Y G (d + 1) mX4_expect 16 [(2, 12), (0, x1)] (zpush r []) M' Q)))) :
    Y G (d + 1) mX4_expect 0 [(2, 12), (0, x1)] [] M Q := by
  refine z_aloadn dX4_expect_0 rfl (Or.inl rfl) ?_
  refine y_getr (v := 13) hG dX4_expect_1 fX4_12 sh12 (by decide) rfl (by decide +kernel) (by decide) ?_
  refine y_getf (x := (M 13 7)) dX4_expect_4 fX4_37 sh13 (by decide) rfl rfl ?_
  refine z_iloadn dX4_expect_7 rfl ?_
  refine z_icmpeq (tgt := 26) dX4_expect_8 rfl (fun q => ?_) (fun q => ?_)
  · replace h := h.1 q
    refine z_aloadn dX4_expect_26 rfl (Or.inl rfl) ?_
    refine y_getr (v := 13) hG dX4_expect_27 fX4_12 sh12 (by decide) rfl (by decide +kernel) (by decide) ?_
    refine y_cv (mt2 := mX8_advance) (en := [(2, 13)]) (st := []) (as := []) dX4_expect_30 lX4_69 kX8_advance iX8_advance eX8_advance rfl sh13 (by decide +kernel) (Nat.le_of_ble_eq_true rfl) (Nat.le_of_ble_eq_true rfl) rfl ?_
    exact h
  · replace h := h.2 q
    refine z_aloadn dX4_expect_11 rfl (Or.inl rfl) ?_
    refine z_iconst dX4_expect_12 ki_1 ?_
    refine y_cv (mt2 := mX4_fail) (en := [(2, 12), (0, 1)]) (st := []) (as := [(0, 1)]) dX4_expect_13 lX4_62 kX4_fail iX4_fail eX4_fail rfl sh12 (by decide +kernel) (Nat.le_of_ble_eq_true rfl) (Nat.le_of_ble_eq_true rfl) rfl ?_
    exact h
set_option maxRecDepth 20000 in
set_option maxHeartbeats 4000000 in
theorem bX4_expect_33 {G : zG} {d : Nat} {M : zM} {Q : zV → zM → Prop} (hG : zP G) {x1 : Int}
    (h : Q (0, 1) M) :
    Y G (d + 1) mX4_expect 33 [(2, 12), (0, x1)] [] M Q := by
  refine z_iconst dX4_expect_33 ki_1 ?_
  exact z_ireturn dX4_expect_34 (Or.inr ⟨rfl, ⟨by decide, by decide⟩⟩) rfl h
set_option maxRecDepth 20000 in
set_option maxHeartbeats 4000000 in
theorem bX4_expect_16 {G : zG} {d : Nat} {M : zM} {Q : zV → zM → Prop} (hG : zP G) {x1 x49 : Int}
    (h : ((x49 = (-1) → Q (0, 0) M) ∧ (¬ x49 = (-1) → Q (0, 1) M))) :
    Y G (d + 1) mX4_expect 16 [(2, 12), (0, x1)] [(0, x49)] M Q := by
  refine z_iconst dX4_expect_16 ki_m1 ?_
  refine z_icmpeq (tgt := 24) dX4_expect_17 rfl (fun q => ?_) (fun q => ?_)
  · replace h := h.1 q
    refine z_iconst dX4_expect_24 ki_0 ?_
    exact z_ireturn dX4_expect_25 (Or.inr ⟨rfl, ⟨by decide, by decide⟩⟩) rfl h
  · replace h := h.2 q
    refine z_iconst dX4_expect_20 ki_1 ?_
    refine z_goto (tgt := 25) dX4_expect_21 rfl ?_
    exact z_ireturn dX4_expect_25 (Or.inr ⟨rfl, ⟨by decide, by decide⟩⟩) rfl h
set_option maxRecDepth 20000 in
set_option maxHeartbeats 4000000 in
theorem bX4_follow_0 {G : zG} {d : Nat} {M : zM} {Q : zV → zM → Prop} (hG : zP G) {r1 f : Int} (hr1 : zSC r1)
    (h : Y G (d + 1) mX4_follow 2 [(2, 12), (2, r1), (4, f), (0, 0)] [] M Q) :
    Y G (d + 1) mX4_follow 0 [(2, 12), (2, r1), (4, f), (9, 0)] [] M Q := by
  refine z_iconst dX4_follow_0 ki_0 ?_
  refine y_istoren (ls' := [(2, 12), (2, r1), (4, f), (0, 0)]) dX4_follow_1 rfl rfl ?_
  exact h
set_option maxRecDepth 20000 in
set_option maxHeartbeats 4000000 in
theorem bX4_follow_2 {G : zG} {d : Nat} {M : zM} {Q : zV → zM → Prop} (hG : zP G) {r1 f x3 : Int} (hr1 : zSC r1)
    (h : (1 ≤ f ∧ f < 10) ∧ (((zfl f) ≤ x3 → Q (0, 1) M) ∧ (x3 < (zfl f) → (1 ≤ f ∧ f < 10) ∧ (0 ≤ x3 ∧ x3 < zfl f) ∧ (((M 13 7) = (zfm f x3) → (1 ≤ f ∧ f < 10) ∧ (0 ≤ x3 ∧ x3 < zfl f) ∧ ((¬ (zfm f x3) = 2 → Y G d mX8_advance 0 [(2, 13)] [] M (fun r M' => Y G (d + 1) mX4_follow 110 [(2, 12), (2, r1), (4, f), (0, x3)] (zpush r []) M' Q)) ∧ ((zfm f x3) = 2 → (-2147483648 ≤ x3 + 2 ∧ x3 + 2 ≤ 2147483647) ∧ (1 ≤ f ∧ f < 10) ∧ (((zfl f) ≤ (x3 + 2) → Y G d mX8_advance 0 [(2, 13)] [] M (fun r M' => Y G (d + 1) mX4_follow 110 [(2, 12), (2, r1), (4, f), (0, x3)] (zpush r []) M' Q)) ∧ ((x3 + 2) < (zfl f) → (-2147483648 ≤ x3 + 1 ∧ x3 + 1 ≤ 2147483647) ∧ (1 ≤ f ∧ f < 10) ∧ (0 ≤ (x3 + 1) ∧ (x3 + 1) < zfl f) ∧ (-2147483648 ≤ x3 + 2 ∧ x3 + 2 ≤ 2147483647) ∧ (1 ≤ f ∧ f < 10) ∧ (0 ≤ (x3 + 2) ∧ (x3 + 2) < zfl f) ∧ (((zfm f (x3 + 1)) ≤ (M 13 9) ∧ (M 13 9) ≤ (zfm f (x3 + 2)) → Y G d mX7_give 0 [(2, r1), (0, (M 13 9))] [] M (fun r M' => Y G (d + 1) mX4_follow 100 [(2, 12), (2, r1), (4, f), (0, x3)] (zpush r []) M' Q)) ∧ (¬ ((zfm f (x3 + 1)) ≤ (M 13 9) ∧ (M 13 9) ≤ (zfm f (x3 + 2))) → Y G d mX4_fail 0 [(2, 12), (0, 2)] [] M (fun r M' => Y G (d + 1) mX4_follow 79 [(2, 12), (2, r1), (4, f), (0, x3)] (zpush r []) M' Q)))))))) ∧ (¬ (M 13 7) = (zfm f x3) → Y G d mX4_fail 0 [(2, 12), (0, 1)] [] M (fun r M' => Y G (d + 1) mX4_follow 26 [(2, 12), (2, r1), (4, f), (0, x3)] (zpush r []) M' Q)))))) :
    Y G (d + 1) mX4_follow 2 [(2, 12), (2, r1), (4, f), (0, x3)] [] M Q := by
  refine z_iloadn dX4_follow_2 rfl ?_
  refine z_aloadn dX4_follow_3 rfl (Or.inr rfl) ?_
  obtain ⟨q1, h⟩ := h
  refine y_lenf hG dX4_follow_4 q1 ?_
  refine z_icmpge (tgt := 116) dX4_follow_5 rfl (fun q => ?_) (fun q => ?_)
  · replace h := h.1 q
    refine z_iconst dX4_follow_116 ki_1 ?_
    exact z_ireturn dX4_follow_117 (Or.inr ⟨rfl, ⟨by decide, by decide⟩⟩) rfl h
  · replace h := h.2 q
    refine z_aloadn dX4_follow_8 rfl (Or.inl rfl) ?_
    refine y_getr (v := 13) hG dX4_follow_9 fX4_12 sh12 (by decide) rfl (by decide +kernel) (by decide) ?_
    refine y_getf (x := (M 13 7)) dX4_follow_12 fX4_37 sh13 (by decide) rfl rfl ?_
    refine z_aloadn dX4_follow_15 rfl (Or.inr rfl) ?_
    refine z_iloadn dX4_follow_16 rfl ?_
    obtain ⟨q2, h⟩ := h
    obtain ⟨q3, h⟩ := h
    refine y_ialdf hG dX4_follow_17 q2 q3 ?_
    refine z_icmpeq (tgt := 36) dX4_follow_18 rfl (fun q => ?_) (fun q => ?_)
    · replace h := h.1 q
      refine z_aloadn dX4_follow_36 rfl (Or.inr rfl) ?_
      refine z_iloadn dX4_follow_37 rfl ?_
      obtain ⟨q4, h⟩ := h
      obtain ⟨q5, h⟩ := h
      refine y_ialdf hG dX4_follow_38 q4 q5 ?_
      refine z_iconst dX4_follow_39 ki_2 ?_
      refine z_icmpne (tgt := 103) dX4_follow_40 rfl (fun q => ?_) (fun q => ?_)
      · replace h := h.1 q
        refine z_aloadn dX4_follow_103 rfl (Or.inl rfl) ?_
        refine y_getr (v := 13) hG dX4_follow_104 fX4_12 sh12 (by decide) rfl (by decide +kernel) (by decide) ?_
        refine y_cv (mt2 := mX8_advance) (en := [(2, 13)]) (st := []) (as := []) dX4_follow_107 lX4_69 kX8_advance iX8_advance eX8_advance rfl sh13 (by decide +kernel) (Nat.le_of_ble_eq_true rfl) (Nat.le_of_ble_eq_true rfl) rfl ?_
        exact h
      · replace h := h.2 q
        refine z_iloadn dX4_follow_43 rfl ?_
        refine z_iconst dX4_follow_44 ki_2 ?_
        obtain ⟨q6, h⟩ := h
        refine z_iadd dX4_follow_45 q6 ?_
        refine z_aloadn dX4_follow_46 rfl (Or.inr rfl) ?_
        obtain ⟨q7, h⟩ := h
        refine y_lenf hG dX4_follow_47 q7 ?_
        refine z_icmpge (tgt := 103) dX4_follow_48 rfl (fun q => ?_) (fun q => ?_)
        · replace h := h.1 q
          refine z_aloadn dX4_follow_103 rfl (Or.inl rfl) ?_
          refine y_getr (v := 13) hG dX4_follow_104 fX4_12 sh12 (by decide) rfl (by decide +kernel) (by decide) ?_
          refine y_cv (mt2 := mX8_advance) (en := [(2, 13)]) (st := []) (as := []) dX4_follow_107 lX4_69 kX8_advance iX8_advance eX8_advance rfl sh13 (by decide +kernel) (Nat.le_of_ble_eq_true rfl) (Nat.le_of_ble_eq_true rfl) rfl ?_
          exact h
        · replace h := h.2 q
          refine z_aloadn dX4_follow_51 rfl (Or.inl rfl) ?_
          refine y_getr (v := 13) hG dX4_follow_52 fX4_12 sh12 (by decide) rfl (by decide +kernel) (by decide) ?_
          refine y_getf (x := (M 13 9)) dX4_follow_55 fX4_110 sh13 (by decide) rfl rfl ?_
          refine z_aloadn dX4_follow_58 rfl (Or.inr rfl) ?_
          refine z_iloadn dX4_follow_59 rfl ?_
          refine z_iconst dX4_follow_60 ki_1 ?_
          obtain ⟨q8, h⟩ := h
          refine z_iadd dX4_follow_61 q8 ?_
          obtain ⟨q9, h⟩ := h
          obtain ⟨q10, h⟩ := h
          refine y_ialdf hG dX4_follow_62 q9 q10 ?_
          refine z_aloadn dX4_follow_63 rfl (Or.inr rfl) ?_
          refine z_iloadn dX4_follow_64 rfl ?_
          refine z_iconst dX4_follow_65 ki_2 ?_
          obtain ⟨q11, h⟩ := h
          refine z_iadd dX4_follow_66 q11 ?_
          obtain ⟨q12, h⟩ := h
          obtain ⟨q13, h⟩ := h
          refine y_ialdf hG dX4_follow_67 q12 q13 ?_
          refine y_cs (mt2 := mX11_within) (en := [(0, (M 13 9)), (0, (zfm f (x3 + 1))), (0, (zfm f (x3 + 2)))]) (st := []) (as := [(0, (M 13 9)), (0, (zfm f (x3 + 1))), (0, (zfm f (x3 + 2)))]) dX4_follow_68 lX4_58 kX11_within tX11_within rfl (Nat.le_of_ble_eq_true rfl) (Nat.le_of_ble_eq_true rfl) rfl (s_within hG (fun q => ?_) (fun q => ?_))
          · replace h := h.1 q
            show Y G (d + 1) mX4_follow 71 [(2, 12), (2, r1), (4, f), (0, x3)] [(0, 1)] M Q
            refine z_ifne (tgt := 89) dX4_follow_71 rfl (fun _ => ?_) (fun q => absurd q (by decide))
            refine z_aloadn dX4_follow_89 rfl (Or.inl rfl) ?_
            refine z_aloadn dX4_follow_90 rfl (Or.inl rfl) ?_
            refine y_getr (v := 13) hG dX4_follow_91 fX4_12 sh12 (by decide) rfl (by decide +kernel) (by decide) ?_
            refine y_getf (x := (M 13 9)) dX4_follow_94 fX4_110 sh13 (by decide) rfl rfl ?_
            refine y_cv (mt2 := mX7_give) (en := [(2, r1), (0, (M 13 9))]) (st := []) (as := [(0, (M 13 9))]) dX4_follow_97 lX4_113 kX7_give iX7_give eX7_give rfl (sc_0 hr1) (by decide +kernel) (Nat.le_of_ble_eq_true rfl) (Nat.le_of_ble_eq_true rfl) rfl ?_
            exact h
          · replace h := h.2 q
            show Y G (d + 1) mX4_follow 71 [(2, 12), (2, r1), (4, f), (0, x3)] [(0, 0)] M Q
            refine z_ifne (tgt := 89) dX4_follow_71 rfl (fun q => absurd q (by decide)) (fun _ => ?_)
            refine z_aloadn dX4_follow_74 rfl (Or.inl rfl) ?_
            refine z_iconst dX4_follow_75 ki_2 ?_
            refine y_cv (mt2 := mX4_fail) (en := [(2, 12), (0, 2)]) (st := []) (as := [(0, 2)]) dX4_follow_76 lX4_62 kX4_fail iX4_fail eX4_fail rfl sh12 (by decide +kernel) (Nat.le_of_ble_eq_true rfl) (Nat.le_of_ble_eq_true rfl) rfl ?_
            exact h
    · replace h := h.2 q
      refine z_aloadn dX4_follow_21 rfl (Or.inl rfl) ?_
      refine z_iconst dX4_follow_22 ki_1 ?_
      refine y_cv (mt2 := mX4_fail) (en := [(2, 12), (0, 1)]) (st := []) (as := [(0, 1)]) dX4_follow_23 lX4_62 kX4_fail iX4_fail eX4_fail rfl sh12 (by decide +kernel) (Nat.le_of_ble_eq_true rfl) (Nat.le_of_ble_eq_true rfl) rfl ?_
      exact h
set_option maxRecDepth 20000 in
set_option maxHeartbeats 4000000 in
theorem bX4_follow_110 {G : zG} {d : Nat} {M : zM} {Q : zV → zM → Prop} (hG : zP G) {r1 f x3 : Int} (hr1 : zSC r1)
    (h : (-2147483648 ≤ x3 + 1 ∧ x3 + 1 ≤ 2147483647) ∧ Y G (d + 1) mX4_follow 2 [(2, 12), (2, r1), (4, f), (0, (x3 + 1))] [] M Q) :
    Y G (d + 1) mX4_follow 110 [(2, 12), (2, r1), (4, f), (0, x3)] [] M Q := by
  obtain ⟨q1, h⟩ := h
  refine y_iinc (ls' := [(2, 12), (2, r1), (4, f), (0, (x3 + 1))]) dX4_follow_110 rfl rfl q1 rfl ?_
  refine z_goto (tgt := 2) dX4_follow_113 rfl ?_
  exact h
set_option maxRecDepth 20000 in
set_option maxHeartbeats 4000000 in
theorem bX4_follow_100 {G : zG} {d : Nat} {M : zM} {Q : zV → zM → Prop} (hG : zP G) {r1 f x3 : Int} (hr1 : zSC r1)
    (h : (-2147483648 ≤ x3 + 2 ∧ x3 + 2 ≤ 2147483647) ∧ Y G d mX8_advance 0 [(2, 13)] [] M (fun r M' => Y G (d + 1) mX4_follow 110 [(2, 12), (2, r1), (4, f), (0, (x3 + 2))] (zpush r []) M' Q)) :
    Y G (d + 1) mX4_follow 100 [(2, 12), (2, r1), (4, f), (0, x3)] [] M Q := by
  obtain ⟨q1, h⟩ := h
  refine y_iinc (ls' := [(2, 12), (2, r1), (4, f), (0, (x3 + 2))]) dX4_follow_100 rfl rfl q1 rfl ?_
  refine z_aloadn dX4_follow_103 rfl (Or.inl rfl) ?_
  refine y_getr (v := 13) hG dX4_follow_104 fX4_12 sh12 (by decide) rfl (by decide +kernel) (by decide) ?_
  refine y_cv (mt2 := mX8_advance) (en := [(2, 13)]) (st := []) (as := []) dX4_follow_107 lX4_69 kX8_advance iX8_advance eX8_advance rfl sh13 (by decide +kernel) (Nat.le_of_ble_eq_true rfl) (Nat.le_of_ble_eq_true rfl) rfl ?_
  exact h
set_option maxRecDepth 20000 in
set_option maxHeartbeats 4000000 in
theorem bX4_follow_79 {G : zG} {d : Nat} {M : zM} {Q : zV → zM → Prop} (hG : zP G) {r1 f x3 x49 : Int} (hr1 : zSC r1)
    (h : ((x49 = (-1) → Q (0, 0) M) ∧ (¬ x49 = (-1) → Q (0, 1) M))) :
    Y G (d + 1) mX4_follow 79 [(2, 12), (2, r1), (4, f), (0, x3)] [(0, x49)] M Q := by
  refine z_iconst dX4_follow_79 ki_m1 ?_
  refine z_icmpeq (tgt := 87) dX4_follow_80 rfl (fun q => ?_) (fun q => ?_)
  · replace h := h.1 q
    refine z_iconst dX4_follow_87 ki_0 ?_
    exact z_ireturn dX4_follow_88 (Or.inr ⟨rfl, ⟨by decide, by decide⟩⟩) rfl h
  · replace h := h.2 q
    refine z_iconst dX4_follow_83 ki_1 ?_
    refine z_goto (tgt := 88) dX4_follow_84 rfl ?_
    exact z_ireturn dX4_follow_88 (Or.inr ⟨rfl, ⟨by decide, by decide⟩⟩) rfl h
set_option maxRecDepth 20000 in
set_option maxHeartbeats 4000000 in
theorem bX4_follow_26 {G : zG} {d : Nat} {M : zM} {Q : zV → zM → Prop} (hG : zP G) {r1 f x3 x49 : Int} (hr1 : zSC r1)
    (h : ((x49 = (-1) → Q (0, 0) M) ∧ (¬ x49 = (-1) → Q (0, 1) M))) :
    Y G (d + 1) mX4_follow 26 [(2, 12), (2, r1), (4, f), (0, x3)] [(0, x49)] M Q := by
  refine z_iconst dX4_follow_26 ki_m1 ?_
  refine z_icmpeq (tgt := 34) dX4_follow_27 rfl (fun q => ?_) (fun q => ?_)
  · replace h := h.1 q
    refine z_iconst dX4_follow_34 ki_0 ?_
    exact z_ireturn dX4_follow_35 (Or.inr ⟨rfl, ⟨by decide, by decide⟩⟩) rfl h
  · replace h := h.2 q
    refine z_iconst dX4_follow_30 ki_1 ?_
    refine z_goto (tgt := 35) dX4_follow_31 rfl ?_
    exact z_ireturn dX4_follow_35 (Or.inr ⟨rfl, ⟨by decide, by decide⟩⟩) rfl h
set_option maxRecDepth 20000 in
set_option maxHeartbeats 4000000 in
theorem bX4_readThing_0 {G : zG} {d : Nat} {M : zM} {Q : zV → zM → Prop} (hG : zP G) {r1 : Int} (hr1 : zSC r1)
    (h : ((44 ≤ (M 13 7) ∧ (M 13 7) ≤ 47 → (-2147483648 ≤ (M 13 7) - 44 ∧ (M 13 7) - 44 ≤ 2147483647) ∧ Y G d mX7_give 0 [(2, r1), (0, ((M 13 7) - 44))] [] M (fun r M' => Y G (d + 1) mX4_readThing 46 [(2, 12), (2, r1)] (zpush r []) M' Q)) ∧ (¬ (44 ≤ (M 13 7) ∧ (M 13 7) ≤ 47) → Y G d mX4_fail 0 [(2, 12), (0, 1)] [] M (fun r M' => Y G (d + 1) mX4_readThing 22 [(2, 12), (2, r1)] (zpush r []) M' Q)))) :
    Y G (d + 1) mX4_readThing 0 [(2, 12), (2, r1)] [] M Q := by
  refine z_aloadn dX4_readThing_0 rfl (Or.inl rfl) ?_
  refine y_getr (v := 13) hG dX4_readThing_1 fX4_12 sh12 (by decide) rfl (by decide +kernel) (by decide) ?_
  refine y_getf (x := (M 13 7)) dX4_readThing_4 fX4_37 sh13 (by decide) rfl rfl ?_
  refine z_bipush dX4_readThing_7 kb_44 ?_
  refine z_bipush dX4_readThing_9 kb_47 ?_
  refine y_cs (mt2 := mX11_within) (en := [(0, (M 13 7)), (0, 44), (0, 47)]) (st := []) (as := [(0, (M 13 7)), (0, 44), (0, 47)]) dX4_readThing_11 lX4_58 kX11_within tX11_within rfl (Nat.le_of_ble_eq_true rfl) (Nat.le_of_ble_eq_true rfl) rfl (s_within hG (fun q => ?_) (fun q => ?_))
  · replace h := h.1 q
    show Y G (d + 1) mX4_readThing 14 [(2, 12), (2, r1)] [(0, 1)] M Q
    refine z_ifne (tgt := 32) dX4_readThing_14 rfl (fun _ => ?_) (fun q => absurd q (by decide))
    refine z_aloadn dX4_readThing_32 rfl (Or.inl rfl) ?_
    refine z_aloadn dX4_readThing_33 rfl (Or.inl rfl) ?_
    refine y_getr (v := 13) hG dX4_readThing_34 fX4_12 sh12 (by decide) rfl (by decide +kernel) (by decide) ?_
    refine y_getf (x := (M 13 7)) dX4_readThing_37 fX4_37 sh13 (by decide) rfl rfl ?_
    refine z_bipush dX4_readThing_40 kb_44 ?_
    obtain ⟨q1, h⟩ := h
    refine z_isub dX4_readThing_42 q1 ?_
    refine y_cv (mt2 := mX7_give) (en := [(2, r1), (0, ((M 13 7) - 44))]) (st := []) (as := [(0, ((M 13 7) - 44))]) dX4_readThing_43 lX4_113 kX7_give iX7_give eX7_give rfl (sc_0 hr1) (by decide +kernel) (Nat.le_of_ble_eq_true rfl) (Nat.le_of_ble_eq_true rfl) rfl ?_
    exact h
  · replace h := h.2 q
    show Y G (d + 1) mX4_readThing 14 [(2, 12), (2, r1)] [(0, 0)] M Q
    refine z_ifne (tgt := 32) dX4_readThing_14 rfl (fun q => absurd q (by decide)) (fun _ => ?_)
    refine z_aloadn dX4_readThing_17 rfl (Or.inl rfl) ?_
    refine z_iconst dX4_readThing_18 ki_1 ?_
    refine y_cv (mt2 := mX4_fail) (en := [(2, 12), (0, 1)]) (st := []) (as := [(0, 1)]) dX4_readThing_19 lX4_62 kX4_fail iX4_fail eX4_fail rfl sh12 (by decide +kernel) (Nat.le_of_ble_eq_true rfl) (Nat.le_of_ble_eq_true rfl) rfl ?_
    exact h
set_option maxRecDepth 20000 in
set_option maxHeartbeats 4000000 in
theorem bX4_readThing_46 {G : zG} {d : Nat} {M : zM} {Q : zV → zM → Prop} (hG : zP G) {r1 : Int} (hr1 : zSC r1)
    (h : Y G d mX8_advance 0 [(2, 13)] [] M (fun r M' => Y G (d + 1) mX4_readThing 53 [(2, 12), (2, r1)] (zpush r []) M' Q)) :
    Y G (d + 1) mX4_readThing 46 [(2, 12), (2, r1)] [] M Q := by
  refine z_aloadn dX4_readThing_46 rfl (Or.inl rfl) ?_
  refine y_getr (v := 13) hG dX4_readThing_47 fX4_12 sh12 (by decide) rfl (by decide +kernel) (by decide) ?_
  refine y_cv (mt2 := mX8_advance) (en := [(2, 13)]) (st := []) (as := []) dX4_readThing_50 lX4_69 kX8_advance iX8_advance eX8_advance rfl sh13 (by decide +kernel) (Nat.le_of_ble_eq_true rfl) (Nat.le_of_ble_eq_true rfl) rfl ?_
  exact h
set_option maxRecDepth 20000 in
set_option maxHeartbeats 4000000 in
theorem bX4_readThing_22 {G : zG} {d : Nat} {M : zM} {Q : zV → zM → Prop} (hG : zP G) {r1 x49 : Int} (hr1 : zSC r1)
    (h : ((x49 = (-1) → Q (0, 0) M) ∧ (¬ x49 = (-1) → Q (0, 1) M))) :
    Y G (d + 1) mX4_readThing 22 [(2, 12), (2, r1)] [(0, x49)] M Q := by
  refine z_iconst dX4_readThing_22 ki_m1 ?_
  refine z_icmpeq (tgt := 30) dX4_readThing_23 rfl (fun q => ?_) (fun q => ?_)
  · replace h := h.1 q
    refine z_iconst dX4_readThing_30 ki_0 ?_
    exact z_ireturn dX4_readThing_31 (Or.inr ⟨rfl, ⟨by decide, by decide⟩⟩) rfl h
  · replace h := h.2 q
    refine z_iconst dX4_readThing_26 ki_1 ?_
    refine z_goto (tgt := 31) dX4_readThing_27 rfl ?_
    exact z_ireturn dX4_readThing_31 (Or.inr ⟨rfl, ⟨by decide, by decide⟩⟩) rfl h
set_option maxRecDepth 20000 in
set_option maxHeartbeats 4000000 in
theorem bX4_readThing_53 {G : zG} {d : Nat} {M : zM} {Q : zV → zM → Prop} (hG : zP G) {r1 : Int} (hr1 : zSC r1)
    (h : Q (0, 1) M) :
    Y G (d + 1) mX4_readThing 53 [(2, 12), (2, r1)] [] M Q := by
  refine z_iconst dX4_readThing_53 ki_1 ?_
  exact z_ireturn dX4_readThing_54 (Or.inr ⟨rfl, ⟨by decide, by decide⟩⟩) rfl h
set_option maxRecDepth 20000 in
set_option maxHeartbeats 4000000 in
theorem bX4_readQuestion_0 {G : zG} {d : Nat} {M : zM} {Q : zV → zM → Prop} (hG : zP G) {r1 : Int} (hr1 : zSC r1)
    (h : Y G d mX4_readSum 0 [(2, 12), (2, (r1 + 3)), (0, 0), (9, 0), (9, 0), (9, 0), (9, 0), (9, 0), (9, 0)] [] (zset (zset (zset (zset M 12 4 0) 12 5 0) 12 6 0) 12 7 (-1)) (fun r M' => Y G (d + 1) mX4_readQuestion 37 [(2, 12), (2, r1), (0, ((zset (zset (zset (zset M 12 4 0) 12 5 0) 12 6 0) 12 7 (-1)) (r1 + 3) 8)), (9, 0)] (zpush r []) M' Q)) :
    Y G (d + 1) mX4_readQuestion 0 [(2, 12), (2, r1), (9, 0), (9, 0)] [] M Q := by
  refine z_aloadn dX4_readQuestion_0 rfl (Or.inl rfl) ?_
  refine z_iconst dX4_readQuestion_1 ki_0 ?_
  refine y_putf (M' := zset M 12 4 0) hG dX4_readQuestion_2 fX4_116 sh12 (by decide) ⟨rfl, rfl⟩ p4_4 (fun q => absurd q (by decide)) (by decide) rfl ?_
  refine z_aloadn dX4_readQuestion_5 rfl (Or.inl rfl) ?_
  refine z_iconst dX4_readQuestion_6 ki_0 ?_
  refine y_putf (M' := zset (zset M 12 4 0) 12 5 0) hG dX4_readQuestion_7 fX4_119 sh12 (by decide) ⟨rfl, rfl⟩ p4_5 (fun q => absurd q (by decide)) (by decide) rfl ?_
  refine z_aloadn dX4_readQuestion_10 rfl (Or.inl rfl) ?_
  refine z_iconst dX4_readQuestion_11 ki_0 ?_
  refine y_putf (M' := zset (zset (zset M 12 4 0) 12 5 0) 12 6 0) hG dX4_readQuestion_12 fX4_122 sh12 (by decide) ⟨rfl, rfl⟩ p4_6 (fun q => absurd q (by decide)) (by decide) rfl ?_
  refine z_aloadn dX4_readQuestion_15 rfl (Or.inl rfl) ?_
  refine z_iconst dX4_readQuestion_16 ki_m1 ?_
  refine y_putf (M' := zset (zset (zset (zset M 12 4 0) 12 5 0) 12 6 0) 12 7 (-1)) hG dX4_readQuestion_17 fX4_125 sh12 (by decide) ⟨rfl, rfl⟩ p4_7 (fun q => absurd q (by decide)) (by decide) rfl ?_
  refine z_aloadn dX4_readQuestion_20 rfl (Or.inl rfl) ?_
  refine y_getr (v := (r1 + 3)) hG dX4_readQuestion_21 fX4_128 (sc_0 hr1) (by decide) rfl (sc_x4 hr1) (sc_ne hr1 3 (by decide)) ?_
  refine y_getf (x := ((zset (zset (zset (zset M 12 4 0) 12 5 0) 12 6 0) 12 7 (-1)) (r1 + 3) 8)) dX4_readQuestion_24 fX4_132 (nd_0 (sc_nd hr1)) (by decide) rfl rfl ?_
  refine y_istoren (ls' := [(2, 12), (2, r1), (0, ((zset (zset (zset (zset M 12 4 0) 12 5 0) 12 6 0) 12 7 (-1)) (r1 + 3) 8)), (9, 0)]) dX4_readQuestion_27 rfl rfl ?_
  refine z_aloadn dX4_readQuestion_28 rfl (Or.inl rfl) ?_
  refine z_aloadn dX4_readQuestion_29 rfl (Or.inl rfl) ?_
  refine y_getr (v := (r1 + 3)) hG dX4_readQuestion_30 fX4_128 (sc_0 hr1) (by decide) rfl (sc_x4 hr1) (sc_ne hr1 3 (by decide)) ?_
  refine z_iconst dX4_readQuestion_33 ki_0 ?_
  refine y_cv (mt2 := mX4_readSum) (en := [(2, 12), (2, (r1 + 3)), (0, 0), (9, 0), (9, 0), (9, 0), (9, 0), (9, 0), (9, 0)]) (st := []) (as := [(2, (r1 + 3)), (0, 0)]) dX4_readQuestion_34 lX4_137 kX4_readSum iX4_readSum eX4_readSum rfl sh12 (by decide +kernel) (Nat.le_of_ble_eq_true rfl) (Nat.le_of_ble_eq_true rfl) rfl ?_
  exact h
set_option maxRecDepth 20000 in
set_option maxHeartbeats 4000000 in
theorem bX4_readQuestion_37 {G : zG} {d : Nat} {M : zM} {Q : zV → zM → Prop} (hG : zP G) {r1 x2 x49 : Int} (hr1 : zSC r1)
    (h : ((¬ x49 = (-1) → Y G d mX7_give 0 [(2, r1), (0, x2)] [] M (fun r M' => Y G (d + 1) mX4_readQuestion 50 [(2, 12), (2, r1), (0, x2), (0, x49)] (zpush r []) M' Q)) ∧ (x49 = (-1) → Q (0, 0) M))) :
    Y G (d + 1) mX4_readQuestion 37 [(2, 12), (2, r1), (0, x2), (9, 0)] [(0, x49)] M Q := by
  refine y_istoren (ls' := [(2, 12), (2, r1), (0, x2), (0, x49)]) dX4_readQuestion_37 rfl rfl ?_
  refine z_iloadn dX4_readQuestion_38 rfl ?_
  refine z_iconst dX4_readQuestion_39 ki_m1 ?_
  refine z_icmpne (tgt := 45) dX4_readQuestion_40 rfl (fun q => ?_) (fun q => ?_)
  · replace h := h.1 q
    refine z_aloadn dX4_readQuestion_45 rfl (Or.inl rfl) ?_
    refine z_iloadn dX4_readQuestion_46 rfl ?_
    refine y_cv (mt2 := mX7_give) (en := [(2, r1), (0, x2)]) (st := []) (as := [(0, x2)]) dX4_readQuestion_47 lX4_113 kX7_give iX7_give eX7_give rfl (sc_0 hr1) (by decide +kernel) (Nat.le_of_ble_eq_true rfl) (Nat.le_of_ble_eq_true rfl) rfl ?_
    exact h
  · replace h := h.2 q
    refine z_iconst dX4_readQuestion_43 ki_0 ?_
    exact z_ireturn dX4_readQuestion_44 (Or.inr ⟨rfl, ⟨by decide, by decide⟩⟩) rfl h
set_option maxRecDepth 20000 in
set_option maxHeartbeats 4000000 in
theorem bX4_readQuestion_50 {G : zG} {d : Nat} {M : zM} {Q : zV → zM → Prop} (hG : zP G) {r1 x2 x3 : Int} (hr1 : zSC r1)
    (h : Y G d mX7_give 0 [(2, r1), (0, x3)] [] M (fun r M' => Y G (d + 1) mX4_readQuestion 55 [(2, 12), (2, r1), (0, x2), (0, x3)] (zpush r []) M' Q)) :
    Y G (d + 1) mX4_readQuestion 50 [(2, 12), (2, r1), (0, x2), (0, x3)] [] M Q := by
  refine z_aloadn dX4_readQuestion_50 rfl (Or.inl rfl) ?_
  refine z_iloadn dX4_readQuestion_51 rfl ?_
  refine y_cv (mt2 := mX7_give) (en := [(2, r1), (0, x3)]) (st := []) (as := [(0, x3)]) dX4_readQuestion_52 lX4_113 kX7_give iX7_give eX7_give rfl (sc_0 hr1) (by decide +kernel) (Nat.le_of_ble_eq_true rfl) (Nat.le_of_ble_eq_true rfl) rfl ?_
  exact h
set_option maxRecDepth 20000 in
set_option maxHeartbeats 4000000 in
theorem bX4_readQuestion_55 {G : zG} {d : Nat} {M : zM} {Q : zV → zM → Prop} (hG : zP G) {r1 x2 x3 : Int} (hr1 : zSC r1)
    (h : Y G d mX7_give 0 [(2, r1), (0, (M 12 4))] [] M (fun r M' => Y G (d + 1) mX4_readQuestion 63 [(2, 12), (2, r1), (0, x2), (0, x3)] (zpush r []) M' Q)) :
    Y G (d + 1) mX4_readQuestion 55 [(2, 12), (2, r1), (0, x2), (0, x3)] [] M Q := by
  refine z_aloadn dX4_readQuestion_55 rfl (Or.inl rfl) ?_
  refine z_aloadn dX4_readQuestion_56 rfl (Or.inl rfl) ?_
  refine y_getf (x := (M 12 4)) dX4_readQuestion_57 fX4_116 sh12 (by decide) rfl rfl ?_
  refine y_cv (mt2 := mX7_give) (en := [(2, r1), (0, (M 12 4))]) (st := []) (as := [(0, (M 12 4))]) dX4_readQuestion_60 lX4_113 kX7_give iX7_give eX7_give rfl (sc_0 hr1) (by decide +kernel) (Nat.le_of_ble_eq_true rfl) (Nat.le_of_ble_eq_true rfl) rfl ?_
  exact h
set_option maxRecDepth 20000 in
set_option maxHeartbeats 4000000 in
theorem bX4_readQuestion_63 {G : zG} {d : Nat} {M : zM} {Q : zV → zM → Prop} (hG : zP G) {r1 x2 x3 : Int} (hr1 : zSC r1)
    (h : Y G d mX7_give 0 [(2, r1), (0, (M 12 5))] [] M (fun r M' => Y G (d + 1) mX4_readQuestion 71 [(2, 12), (2, r1), (0, x2), (0, x3)] (zpush r []) M' Q)) :
    Y G (d + 1) mX4_readQuestion 63 [(2, 12), (2, r1), (0, x2), (0, x3)] [] M Q := by
  refine z_aloadn dX4_readQuestion_63 rfl (Or.inl rfl) ?_
  refine z_aloadn dX4_readQuestion_64 rfl (Or.inl rfl) ?_
  refine y_getf (x := (M 12 5)) dX4_readQuestion_65 fX4_119 sh12 (by decide) rfl rfl ?_
  refine y_cv (mt2 := mX7_give) (en := [(2, r1), (0, (M 12 5))]) (st := []) (as := [(0, (M 12 5))]) dX4_readQuestion_68 lX4_113 kX7_give iX7_give eX7_give rfl (sc_0 hr1) (by decide +kernel) (Nat.le_of_ble_eq_true rfl) (Nat.le_of_ble_eq_true rfl) rfl ?_
  exact h
set_option maxRecDepth 20000 in
set_option maxHeartbeats 4000000 in
theorem bX4_readQuestion_71 {G : zG} {d : Nat} {M : zM} {Q : zV → zM → Prop} (hG : zP G) {r1 x2 x3 : Int} (hr1 : zSC r1)
    (h : Y G d mX7_give 0 [(2, r1), (0, (M 12 6))] [] M (fun r M' => Y G (d + 1) mX4_readQuestion 79 [(2, 12), (2, r1), (0, x2), (0, x3)] (zpush r []) M' Q)) :
    Y G (d + 1) mX4_readQuestion 71 [(2, 12), (2, r1), (0, x2), (0, x3)] [] M Q := by
  refine z_aloadn dX4_readQuestion_71 rfl (Or.inl rfl) ?_
  refine z_aloadn dX4_readQuestion_72 rfl (Or.inl rfl) ?_
  refine y_getf (x := (M 12 6)) dX4_readQuestion_73 fX4_122 sh12 (by decide) rfl rfl ?_
  refine y_cv (mt2 := mX7_give) (en := [(2, r1), (0, (M 12 6))]) (st := []) (as := [(0, (M 12 6))]) dX4_readQuestion_76 lX4_113 kX7_give iX7_give eX7_give rfl (sc_0 hr1) (by decide +kernel) (Nat.le_of_ble_eq_true rfl) (Nat.le_of_ble_eq_true rfl) rfl ?_
  exact h
set_option maxRecDepth 20000 in
set_option maxHeartbeats 4000000 in
theorem bX4_readQuestion_79 {G : zG} {d : Nat} {M : zM} {Q : zV → zM → Prop} (hG : zP G) {r1 x2 x3 : Int} (hr1 : zSC r1)
    (h : Y G d mX7_give 0 [(2, r1), (0, (M 12 7))] [] M (fun r M' => Y G (d + 1) mX4_readQuestion 87 [(2, 12), (2, r1), (0, x2), (0, x3)] (zpush r []) M' Q)) :
    Y G (d + 1) mX4_readQuestion 79 [(2, 12), (2, r1), (0, x2), (0, x3)] [] M Q := by
  refine z_aloadn dX4_readQuestion_79 rfl (Or.inl rfl) ?_
  refine z_aloadn dX4_readQuestion_80 rfl (Or.inl rfl) ?_
  refine y_getf (x := (M 12 7)) dX4_readQuestion_81 fX4_125 sh12 (by decide) rfl rfl ?_
  refine y_cv (mt2 := mX7_give) (en := [(2, r1), (0, (M 12 7))]) (st := []) (as := [(0, (M 12 7))]) dX4_readQuestion_84 lX4_113 kX7_give iX7_give eX7_give rfl (sc_0 hr1) (by decide +kernel) (Nat.le_of_ble_eq_true rfl) (Nat.le_of_ble_eq_true rfl) rfl ?_
  exact h
set_option maxRecDepth 20000 in
set_option maxHeartbeats 4000000 in
theorem bX4_readQuestion_87 {G : zG} {d : Nat} {M : zM} {Q : zV → zM → Prop} (hG : zP G) {r1 x2 x3 : Int} (hr1 : zSC r1)
    (h : Q (0, 1) M) :
    Y G (d + 1) mX4_readQuestion 87 [(2, 12), (2, r1), (0, x2), (0, x3)] [] M Q := by
  refine z_iconst dX4_readQuestion_87 ki_1 ?_
  exact z_ireturn dX4_readQuestion_88 (Or.inr ⟨rfl, ⟨by decide, by decide⟩⟩) rfl h
