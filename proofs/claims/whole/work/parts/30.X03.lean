set_option maxRecDepth 20000 in
set_option maxHeartbeats 4000000 in
theorem bX3_save_0 {G : zG} {d : Nat} {M : zM} {Q : zV → zM → Prop} (hG : zP G)
    (h : Y G d mX5_put 0 [(2, 184), (0, (M 19 8))] [] M (fun r M' => Y G (d + 1) mX3_save 8 [(2, 19), (2, 184)] (zpush r []) M' Q)) :
    Y G (d + 1) mX3_save 0 [(2, 19), (2, 184)] [] M Q := by
  refine z_aloadn dX3_save_0 rfl (Or.inl rfl) ?_
  refine z_aloadn dX3_save_1 rfl (Or.inl rfl) ?_
  refine y_getf (x := (M 19 8)) dX3_save_2 fX3_56 sh19 (by decide) rfl rfl ?_
  refine y_cv (mt2 := mX5_put) (en := [(2, 184), (0, (M 19 8))]) (st := []) (as := [(0, (M 19 8))]) dX3_save_5 lX3_103 kX5_put iX5_put eX5_put rfl sh184 (by decide +kernel) (Nat.le_of_ble_eq_true rfl) (Nat.le_of_ble_eq_true rfl) rfl ?_
  exact h
set_option maxRecDepth 20000 in
set_option maxHeartbeats 4000000 in
theorem bX3_save_8 {G : zG} {d : Nat} {M : zM} {Q : zV → zM → Prop} (hG : zP G)
    (h : Y G d mX5_put 0 [(2, 184), (0, (M 19 9))] [] M (fun r M' => Y G (d + 1) mX3_save 16 [(2, 19), (2, 184)] (zpush r []) M' Q)) :
    Y G (d + 1) mX3_save 8 [(2, 19), (2, 184)] [] M Q := by
  refine z_aloadn dX3_save_8 rfl (Or.inl rfl) ?_
  refine z_aloadn dX3_save_9 rfl (Or.inl rfl) ?_
  refine y_getf (x := (M 19 9)) dX3_save_10 fX3_69 sh19 (by decide) rfl rfl ?_
  refine y_cv (mt2 := mX5_put) (en := [(2, 184), (0, (M 19 9))]) (st := []) (as := [(0, (M 19 9))]) dX3_save_13 lX3_103 kX5_put iX5_put eX5_put rfl sh184 (by decide +kernel) (Nat.le_of_ble_eq_true rfl) (Nat.le_of_ble_eq_true rfl) rfl ?_
  exact h
set_option maxRecDepth 20000 in
set_option maxHeartbeats 4000000 in
theorem bX3_save_16 {G : zG} {d : Nat} {M : zM} {Q : zV → zM → Prop} (hG : zP G)
    (h : Q (9, 0) M) :
    Y G (d + 1) mX3_save 16 [(2, 19), (2, 184)] [] M Q := by
  exact z_return dX3_save_16 rfl rfl h
set_option maxRecDepth 20000 in
set_option maxHeartbeats 4000000 in
theorem bX3_restore_0 {G : zG} {d : Nat} {M : zM} {Q : zV → zM → Prop} (hG : zP G)
    (h : Y G d mX5_take 0 [(2, 184)] [] M (fun r M' => Y G (d + 1) mX3_restore 6 [(2, 19), (2, 184)] (zpush r [(0, 0), (2, 19)]) M' Q)) :
    Y G (d + 1) mX3_restore 0 [(2, 19), (2, 184)] [] M Q := by
  refine z_aloadn dX3_restore_0 rfl (Or.inl rfl) ?_
  refine z_iconst dX3_restore_1 ki_0 ?_
  refine z_aloadn dX3_restore_2 rfl (Or.inl rfl) ?_
  refine y_cv (mt2 := mX5_take) (en := [(2, 184)]) (st := [(0, 0), (2, 19)]) (as := []) dX3_restore_3 lX3_109 kX5_take iX5_take eX5_take rfl sh184 (by decide +kernel) (Nat.le_of_ble_eq_true rfl) (Nat.le_of_ble_eq_true rfl) rfl ?_
  exact h
set_option maxRecDepth 20000 in
set_option maxHeartbeats 4000000 in
theorem bX3_restore_6 {G : zG} {d : Nat} {M : zM} {Q : zV → zM → Prop} (hG : zP G) {x49 : Int}
    (h : Y G d mX5_take 0 [(2, 184)] [] (zset M 19 8 (max 0 (min x49 12))) (fun r M' => Y G (d + 1) mX3_restore 22 [(2, 19), (2, 184)] (zpush r [(2, 19)]) M' Q)) :
    Y G (d + 1) mX3_restore 6 [(2, 19), (2, 184)] [(0, x49), (0, 0), (2, 19)] M Q := by
  refine z_bipush dX3_restore_6 kb_12 ?_
  refine z_min dX3_restore_8 mwX3_113 (Nat.le_of_ble_eq_true rfl) ?_
  refine z_max dX3_restore_11 mwX3_118 (Nat.le_of_ble_eq_true rfl) ?_
  refine y_putf (M' := zset M 19 8 (max 0 (min x49 12))) hG dX3_restore_14 fX3_56 sh19 (by decide) ⟨rfl, rfl⟩ p3_8 (fun q => absurd q (by decide)) (by decide) rfl ?_
  refine z_aloadn dX3_restore_17 rfl (Or.inl rfl) ?_
  refine z_aloadn dX3_restore_18 rfl (Or.inl rfl) ?_
  refine y_cv (mt2 := mX5_take) (en := [(2, 184)]) (st := [(2, 19)]) (as := []) dX3_restore_19 lX3_109 kX5_take iX5_take eX5_take rfl sh184 (by decide +kernel) (Nat.le_of_ble_eq_true rfl) (Nat.le_of_ble_eq_true rfl) rfl ?_
  exact h
set_option maxRecDepth 20000 in
set_option maxHeartbeats 4000000 in
theorem bX3_restore_22 {G : zG} {d : Nat} {M : zM} {Q : zV → zM → Prop} (hG : zP G) {x49 : Int}
    (h : Q (9, 0) (zset (zset M 19 9 x49) 19 13 0)) :
    Y G (d + 1) mX3_restore 22 [(2, 19), (2, 184)] [(0, x49), (2, 19)] M Q := by
  refine y_cv (mt2 := mX3_setEqualities) (en := [(2, 19), (0, x49)]) (st := []) (as := [(0, x49)]) dX3_restore_22 lX3_121 kX3_setEqualities iX3_setEqualities eX3_setEqualities rfl sh19 (by decide +kernel) (Nat.le_of_ble_eq_true rfl) (Nat.le_of_ble_eq_true rfl) rfl (s_setEqualities hG ?_)
  show Y G (d + 1) mX3_restore 25 [(2, 19), (2, 184)] [] (zset (zset M 19 9 x49) 19 13 0) Q
  exact z_return dX3_restore_25 rfl rfl h
set_option maxRecDepth 20000 in
set_option maxHeartbeats 4000000 in
theorem bX3_add_0 {G : zG} {d : Nat} {M : zM} {Q : zV → zM → Prop} (hG : zP G) {r1 x2 : Int} (hr1 : zSC r1)
    (h : (((M 19 8) < 12 → (0 ≤ (M 19 8) ∧ (M 19 8) < 12) ∧ Y G d mX7_partOf 0 [(2, r1), (0, x2), (0, 0), (9, 0)] [] (zset M 20 (M 19 8) (r1 + 3)) (fun r M' => Y G (d + 1) mX3_add 38 [(2, 19), (2, r1), (0, x2)] (zpush r [(0, (M 19 8)), (2, 21)]) M' Q)) ∧ (12 ≤ (M 19 8) → Q (0, 0) M))) :
    Y G (d + 1) mX3_add 0 [(2, 19), (2, r1), (0, x2)] [] M Q := by
  refine z_aloadn dX3_add_0 rfl (Or.inl rfl) ?_
  refine y_getf (x := (M 19 8)) dX3_add_1 fX3_56 sh19 (by decide) rfl rfl ?_
  refine z_bipush dX3_add_4 kb_12 ?_
  refine z_icmplt (tgt := 11) dX3_add_6 rfl (fun q => ?_) (fun q => ?_)
  · replace h := h.1 q
    refine z_aloadn dX3_add_11 rfl (Or.inl rfl) ?_
    refine y_getr (v := 20) hG dX3_add_12 fX3_11 sh19 (by decide) rfl (by decide +kernel) (by decide) ?_
    refine z_aloadn dX3_add_15 rfl (Or.inl rfl) ?_
    refine y_getf (x := (M 19 8)) dX3_add_16 fX3_56 sh19 (by decide) rfl rfl ?_
    refine z_aloadn dX3_add_19 rfl (Or.inl rfl) ?_
    refine y_getr (v := (r1 + 3)) hG dX3_add_20 fX3_60 (sc_0 hr1) (by decide) rfl (sc_x4 hr1) (sc_ne hr1 3 (by decide)) ?_
    obtain ⟨q1, h⟩ := h
    refine y_aastt hG dX3_add_23 q1 (nd_0 (sc_nd hr1)) (by decide) ?_
    refine z_aloadn dX3_add_24 rfl (Or.inl rfl) ?_
    refine y_getr (v := 21) hG dX3_add_25 fX3_17 sh19 (by decide) rfl (by decide +kernel) (by decide) ?_
    refine z_aloadn dX3_add_28 rfl (Or.inl rfl) ?_
    refine y_getf (x := (M 19 8)) dX3_add_29 fX3_56 sh19 (by decide) rfl (zset_ne (fun q => absurd q.1 (by decide))) ?_
    refine z_aloadn dX3_add_32 rfl (Or.inl rfl) ?_
    refine z_iloadn dX3_add_33 rfl ?_
    refine z_iconst dX3_add_34 ki_0 ?_
    refine y_cv (mt2 := mX7_partOf) (en := [(2, r1), (0, x2), (0, 0), (9, 0)]) (st := [(0, (M 19 8)), (2, 21)]) (as := [(0, x2), (0, 0)]) dX3_add_35 lX3_65 kX7_partOf iX7_partOf eX7_partOf rfl (sc_0 hr1) (by decide +kernel) (Nat.le_of_ble_eq_true rfl) (Nat.le_of_ble_eq_true rfl) rfl ?_
    exact h
  · replace h := h.2 q
    refine z_iconst dX3_add_9 ki_0 ?_
    exact z_ireturn dX3_add_10 (Or.inr ⟨rfl, ⟨by decide, by decide⟩⟩) rfl h
set_option maxRecDepth 20000 in
set_option maxHeartbeats 4000000 in
theorem bX3_add_38 {G : zG} {d : Nat} {M : zM} {Q : zV → zM → Prop} (hG : zP G) {r1 x2 x49 x50 : Int} (hr1 : zSC r1)
    (h : (0 ≤ x50 ∧ x50 < 12) ∧ Y G d mX7_partOf 0 [(2, r1), (0, x2), (0, 1), (9, 0)] [] (zset M 21 x50 x49) (fun r M' => Y G (d + 1) mX3_add 53 [(2, 19), (2, r1), (0, x2)] (zpush r [(0, (M 19 8)), (2, 22)]) M' Q)) :
    Y G (d + 1) mX3_add 38 [(2, 19), (2, r1), (0, x2)] [(0, x49), (0, x50), (2, 21)] M Q := by
  obtain ⟨q1, h⟩ := h
  refine y_iast hG dX3_add_38 sh21 q1 ?_
  refine z_aloadn dX3_add_39 rfl (Or.inl rfl) ?_
  refine y_getr (v := 22) hG dX3_add_40 fX3_21 sh19 (by decide) rfl (by decide +kernel) (by decide) ?_
  refine z_aloadn dX3_add_43 rfl (Or.inl rfl) ?_
  refine y_getf (x := (M 19 8)) dX3_add_44 fX3_56 sh19 (by decide) rfl (zset_ne (fun q => absurd q.1 (by decide))) ?_
  refine z_aloadn dX3_add_47 rfl (Or.inl rfl) ?_
  refine z_iloadn dX3_add_48 rfl ?_
  refine z_iconst dX3_add_49 ki_1 ?_
  refine y_cv (mt2 := mX7_partOf) (en := [(2, r1), (0, x2), (0, 1), (9, 0)]) (st := [(0, (M 19 8)), (2, 22)]) (as := [(0, x2), (0, 1)]) dX3_add_50 lX3_65 kX7_partOf iX7_partOf eX7_partOf rfl (sc_0 hr1) (by decide +kernel) (Nat.le_of_ble_eq_true rfl) (Nat.le_of_ble_eq_true rfl) rfl ?_
  exact h
set_option maxRecDepth 20000 in
set_option maxHeartbeats 4000000 in
theorem bX3_add_53 {G : zG} {d : Nat} {M : zM} {Q : zV → zM → Prop} (hG : zP G) {r1 x2 x49 x50 : Int} (hr1 : zSC r1)
    (h : (0 ≤ x50 ∧ x50 < 12) ∧ Y G d mX7_partOf 0 [(2, r1), (0, x2), (0, 2), (9, 0)] [] (zset M 22 x50 x49) (fun r M' => Y G (d + 1) mX3_add 68 [(2, 19), (2, r1), (0, x2)] (zpush r [(0, (M 19 8)), (2, 23)]) M' Q)) :
    Y G (d + 1) mX3_add 53 [(2, 19), (2, r1), (0, x2)] [(0, x49), (0, x50), (2, 22)] M Q := by
  obtain ⟨q1, h⟩ := h
  refine y_iast hG dX3_add_53 sh22 q1 ?_
  refine z_aloadn dX3_add_54 rfl (Or.inl rfl) ?_
  refine y_getr (v := 23) hG dX3_add_55 fX3_24 sh19 (by decide) rfl (by decide +kernel) (by decide) ?_
  refine z_aloadn dX3_add_58 rfl (Or.inl rfl) ?_
  refine y_getf (x := (M 19 8)) dX3_add_59 fX3_56 sh19 (by decide) rfl (zset_ne (fun q => absurd q.1 (by decide))) ?_
  refine z_aloadn dX3_add_62 rfl (Or.inl rfl) ?_
  refine z_iloadn dX3_add_63 rfl ?_
  refine z_iconst dX3_add_64 ki_2 ?_
  refine y_cv (mt2 := mX7_partOf) (en := [(2, r1), (0, x2), (0, 2), (9, 0)]) (st := [(0, (M 19 8)), (2, 23)]) (as := [(0, x2), (0, 2)]) dX3_add_65 lX3_65 kX7_partOf iX7_partOf eX7_partOf rfl (sc_0 hr1) (by decide +kernel) (Nat.le_of_ble_eq_true rfl) (Nat.le_of_ble_eq_true rfl) rfl ?_
  exact h
set_option maxRecDepth 20000 in
set_option maxHeartbeats 4000000 in
theorem bX3_add_68 {G : zG} {d : Nat} {M : zM} {Q : zV → zM → Prop} (hG : zP G) {r1 x2 x49 x50 : Int} (hr1 : zSC r1)
    (h : (0 ≤ x50 ∧ x50 < 12) ∧ Y G d mX7_partOf 0 [(2, r1), (0, x2), (0, 3), (9, 0)] [] (zset M 23 x50 x49) (fun r M' => Y G (d + 1) mX3_add 83 [(2, 19), (2, r1), (0, x2)] (zpush r [(0, (M 19 8)), (2, 24)]) M' Q)) :
    Y G (d + 1) mX3_add 68 [(2, 19), (2, r1), (0, x2)] [(0, x49), (0, x50), (2, 23)] M Q := by
  obtain ⟨q1, h⟩ := h
  refine y_iast hG dX3_add_68 sh23 q1 ?_
  refine z_aloadn dX3_add_69 rfl (Or.inl rfl) ?_
  refine y_getr (v := 24) hG dX3_add_70 fX3_27 sh19 (by decide) rfl (by decide +kernel) (by decide) ?_
  refine z_aloadn dX3_add_73 rfl (Or.inl rfl) ?_
  refine y_getf (x := (M 19 8)) dX3_add_74 fX3_56 sh19 (by decide) rfl (zset_ne (fun q => absurd q.1 (by decide))) ?_
  refine z_aloadn dX3_add_77 rfl (Or.inl rfl) ?_
  refine z_iloadn dX3_add_78 rfl ?_
  refine z_iconst dX3_add_79 ki_3 ?_
  refine y_cv (mt2 := mX7_partOf) (en := [(2, r1), (0, x2), (0, 3), (9, 0)]) (st := [(0, (M 19 8)), (2, 24)]) (as := [(0, x2), (0, 3)]) dX3_add_80 lX3_65 kX7_partOf iX7_partOf eX7_partOf rfl (sc_0 hr1) (by decide +kernel) (Nat.le_of_ble_eq_true rfl) (Nat.le_of_ble_eq_true rfl) rfl ?_
  exact h
set_option maxRecDepth 20000 in
set_option maxHeartbeats 4000000 in
theorem bX3_add_83 {G : zG} {d : Nat} {M : zM} {Q : zV → zM → Prop} (hG : zP G) {r1 x2 x49 x50 : Int} (hr1 : zSC r1)
    (h : (0 ≤ x50 ∧ x50 < 12) ∧ Y G d mX7_partOf 0 [(2, r1), (0, x2), (0, 4), (9, 0)] [] (zset M 24 x50 x49) (fun r M' => Y G (d + 1) mX3_add 98 [(2, 19), (2, r1), (0, x2)] (zpush r [(0, (M 19 8)), (2, 25)]) M' Q)) :
    Y G (d + 1) mX3_add 83 [(2, 19), (2, r1), (0, x2)] [(0, x49), (0, x50), (2, 24)] M Q := by
  obtain ⟨q1, h⟩ := h
  refine y_iast hG dX3_add_83 sh24 q1 ?_
  refine z_aloadn dX3_add_84 rfl (Or.inl rfl) ?_
  refine y_getr (v := 25) hG dX3_add_85 fX3_30 sh19 (by decide) rfl (by decide +kernel) (by decide) ?_
  refine z_aloadn dX3_add_88 rfl (Or.inl rfl) ?_
  refine y_getf (x := (M 19 8)) dX3_add_89 fX3_56 sh19 (by decide) rfl (zset_ne (fun q => absurd q.1 (by decide))) ?_
  refine z_aloadn dX3_add_92 rfl (Or.inl rfl) ?_
  refine z_iloadn dX3_add_93 rfl ?_
  refine z_iconst dX3_add_94 ki_4 ?_
  refine y_cv (mt2 := mX7_partOf) (en := [(2, r1), (0, x2), (0, 4), (9, 0)]) (st := [(0, (M 19 8)), (2, 25)]) (as := [(0, x2), (0, 4)]) dX3_add_95 lX3_65 kX7_partOf iX7_partOf eX7_partOf rfl (sc_0 hr1) (by decide +kernel) (Nat.le_of_ble_eq_true rfl) (Nat.le_of_ble_eq_true rfl) rfl ?_
  exact h
set_option maxRecDepth 20000 in
set_option maxHeartbeats 4000000 in
theorem bX3_add_98 {G : zG} {d : Nat} {M : zM} {Q : zV → zM → Prop} (hG : zP G) {r1 x2 x49 x50 : Int} (hr1 : zSC r1)
    (h : (0 ≤ x50 ∧ x50 < 12) ∧ Y G d mX7_partOf 0 [(2, r1), (0, x2), (0, 5), (9, 0)] [] (zset M 25 x50 x49) (fun r M' => Y G (d + 1) mX3_add 113 [(2, 19), (2, r1), (0, x2)] (zpush r [(0, (M 19 8)), (2, 26)]) M' Q)) :
    Y G (d + 1) mX3_add 98 [(2, 19), (2, r1), (0, x2)] [(0, x49), (0, x50), (2, 25)] M Q := by
  obtain ⟨q1, h⟩ := h
  refine y_iast hG dX3_add_98 sh25 q1 ?_
  refine z_aloadn dX3_add_99 rfl (Or.inl rfl) ?_
  refine y_getr (v := 26) hG dX3_add_100 fX3_33 sh19 (by decide) rfl (by decide +kernel) (by decide) ?_
  refine z_aloadn dX3_add_103 rfl (Or.inl rfl) ?_
  refine y_getf (x := (M 19 8)) dX3_add_104 fX3_56 sh19 (by decide) rfl (zset_ne (fun q => absurd q.1 (by decide))) ?_
  refine z_aloadn dX3_add_107 rfl (Or.inl rfl) ?_
  refine z_iloadn dX3_add_108 rfl ?_
  refine z_iconst dX3_add_109 ki_5 ?_
  refine y_cv (mt2 := mX7_partOf) (en := [(2, r1), (0, x2), (0, 5), (9, 0)]) (st := [(0, (M 19 8)), (2, 26)]) (as := [(0, x2), (0, 5)]) dX3_add_110 lX3_65 kX7_partOf iX7_partOf eX7_partOf rfl (sc_0 hr1) (by decide +kernel) (Nat.le_of_ble_eq_true rfl) (Nat.le_of_ble_eq_true rfl) rfl ?_
  exact h
set_option maxRecDepth 20000 in
set_option maxHeartbeats 4000000 in
theorem bX3_add_113 {G : zG} {d : Nat} {M : zM} {Q : zV → zM → Prop} (hG : zP G) {r1 x2 x49 x50 : Int} (hr1 : zSC r1)
    (h : (0 ≤ x50 ∧ x50 < 12) ∧ (-2147483648 ≤ (M 19 8) + 1 ∧ (M 19 8) + 1 ≤ 2147483647) ∧ Q (0, 1) (zset (zset M 26 x50 x49) 19 8 ((M 19 8) + 1))) :
    Y G (d + 1) mX3_add 113 [(2, 19), (2, r1), (0, x2)] [(0, x49), (0, x50), (2, 26)] M Q := by
  obtain ⟨q1, h⟩ := h
  refine y_iast hG dX3_add_113 sh26 q1 ?_
  refine z_aloadn dX3_add_114 rfl (Or.inl rfl) ?_
  refine z_dup dX3_add_115 (show (2 : Nat) ≠ 1 by decide) ?_
  refine y_getf (x := (M 19 8)) dX3_add_116 fX3_56 sh19 (by decide) rfl (zset_ne (fun q => absurd q.1 (by decide))) ?_
  refine z_iconst dX3_add_119 ki_1 ?_
  obtain ⟨q2, h⟩ := h
  refine z_iadd dX3_add_120 q2 ?_
  refine y_putf (M' := zset (zset M 26 x50 x49) 19 8 ((M 19 8) + 1)) hG dX3_add_121 fX3_56 sh19 (by decide) ⟨rfl, rfl⟩ p3_8 (fun q => absurd q (by decide)) (by decide) rfl ?_
  refine z_iconst dX3_add_124 ki_1 ?_
  exact z_ireturn dX3_add_125 (Or.inr ⟨rfl, ⟨by decide, by decide⟩⟩) rfl h
set_option maxRecDepth 20000 in
set_option maxHeartbeats 4000000 in
theorem bX3_answerIn_0 {G : zG} {d : Nat} {M : zM} {Q : zV → zM → Prop} (hG : zP G) {x1 r3 : Int} {nr3 : Nat} (hr3 : zsh r3.toNat = (100, nr3))
    (h : (0 ≤ x1 ∧ x1 < 12) ∧ ((0 < (M 20 x1) → (0 ≤ x1 ∧ x1 < 12) ∧ (0 ≤ x1 ∧ x1 < 12) ∧ Y G d mX10_workOut 0 [(2, 2), (2, (M 20 x1)), (0, (M 21 x1)), (0, (M 22 x1)), (2, r3), (9, 0), (9, 0)] [] M (fun r M' => Y G (d + 1) mX3_answerIn 36 [(2, 19), (0, x1), (2, 2), (2, r3), (2, (M 20 x1))] (zpush r []) M' Q)) ∧ ((M 20 x1) ≤ 0 → Q (0, 0) M))) :
    Y G (d + 1) mX3_answerIn 0 [(2, 19), (0, x1), (2, 2), (2, r3), (9, 0)] [] M Q := by
  refine z_aloadn dX3_answerIn_0 rfl (Or.inl rfl) ?_
  refine y_getr (v := 20) hG dX3_answerIn_1 fX3_11 sh19 (by decide) rfl (by decide +kernel) (by decide) ?_
  refine z_iloadn dX3_answerIn_4 rfl ?_
  obtain ⟨q1, h⟩ := h
  refine y_aaldt (x := (M 20 x1)) dX3_answerIn_5 q1 rfl ?_
  refine y_astore (ls' := [(2, 19), (0, x1), (2, 2), (2, r3), (2, (M 20 x1))]) dX3_answerIn_6 rfl (Or.inl rfl) rfl ?_
  refine z_aload dX3_answerIn_8 rfl (Or.inl rfl) ?_
  refine z_ifnonnull (tgt := 17) dX3_answerIn_10 rfl (fun q => ?_) (fun q => ?_)
  · replace h := h.1 q
    refine z_aloadn dX3_answerIn_17 rfl (Or.inl rfl) ?_
    refine z_aload dX3_answerIn_18 rfl (Or.inl rfl) ?_
    refine z_aloadn dX3_answerIn_20 rfl (Or.inl rfl) ?_
    refine y_getr (v := 21) hG dX3_answerIn_21 fX3_17 sh19 (by decide) rfl (by decide +kernel) (by decide) ?_
    refine z_iloadn dX3_answerIn_24 rfl ?_
    obtain ⟨q2, h⟩ := h
    refine y_iald (x := (M 21 x1)) dX3_answerIn_25 sh21 q2 rfl ?_
    refine z_aloadn dX3_answerIn_26 rfl (Or.inl rfl) ?_
    refine y_getr (v := 22) hG dX3_answerIn_27 fX3_21 sh19 (by decide) rfl (by decide +kernel) (by decide) ?_
    refine z_iloadn dX3_answerIn_30 rfl ?_
    obtain ⟨q3, h⟩ := h
    refine y_iald (x := (M 22 x1)) dX3_answerIn_31 sh22 q3 rfl ?_
    refine z_aloadn dX3_answerIn_32 rfl (Or.inl rfl) ?_
    refine y_cv (mt2 := mX10_workOut) (en := [(2, 2), (2, (M 20 x1)), (0, (M 21 x1)), (0, (M 22 x1)), (2, r3), (9, 0), (9, 0)]) (st := []) (as := [(2, (M 20 x1)), (0, (M 21 x1)), (0, (M 22 x1)), (2, r3)]) dX3_answerIn_33 lX3_75 kX10_workOut iX10_workOut eX10_workOut rfl sh2 (by decide +kernel) (Nat.le_of_ble_eq_true rfl) (Nat.le_of_ble_eq_true rfl) rfl ?_
    exact h
  · replace h := h.2 q
    refine z_iconst dX3_answerIn_13 ki_0 ?_
    refine z_goto (tgt := 36) dX3_answerIn_14 rfl ?_
    exact z_ireturn dX3_answerIn_36 (Or.inl rfl) rfl h
set_option maxRecDepth 20000 in
set_option maxHeartbeats 4000000 in
theorem bX3_answerIn_36 {G : zG} {d : Nat} {M : zM} {Q : zV → zM → Prop} (hG : zP G) {x1 r3 x4 x49 : Int} {nr3 : Nat} (hr3 : zsh r3.toNat = (100, nr3))
    (h : Q (0, x49) M) :
    Y G (d + 1) mX3_answerIn 36 [(2, 19), (0, x1), (2, 2), (2, r3), (2, x4)] [(0, x49)] M Q := by
  exact z_ireturn dX3_answerIn_36 (Or.inl rfl) rfl h
set_option maxRecDepth 20000 in
set_option maxHeartbeats 4000000 in
theorem bX3_workAll_0 {G : zG} {d : Nat} {M : zM} {Q : zV → zM → Prop} (hG : zP G)
    (h : Y G (d + 1) mX3_workAll 2 [(2, 19), (2, 2), (0, 0)] [] M Q) :
    Y G (d + 1) mX3_workAll 0 [(2, 19), (2, 2), (9, 0)] [] M Q := by
  refine z_iconst dX3_workAll_0 ki_0 ?_
  refine y_istoren (ls' := [(2, 19), (2, 2), (0, 0)]) dX3_workAll_1 rfl rfl ?_
  exact h
set_option maxRecDepth 20000 in
set_option maxHeartbeats 4000000 in
theorem bX3_workAll_2 {G : zG} {d : Nat} {M : zM} {Q : zV → zM → Prop} (hG : zP G) {x2 : Int}
    (h : (((M 19 8) ≤ x2 → Q (9, 0) M) ∧ (x2 < (M 19 8) → Y G d mX3_answerIn 0 [(2, 19), (0, x2), (2, 2), (2, 3), (9, 0)] [] M (fun r M' => Y G (d + 1) mX3_workAll 25 [(2, 19), (2, 2), (0, x2)] (zpush r [(0, x2), (2, 27)]) M' Q)))) :
    Y G (d + 1) mX3_workAll 2 [(2, 19), (2, 2), (0, x2)] [] M Q := by
  refine z_iloadn dX3_workAll_2 rfl ?_
  refine z_aloadn dX3_workAll_3 rfl (Or.inl rfl) ?_
  refine y_getf (x := (M 19 8)) dX3_workAll_4 fX3_56 sh19 (by decide) rfl rfl ?_
  refine z_icmpge (tgt := 32) dX3_workAll_7 rfl (fun q => ?_) (fun q => ?_)
  · replace h := h.1 q
    exact z_return dX3_workAll_32 rfl rfl h
  · replace h := h.2 q
    refine z_aloadn dX3_workAll_10 rfl (Or.inl rfl) ?_
    refine y_getr (v := 27) hG dX3_workAll_11 fX3_36 sh19 (by decide) rfl (by decide +kernel) (by decide) ?_
    refine z_iloadn dX3_workAll_14 rfl ?_
    refine z_aloadn dX3_workAll_15 rfl (Or.inl rfl) ?_
    refine z_iloadn dX3_workAll_16 rfl ?_
    refine z_aloadn dX3_workAll_17 rfl (Or.inl rfl) ?_
    refine z_aloadn dX3_workAll_18 rfl (Or.inl rfl) ?_
    refine y_getr (v := 3) hG dX3_workAll_19 fX3_81 sh2 (by decide) rfl (by decide +kernel) (by decide) ?_
    refine y_cv (mt2 := mX3_answerIn) (en := [(2, 19), (0, x2), (2, 2), (2, 3), (9, 0)]) (st := [(0, x2), (2, 27)]) (as := [(0, x2), (2, 2), (2, 3)]) dX3_workAll_22 lX3_84 kX3_answerIn iX3_answerIn eX3_answerIn rfl sh19 (by decide +kernel) (Nat.le_of_ble_eq_true rfl) (Nat.le_of_ble_eq_true rfl) rfl ?_
    exact h
set_option maxRecDepth 20000 in
set_option maxHeartbeats 4000000 in
theorem bX3_workAll_25 {G : zG} {d : Nat} {M : zM} {Q : zV → zM → Prop} (hG : zP G) {x2 x49 x50 : Int}
    (h : (0 ≤ x50 ∧ x50 < 12) ∧ (-2147483648 ≤ x2 + 1 ∧ x2 + 1 ≤ 2147483647) ∧ Y G (d + 1) mX3_workAll 2 [(2, 19), (2, 2), (0, (x2 + 1))] [] (zset M 27 x50 x49) Q) :
    Y G (d + 1) mX3_workAll 25 [(2, 19), (2, 2), (0, x2)] [(0, x49), (0, x50), (2, 27)] M Q := by
  obtain ⟨q1, h⟩ := h
  refine y_iast hG dX3_workAll_25 sh27 q1 ?_
  obtain ⟨q2, h⟩ := h
  refine y_iinc (ls' := [(2, 19), (2, 2), (0, (x2 + 1))]) dX3_workAll_26 rfl rfl q2 rfl ?_
  refine z_goto (tgt := 2) dX3_workAll_29 rfl ?_
  exact h
set_option maxRecDepth 20000 in
set_option maxHeartbeats 4000000 in
theorem bX3_allAlike_0 {G : zG} {d : Nat} {M : zM} {Q : zV → zM → Prop} (hG : zP G) {x1 : Int}
    (h : Y G (d + 1) mX3_allAlike 4 [(2, 19), (0, x1), (0, 0), (0, 0)] [] M Q) :
    Y G (d + 1) mX3_allAlike 0 [(2, 19), (0, x1), (9, 0), (9, 0)] [] M Q := by
  refine z_iconst dX3_allAlike_0 ki_0 ?_
  refine y_istoren (ls' := [(2, 19), (0, x1), (0, 0), (9, 0)]) dX3_allAlike_1 rfl rfl ?_
  refine z_iconst dX3_allAlike_2 ki_0 ?_
  refine y_istoren (ls' := [(2, 19), (0, x1), (0, 0), (0, 0)]) dX3_allAlike_3 rfl rfl ?_
  exact h
set_option maxRecDepth 20000 in
set_option maxHeartbeats 4000000 in
theorem bX3_allAlike_4 {G : zG} {d : Nat} {M : zM} {Q : zV → zM → Prop} (hG : zP G) {x1 x2 x3 : Int}
    (h : (((M 19 8) ≤ x3 → Q (0, x2) M) ∧ (x3 < (M 19 8) → Y G d mX3_areAlike 0 [(2, 19), (0, x3), (0, x1)] [] M (fun r M' => Y G (d + 1) mX3_allAlike 18 [(2, 19), (0, x1), (0, x2), (0, x3)] (zpush r []) M' Q)))) :
    Y G (d + 1) mX3_allAlike 4 [(2, 19), (0, x1), (0, x2), (0, x3)] [] M Q := by
  refine z_iloadn dX3_allAlike_4 rfl ?_
  refine z_aloadn dX3_allAlike_5 rfl (Or.inl rfl) ?_
  refine y_getf (x := (M 19 8)) dX3_allAlike_6 fX3_56 sh19 (by decide) rfl rfl ?_
  refine z_icmpge (tgt := 33) dX3_allAlike_9 rfl (fun q => ?_) (fun q => ?_)
  · replace h := h.1 q
    refine z_iloadn dX3_allAlike_33 rfl ?_
    exact z_ireturn dX3_allAlike_34 (Or.inl rfl) rfl h
  · replace h := h.2 q
    refine z_aloadn dX3_allAlike_12 rfl (Or.inl rfl) ?_
    refine z_iloadn dX3_allAlike_13 rfl ?_
    refine z_iloadn dX3_allAlike_14 rfl ?_
    refine y_cv (mt2 := mX3_areAlike) (en := [(2, 19), (0, x3), (0, x1)]) (st := []) (as := [(0, x3), (0, x1)]) dX3_allAlike_15 lX3_88 kX3_areAlike iX3_areAlike eX3_areAlike rfl sh19 (by decide +kernel) (Nat.le_of_ble_eq_true rfl) (Nat.le_of_ble_eq_true rfl) rfl ?_
    exact h
set_option maxRecDepth 20000 in
set_option maxHeartbeats 4000000 in
theorem bX3_allAlike_18 {G : zG} {d : Nat} {M : zM} {Q : zV → zM → Prop} (hG : zP G) {x1 x2 x3 x49 : Int}
    (h : ((x49 = 0 → (-2147483648 ≤ x3 + 1 ∧ x3 + 1 ≤ 2147483647) ∧ Y G (d + 1) mX3_allAlike 4 [(2, 19), (0, x1), (0, x2), (0, (x3 + 1))] [] M Q) ∧ (¬ x49 = 0 → (-2147483648 ≤ x3 + 1 ∧ x3 + 1 ≤ 2147483647) ∧ Y G (d + 1) mX3_allAlike 4 [(2, 19), (0, x1), (0, (zor x2 (zshl 1 x3))), (0, (x3 + 1))] [] M Q))) :
    Y G (d + 1) mX3_allAlike 18 [(2, 19), (0, x1), (0, x2), (0, x3)] [(0, x49)] M Q := by
  refine z_ifeq (tgt := 27) dX3_allAlike_18 rfl (fun q => ?_) (fun q => ?_)
  · replace h := h.1 q
    obtain ⟨q1, h⟩ := h
    refine y_iinc (ls' := [(2, 19), (0, x1), (0, x2), (0, (x3 + 1))]) dX3_allAlike_27 rfl rfl q1 rfl ?_
    refine z_goto (tgt := 4) dX3_allAlike_30 rfl ?_
    exact h
  · replace h := h.2 q
    refine z_iloadn dX3_allAlike_21 rfl ?_
    refine z_iconst dX3_allAlike_22 ki_1 ?_
    refine z_iloadn dX3_allAlike_23 rfl ?_
    refine z_ishl dX3_allAlike_24 ?_
    refine z_ior dX3_allAlike_25 ?_
    refine y_istoren (ls' := [(2, 19), (0, x1), (0, (zor x2 (zshl 1 x3))), (0, x3)]) dX3_allAlike_26 rfl rfl ?_
    obtain ⟨q2, h⟩ := h
    refine y_iinc (ls' := [(2, 19), (0, x1), (0, (zor x2 (zshl 1 x3))), (0, (x3 + 1))]) dX3_allAlike_27 rfl rfl q2 rfl ?_
    refine z_goto (tgt := 4) dX3_allAlike_30 rfl ?_
    exact h
set_option maxRecDepth 20000 in
set_option maxHeartbeats 4000000 in
theorem bX3_sayAll_0 {G : zG} {d : Nat} {M : zM} {Q : zV → zM → Prop} (hG : zP G)
    (h : Y G (d + 1) mX3_sayAll 5 [(2, 19), (0, (M 19 13)), (9, 0)] [] M Q) :
    Y G (d + 1) mX3_sayAll 0 [(2, 19), (9, 0), (9, 0)] [] M Q := by
  refine z_aloadn dX3_sayAll_0 rfl (Or.inl rfl) ?_
  refine y_getf (x := (M 19 13)) dX3_sayAll_1 fX3_72 sh19 (by decide) rfl rfl ?_
  refine y_istoren (ls' := [(2, 19), (0, (M 19 13)), (9, 0)]) dX3_sayAll_4 rfl rfl ?_
  exact h
set_option maxRecDepth 20000 in
set_option maxHeartbeats 4000000 in
theorem bX3_sayAll_5 {G : zG} {d : Nat} {M : zM} {Q : zV → zM → Prop} (hG : zP G) {x1 : Int}
    (h : (((M 19 8) ≤ x1 → Q (9, 0) (zset M 19 13 (M 19 8))) ∧ (x1 < (M 19 8) → (0 ≤ x1 ∧ x1 < 12) ∧ (0 ≤ x1 ∧ x1 < 12) ∧ ((0 < ((zset M (49 + 9 * x1) 8 0) 20 x1) → (0 ≤ x1 ∧ x1 < 12) ∧ (0 ≤ x1 ∧ x1 < 12) ∧ (0 ≤ x1 ∧ x1 < 12) ∧ Y G d mX1_say 0 [(2, (49 + 9 * x1)), (2, ((zset M (49 + 9 * x1) 8 0) 20 x1)), (0, ((zset M (49 + 9 * x1) 8 0) 22 x1)), (0, ((zset M (49 + 9 * x1) 8 0) 19 9)), (0, 0), (9, 0), (9, 0), (9, 0)] [] (zset M (49 + 9 * x1) 8 0) (fun r M' => Y G (d + 1) mX3_sayAll 67 [(2, 19), (0, x1), (9, 0)] (zpush r [(0, x1), (2, 29)]) M' Q)) ∧ (((zset M (49 + 9 * x1) 8 0) 20 x1) ≤ 0 → (0 ≤ x1 ∧ x1 < 12) ∧ (0 ≤ x1 ∧ x1 < 12) ∧ Y G (d + 1) mX3_sayAll 77 [(2, 19), (0, x1), (0, 0)] [] (zset (zset (zset M (49 + 9 * x1) 8 0) 29 x1 (-1)) 30 x1 x1) Q))))) :
    Y G (d + 1) mX3_sayAll 5 [(2, 19), (0, x1), (9, 0)] [] M Q := by
  refine z_iloadn dX3_sayAll_5 rfl ?_
  refine z_aloadn dX3_sayAll_6 rfl (Or.inl rfl) ?_
  refine y_getf (x := (M 19 8)) dX3_sayAll_7 fX3_56 sh19 (by decide) rfl rfl ?_
  refine z_icmpge (tgt := 142) dX3_sayAll_10 rfl (fun q => ?_) (fun q => ?_)
  · replace h := h.1 q
    refine z_aloadn dX3_sayAll_142 rfl (Or.inl rfl) ?_
    refine z_aloadn dX3_sayAll_143 rfl (Or.inl rfl) ?_
    refine y_getf (x := (M 19 8)) dX3_sayAll_144 fX3_56 sh19 (by decide) rfl rfl ?_
    refine y_putf (M' := zset M 19 13 (M 19 8)) hG dX3_sayAll_147 fX3_72 sh19 (by decide) ⟨rfl, rfl⟩ p3_13 (fun q => absurd q (by decide)) (by decide) rfl ?_
    exact z_return dX3_sayAll_150 rfl rfl h
  · replace h := h.2 q
    refine z_aloadn dX3_sayAll_13 rfl (Or.inl rfl) ?_
    refine y_getr (v := 28) hG dX3_sayAll_14 fX3_39 sh19 (by decide) rfl (by decide +kernel) (by decide) ?_
    refine z_iloadn dX3_sayAll_17 rfl ?_
    obtain ⟨q1, h⟩ := h
    refine y_aaldn (v := (49 + 9 * x1)) hG dX3_sayAll_18 sh28 q1 (nd_at q1).1 (nd_at q1).2.1 ?_
    refine z_iconst dX3_sayAll_19 ki_0 ?_
    refine y_putf (M' := zset M (49 + 9 * x1) 8 0) hG dX3_sayAll_20 fX3_92 (nd_0 (nd_at q1).2.2) (by decide) ⟨rfl, rfl⟩ p1_8 (fun q => absurd q (by decide)) (by decide) rfl ?_
    refine z_aloadn dX3_sayAll_23 rfl (Or.inl rfl) ?_
    refine y_getr (v := 29) hG dX3_sayAll_24 fX3_42 sh19 (by decide) rfl (by decide +kernel) (by decide) ?_
    refine z_iloadn dX3_sayAll_27 rfl ?_
    refine z_aloadn dX3_sayAll_28 rfl (Or.inl rfl) ?_
    refine y_getr (v := 20) hG dX3_sayAll_29 fX3_11 sh19 (by decide) rfl (by decide +kernel) (by decide) ?_
    refine z_iloadn dX3_sayAll_32 rfl ?_
    obtain ⟨q3, h⟩ := h
    refine y_aaldt (x := ((zset M (49 + 9 * x1) 8 0) 20 x1)) dX3_sayAll_33 q3 rfl ?_
    refine z_ifnonnull (tgt := 41) dX3_sayAll_34 rfl (fun q => ?_) (fun q => ?_)
    · replace h := h.1 q
      refine z_aloadn dX3_sayAll_41 rfl (Or.inl rfl) ?_
      refine y_getr (v := 28) hG dX3_sayAll_42 fX3_39 sh19 (by decide) rfl (by decide +kernel) (by decide) ?_
      refine z_iloadn dX3_sayAll_45 rfl ?_
      obtain ⟨q4, h⟩ := h
      refine y_aaldn (v := (49 + 9 * x1)) hG dX3_sayAll_46 sh28 q4 (nd_at q4).1 (nd_at q4).2.1 ?_
      refine z_aloadn dX3_sayAll_47 rfl (Or.inl rfl) ?_
      refine y_getr (v := 20) hG dX3_sayAll_48 fX3_11 sh19 (by decide) rfl (by decide +kernel) (by decide) ?_
      refine z_iloadn dX3_sayAll_51 rfl ?_
      obtain ⟨q6, h⟩ := h
      refine y_aaldt (x := ((zset M (49 + 9 * x1) 8 0) 20 x1)) dX3_sayAll_52 q6 rfl ?_
      refine z_aloadn dX3_sayAll_53 rfl (Or.inl rfl) ?_
      refine y_getr (v := 22) hG dX3_sayAll_54 fX3_21 sh19 (by decide) rfl (by decide +kernel) (by decide) ?_
      refine z_iloadn dX3_sayAll_57 rfl ?_
      obtain ⟨q7, h⟩ := h
      refine y_iald (x := ((zset M (49 + 9 * x1) 8 0) 22 x1)) dX3_sayAll_58 sh22 q7 rfl ?_
      refine z_aloadn dX3_sayAll_59 rfl (Or.inl rfl) ?_
      refine y_getf (x := ((zset M (49 + 9 * x1) 8 0) 19 9)) dX3_sayAll_60 fX3_69 sh19 (by decide) rfl rfl ?_
      refine z_iconst dX3_sayAll_63 ki_0 ?_
      refine y_cv (mt2 := mX1_say) (en := [(2, (49 + 9 * x1)), (2, ((zset M (49 + 9 * x1) 8 0) 20 x1)), (0, ((zset M (49 + 9 * x1) 8 0) 22 x1)), (0, ((zset M (49 + 9 * x1) 8 0) 19 9)), (0, 0), (9, 0), (9, 0), (9, 0)]) (st := [(0, x1), (2, 29)]) (as := [(2, ((zset M (49 + 9 * x1) 8 0) 20 x1)), (0, ((zset M (49 + 9 * x1) 8 0) 22 x1)), (0, ((zset M (49 + 9 * x1) 8 0) 19 9)), (0, 0)]) dX3_sayAll_64 lX3_95 kX1_say iX1_say eX1_say rfl (nd_0 (nd_at q4).2.2) (by decide +kernel) (Nat.le_of_ble_eq_true rfl) (Nat.le_of_ble_eq_true rfl) rfl ?_
      exact h
    · replace h := h.2 q
      refine z_iconst dX3_sayAll_37 ki_m1 ?_
      refine z_goto (tgt := 67) dX3_sayAll_38 rfl ?_
      obtain ⟨q8, h⟩ := h
      refine y_iast hG dX3_sayAll_67 sh29 q8 ?_
      refine z_aloadn dX3_sayAll_68 rfl (Or.inl rfl) ?_
      refine y_getr (v := 30) hG dX3_sayAll_69 fX3_45 sh19 (by decide) rfl (by decide +kernel) (by decide) ?_
      refine z_iloadn dX3_sayAll_72 rfl ?_
      refine z_iloadn dX3_sayAll_73 rfl ?_
      obtain ⟨q9, h⟩ := h
      refine y_iast hG dX3_sayAll_74 sh30 q9 ?_
      refine z_iconst dX3_sayAll_75 ki_0 ?_
      refine y_istoren (ls' := [(2, 19), (0, x1), (0, 0)]) dX3_sayAll_76 rfl rfl ?_
      exact h
set_option maxRecDepth 20000 in
set_option maxHeartbeats 4000000 in
theorem bX3_sayAll_77 {G : zG} {d : Nat} {M : zM} {Q : zV → zM → Prop} (hG : zP G) {x1 x2 : Int}
    (h : ((x1 ≤ x2 → (-2147483648 ≤ x1 + 1 ∧ x1 + 1 ≤ 2147483647) ∧ Y G (d + 1) mX3_sayAll 5 [(2, 19), (0, (x1 + 1)), (9, 0)] [] M Q) ∧ (x2 < x1 → (0 ≤ x1 ∧ x1 < 12) ∧ ((¬ (M 30 x1) = x1 → (-2147483648 ≤ x1 + 1 ∧ x1 + 1 ≤ 2147483647) ∧ Y G (d + 1) mX3_sayAll 5 [(2, 19), (0, (x1 + 1)), (9, 0)] [] M Q) ∧ ((M 30 x1) = x1 → (0 ≤ x2 ∧ x2 < 12) ∧ (0 ≤ x2 ∧ x2 < 12) ∧ (0 ≤ x1 ∧ x1 < 12) ∧ (0 ≤ x1 ∧ x1 < 12) ∧ Y G d mX1_orderOf 0 [(2, (49 + 9 * x2)), (0, (M 29 x2)), (2, (49 + 9 * x1)), (0, (M 29 x1)), (0, 0), (9, 0), (9, 0), (9, 0), (9, 0)] [] M (fun r M' => Y G (d + 1) mX3_sayAll 120 [(2, 19), (0, x1), (0, x2)] (zpush r []) M' Q)))))) :
    Y G (d + 1) mX3_sayAll 77 [(2, 19), (0, x1), (0, x2)] [] M Q := by
  refine z_iloadn dX3_sayAll_77 rfl ?_
  refine z_iloadn dX3_sayAll_78 rfl ?_
  refine z_icmpge (tgt := 136) dX3_sayAll_79 rfl (fun q => ?_) (fun q => ?_)
  · replace h := h.1 q
    obtain ⟨q1, h⟩ := h
    refine y_iinc (ls' := [(2, 19), (0, (x1 + 1)), (0, x2)]) dX3_sayAll_136 rfl rfl q1 rfl ?_
    refine z_goto (tgt := 5) dX3_sayAll_139 rfl ?_
    refine z_sub (ls' := [(2, 19), (0, (x1 + 1)), (9, 0)]) ⟨Or.inl rfl, Or.inl rfl, Or.inr rfl, trivial⟩ ?_
    exact h
  · replace h := h.2 q
    refine z_aloadn dX3_sayAll_82 rfl (Or.inl rfl) ?_
    refine y_getr (v := 30) hG dX3_sayAll_83 fX3_45 sh19 (by decide) rfl (by decide +kernel) (by decide) ?_
    refine z_iloadn dX3_sayAll_86 rfl ?_
    obtain ⟨q2, h⟩ := h
    refine y_iald (x := (M 30 x1)) dX3_sayAll_87 sh30 q2 rfl ?_
    refine z_iloadn dX3_sayAll_88 rfl ?_
    refine z_icmpne (tgt := 136) dX3_sayAll_89 rfl (fun q => ?_) (fun q => ?_)
    · replace h := h.1 q
      obtain ⟨q3, h⟩ := h
      refine y_iinc (ls' := [(2, 19), (0, (x1 + 1)), (0, x2)]) dX3_sayAll_136 rfl rfl q3 rfl ?_
      refine z_goto (tgt := 5) dX3_sayAll_139 rfl ?_
      refine z_sub (ls' := [(2, 19), (0, (x1 + 1)), (9, 0)]) ⟨Or.inl rfl, Or.inl rfl, Or.inr rfl, trivial⟩ ?_
      exact h
    · replace h := h.2 q
      refine z_aloadn dX3_sayAll_92 rfl (Or.inl rfl) ?_
      refine y_getr (v := 28) hG dX3_sayAll_93 fX3_39 sh19 (by decide) rfl (by decide +kernel) (by decide) ?_
      refine z_iloadn dX3_sayAll_96 rfl ?_
      obtain ⟨q4, h⟩ := h
      refine y_aaldn (v := (49 + 9 * x2)) hG dX3_sayAll_97 sh28 q4 (nd_at q4).1 (nd_at q4).2.1 ?_
      refine z_aloadn dX3_sayAll_98 rfl (Or.inl rfl) ?_
      refine y_getr (v := 29) hG dX3_sayAll_99 fX3_42 sh19 (by decide) rfl (by decide +kernel) (by decide) ?_
      refine z_iloadn dX3_sayAll_102 rfl ?_
      obtain ⟨q6, h⟩ := h
      refine y_iald (x := (M 29 x2)) dX3_sayAll_103 sh29 q6 rfl ?_
      refine z_aloadn dX3_sayAll_104 rfl (Or.inl rfl) ?_
      refine y_getr (v := 28) hG dX3_sayAll_105 fX3_39 sh19 (by decide) rfl (by decide +kernel) (by decide) ?_
      refine z_iloadn dX3_sayAll_108 rfl ?_
      obtain ⟨q7, h⟩ := h
      refine y_aaldn (v := (49 + 9 * x1)) hG dX3_sayAll_109 sh28 q7 (nd_at q7).1 (nd_at q7).2.1 ?_
      refine z_aloadn dX3_sayAll_110 rfl (Or.inl rfl) ?_
      refine y_getr (v := 29) hG dX3_sayAll_111 fX3_42 sh19 (by decide) rfl (by decide +kernel) (by decide) ?_
      refine z_iloadn dX3_sayAll_114 rfl ?_
      obtain ⟨q9, h⟩ := h
      refine y_iald (x := (M 29 x1)) dX3_sayAll_115 sh29 q9 rfl ?_
      refine z_iconst dX3_sayAll_116 ki_0 ?_
      refine y_cs (mt2 := mX1_orderOf) (en := [(2, (49 + 9 * x2)), (0, (M 29 x2)), (2, (49 + 9 * x1)), (0, (M 29 x1)), (0, 0), (9, 0), (9, 0), (9, 0), (9, 0)]) (st := []) (as := [(2, (49 + 9 * x2)), (0, (M 29 x2)), (2, (49 + 9 * x1)), (0, (M 29 x1)), (0, 0)]) dX3_sayAll_117 lX3_99 kX1_orderOf tX1_orderOf rfl (Nat.le_of_ble_eq_true rfl) (Nat.le_of_ble_eq_true rfl) rfl ?_
      exact h
set_option maxRecDepth 20000 in
set_option maxHeartbeats 4000000 in
theorem bX3_sayAll_67 {G : zG} {d : Nat} {M : zM} {Q : zV → zM → Prop} (hG : zP G) {x1 x49 x50 : Int}
    (h : (0 ≤ x50 ∧ x50 < 12) ∧ (0 ≤ x1 ∧ x1 < 12) ∧ Y G (d + 1) mX3_sayAll 77 [(2, 19), (0, x1), (0, 0)] [] (zset (zset M 29 x50 x49) 30 x1 x1) Q) :
    Y G (d + 1) mX3_sayAll 67 [(2, 19), (0, x1), (9, 0)] [(0, x49), (0, x50), (2, 29)] M Q := by
  obtain ⟨q1, h⟩ := h
  refine y_iast hG dX3_sayAll_67 sh29 q1 ?_
  refine z_aloadn dX3_sayAll_68 rfl (Or.inl rfl) ?_
  refine y_getr (v := 30) hG dX3_sayAll_69 fX3_45 sh19 (by decide) rfl (by decide +kernel) (by decide) ?_
  refine z_iloadn dX3_sayAll_72 rfl ?_
  refine z_iloadn dX3_sayAll_73 rfl ?_
  obtain ⟨q2, h⟩ := h
  refine y_iast hG dX3_sayAll_74 sh30 q2 ?_
  refine z_iconst dX3_sayAll_75 ki_0 ?_
  refine y_istoren (ls' := [(2, 19), (0, x1), (0, 0)]) dX3_sayAll_76 rfl rfl ?_
  exact h
set_option maxRecDepth 20000 in
set_option maxHeartbeats 4000000 in
theorem bX3_sayAll_120 {G : zG} {d : Nat} {M : zM} {Q : zV → zM → Prop} (hG : zP G) {x1 x2 x49 : Int}
    (h : ((¬ x49 = 0 → (-2147483648 ≤ x2 + 1 ∧ x2 + 1 ≤ 2147483647) ∧ Y G (d + 1) mX3_sayAll 77 [(2, 19), (0, x1), (0, (x2 + 1))] [] M Q) ∧ (x49 = 0 → (0 ≤ x1 ∧ x1 < 12) ∧ (-2147483648 ≤ x2 + 1 ∧ x2 + 1 ≤ 2147483647) ∧ Y G (d + 1) mX3_sayAll 77 [(2, 19), (0, x1), (0, (x2 + 1))] [] (zset M 30 x1 x2) Q))) :
    Y G (d + 1) mX3_sayAll 120 [(2, 19), (0, x1), (0, x2)] [(0, x49)] M Q := by
  refine z_ifne (tgt := 130) dX3_sayAll_120 rfl (fun q => ?_) (fun q => ?_)
  · replace h := h.1 q
    obtain ⟨q1, h⟩ := h
    refine y_iinc (ls' := [(2, 19), (0, x1), (0, (x2 + 1))]) dX3_sayAll_130 rfl rfl q1 rfl ?_
    refine z_goto (tgt := 77) dX3_sayAll_133 rfl ?_
    exact h
  · replace h := h.2 q
    refine z_aloadn dX3_sayAll_123 rfl (Or.inl rfl) ?_
    refine y_getr (v := 30) hG dX3_sayAll_124 fX3_45 sh19 (by decide) rfl (by decide +kernel) (by decide) ?_
    refine z_iloadn dX3_sayAll_127 rfl ?_
    refine z_iloadn dX3_sayAll_128 rfl ?_
    obtain ⟨q2, h⟩ := h
    refine y_iast hG dX3_sayAll_129 sh30 q2 ?_
    obtain ⟨q3, h⟩ := h
    refine y_iinc (ls' := [(2, 19), (0, x1), (0, (x2 + 1))]) dX3_sayAll_130 rfl rfl q3 rfl ?_
    refine z_goto (tgt := 77) dX3_sayAll_133 rfl ?_
    exact h
set_option maxRecDepth 20000 in
set_option maxHeartbeats 4000000 in
theorem bX3_areAlikeByAll_0 {G : zG} {d : Nat} {M : zM} {Q : zV → zM → Prop} (hG : zP G) {x1 x2 : Int}
    (h : (0 ≤ x1 ∧ x1 < 12) ∧ (((M 20 x1) ≤ 0 → Q (0, 0) M) ∧ (0 < (M 20 x1) → (0 ≤ x2 ∧ x2 < 12) ∧ ((0 < (M 20 x2) → (0 ≤ x1 ∧ x1 < 12) ∧ (0 ≤ x1 ∧ x1 < 12) ∧ Y G d mX1_say 0 [(2, 31), (2, (M 20 x1)), (0, (M 22 x1)), (0, 255), (0, 0), (9, 0), (9, 0), (9, 0)] [] (zset (zset M 31 8 0) 40 8 0) (fun r M' => Y G (d + 1) mX3_areAlikeByAll 59 [(2, 19), (0, x1), (0, x2), (9, 0), (9, 0)] (zpush r []) M' Q)) ∧ ((M 20 x2) ≤ 0 → Q (0, 0) M))))) :
    Y G (d + 1) mX3_areAlikeByAll 0 [(2, 19), (0, x1), (0, x2), (9, 0), (9, 0)] [] M Q := by
  refine z_aloadn dX3_areAlikeByAll_0 rfl (Or.inl rfl) ?_
  refine y_getr (v := 20) hG dX3_areAlikeByAll_1 fX3_11 sh19 (by decide) rfl (by decide +kernel) (by decide) ?_
  refine z_iloadn dX3_areAlikeByAll_4 rfl ?_
  obtain ⟨q1, h⟩ := h
  refine y_aaldt (x := (M 20 x1)) dX3_areAlikeByAll_5 q1 rfl ?_
  refine z_ifnull (tgt := 18) dX3_areAlikeByAll_6 rfl (fun q => ?_) (fun q => ?_)
  · replace h := h.1 q
    refine z_iconst dX3_areAlikeByAll_18 ki_0 ?_
    exact z_ireturn dX3_areAlikeByAll_19 (Or.inr ⟨rfl, ⟨by decide, by decide⟩⟩) rfl h
  · replace h := h.2 q
    refine z_aloadn dX3_areAlikeByAll_9 rfl (Or.inl rfl) ?_
    refine y_getr (v := 20) hG dX3_areAlikeByAll_10 fX3_11 sh19 (by decide) rfl (by decide +kernel) (by decide) ?_
    refine z_iloadn dX3_areAlikeByAll_13 rfl ?_
    obtain ⟨q2, h⟩ := h
    refine y_aaldt (x := (M 20 x2)) dX3_areAlikeByAll_14 q2 rfl ?_
    refine z_ifnonnull (tgt := 20) dX3_areAlikeByAll_15 rfl (fun q => ?_) (fun q => ?_)
    · replace h := h.1 q
      refine z_aloadn dX3_areAlikeByAll_20 rfl (Or.inl rfl) ?_
      refine y_getr (v := 31) hG dX3_areAlikeByAll_21 fX3_49 sh19 (by decide) rfl (by decide +kernel) (by decide) ?_
      refine z_iconst dX3_areAlikeByAll_24 ki_0 ?_
      refine y_putf (M' := zset M 31 8 0) hG dX3_areAlikeByAll_25 fX3_92 sh31 (by decide) ⟨rfl, rfl⟩ p1_8 (fun q => absurd q (by decide)) (by decide) rfl ?_
      refine z_aloadn dX3_areAlikeByAll_28 rfl (Or.inl rfl) ?_
      refine y_getr (v := 40) hG dX3_areAlikeByAll_29 fX3_53 sh19 (by decide) rfl (by decide +kernel) (by decide) ?_
      refine z_iconst dX3_areAlikeByAll_32 ki_0 ?_
      refine y_putf (M' := zset (zset M 31 8 0) 40 8 0) hG dX3_areAlikeByAll_33 fX3_92 sh40 (by decide) ⟨rfl, rfl⟩ p1_8 (fun q => absurd q (by decide)) (by decide) rfl ?_
      refine z_aloadn dX3_areAlikeByAll_36 rfl (Or.inl rfl) ?_
      refine y_getr (v := 31) hG dX3_areAlikeByAll_37 fX3_49 sh19 (by decide) rfl (by decide +kernel) (by decide) ?_
      refine z_aloadn dX3_areAlikeByAll_40 rfl (Or.inl rfl) ?_
      refine y_getr (v := 20) hG dX3_areAlikeByAll_41 fX3_11 sh19 (by decide) rfl (by decide +kernel) (by decide) ?_
      refine z_iloadn dX3_areAlikeByAll_44 rfl ?_
      obtain ⟨q3, h⟩ := h
      refine y_aaldt (x := (M 20 x1)) dX3_areAlikeByAll_45 q3 (((zset_ne (fun q => absurd q.1 (by decide))).trans (zset_ne (fun q => absurd q.1 (by decide))))) ?_
      refine z_aloadn dX3_areAlikeByAll_46 rfl (Or.inl rfl) ?_
      refine y_getr (v := 22) hG dX3_areAlikeByAll_47 fX3_21 sh19 (by decide) rfl (by decide +kernel) (by decide) ?_
      refine z_iloadn dX3_areAlikeByAll_50 rfl ?_
      obtain ⟨q4, h⟩ := h
      refine y_iald (x := (M 22 x1)) dX3_areAlikeByAll_51 sh22 q4 (((zset_ne (fun q => absurd q.1 (by decide))).trans (zset_ne (fun q => absurd q.1 (by decide))))) ?_
      refine z_sipush dX3_areAlikeByAll_52 ks_255 ?_
      refine z_iconst dX3_areAlikeByAll_55 ki_0 ?_
      refine y_cv (mt2 := mX1_say) (en := [(2, 31), (2, (M 20 x1)), (0, (M 22 x1)), (0, 255), (0, 0), (9, 0), (9, 0), (9, 0)]) (st := []) (as := [(2, (M 20 x1)), (0, (M 22 x1)), (0, 255), (0, 0)]) dX3_areAlikeByAll_56 lX3_95 kX1_say iX1_say eX1_say rfl sh31 (by decide +kernel) (Nat.le_of_ble_eq_true rfl) (Nat.le_of_ble_eq_true rfl) rfl ?_
      exact h
    · replace h := h.2 q
      refine z_iconst dX3_areAlikeByAll_18 ki_0 ?_
      exact z_ireturn dX3_areAlikeByAll_19 (Or.inr ⟨rfl, ⟨by decide, by decide⟩⟩) rfl h
set_option maxRecDepth 20000 in
set_option maxHeartbeats 4000000 in
theorem bX3_areAlikeByAll_59 {G : zG} {d : Nat} {M : zM} {Q : zV → zM → Prop} (hG : zP G) {x1 x2 x49 : Int}
    (h : (0 ≤ x2 ∧ x2 < 12) ∧ (0 ≤ x2 ∧ x2 < 12) ∧ Y G d mX1_say 0 [(2, 40), (2, (M 20 x2)), (0, (M 22 x2)), (0, 255), (0, 0), (9, 0), (9, 0), (9, 0)] [] M (fun r M' => Y G (d + 1) mX3_areAlikeByAll 83 [(2, 19), (0, x1), (0, x2), (0, x49), (9, 0)] (zpush r []) M' Q)) :
    Y G (d + 1) mX3_areAlikeByAll 59 [(2, 19), (0, x1), (0, x2), (9, 0), (9, 0)] [(0, x49)] M Q := by
  refine y_istoren (ls' := [(2, 19), (0, x1), (0, x2), (0, x49), (9, 0)]) dX3_areAlikeByAll_59 rfl rfl ?_
  refine z_aloadn dX3_areAlikeByAll_60 rfl (Or.inl rfl) ?_
  refine y_getr (v := 40) hG dX3_areAlikeByAll_61 fX3_53 sh19 (by decide) rfl (by decide +kernel) (by decide) ?_
  refine z_aloadn dX3_areAlikeByAll_64 rfl (Or.inl rfl) ?_
  refine y_getr (v := 20) hG dX3_areAlikeByAll_65 fX3_11 sh19 (by decide) rfl (by decide +kernel) (by decide) ?_
  refine z_iloadn dX3_areAlikeByAll_68 rfl ?_
  obtain ⟨q1, h⟩ := h
  refine y_aaldt (x := (M 20 x2)) dX3_areAlikeByAll_69 q1 rfl ?_
  refine z_aloadn dX3_areAlikeByAll_70 rfl (Or.inl rfl) ?_
  refine y_getr (v := 22) hG dX3_areAlikeByAll_71 fX3_21 sh19 (by decide) rfl (by decide +kernel) (by decide) ?_
  refine z_iloadn dX3_areAlikeByAll_74 rfl ?_
  obtain ⟨q2, h⟩ := h
  refine y_iald (x := (M 22 x2)) dX3_areAlikeByAll_75 sh22 q2 rfl ?_
  refine z_sipush dX3_areAlikeByAll_76 ks_255 ?_
  refine z_iconst dX3_areAlikeByAll_79 ki_0 ?_
  refine y_cv (mt2 := mX1_say) (en := [(2, 40), (2, (M 20 x2)), (0, (M 22 x2)), (0, 255), (0, 0), (9, 0), (9, 0), (9, 0)]) (st := []) (as := [(2, (M 20 x2)), (0, (M 22 x2)), (0, 255), (0, 0)]) dX3_areAlikeByAll_80 lX3_95 kX1_say iX1_say eX1_say rfl sh40 (by decide +kernel) (Nat.le_of_ble_eq_true rfl) (Nat.le_of_ble_eq_true rfl) rfl ?_
  exact h
set_option maxRecDepth 20000 in
set_option maxHeartbeats 4000000 in
theorem bX3_areAlikeByAll_83 {G : zG} {d : Nat} {M : zM} {Q : zV → zM → Prop} (hG : zP G) {x1 x2 x3 x49 : Int}
    (h : Y G d mX1_orderOf 0 [(2, 31), (0, x3), (2, 40), (0, x49), (0, 0), (9, 0), (9, 0), (9, 0), (9, 0)] [] M (fun r M' => Y G (d + 1) mX3_areAlikeByAll 100 [(2, 19), (0, x1), (0, x2), (0, x3), (0, x49)] (zpush r []) M' Q)) :
    Y G (d + 1) mX3_areAlikeByAll 83 [(2, 19), (0, x1), (0, x2), (0, x3), (9, 0)] [(0, x49)] M Q := by
  refine y_istore (ls' := [(2, 19), (0, x1), (0, x2), (0, x3), (0, x49)]) dX3_areAlikeByAll_83 rfl rfl ?_
  refine z_aloadn dX3_areAlikeByAll_85 rfl (Or.inl rfl) ?_
  refine y_getr (v := 31) hG dX3_areAlikeByAll_86 fX3_49 sh19 (by decide) rfl (by decide +kernel) (by decide) ?_
  refine z_iloadn dX3_areAlikeByAll_89 rfl ?_
  refine z_aloadn dX3_areAlikeByAll_90 rfl (Or.inl rfl) ?_
  refine y_getr (v := 40) hG dX3_areAlikeByAll_91 fX3_53 sh19 (by decide) rfl (by decide +kernel) (by decide) ?_
  refine z_iload dX3_areAlikeByAll_94 rfl ?_
  refine z_iconst dX3_areAlikeByAll_96 ki_0 ?_
  refine y_cs (mt2 := mX1_orderOf) (en := [(2, 31), (0, x3), (2, 40), (0, x49), (0, 0), (9, 0), (9, 0), (9, 0), (9, 0)]) (st := []) (as := [(2, 31), (0, x3), (2, 40), (0, x49), (0, 0)]) dX3_areAlikeByAll_97 lX3_99 kX1_orderOf tX1_orderOf rfl (Nat.le_of_ble_eq_true rfl) (Nat.le_of_ble_eq_true rfl) rfl ?_
  exact h
set_option maxRecDepth 20000 in
set_option maxHeartbeats 4000000 in
theorem bX3_areAlikeByAll_100 {G : zG} {d : Nat} {M : zM} {Q : zV → zM → Prop} (hG : zP G) {x1 x2 x3 x4 x49 : Int}
    (h : ((¬ x49 = 0 → Q (0, 0) M) ∧ (x49 = 0 → Q (0, 1) M))) :
    Y G (d + 1) mX3_areAlikeByAll 100 [(2, 19), (0, x1), (0, x2), (0, x3), (0, x4)] [(0, x49)] M Q := by
  refine z_ifne (tgt := 107) dX3_areAlikeByAll_100 rfl (fun q => ?_) (fun q => ?_)
  · replace h := h.1 q
    refine z_iconst dX3_areAlikeByAll_107 ki_0 ?_
    exact z_ireturn dX3_areAlikeByAll_108 (Or.inr ⟨rfl, ⟨by decide, by decide⟩⟩) rfl h
  · replace h := h.2 q
    refine z_iconst dX3_areAlikeByAll_103 ki_1 ?_
    refine z_goto (tgt := 108) dX3_areAlikeByAll_104 rfl ?_
    exact z_ireturn dX3_areAlikeByAll_108 (Or.inr ⟨rfl, ⟨by decide, by decide⟩⟩) rfl h
