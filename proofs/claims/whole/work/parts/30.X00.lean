set_option maxRecDepth 20000 in
set_option maxHeartbeats 4000000 in
theorem bX0_countWorlds_0 {G : zG} {d : Nat} {M : zM} {Q : zV → zM → Prop} (hG : zP G)
    (h : (((M 176 11) = 0 → Y G (d + 1) mX0_countWorlds 33 [(2, 176), (2, 19), (2, 2), (0, 0), (0, 0), (9, 0)] [] (zset M 176 4 0) Q) ∧ (¬ (M 176 11) = 0 → ((¬ (M 176 12) = (M 2 10) → Y G (d + 1) mX0_countWorlds 33 [(2, 176), (2, 19), (2, 2), (0, 0), (0, 0), (9, 0)] [] (zset M 176 4 0) Q) ∧ ((M 176 12) = (M 2 10) → Q (0, (M 176 10)) M))))) :
    Y G (d + 1) mX0_countWorlds 0 [(2, 176), (2, 19), (2, 2), (9, 0), (9, 0), (9, 0)] [] M Q := by
  refine z_aloadn dX0_countWorlds_0 rfl (Or.inl rfl) ?_
  refine y_getf (x := (M 176 11)) dX0_countWorlds_1 fX0_37 sh176 (by decide) rfl rfl ?_
  refine z_ifeq (tgt := 23) dX0_countWorlds_4 rfl (fun q => ?_) (fun q => ?_)
  · replace h := h.1 q
    refine z_iconst dX0_countWorlds_23 ki_0 ?_
    refine y_istoren (ls' := [(2, 176), (2, 19), (2, 2), (0, 0), (9, 0), (9, 0)]) dX0_countWorlds_24 rfl rfl ?_
    refine z_aloadn dX0_countWorlds_25 rfl (Or.inl rfl) ?_
    refine z_iconst dX0_countWorlds_26 ki_0 ?_
    refine y_putf (M' := zset M 176 4 0) hG dX0_countWorlds_27 fX0_81 sh176 (by decide) ⟨rfl, rfl⟩ p0_4 (fun q => absurd q (by decide)) (by decide) rfl ?_
    refine z_iconst dX0_countWorlds_30 ki_0 ?_
    refine y_istore (ls' := [(2, 176), (2, 19), (2, 2), (0, 0), (0, 0), (9, 0)]) dX0_countWorlds_31 rfl rfl ?_
    exact h
  · replace h := h.2 q
    refine z_aloadn dX0_countWorlds_7 rfl (Or.inl rfl) ?_
    refine y_getf (x := (M 176 12)) dX0_countWorlds_8 fX0_70 sh176 (by decide) rfl rfl ?_
    refine z_aloadn dX0_countWorlds_11 rfl (Or.inl rfl) ?_
    refine y_getf (x := (M 2 10)) dX0_countWorlds_12 fX0_73 sh2 (by decide) rfl rfl ?_
    refine z_icmpne (tgt := 23) dX0_countWorlds_15 rfl (fun q => ?_) (fun q => ?_)
    · replace h := h.1 q
      refine z_iconst dX0_countWorlds_23 ki_0 ?_
      refine y_istoren (ls' := [(2, 176), (2, 19), (2, 2), (0, 0), (9, 0), (9, 0)]) dX0_countWorlds_24 rfl rfl ?_
      refine z_aloadn dX0_countWorlds_25 rfl (Or.inl rfl) ?_
      refine z_iconst dX0_countWorlds_26 ki_0 ?_
      refine y_putf (M' := zset M 176 4 0) hG dX0_countWorlds_27 fX0_81 sh176 (by decide) ⟨rfl, rfl⟩ p0_4 (fun q => absurd q (by decide)) (by decide) rfl ?_
      refine z_iconst dX0_countWorlds_30 ki_0 ?_
      refine y_istore (ls' := [(2, 176), (2, 19), (2, 2), (0, 0), (0, 0), (9, 0)]) dX0_countWorlds_31 rfl rfl ?_
      exact h
    · replace h := h.2 q
      refine z_aloadn dX0_countWorlds_18 rfl (Or.inl rfl) ?_
      refine y_getf (x := (M 176 10)) dX0_countWorlds_19 fX0_78 sh176 (by decide) rfl rfl ?_
      exact z_ireturn dX0_countWorlds_22 (Or.inl rfl) rfl h
set_option maxRecDepth 20000 in
set_option maxHeartbeats 4000000 in
theorem bX0_countWorlds_33 {G : zG} {d : Nat} {M : zM} {Q : zV → zM → Prop} (hG : zP G) {x3 x4 : Int}
    (h : (((M 176 2) ≤ x4 → Y G d mJ7_fill_53178 0 [(2, 182), (0, 0), (9, 0), (9, 0)] [] M (fun r M' => Y G (d + 1) mX0_countWorlds 82 [(2, 176), (2, 19), (2, 2), (0, x3), (0, x4), (9, 0)] (zpush r []) M' Q)) ∧ (x4 < (M 176 2) → (0 ≤ x4 ∧ x4 < 8) ∧ (0 ≤ (M 178 x4) ∧ (M 178 x4) < 12) ∧ (0 ≤ x4 ∧ x4 < 8) ∧ Y G d mX0_addUnlike 0 [(2, 176), (0, (M 178 x4)), (9, 0)] [] M (fun r M' => Y G (d + 1) mX0_countWorlds 68 [(2, 176), (2, 19), (2, 2), (0, (zor x3 (M 25 (M 178 x4)))), (0, x4), (9, 0)] (zpush r []) M' Q)))) :
    Y G (d + 1) mX0_countWorlds 33 [(2, 176), (2, 19), (2, 2), (0, x3), (0, x4), (9, 0)] [] M Q := by
  refine z_iload dX0_countWorlds_33 rfl ?_
  refine z_aloadn dX0_countWorlds_35 rfl (Or.inl rfl) ?_
  refine y_getf (x := (M 176 2)) dX0_countWorlds_36 fX0_33 sh176 (by decide) rfl rfl ?_
  refine z_icmpge (tgt := 74) dX0_countWorlds_39 rfl (fun q => ?_) (fun q => ?_)
  · replace h := h.1 q
    refine z_aloadn dX0_countWorlds_74 rfl (Or.inl rfl) ?_
    refine y_getr (v := 182) hG dX0_countWorlds_75 fX0_27 sh176 (by decide) rfl (by decide +kernel) (by decide) ?_
    refine z_iconst dX0_countWorlds_78 ki_0 ?_
    refine y_cs (mt2 := mJ7_fill_53178) (en := [(2, 182), (0, 0), (9, 0), (9, 0)]) (st := []) (as := [(2, 182), (0, 0)]) dX0_countWorlds_79 lX0_56 kJ7_fill_53178 tJ7_fill_53178 rfl (Nat.le_of_ble_eq_true rfl) (Nat.le_of_ble_eq_true rfl) rfl ?_
    exact h
  · replace h := h.2 q
    refine z_iloadn dX0_countWorlds_42 rfl ?_
    refine z_aloadn dX0_countWorlds_43 rfl (Or.inl rfl) ?_
    refine y_getr (v := 25) hG dX0_countWorlds_44 fX0_44 sh19 (by decide) rfl (by decide +kernel) (by decide) ?_
    refine z_aloadn dX0_countWorlds_47 rfl (Or.inl rfl) ?_
    refine y_getr (v := 178) hG dX0_countWorlds_48 fX0_15 sh176 (by decide) rfl (by decide +kernel) (by decide) ?_
    refine z_iload dX0_countWorlds_51 rfl ?_
    obtain ⟨q1, h⟩ := h
    refine y_iald (x := (M 178 x4)) dX0_countWorlds_53 sh178 q1 rfl ?_
    obtain ⟨q2, h⟩ := h
    refine y_iald (x := (M 25 (M 178 x4))) dX0_countWorlds_54 sh25 q2 rfl ?_
    refine z_ior dX0_countWorlds_55 ?_
    refine y_istoren (ls' := [(2, 176), (2, 19), (2, 2), (0, (zor x3 (M 25 (M 178 x4)))), (0, x4), (9, 0)]) dX0_countWorlds_56 rfl rfl ?_
    refine z_aloadn dX0_countWorlds_57 rfl (Or.inl rfl) ?_
    refine z_aloadn dX0_countWorlds_58 rfl (Or.inl rfl) ?_
    refine y_getr (v := 178) hG dX0_countWorlds_59 fX0_15 sh176 (by decide) rfl (by decide +kernel) (by decide) ?_
    refine z_iload dX0_countWorlds_62 rfl ?_
    obtain ⟨q3, h⟩ := h
    refine y_iald (x := (M 178 x4)) dX0_countWorlds_64 sh178 q3 rfl ?_
    refine y_cv (mt2 := mX0_addUnlike) (en := [(2, 176), (0, (M 178 x4)), (9, 0)]) (st := []) (as := [(0, (M 178 x4))]) dX0_countWorlds_65 lX0_84 kX0_addUnlike iX0_addUnlike eX0_addUnlike rfl sh176 (by decide +kernel) (Nat.le_of_ble_eq_true rfl) (Nat.le_of_ble_eq_true rfl) rfl ?_
    exact h
set_option maxRecDepth 20000 in
set_option maxHeartbeats 4000000 in
theorem bX0_countWorlds_93 {G : zG} {d : Nat} {M : zM} {Q : zV → zM → Prop} (hG : zP G) {x3 x4 x5 : Int}
    (h : ((10000 ≤ x5 → Q (0, (M 176 10)) (zset (zset M 176 11 1) 176 12 (M 2 10))) ∧ (x5 < 10000 → ((x4 = 0 → Q (0, (M 176 10)) (zset (zset M 176 11 1) 176 12 (M 2 10))) ∧ (¬ x4 = 0 → Y G d mX0_allAnswerAlike 0 [(2, 176), (2, 19), (2, 2), (9, 0), (9, 0)] [] M (fun r M' => Y G (d + 1) mX0_countWorlds 112 [(2, 176), (2, 19), (2, 2), (0, x3), (0, x4), (0, x5)] (zpush r []) M' Q)))))) :
    Y G (d + 1) mX0_countWorlds 93 [(2, 176), (2, 19), (2, 2), (0, x3), (0, x4), (0, x5)] [] M Q := by
  refine z_iload dX0_countWorlds_93 rfl ?_
  refine z_sipush dX0_countWorlds_95 ks_10000 ?_
  refine z_icmpge (tgt := 184) dX0_countWorlds_98 rfl (fun q => ?_) (fun q => ?_)
  · replace h := h.1 q
    refine z_aloadn dX0_countWorlds_184 rfl (Or.inl rfl) ?_
    refine z_iconst dX0_countWorlds_185 ki_1 ?_
    refine y_putf (M' := zset M 176 11 1) hG dX0_countWorlds_186 fX0_37 sh176 (by decide) ⟨rfl, rfl⟩ p0_11 (fun _ => ⟨by decide, by decide⟩) (by decide) rfl ?_
    refine z_aloadn dX0_countWorlds_189 rfl (Or.inl rfl) ?_
    refine z_aloadn dX0_countWorlds_190 rfl (Or.inl rfl) ?_
    refine y_getf (x := (M 2 10)) dX0_countWorlds_191 fX0_73 sh2 (by decide) rfl (zset_ne (fun q => absurd q.1 (by decide))) ?_
    refine y_putf (M' := zset (zset M 176 11 1) 176 12 (M 2 10)) hG dX0_countWorlds_194 fX0_70 sh176 (by decide) ⟨rfl, rfl⟩ p0_12 (fun q => absurd q (by decide)) (by decide) rfl ?_
    refine z_aloadn dX0_countWorlds_197 rfl (Or.inl rfl) ?_
    refine y_getf (x := (M 176 10)) dX0_countWorlds_198 fX0_78 sh176 (by decide) rfl (((zset_ne (fun q => absurd q.2 (by decide))).trans (zset_ne (fun q => absurd q.2 (by decide))))) ?_
    exact z_ireturn dX0_countWorlds_201 (Or.inl rfl) rfl h
  · replace h := h.2 q
    refine z_iload dX0_countWorlds_101 rfl ?_
    refine z_ifeq (tgt := 184) dX0_countWorlds_103 rfl (fun q => ?_) (fun q => ?_)
    · replace h := h.1 q
      refine z_aloadn dX0_countWorlds_184 rfl (Or.inl rfl) ?_
      refine z_iconst dX0_countWorlds_185 ki_1 ?_
      refine y_putf (M' := zset M 176 11 1) hG dX0_countWorlds_186 fX0_37 sh176 (by decide) ⟨rfl, rfl⟩ p0_11 (fun _ => ⟨by decide, by decide⟩) (by decide) rfl ?_
      refine z_aloadn dX0_countWorlds_189 rfl (Or.inl rfl) ?_
      refine z_aloadn dX0_countWorlds_190 rfl (Or.inl rfl) ?_
      refine y_getf (x := (M 2 10)) dX0_countWorlds_191 fX0_73 sh2 (by decide) rfl (zset_ne (fun q => absurd q.1 (by decide))) ?_
      refine y_putf (M' := zset (zset M 176 11 1) 176 12 (M 2 10)) hG dX0_countWorlds_194 fX0_70 sh176 (by decide) ⟨rfl, rfl⟩ p0_12 (fun q => absurd q (by decide)) (by decide) rfl ?_
      refine z_aloadn dX0_countWorlds_197 rfl (Or.inl rfl) ?_
      refine y_getf (x := (M 176 10)) dX0_countWorlds_198 fX0_78 sh176 (by decide) rfl (((zset_ne (fun q => absurd q.2 (by decide))).trans (zset_ne (fun q => absurd q.2 (by decide))))) ?_
      exact z_ireturn dX0_countWorlds_201 (Or.inl rfl) rfl h
    · replace h := h.2 q
      refine z_aloadn dX0_countWorlds_106 rfl (Or.inl rfl) ?_
      refine z_aloadn dX0_countWorlds_107 rfl (Or.inl rfl) ?_
      refine z_aloadn dX0_countWorlds_108 rfl (Or.inl rfl) ?_
      refine y_cv (mt2 := mX0_allAnswerAlike) (en := [(2, 176), (2, 19), (2, 2), (9, 0), (9, 0)]) (st := []) (as := [(2, 19), (2, 2)]) dX0_countWorlds_109 lX0_88 kX0_allAnswerAlike iX0_allAnswerAlike eX0_allAnswerAlike rfl sh176 (by decide +kernel) (Nat.le_of_ble_eq_true rfl) (Nat.le_of_ble_eq_true rfl) rfl ?_
      exact h
set_option maxRecDepth 20000 in
set_option maxHeartbeats 4000000 in
theorem bX0_countWorlds_82 {G : zG} {d : Nat} {M : zM} {Q : zV → zM → Prop} (hG : zP G) {x3 x4 : Int}
    (h : Y G (d + 1) mX0_countWorlds 93 [(2, 176), (2, 19), (2, 2), (0, x3), (0, 1), (0, 0)] [] (zset M 176 10 0) Q) :
    Y G (d + 1) mX0_countWorlds 82 [(2, 176), (2, 19), (2, 2), (0, x3), (0, x4), (9, 0)] [] M Q := by
  refine z_aloadn dX0_countWorlds_82 rfl (Or.inl rfl) ?_
  refine z_iconst dX0_countWorlds_83 ki_0 ?_
  refine y_putf (M' := zset M 176 10 0) hG dX0_countWorlds_84 fX0_78 sh176 (by decide) ⟨rfl, rfl⟩ p0_10 (fun q => absurd q (by decide)) (by decide) rfl ?_
  refine z_iconst dX0_countWorlds_87 ki_1 ?_
  refine y_istore (ls' := [(2, 176), (2, 19), (2, 2), (0, x3), (0, 1), (9, 0)]) dX0_countWorlds_88 rfl rfl ?_
  refine z_iconst dX0_countWorlds_90 ki_0 ?_
  refine y_istore (ls' := [(2, 176), (2, 19), (2, 2), (0, x3), (0, 1), (0, 0)]) dX0_countWorlds_91 rfl rfl ?_
  exact h
set_option maxRecDepth 20000 in
set_option maxHeartbeats 4000000 in
theorem bX0_countWorlds_68 {G : zG} {d : Nat} {M : zM} {Q : zV → zM → Prop} (hG : zP G) {x3 x4 : Int}
    (h : (-2147483648 ≤ x4 + 1 ∧ x4 + 1 ≤ 2147483647) ∧ Y G (d + 1) mX0_countWorlds 33 [(2, 176), (2, 19), (2, 2), (0, x3), (0, (x4 + 1)), (9, 0)] [] M Q) :
    Y G (d + 1) mX0_countWorlds 68 [(2, 176), (2, 19), (2, 2), (0, x3), (0, x4), (9, 0)] [] M Q := by
  obtain ⟨q1, h⟩ := h
  refine y_iinc (ls' := [(2, 176), (2, 19), (2, 2), (0, x3), (0, (x4 + 1)), (9, 0)]) dX0_countWorlds_68 rfl rfl q1 rfl ?_
  refine z_goto (tgt := 33) dX0_countWorlds_71 rfl ?_
  exact h
set_option maxRecDepth 20000 in
set_option maxHeartbeats 4000000 in
theorem bX0_countWorlds_112 {G : zG} {d : Nat} {M : zM} {Q : zV → zM → Prop} (hG : zP G) {x3 x4 x5 x49 : Int}
    (h : ((x49 = 0 → Y G d mX0_nextWorld 0 [(2, 176), (0, x3), (9, 0)] [] M (fun r M' => Y G (d + 1) mX0_countWorlds 176 [(2, 176), (2, 19), (2, 2), (0, x3), (0, x4), (0, x5)] (zpush r []) M' Q)) ∧ (¬ x49 = 0 → (-2147483648 ≤ (M 182 0) * 1000 ∧ (M 182 0) * 1000 ≤ 2147483647) ∧ (-2147483648 ≤ (M 182 1) * 100 ∧ (M 182 1) * 100 ≤ 2147483647) ∧ (-2147483648 ≤ ((M 182 0) * 1000) + ((M 182 1) * 100) ∧ ((M 182 0) * 1000) + ((M 182 1) * 100) ≤ 2147483647) ∧ (-2147483648 ≤ (M 182 2) * 10 ∧ (M 182 2) * 10 ≤ 2147483647) ∧ (-2147483648 ≤ (((M 182 0) * 1000) + ((M 182 1) * 100)) + ((M 182 2) * 10) ∧ (((M 182 0) * 1000) + ((M 182 1) * 100)) + ((M 182 2) * 10) ≤ 2147483647) ∧ (-2147483648 ≤ ((((M 182 0) * 1000) + ((M 182 1) * 100)) + ((M 182 2) * 10)) + (M 182 3) ∧ ((((M 182 0) * 1000) + ((M 182 1) * 100)) + ((M 182 2) * 10)) + (M 182 3) ≤ 2147483647) ∧ (0 ≤ (M 176 10) ∧ (M 176 10) < 10000) ∧ (-2147483648 ≤ (M 176 10) + 1 ∧ (M 176 10) + 1 ≤ 2147483647) ∧ Y G d mX0_nextWorld 0 [(2, 176), (0, x3), (9, 0)] [] (zset (zset M 183 (M 176 10) (((((M 182 0) * 1000) + ((M 182 1) * 100)) + ((M 182 2) * 10)) + (M 182 3))) 176 10 ((M 176 10) + 1)) (fun r M' => Y G (d + 1) mX0_countWorlds 176 [(2, 176), (2, 19), (2, 2), (0, x3), (0, x4), (0, x5)] (zpush r []) M' Q)))) :
    Y G (d + 1) mX0_countWorlds 112 [(2, 176), (2, 19), (2, 2), (0, x3), (0, x4), (0, x5)] [(0, x49)] M Q := by
  refine z_ifeq (tgt := 171) dX0_countWorlds_112 rfl (fun q => ?_) (fun q => ?_)
  · replace h := h.1 q
    refine z_aloadn dX0_countWorlds_171 rfl (Or.inl rfl) ?_
    refine z_iloadn dX0_countWorlds_172 rfl ?_
    refine y_cv (mt2 := mX0_nextWorld) (en := [(2, 176), (0, x3), (9, 0)]) (st := []) (as := [(0, x3)]) dX0_countWorlds_173 lX0_66 kX0_nextWorld iX0_nextWorld eX0_nextWorld rfl sh176 (by decide +kernel) (Nat.le_of_ble_eq_true rfl) (Nat.le_of_ble_eq_true rfl) rfl ?_
    exact h
  · replace h := h.2 q
    refine z_aloadn dX0_countWorlds_115 rfl (Or.inl rfl) ?_
    refine y_getr (v := 183) hG dX0_countWorlds_116 fX0_30 sh176 (by decide) rfl (by decide +kernel) (by decide) ?_
    refine z_aloadn dX0_countWorlds_119 rfl (Or.inl rfl) ?_
    refine y_getf (x := (M 176 10)) dX0_countWorlds_120 fX0_78 sh176 (by decide) rfl rfl ?_
    refine z_aloadn dX0_countWorlds_123 rfl (Or.inl rfl) ?_
    refine y_getr (v := 182) hG dX0_countWorlds_124 fX0_27 sh176 (by decide) rfl (by decide +kernel) (by decide) ?_
    refine z_iconst dX0_countWorlds_127 ki_0 ?_
    refine y_iald (x := (M 182 0)) dX0_countWorlds_128 sh182 ⟨by decide, by decide⟩ rfl ?_
    refine z_sipush dX0_countWorlds_129 ks_1000 ?_
    obtain ⟨q1, h⟩ := h
    refine z_imul dX0_countWorlds_132 q1 ?_
    refine z_aloadn dX0_countWorlds_133 rfl (Or.inl rfl) ?_
    refine y_getr (v := 182) hG dX0_countWorlds_134 fX0_27 sh176 (by decide) rfl (by decide +kernel) (by decide) ?_
    refine z_iconst dX0_countWorlds_137 ki_1 ?_
    refine y_iald (x := (M 182 1)) dX0_countWorlds_138 sh182 ⟨by decide, by decide⟩ rfl ?_
    refine z_bipush dX0_countWorlds_139 kb_100 ?_
    obtain ⟨q2, h⟩ := h
    refine z_imul dX0_countWorlds_141 q2 ?_
    obtain ⟨q3, h⟩ := h
    refine z_iadd dX0_countWorlds_142 q3 ?_
    refine z_aloadn dX0_countWorlds_143 rfl (Or.inl rfl) ?_
    refine y_getr (v := 182) hG dX0_countWorlds_144 fX0_27 sh176 (by decide) rfl (by decide +kernel) (by decide) ?_
    refine z_iconst dX0_countWorlds_147 ki_2 ?_
    refine y_iald (x := (M 182 2)) dX0_countWorlds_148 sh182 ⟨by decide, by decide⟩ rfl ?_
    refine z_bipush dX0_countWorlds_149 kb_10 ?_
    obtain ⟨q4, h⟩ := h
    refine z_imul dX0_countWorlds_151 q4 ?_
    obtain ⟨q5, h⟩ := h
    refine z_iadd dX0_countWorlds_152 q5 ?_
    refine z_aloadn dX0_countWorlds_153 rfl (Or.inl rfl) ?_
    refine y_getr (v := 182) hG dX0_countWorlds_154 fX0_27 sh176 (by decide) rfl (by decide +kernel) (by decide) ?_
    refine z_iconst dX0_countWorlds_157 ki_3 ?_
    refine y_iald (x := (M 182 3)) dX0_countWorlds_158 sh182 ⟨by decide, by decide⟩ rfl ?_
    obtain ⟨q6, h⟩ := h
    refine z_iadd dX0_countWorlds_159 q6 ?_
    obtain ⟨q7, h⟩ := h
    refine y_iast hG dX0_countWorlds_160 sh183 q7 ?_
    refine z_aloadn dX0_countWorlds_161 rfl (Or.inl rfl) ?_
    refine z_dup dX0_countWorlds_162 (show (2 : Nat) ≠ 1 by decide) ?_
    refine y_getf (x := (M 176 10)) dX0_countWorlds_163 fX0_78 sh176 (by decide) rfl (zset_ne (fun q => absurd q.1 (by decide))) ?_
    refine z_iconst dX0_countWorlds_166 ki_1 ?_
    obtain ⟨q8, h⟩ := h
    refine z_iadd dX0_countWorlds_167 q8 ?_
    refine y_putf (M' := zset (zset M 183 (M 176 10) (((((M 182 0) * 1000) + ((M 182 1) * 100)) + ((M 182 2) * 10)) + (M 182 3))) 176 10 ((M 176 10) + 1)) hG dX0_countWorlds_168 fX0_78 sh176 (by decide) ⟨rfl, rfl⟩ p0_10 (fun q => absurd q (by decide)) (by decide) rfl ?_
    refine z_aloadn dX0_countWorlds_171 rfl (Or.inl rfl) ?_
    refine z_iloadn dX0_countWorlds_172 rfl ?_
    refine y_cv (mt2 := mX0_nextWorld) (en := [(2, 176), (0, x3), (9, 0)]) (st := []) (as := [(0, x3)]) dX0_countWorlds_173 lX0_66 kX0_nextWorld iX0_nextWorld eX0_nextWorld rfl sh176 (by decide +kernel) (Nat.le_of_ble_eq_true rfl) (Nat.le_of_ble_eq_true rfl) rfl ?_
    exact h
set_option maxRecDepth 20000 in
set_option maxHeartbeats 4000000 in
theorem bX0_countWorlds_176 {G : zG} {d : Nat} {M : zM} {Q : zV → zM → Prop} (hG : zP G) {x3 x4 x5 x49 : Int}
    (h : (-2147483648 ≤ x5 + 1 ∧ x5 + 1 ≤ 2147483647) ∧ Y G (d + 1) mX0_countWorlds 93 [(2, 176), (2, 19), (2, 2), (0, x3), (0, x49), (0, (x5 + 1))] [] M Q) :
    Y G (d + 1) mX0_countWorlds 176 [(2, 176), (2, 19), (2, 2), (0, x3), (0, x4), (0, x5)] [(0, x49)] M Q := by
  refine y_istore (ls' := [(2, 176), (2, 19), (2, 2), (0, x3), (0, x49), (0, x5)]) dX0_countWorlds_176 rfl rfl ?_
  obtain ⟨q1, h⟩ := h
  refine y_iinc (ls' := [(2, 176), (2, 19), (2, 2), (0, x3), (0, x49), (0, (x5 + 1))]) dX0_countWorlds_178 rfl rfl q1 rfl ?_
  refine z_goto (tgt := 93) dX0_countWorlds_181 rfl ?_
  exact h
set_option maxRecDepth 20000 in
set_option maxHeartbeats 4000000 in
theorem bX0_addUnlike_0 {G : zG} {d : Nat} {M : zM} {Q : zV → zM → Prop} (hG : zP G) {x1 : Int}
    (h : Y G d mX0_addUnlike 2 [(2, 176), (0, x1), (0, 0)] [] M Q) :
    Y G d mX0_addUnlike 0 [(2, 176), (0, x1), (9, 0)] [] M Q := by
  refine z_iconst dX0_addUnlike_0 ki_0 ?_
  refine y_istoren (ls' := [(2, 176), (0, x1), (0, 0)]) dX0_addUnlike_1 rfl rfl ?_
  exact h
set_option maxRecDepth 20000 in
set_option maxHeartbeats 4000000 in
theorem bX0_addUnlike_2 {G : zG} {d : Nat} {M : zM} {Q : zV → zM → Prop} (hG : zP G) {x1 x2 : Int}
    (h : (((M 176 4) ≤ x2 → ((8 ≤ (M 176 4) → Q (9, 0) M) ∧ ((M 176 4) < 8 → (0 ≤ (M 176 4) ∧ (M 176 4) < 8) ∧ (-2147483648 ≤ (M 176 4) + 1 ∧ (M 176 4) + 1 ≤ 2147483647) ∧ Q (9, 0) (zset (zset M 179 (M 176 4) x1) 176 4 ((M 176 4) + 1))))) ∧ (x2 < (M 176 4) → (0 ≤ x2 ∧ x2 < 8) ∧ ((¬ (M 179 x2) = x1 → (-2147483648 ≤ x2 + 1 ∧ x2 + 1 ≤ 2147483647) ∧ Y G d mX0_addUnlike 2 [(2, 176), (0, x1), (0, (x2 + 1))] [] M Q) ∧ ((M 179 x2) = x1 → Q (9, 0) M))))) :
    Y G d mX0_addUnlike 2 [(2, 176), (0, x1), (0, x2)] [] M Q := by
  refine z_iloadn dX0_addUnlike_2 rfl ?_
  refine z_aloadn dX0_addUnlike_3 rfl (Or.inl rfl) ?_
  refine y_getf (x := (M 176 4)) dX0_addUnlike_4 fX0_81 sh176 (by decide) rfl rfl ?_
  refine z_icmpge (tgt := 27) dX0_addUnlike_7 rfl (fun q => ?_) (fun q => ?_)
  · replace h := h.1 q
    refine z_aloadn dX0_addUnlike_27 rfl (Or.inl rfl) ?_
    refine y_getf (x := (M 176 4)) dX0_addUnlike_28 fX0_81 sh176 (by decide) rfl rfl ?_
    refine z_bipush dX0_addUnlike_31 kb_8 ?_
    refine z_icmpge (tgt := 56) dX0_addUnlike_33 rfl (fun q => ?_) (fun q => ?_)
    · replace h := h.1 q
      exact z_return dX0_addUnlike_56 rfl rfl h
    · replace h := h.2 q
      refine z_aloadn dX0_addUnlike_36 rfl (Or.inl rfl) ?_
      refine y_getr (v := 179) hG dX0_addUnlike_37 fX0_18 sh176 (by decide) rfl (by decide +kernel) (by decide) ?_
      refine z_aloadn dX0_addUnlike_40 rfl (Or.inl rfl) ?_
      refine y_getf (x := (M 176 4)) dX0_addUnlike_41 fX0_81 sh176 (by decide) rfl rfl ?_
      refine z_iloadn dX0_addUnlike_44 rfl ?_
      obtain ⟨q1, h⟩ := h
      refine y_iast hG dX0_addUnlike_45 sh179 q1 ?_
      refine z_aloadn dX0_addUnlike_46 rfl (Or.inl rfl) ?_
      refine z_dup dX0_addUnlike_47 (show (2 : Nat) ≠ 1 by decide) ?_
      refine y_getf (x := (M 176 4)) dX0_addUnlike_48 fX0_81 sh176 (by decide) rfl (zset_ne (fun q => absurd q.1 (by decide))) ?_
      refine z_iconst dX0_addUnlike_51 ki_1 ?_
      obtain ⟨q2, h⟩ := h
      refine z_iadd dX0_addUnlike_52 q2 ?_
      refine y_putf (M' := zset (zset M 179 (M 176 4) x1) 176 4 ((M 176 4) + 1)) hG dX0_addUnlike_53 fX0_81 sh176 (by decide) ⟨rfl, rfl⟩ p0_4 (fun q => absurd q (by decide)) (by decide) rfl ?_
      exact z_return dX0_addUnlike_56 rfl rfl h
  · replace h := h.2 q
    refine z_aloadn dX0_addUnlike_10 rfl (Or.inl rfl) ?_
    refine y_getr (v := 179) hG dX0_addUnlike_11 fX0_18 sh176 (by decide) rfl (by decide +kernel) (by decide) ?_
    refine z_iloadn dX0_addUnlike_14 rfl ?_
    obtain ⟨q3, h⟩ := h
    refine y_iald (x := (M 179 x2)) dX0_addUnlike_15 sh179 q3 rfl ?_
    refine z_iloadn dX0_addUnlike_16 rfl ?_
    refine z_icmpne (tgt := 21) dX0_addUnlike_17 rfl (fun q => ?_) (fun q => ?_)
    · replace h := h.1 q
      obtain ⟨q4, h⟩ := h
      refine y_iinc (ls' := [(2, 176), (0, x1), (0, (x2 + 1))]) dX0_addUnlike_21 rfl rfl q4 rfl ?_
      refine z_goto (tgt := 2) dX0_addUnlike_24 rfl ?_
      exact h
    · replace h := h.2 q
      exact z_return dX0_addUnlike_20 rfl rfl h
set_option maxRecDepth 20000 in
set_option maxHeartbeats 4000000 in
theorem bX0_allAnswerAlike_0 {G : zG} {d : Nat} {M : zM} {Q : zV → zM → Prop} (hG : zP G)
    (h : ((2 ≤ (M 176 4) → Y G d mX3_answerIn 0 [(2, 19), (0, (M 179 0)), (2, 2), (2, 182), (9, 0)] [] M (fun r M' => Y G (d + 1) mX0_allAnswerAlike 25 [(2, 176), (2, 19), (2, 2), (9, 0), (9, 0)] (zpush r []) M' Q)) ∧ ((M 176 4) < 2 → Q (0, 1) M))) :
    Y G (d + 1) mX0_allAnswerAlike 0 [(2, 176), (2, 19), (2, 2), (9, 0), (9, 0)] [] M Q := by
  refine z_aloadn dX0_allAnswerAlike_0 rfl (Or.inl rfl) ?_
  refine y_getf (x := (M 176 4)) dX0_allAnswerAlike_1 fX0_81 sh176 (by decide) rfl rfl ?_
  refine z_iconst dX0_allAnswerAlike_4 ki_2 ?_
  refine z_icmpge (tgt := 10) dX0_allAnswerAlike_5 rfl (fun q => ?_) (fun q => ?_)
  · replace h := h.1 q
    refine z_aloadn dX0_allAnswerAlike_10 rfl (Or.inl rfl) ?_
    refine z_aloadn dX0_allAnswerAlike_11 rfl (Or.inl rfl) ?_
    refine y_getr (v := 179) hG dX0_allAnswerAlike_12 fX0_18 sh176 (by decide) rfl (by decide +kernel) (by decide) ?_
    refine z_iconst dX0_allAnswerAlike_15 ki_0 ?_
    refine y_iald (x := (M 179 0)) dX0_allAnswerAlike_16 sh179 ⟨by decide, by decide⟩ rfl ?_
    refine z_aloadn dX0_allAnswerAlike_17 rfl (Or.inl rfl) ?_
    refine z_aloadn dX0_allAnswerAlike_18 rfl (Or.inl rfl) ?_
    refine y_getr (v := 182) hG dX0_allAnswerAlike_19 fX0_27 sh176 (by decide) rfl (by decide +kernel) (by decide) ?_
    refine y_cv (mt2 := mX3_answerIn) (en := [(2, 19), (0, (M 179 0)), (2, 2), (2, 182), (9, 0)]) (st := []) (as := [(0, (M 179 0)), (2, 2), (2, 182)]) dX0_allAnswerAlike_22 lX0_62 kX3_answerIn iX3_answerIn eX3_answerIn rfl sh19 (by decide +kernel) (Nat.le_of_ble_eq_true rfl) (Nat.le_of_ble_eq_true rfl) rfl ?_
    exact h
  · replace h := h.2 q
    refine z_iconst dX0_allAnswerAlike_8 ki_1 ?_
    exact z_ireturn dX0_allAnswerAlike_9 (Or.inr ⟨rfl, ⟨by decide, by decide⟩⟩) rfl h
set_option maxRecDepth 20000 in
set_option maxHeartbeats 4000000 in
theorem bX0_allAnswerAlike_29 {G : zG} {d : Nat} {M : zM} {Q : zV → zM → Prop} (hG : zP G) {x3 x4 : Int}
    (h : (((M 176 4) ≤ x4 → Q (0, 1) M) ∧ (x4 < (M 176 4) → (0 ≤ x4 ∧ x4 < 8) ∧ Y G d mX3_answerIn 0 [(2, 19), (0, (M 179 x4)), (2, 2), (2, 182), (9, 0)] [] M (fun r M' => Y G (d + 1) mX0_allAnswerAlike 54 [(2, 176), (2, 19), (2, 2), (0, x3), (0, x4)] (zpush r []) M' Q)))) :
    Y G (d + 1) mX0_allAnswerAlike 29 [(2, 176), (2, 19), (2, 2), (0, x3), (0, x4)] [] M Q := by
  refine z_iload dX0_allAnswerAlike_29 rfl ?_
  refine z_aloadn dX0_allAnswerAlike_31 rfl (Or.inl rfl) ?_
  refine y_getf (x := (M 176 4)) dX0_allAnswerAlike_32 fX0_81 sh176 (by decide) rfl rfl ?_
  refine z_icmpge (tgt := 66) dX0_allAnswerAlike_35 rfl (fun q => ?_) (fun q => ?_)
  · replace h := h.1 q
    refine z_iconst dX0_allAnswerAlike_66 ki_1 ?_
    exact z_ireturn dX0_allAnswerAlike_67 (Or.inr ⟨rfl, ⟨by decide, by decide⟩⟩) rfl h
  · replace h := h.2 q
    refine z_aloadn dX0_allAnswerAlike_38 rfl (Or.inl rfl) ?_
    refine z_aloadn dX0_allAnswerAlike_39 rfl (Or.inl rfl) ?_
    refine y_getr (v := 179) hG dX0_allAnswerAlike_40 fX0_18 sh176 (by decide) rfl (by decide +kernel) (by decide) ?_
    refine z_iload dX0_allAnswerAlike_43 rfl ?_
    obtain ⟨q1, h⟩ := h
    refine y_iald (x := (M 179 x4)) dX0_allAnswerAlike_45 sh179 q1 rfl ?_
    refine z_aloadn dX0_allAnswerAlike_46 rfl (Or.inl rfl) ?_
    refine z_aloadn dX0_allAnswerAlike_47 rfl (Or.inl rfl) ?_
    refine y_getr (v := 182) hG dX0_allAnswerAlike_48 fX0_27 sh176 (by decide) rfl (by decide +kernel) (by decide) ?_
    refine y_cv (mt2 := mX3_answerIn) (en := [(2, 19), (0, (M 179 x4)), (2, 2), (2, 182), (9, 0)]) (st := []) (as := [(0, (M 179 x4)), (2, 2), (2, 182)]) dX0_allAnswerAlike_51 lX0_62 kX3_answerIn iX3_answerIn eX3_answerIn rfl sh19 (by decide +kernel) (Nat.le_of_ble_eq_true rfl) (Nat.le_of_ble_eq_true rfl) rfl ?_
    exact h
set_option maxRecDepth 20000 in
set_option maxHeartbeats 4000000 in
theorem bX0_allAnswerAlike_25 {G : zG} {d : Nat} {M : zM} {Q : zV → zM → Prop} (hG : zP G) {x49 : Int}
    (h : Y G (d + 1) mX0_allAnswerAlike 29 [(2, 176), (2, 19), (2, 2), (0, x49), (0, 1)] [] M Q) :
    Y G (d + 1) mX0_allAnswerAlike 25 [(2, 176), (2, 19), (2, 2), (9, 0), (9, 0)] [(0, x49)] M Q := by
  refine y_istoren (ls' := [(2, 176), (2, 19), (2, 2), (0, x49), (9, 0)]) dX0_allAnswerAlike_25 rfl rfl ?_
  refine z_iconst dX0_allAnswerAlike_26 ki_1 ?_
  refine y_istore (ls' := [(2, 176), (2, 19), (2, 2), (0, x49), (0, 1)]) dX0_allAnswerAlike_27 rfl rfl ?_
  exact h
set_option maxRecDepth 20000 in
set_option maxHeartbeats 4000000 in
theorem bX0_allAnswerAlike_54 {G : zG} {d : Nat} {M : zM} {Q : zV → zM → Prop} (hG : zP G) {x3 x4 x49 : Int}
    (h : ((x49 = x3 → (-2147483648 ≤ x4 + 1 ∧ x4 + 1 ≤ 2147483647) ∧ Y G (d + 1) mX0_allAnswerAlike 29 [(2, 176), (2, 19), (2, 2), (0, x3), (0, (x4 + 1))] [] M Q) ∧ (¬ x49 = x3 → Q (0, 0) M))) :
    Y G (d + 1) mX0_allAnswerAlike 54 [(2, 176), (2, 19), (2, 2), (0, x3), (0, x4)] [(0, x49)] M Q := by
  refine z_iloadn dX0_allAnswerAlike_54 rfl ?_
  refine z_icmpeq (tgt := 60) dX0_allAnswerAlike_55 rfl (fun q => ?_) (fun q => ?_)
  · replace h := h.1 q
    obtain ⟨q1, h⟩ := h
    refine y_iinc (ls' := [(2, 176), (2, 19), (2, 2), (0, x3), (0, (x4 + 1))]) dX0_allAnswerAlike_60 rfl rfl q1 rfl ?_
    refine z_goto (tgt := 29) dX0_allAnswerAlike_63 rfl ?_
    exact h
  · replace h := h.2 q
    refine z_iconst dX0_allAnswerAlike_58 ki_0 ?_
    exact z_ireturn dX0_allAnswerAlike_59 (Or.inr ⟨rfl, ⟨by decide, by decide⟩⟩) rfl h
set_option maxRecDepth 20000 in
set_option maxHeartbeats 4000000 in
theorem bX0_save_0 {G : zG} {d : Nat} {M : zM} {Q : zV → zM → Prop} (hG : zP G)
    (h : Y G d mX5_put 0 [(2, 184), (0, (M 176 2))] [] M (fun r M' => Y G (d + 1) mX0_save 8 [(2, 176), (2, 184)] (zpush r []) M' Q)) :
    Y G (d + 1) mX0_save 0 [(2, 176), (2, 184)] [] M Q := by
  refine z_aloadn dX0_save_0 rfl (Or.inl rfl) ?_
  refine z_aloadn dX0_save_1 rfl (Or.inl rfl) ?_
  refine y_getf (x := (M 176 2)) dX0_save_2 fX0_33 sh176 (by decide) rfl rfl ?_
  refine y_cv (mt2 := mX5_put) (en := [(2, 184), (0, (M 176 2))]) (st := []) (as := [(0, (M 176 2))]) dX0_save_5 lX0_92 kX5_put iX5_put eX5_put rfl sh184 (by decide +kernel) (Nat.le_of_ble_eq_true rfl) (Nat.le_of_ble_eq_true rfl) rfl ?_
  exact h
set_option maxRecDepth 20000 in
set_option maxHeartbeats 4000000 in
theorem bX0_save_8 {G : zG} {d : Nat} {M : zM} {Q : zV → zM → Prop} (hG : zP G)
    (h : Y G d mX5_putAll 0 [(2, 184), (2, 177), (9, 0)] [] M (fun r M' => Y G (d + 1) mX0_save 16 [(2, 176), (2, 184)] (zpush r []) M' Q)) :
    Y G (d + 1) mX0_save 8 [(2, 176), (2, 184)] [] M Q := by
  refine z_aloadn dX0_save_8 rfl (Or.inl rfl) ?_
  refine z_aloadn dX0_save_9 rfl (Or.inl rfl) ?_
  refine y_getr (v := 177) hG dX0_save_10 fX0_9 sh176 (by decide) rfl (by decide +kernel) (by decide) ?_
  refine y_cv (mt2 := mX5_putAll) (en := [(2, 184), (2, 177), (9, 0)]) (st := []) (as := [(2, 177)]) dX0_save_13 lX0_97 kX5_putAll iX5_putAll eX5_putAll rfl sh184 (by decide +kernel) (Nat.le_of_ble_eq_true rfl) (Nat.le_of_ble_eq_true rfl) rfl ?_
  exact h
set_option maxRecDepth 20000 in
set_option maxHeartbeats 4000000 in
theorem bX0_save_16 {G : zG} {d : Nat} {M : zM} {Q : zV → zM → Prop} (hG : zP G)
    (h : Y G d mX5_putAll 0 [(2, 184), (2, 178), (9, 0)] [] M (fun r M' => Y G (d + 1) mX0_save 24 [(2, 176), (2, 184)] (zpush r []) M' Q)) :
    Y G (d + 1) mX0_save 16 [(2, 176), (2, 184)] [] M Q := by
  refine z_aloadn dX0_save_16 rfl (Or.inl rfl) ?_
  refine z_aloadn dX0_save_17 rfl (Or.inl rfl) ?_
  refine y_getr (v := 178) hG dX0_save_18 fX0_15 sh176 (by decide) rfl (by decide +kernel) (by decide) ?_
  refine y_cv (mt2 := mX5_putAll) (en := [(2, 184), (2, 178), (9, 0)]) (st := []) (as := [(2, 178)]) dX0_save_21 lX0_97 kX5_putAll iX5_putAll eX5_putAll rfl sh184 (by decide +kernel) (Nat.le_of_ble_eq_true rfl) (Nat.le_of_ble_eq_true rfl) rfl ?_
  exact h
set_option maxRecDepth 20000 in
set_option maxHeartbeats 4000000 in
theorem bX0_save_24 {G : zG} {d : Nat} {M : zM} {Q : zV → zM → Prop} (hG : zP G)
    (h : Y G d mX5_put 0 [(2, 184), (0, (M 176 7))] [] M (fun r M' => Y G (d + 1) mX0_save 32 [(2, 176), (2, 184)] (zpush r []) M' Q)) :
    Y G (d + 1) mX0_save 24 [(2, 176), (2, 184)] [] M Q := by
  refine z_aloadn dX0_save_24 rfl (Or.inl rfl) ?_
  refine z_aloadn dX0_save_25 rfl (Or.inl rfl) ?_
  refine y_getf (x := (M 176 7)) dX0_save_26 fX0_41 sh176 (by decide) rfl rfl ?_
  refine y_cv (mt2 := mX5_put) (en := [(2, 184), (0, (M 176 7))]) (st := []) (as := [(0, (M 176 7))]) dX0_save_29 lX0_92 kX5_put iX5_put eX5_put rfl sh184 (by decide +kernel) (Nat.le_of_ble_eq_true rfl) (Nat.le_of_ble_eq_true rfl) rfl ?_
  exact h
set_option maxRecDepth 20000 in
set_option maxHeartbeats 4000000 in
theorem bX0_save_32 {G : zG} {d : Nat} {M : zM} {Q : zV → zM → Prop} (hG : zP G)
    (h : Y G d mX5_putAll 0 [(2, 184), (2, 180), (9, 0)] [] M (fun r M' => Y G (d + 1) mX0_save 40 [(2, 176), (2, 184)] (zpush r []) M' Q)) :
    Y G (d + 1) mX0_save 32 [(2, 176), (2, 184)] [] M Q := by
  refine z_aloadn dX0_save_32 rfl (Or.inl rfl) ?_
  refine z_aloadn dX0_save_33 rfl (Or.inl rfl) ?_
  refine y_getr (v := 180) hG dX0_save_34 fX0_21 sh176 (by decide) rfl (by decide +kernel) (by decide) ?_
  refine y_cv (mt2 := mX5_putAll) (en := [(2, 184), (2, 180), (9, 0)]) (st := []) (as := [(2, 180)]) dX0_save_37 lX0_97 kX5_putAll iX5_putAll eX5_putAll rfl sh184 (by decide +kernel) (Nat.le_of_ble_eq_true rfl) (Nat.le_of_ble_eq_true rfl) rfl ?_
  exact h
set_option maxRecDepth 20000 in
set_option maxHeartbeats 4000000 in
theorem bX0_save_40 {G : zG} {d : Nat} {M : zM} {Q : zV → zM → Prop} (hG : zP G)
    (h : Y G d mX5_putAll 0 [(2, 184), (2, 181), (9, 0)] [] M (fun r M' => Y G (d + 1) mX0_save 48 [(2, 176), (2, 184)] (zpush r []) M' Q)) :
    Y G (d + 1) mX0_save 40 [(2, 176), (2, 184)] [] M Q := by
  refine z_aloadn dX0_save_40 rfl (Or.inl rfl) ?_
  refine z_aloadn dX0_save_41 rfl (Or.inl rfl) ?_
  refine y_getr (v := 181) hG dX0_save_42 fX0_24 sh176 (by decide) rfl (by decide +kernel) (by decide) ?_
  refine y_cv (mt2 := mX5_putAll) (en := [(2, 184), (2, 181), (9, 0)]) (st := []) (as := [(2, 181)]) dX0_save_45 lX0_97 kX5_putAll iX5_putAll eX5_putAll rfl sh184 (by decide +kernel) (Nat.le_of_ble_eq_true rfl) (Nat.le_of_ble_eq_true rfl) rfl ?_
  exact h
set_option maxRecDepth 20000 in
set_option maxHeartbeats 4000000 in
theorem bX0_save_48 {G : zG} {d : Nat} {M : zM} {Q : zV → zM → Prop} (hG : zP G)
    (h : Q (9, 0) M) :
    Y G (d + 1) mX0_save 48 [(2, 176), (2, 184)] [] M Q := by
  exact z_return dX0_save_48 rfl rfl h
set_option maxRecDepth 20000 in
set_option maxHeartbeats 4000000 in
theorem bX0_restore_0 {G : zG} {d : Nat} {M : zM} {Q : zV → zM → Prop} (hG : zP G)
    (h : Y G d mX5_take 0 [(2, 184)] [] M (fun r M' => Y G (d + 1) mX0_restore 6 [(2, 176), (2, 184)] (zpush r [(0, 0), (2, 176)]) M' Q)) :
    Y G (d + 1) mX0_restore 0 [(2, 176), (2, 184)] [] M Q := by
  refine z_aloadn dX0_restore_0 rfl (Or.inl rfl) ?_
  refine z_iconst dX0_restore_1 ki_0 ?_
  refine z_aloadn dX0_restore_2 rfl (Or.inl rfl) ?_
  refine y_cv (mt2 := mX5_take) (en := [(2, 184)]) (st := [(0, 0), (2, 176)]) (as := []) dX0_restore_3 lX0_101 kX5_take iX5_take eX5_take rfl sh184 (by decide +kernel) (Nat.le_of_ble_eq_true rfl) (Nat.le_of_ble_eq_true rfl) rfl ?_
  exact h
set_option maxRecDepth 20000 in
set_option maxHeartbeats 4000000 in
theorem bX0_restore_6 {G : zG} {d : Nat} {M : zM} {Q : zV → zM → Prop} (hG : zP G) {x49 : Int}
    (h : Y G d mX5_takeAll 0 [(2, 184), (2, 177), (9, 0)] [] (zset M 176 2 (max 0 (min x49 8))) (fun r M' => Y G (d + 1) mX0_restore 25 [(2, 176), (2, 184)] (zpush r []) M' Q)) :
    Y G (d + 1) mX0_restore 6 [(2, 176), (2, 184)] [(0, x49), (0, 0), (2, 176)] M Q := by
  refine z_bipush dX0_restore_6 kb_8 ?_
  refine z_min dX0_restore_8 mwX0_105 (Nat.le_of_ble_eq_true rfl) ?_
  refine z_max dX0_restore_11 mwX0_111 (Nat.le_of_ble_eq_true rfl) ?_
  refine y_putf (M' := zset M 176 2 (max 0 (min x49 8))) hG dX0_restore_14 fX0_33 sh176 (by decide) ⟨rfl, rfl⟩ p0_2 (fun q => absurd q (by decide)) (by decide) rfl ?_
  refine z_aloadn dX0_restore_17 rfl (Or.inl rfl) ?_
  refine z_aloadn dX0_restore_18 rfl (Or.inl rfl) ?_
  refine y_getr (v := 177) hG dX0_restore_19 fX0_9 sh176 (by decide) rfl (by decide +kernel) (by decide) ?_
  refine y_cv (mt2 := mX5_takeAll) (en := [(2, 184), (2, 177), (9, 0)]) (st := []) (as := [(2, 177)]) dX0_restore_22 lX0_114 kX5_takeAll iX5_takeAll eX5_takeAll rfl sh184 (by decide +kernel) (Nat.le_of_ble_eq_true rfl) (Nat.le_of_ble_eq_true rfl) rfl ?_
  exact h
set_option maxRecDepth 20000 in
set_option maxHeartbeats 4000000 in
theorem bX0_restore_25 {G : zG} {d : Nat} {M : zM} {Q : zV → zM → Prop} (hG : zP G)
    (h : Y G d mX5_takeAll 0 [(2, 184), (2, 178), (9, 0)] [] M (fun r M' => Y G (d + 1) mX0_restore 33 [(2, 176), (2, 184)] (zpush r []) M' Q)) :
    Y G (d + 1) mX0_restore 25 [(2, 176), (2, 184)] [] M Q := by
  refine z_aloadn dX0_restore_25 rfl (Or.inl rfl) ?_
  refine z_aloadn dX0_restore_26 rfl (Or.inl rfl) ?_
  refine y_getr (v := 178) hG dX0_restore_27 fX0_15 sh176 (by decide) rfl (by decide +kernel) (by decide) ?_
  refine y_cv (mt2 := mX5_takeAll) (en := [(2, 184), (2, 178), (9, 0)]) (st := []) (as := [(2, 178)]) dX0_restore_30 lX0_114 kX5_takeAll iX5_takeAll eX5_takeAll rfl sh184 (by decide +kernel) (Nat.le_of_ble_eq_true rfl) (Nat.le_of_ble_eq_true rfl) rfl ?_
  exact h
set_option maxRecDepth 20000 in
set_option maxHeartbeats 4000000 in
theorem bX0_restore_33 {G : zG} {d : Nat} {M : zM} {Q : zV → zM → Prop} (hG : zP G)
    (h : Y G d mX5_take 0 [(2, 184)] [] M (fun r M' => Y G (d + 1) mX0_restore 39 [(2, 176), (2, 184)] (zpush r [(0, 0), (2, 176)]) M' Q)) :
    Y G (d + 1) mX0_restore 33 [(2, 176), (2, 184)] [] M Q := by
  refine z_aloadn dX0_restore_33 rfl (Or.inl rfl) ?_
  refine z_iconst dX0_restore_34 ki_0 ?_
  refine z_aloadn dX0_restore_35 rfl (Or.inl rfl) ?_
  refine y_cv (mt2 := mX5_take) (en := [(2, 184)]) (st := [(0, 0), (2, 176)]) (as := []) dX0_restore_36 lX0_101 kX5_take iX5_take eX5_take rfl sh184 (by decide +kernel) (Nat.le_of_ble_eq_true rfl) (Nat.le_of_ble_eq_true rfl) rfl ?_
  exact h
set_option maxRecDepth 20000 in
set_option maxHeartbeats 4000000 in
theorem bX0_restore_39 {G : zG} {d : Nat} {M : zM} {Q : zV → zM → Prop} (hG : zP G) {x49 : Int}
    (h : Y G d mX5_takeAll 0 [(2, 184), (2, 180), (9, 0)] [] (zset M 176 7 (max 0 (min x49 12))) (fun r M' => Y G (d + 1) mX0_restore 58 [(2, 176), (2, 184)] (zpush r []) M' Q)) :
    Y G (d + 1) mX0_restore 39 [(2, 176), (2, 184)] [(0, x49), (0, 0), (2, 176)] M Q := by
  refine z_bipush dX0_restore_39 kb_12 ?_
  refine z_min dX0_restore_41 mwX0_105 (Nat.le_of_ble_eq_true rfl) ?_
  refine z_max dX0_restore_44 mwX0_111 (Nat.le_of_ble_eq_true rfl) ?_
  refine y_putf (M' := zset M 176 7 (max 0 (min x49 12))) hG dX0_restore_47 fX0_41 sh176 (by decide) ⟨rfl, rfl⟩ p0_7 (fun q => absurd q (by decide)) (by decide) rfl ?_
  refine z_aloadn dX0_restore_50 rfl (Or.inl rfl) ?_
  refine z_aloadn dX0_restore_51 rfl (Or.inl rfl) ?_
  refine y_getr (v := 180) hG dX0_restore_52 fX0_21 sh176 (by decide) rfl (by decide +kernel) (by decide) ?_
  refine y_cv (mt2 := mX5_takeAll) (en := [(2, 184), (2, 180), (9, 0)]) (st := []) (as := [(2, 180)]) dX0_restore_55 lX0_114 kX5_takeAll iX5_takeAll eX5_takeAll rfl sh184 (by decide +kernel) (Nat.le_of_ble_eq_true rfl) (Nat.le_of_ble_eq_true rfl) rfl ?_
  exact h
set_option maxRecDepth 20000 in
set_option maxHeartbeats 4000000 in
theorem bX0_restore_58 {G : zG} {d : Nat} {M : zM} {Q : zV → zM → Prop} (hG : zP G)
    (h : Y G d mX5_takeAll 0 [(2, 184), (2, 181), (9, 0)] [] M (fun r M' => Y G (d + 1) mX0_restore 66 [(2, 176), (2, 184)] (zpush r []) M' Q)) :
    Y G (d + 1) mX0_restore 58 [(2, 176), (2, 184)] [] M Q := by
  refine z_aloadn dX0_restore_58 rfl (Or.inl rfl) ?_
  refine z_aloadn dX0_restore_59 rfl (Or.inl rfl) ?_
  refine y_getr (v := 181) hG dX0_restore_60 fX0_24 sh176 (by decide) rfl (by decide +kernel) (by decide) ?_
  refine y_cv (mt2 := mX5_takeAll) (en := [(2, 184), (2, 181), (9, 0)]) (st := []) (as := [(2, 181)]) dX0_restore_63 lX0_114 kX5_takeAll iX5_takeAll eX5_takeAll rfl sh184 (by decide +kernel) (Nat.le_of_ble_eq_true rfl) (Nat.le_of_ble_eq_true rfl) rfl ?_
  exact h
set_option maxRecDepth 20000 in
set_option maxHeartbeats 4000000 in
theorem bX0_restore_66 {G : zG} {d : Nat} {M : zM} {Q : zV → zM → Prop} (hG : zP G)
    (h : Q (9, 0) (zset M 176 11 0)) :
    Y G (d + 1) mX0_restore 66 [(2, 176), (2, 184)] [] M Q := by
  refine z_aloadn dX0_restore_66 rfl (Or.inl rfl) ?_
  refine z_iconst dX0_restore_67 ki_0 ?_
  refine y_putf (M' := zset M 176 11 0) hG dX0_restore_68 fX0_37 sh176 (by decide) ⟨rfl, rfl⟩ p0_11 (fun _ => ⟨by decide, by decide⟩) (by decide) rfl ?_
  exact z_return dX0_restore_71 rfl rfl h
set_option maxRecDepth 20000 in
set_option maxHeartbeats 4000000 in
theorem bX0_addHeard_0 {G : zG} {d : Nat} {M : zM} {Q : zV → zM → Prop} (hG : zP G) {x1 x2 : Int}
    (h : (((M 176 2) < 8 → (0 ≤ (M 176 2) ∧ (M 176 2) < 8) ∧ (0 ≤ (M 176 2) ∧ (M 176 2) < 8) ∧ (-2147483648 ≤ (M 176 2) + 1 ∧ (M 176 2) + 1 ≤ 2147483647) ∧ Q (0, ((M 176 2) + 1)) (zset (zset (zset (zset M 177 (M 176 2) x1) 178 (M 176 2) x2) 176 2 ((M 176 2) + 1)) 176 11 0)) ∧ (8 ≤ (M 176 2) → Q (0, (-2)) M))) :
    Y G d mX0_addHeard 0 [(2, 176), (0, x1), (0, x2)] [] M Q := by
  refine z_aloadn dX0_addHeard_0 rfl (Or.inl rfl) ?_
  refine y_getf (x := (M 176 2)) dX0_addHeard_1 fX0_33 sh176 (by decide) rfl rfl ?_
  refine z_bipush dX0_addHeard_4 kb_8 ?_
  refine z_icmplt (tgt := 12) dX0_addHeard_6 rfl (fun q => ?_) (fun q => ?_)
  · replace h := h.1 q
    refine z_aloadn dX0_addHeard_12 rfl (Or.inl rfl) ?_
    refine y_getr (v := 177) hG dX0_addHeard_13 fX0_9 sh176 (by decide) rfl (by decide +kernel) (by decide) ?_
    refine z_aloadn dX0_addHeard_16 rfl (Or.inl rfl) ?_
    refine y_getf (x := (M 176 2)) dX0_addHeard_17 fX0_33 sh176 (by decide) rfl rfl ?_
    refine z_iloadn dX0_addHeard_20 rfl ?_
    obtain ⟨q1, h⟩ := h
    refine y_iast hG dX0_addHeard_21 sh177 q1 ?_
    refine z_aloadn dX0_addHeard_22 rfl (Or.inl rfl) ?_
    refine y_getr (v := 178) hG dX0_addHeard_23 fX0_15 sh176 (by decide) rfl (by decide +kernel) (by decide) ?_
    refine z_aloadn dX0_addHeard_26 rfl (Or.inl rfl) ?_
    refine y_getf (x := (M 176 2)) dX0_addHeard_27 fX0_33 sh176 (by decide) rfl (zset_ne (fun q => absurd q.1 (by decide))) ?_
    refine z_iloadn dX0_addHeard_30 rfl ?_
    obtain ⟨q2, h⟩ := h
    refine y_iast hG dX0_addHeard_31 sh178 q2 ?_
    refine z_aloadn dX0_addHeard_32 rfl (Or.inl rfl) ?_
    refine z_dup dX0_addHeard_33 (show (2 : Nat) ≠ 1 by decide) ?_
    refine y_getf (x := (M 176 2)) dX0_addHeard_34 fX0_33 sh176 (by decide) rfl (((zset_ne (fun q => absurd q.1 (by decide))).trans (zset_ne (fun q => absurd q.1 (by decide))))) ?_
    refine z_iconst dX0_addHeard_37 ki_1 ?_
    obtain ⟨q3, h⟩ := h
    refine z_iadd dX0_addHeard_38 q3 ?_
    refine y_putf (M' := zset (zset (zset M 177 (M 176 2) x1) 178 (M 176 2) x2) 176 2 ((M 176 2) + 1)) hG dX0_addHeard_39 fX0_33 sh176 (by decide) ⟨rfl, rfl⟩ p0_2 (fun q => absurd q (by decide)) (by decide) rfl ?_
    refine z_aloadn dX0_addHeard_42 rfl (Or.inl rfl) ?_
    refine z_iconst dX0_addHeard_43 ki_0 ?_
    refine y_putf (M' := zset (zset (zset (zset M 177 (M 176 2) x1) 178 (M 176 2) x2) 176 2 ((M 176 2) + 1)) 176 11 0) hG dX0_addHeard_44 fX0_37 sh176 (by decide) ⟨rfl, rfl⟩ p0_11 (fun _ => ⟨by decide, by decide⟩) (by decide) rfl ?_
    refine z_aloadn dX0_addHeard_47 rfl (Or.inl rfl) ?_
    refine y_getf (x := ((M 176 2) + 1)) dX0_addHeard_48 fX0_33 sh176 (by decide) rfl ((zset_ne (fun q => absurd q.2 (by decide))).trans zset_same) ?_
    exact z_ireturn dX0_addHeard_51 (Or.inl rfl) rfl h
  · replace h := h.2 q
    refine z_bipush dX0_addHeard_9 kb_m2 ?_
    exact z_ireturn dX0_addHeard_11 (Or.inl rfl) rfl h
set_option maxRecDepth 20000 in
set_option maxHeartbeats 4000000 in
theorem bX0_addTold_0 {G : zG} {d : Nat} {M : zM} {Q : zV → zM → Prop} (hG : zP G) {x1 x2 : Int}
    (h : (((M 176 7) < 12 → (0 ≤ (M 176 7) ∧ (M 176 7) < 12) ∧ (0 ≤ (M 176 7) ∧ (M 176 7) < 12) ∧ (-2147483648 ≤ (M 176 7) + 1 ∧ (M 176 7) + 1 ≤ 2147483647) ∧ Q (0, ((M 176 7) + 1)) (zset (zset (zset M 180 (M 176 7) x1) 181 (M 176 7) x2) 176 7 ((M 176 7) + 1))) ∧ (12 ≤ (M 176 7) → Q (0, (-2)) M))) :
    Y G d mX0_addTold 0 [(2, 176), (0, x1), (0, x2)] [] M Q := by
  refine z_aloadn dX0_addTold_0 rfl (Or.inl rfl) ?_
  refine y_getf (x := (M 176 7)) dX0_addTold_1 fX0_41 sh176 (by decide) rfl rfl ?_
  refine z_bipush dX0_addTold_4 kb_12 ?_
  refine z_icmplt (tgt := 12) dX0_addTold_6 rfl (fun q => ?_) (fun q => ?_)
  · replace h := h.1 q
    refine z_aloadn dX0_addTold_12 rfl (Or.inl rfl) ?_
    refine y_getr (v := 180) hG dX0_addTold_13 fX0_21 sh176 (by decide) rfl (by decide +kernel) (by decide) ?_
    refine z_aloadn dX0_addTold_16 rfl (Or.inl rfl) ?_
    refine y_getf (x := (M 176 7)) dX0_addTold_17 fX0_41 sh176 (by decide) rfl rfl ?_
    refine z_iloadn dX0_addTold_20 rfl ?_
    obtain ⟨q1, h⟩ := h
    refine y_iast hG dX0_addTold_21 sh180 q1 ?_
    refine z_aloadn dX0_addTold_22 rfl (Or.inl rfl) ?_
    refine y_getr (v := 181) hG dX0_addTold_23 fX0_24 sh176 (by decide) rfl (by decide +kernel) (by decide) ?_
    refine z_aloadn dX0_addTold_26 rfl (Or.inl rfl) ?_
    refine y_getf (x := (M 176 7)) dX0_addTold_27 fX0_41 sh176 (by decide) rfl (zset_ne (fun q => absurd q.1 (by decide))) ?_
    refine z_iloadn dX0_addTold_30 rfl ?_
    obtain ⟨q2, h⟩ := h
    refine y_iast hG dX0_addTold_31 sh181 q2 ?_
    refine z_aloadn dX0_addTold_32 rfl (Or.inl rfl) ?_
    refine z_dup dX0_addTold_33 (show (2 : Nat) ≠ 1 by decide) ?_
    refine y_getf (x := (M 176 7)) dX0_addTold_34 fX0_41 sh176 (by decide) rfl (((zset_ne (fun q => absurd q.1 (by decide))).trans (zset_ne (fun q => absurd q.1 (by decide))))) ?_
    refine z_iconst dX0_addTold_37 ki_1 ?_
    obtain ⟨q3, h⟩ := h
    refine z_iadd dX0_addTold_38 q3 ?_
    refine y_putf (M' := zset (zset (zset M 180 (M 176 7) x1) 181 (M 176 7) x2) 176 7 ((M 176 7) + 1)) hG dX0_addTold_39 fX0_41 sh176 (by decide) ⟨rfl, rfl⟩ p0_7 (fun q => absurd q (by decide)) (by decide) rfl ?_
    refine z_aloadn dX0_addTold_42 rfl (Or.inl rfl) ?_
    refine y_getf (x := ((M 176 7) + 1)) dX0_addTold_43 fX0_41 sh176 (by decide) rfl zset_same ?_
    exact z_ireturn dX0_addTold_46 (Or.inl rfl) rfl h
  · replace h := h.2 q
    refine z_bipush dX0_addTold_9 kb_m2 ?_
    exact z_ireturn dX0_addTold_11 (Or.inl rfl) rfl h
set_option maxRecDepth 20000 in
set_option maxHeartbeats 4000000 in
theorem bX0_wordsHeard_0 {G : zG} {d : Nat} {M : zM} {Q : zV → zM → Prop} (hG : zP G) {x1 : Int}
    (h : Y G d mX0_wordsHeard 5 [(2, 176), (0, x1), (2, 19), (0, 0), (0, 0)] [] M Q) :
    Y G d mX0_wordsHeard 0 [(2, 176), (0, x1), (2, 19), (9, 0), (9, 0)] [] M Q := by
  refine z_iconst dX0_wordsHeard_0 ki_0 ?_
  refine y_istoren (ls' := [(2, 176), (0, x1), (2, 19), (0, 0), (9, 0)]) dX0_wordsHeard_1 rfl rfl ?_
  refine z_iconst dX0_wordsHeard_2 ki_0 ?_
  refine y_istore (ls' := [(2, 176), (0, x1), (2, 19), (0, 0), (0, 0)]) dX0_wordsHeard_3 rfl rfl ?_
  exact h
set_option maxRecDepth 20000 in
set_option maxHeartbeats 4000000 in
theorem bX0_wordsHeard_5 {G : zG} {d : Nat} {M : zM} {Q : zV → zM → Prop} (hG : zP G) {x1 x3 x4 : Int}
    (h : (((M 176 2) ≤ x4 → Q (0, x3) M) ∧ (x4 < (M 176 2) → (0 ≤ x4 ∧ x4 < 8) ∧ ((¬ (M 177 x4) = x1 → (-2147483648 ≤ x4 + 1 ∧ x4 + 1 ≤ 2147483647) ∧ Y G d mX0_wordsHeard 5 [(2, 176), (0, x1), (2, 19), (0, x3), (0, (x4 + 1))] [] M Q) ∧ ((M 177 x4) = x1 → (0 ≤ x4 ∧ x4 < 8) ∧ (0 ≤ (M 178 x4) ∧ (M 178 x4) < 12) ∧ (-2147483648 ≤ x4 + 1 ∧ x4 + 1 ≤ 2147483647) ∧ Y G d mX0_wordsHeard 5 [(2, 176), (0, x1), (2, 19), (0, (zor x3 (M 25 (M 178 x4)))), (0, (x4 + 1))] [] M Q))))) :
    Y G d mX0_wordsHeard 5 [(2, 176), (0, x1), (2, 19), (0, x3), (0, x4)] [] M Q := by
  refine z_iload dX0_wordsHeard_5 rfl ?_
  refine z_aloadn dX0_wordsHeard_7 rfl (Or.inl rfl) ?_
  refine y_getf (x := (M 176 2)) dX0_wordsHeard_8 fX0_33 sh176 (by decide) rfl rfl ?_
  refine z_icmpge (tgt := 46) dX0_wordsHeard_11 rfl (fun q => ?_) (fun q => ?_)
  · replace h := h.1 q
    refine z_iloadn dX0_wordsHeard_46 rfl ?_
    exact z_ireturn dX0_wordsHeard_47 (Or.inl rfl) rfl h
  · replace h := h.2 q
    refine z_aloadn dX0_wordsHeard_14 rfl (Or.inl rfl) ?_
    refine y_getr (v := 177) hG dX0_wordsHeard_15 fX0_9 sh176 (by decide) rfl (by decide +kernel) (by decide) ?_
    refine z_iload dX0_wordsHeard_18 rfl ?_
    obtain ⟨q1, h⟩ := h
    refine y_iald (x := (M 177 x4)) dX0_wordsHeard_20 sh177 q1 rfl ?_
    refine z_iloadn dX0_wordsHeard_21 rfl ?_
    refine z_icmpne (tgt := 40) dX0_wordsHeard_22 rfl (fun q => ?_) (fun q => ?_)
    · replace h := h.1 q
      obtain ⟨q2, h⟩ := h
      refine y_iinc (ls' := [(2, 176), (0, x1), (2, 19), (0, x3), (0, (x4 + 1))]) dX0_wordsHeard_40 rfl rfl q2 rfl ?_
      refine z_goto (tgt := 5) dX0_wordsHeard_43 rfl ?_
      exact h
    · replace h := h.2 q
      refine z_iloadn dX0_wordsHeard_25 rfl ?_
      refine z_aloadn dX0_wordsHeard_26 rfl (Or.inl rfl) ?_
      refine y_getr (v := 25) hG dX0_wordsHeard_27 fX0_44 sh19 (by decide) rfl (by decide +kernel) (by decide) ?_
      refine z_aloadn dX0_wordsHeard_30 rfl (Or.inl rfl) ?_
      refine y_getr (v := 178) hG dX0_wordsHeard_31 fX0_15 sh176 (by decide) rfl (by decide +kernel) (by decide) ?_
      refine z_iload dX0_wordsHeard_34 rfl ?_
      obtain ⟨q3, h⟩ := h
      refine y_iald (x := (M 178 x4)) dX0_wordsHeard_36 sh178 q3 rfl ?_
      obtain ⟨q4, h⟩ := h
      refine y_iald (x := (M 25 (M 178 x4))) dX0_wordsHeard_37 sh25 q4 rfl ?_
      refine z_ior dX0_wordsHeard_38 ?_
      refine y_istoren (ls' := [(2, 176), (0, x1), (2, 19), (0, (zor x3 (M 25 (M 178 x4)))), (0, x4)]) dX0_wordsHeard_39 rfl rfl ?_
      obtain ⟨q5, h⟩ := h
      refine y_iinc (ls' := [(2, 176), (0, x1), (2, 19), (0, (zor x3 (M 25 (M 178 x4)))), (0, (x4 + 1))]) dX0_wordsHeard_40 rfl rfl q5 rfl ?_
      refine z_goto (tgt := 5) dX0_wordsHeard_43 rfl ?_
      exact h
set_option maxRecDepth 20000 in
set_option maxHeartbeats 4000000 in
theorem bX0_liesIn_0 {G : zG} {d : Nat} {M : zM} {Q : zV → zM → Prop} (hG : zP G)
    (h : Y G d mX0_liesIn 4 [(2, 176), (2, 19), (0, 0), (0, 0)] [] M Q) :
    Y G d mX0_liesIn 0 [(2, 176), (2, 19), (9, 0), (9, 0)] [] M Q := by
  refine z_iconst dX0_liesIn_0 ki_0 ?_
  refine y_istoren (ls' := [(2, 176), (2, 19), (0, 0), (9, 0)]) dX0_liesIn_1 rfl rfl ?_
  refine z_iconst dX0_liesIn_2 ki_0 ?_
  refine y_istoren (ls' := [(2, 176), (2, 19), (0, 0), (0, 0)]) dX0_liesIn_3 rfl rfl ?_
  exact h
set_option maxRecDepth 20000 in
set_option maxHeartbeats 4000000 in
theorem bX0_liesIn_4 {G : zG} {d : Nat} {M : zM} {Q : zV → zM → Prop} (hG : zP G) {x2 x3 : Int}
    (h : (((M 176 7) ≤ x3 → Q (0, x2) M) ∧ (x3 < (M 176 7) → (0 ≤ x3 ∧ x3 < 12) ∧ (0 ≤ (M 180 x3) ∧ (M 180 x3) < 12) ∧ (0 ≤ x3 ∧ x3 < 12) ∧ (((M 27 (M 180 x3)) = (M 181 x3) → (-2147483648 ≤ x3 + 1 ∧ x3 + 1 ≤ 2147483647) ∧ Y G d mX0_liesIn 4 [(2, 176), (2, 19), (0, x2), (0, (x3 + 1))] [] M Q) ∧ (¬ (M 27 (M 180 x3)) = (M 181 x3) → (-2147483648 ≤ x3 + 1 ∧ x3 + 1 ≤ 2147483647) ∧ Y G d mX0_liesIn 4 [(2, 176), (2, 19), (0, (zor x2 (zshl 1 x3))), (0, (x3 + 1))] [] M Q))))) :
    Y G d mX0_liesIn 4 [(2, 176), (2, 19), (0, x2), (0, x3)] [] M Q := by
  refine z_iloadn dX0_liesIn_4 rfl ?_
  refine z_aloadn dX0_liesIn_5 rfl (Or.inl rfl) ?_
  refine y_getf (x := (M 176 7)) dX0_liesIn_6 fX0_41 sh176 (by decide) rfl rfl ?_
  refine z_icmpge (tgt := 44) dX0_liesIn_9 rfl (fun q => ?_) (fun q => ?_)
  · replace h := h.1 q
    refine z_iloadn dX0_liesIn_44 rfl ?_
    exact z_ireturn dX0_liesIn_45 (Or.inl rfl) rfl h
  · replace h := h.2 q
    refine z_aloadn dX0_liesIn_12 rfl (Or.inl rfl) ?_
    refine y_getr (v := 27) hG dX0_liesIn_13 fX0_49 sh19 (by decide) rfl (by decide +kernel) (by decide) ?_
    refine z_aloadn dX0_liesIn_16 rfl (Or.inl rfl) ?_
    refine y_getr (v := 180) hG dX0_liesIn_17 fX0_21 sh176 (by decide) rfl (by decide +kernel) (by decide) ?_
    refine z_iloadn dX0_liesIn_20 rfl ?_
    obtain ⟨q1, h⟩ := h
    refine y_iald (x := (M 180 x3)) dX0_liesIn_21 sh180 q1 rfl ?_
    obtain ⟨q2, h⟩ := h
    refine y_iald (x := (M 27 (M 180 x3))) dX0_liesIn_22 sh27 q2 rfl ?_
    refine z_aloadn dX0_liesIn_23 rfl (Or.inl rfl) ?_
    refine y_getr (v := 181) hG dX0_liesIn_24 fX0_24 sh176 (by decide) rfl (by decide +kernel) (by decide) ?_
    refine z_iloadn dX0_liesIn_27 rfl ?_
    obtain ⟨q3, h⟩ := h
    refine y_iald (x := (M 181 x3)) dX0_liesIn_28 sh181 q3 rfl ?_
    refine z_icmpeq (tgt := 38) dX0_liesIn_29 rfl (fun q => ?_) (fun q => ?_)
    · replace h := h.1 q
      obtain ⟨q4, h⟩ := h
      refine y_iinc (ls' := [(2, 176), (2, 19), (0, x2), (0, (x3 + 1))]) dX0_liesIn_38 rfl rfl q4 rfl ?_
      refine z_goto (tgt := 4) dX0_liesIn_41 rfl ?_
      exact h
    · replace h := h.2 q
      refine z_iloadn dX0_liesIn_32 rfl ?_
      refine z_iconst dX0_liesIn_33 ki_1 ?_
      refine z_iloadn dX0_liesIn_34 rfl ?_
      refine z_ishl dX0_liesIn_35 ?_
      refine z_ior dX0_liesIn_36 ?_
      refine y_istoren (ls' := [(2, 176), (2, 19), (0, (zor x2 (zshl 1 x3))), (0, x3)]) dX0_liesIn_37 rfl rfl ?_
      obtain ⟨q5, h⟩ := h
      refine y_iinc (ls' := [(2, 176), (2, 19), (0, (zor x2 (zshl 1 x3))), (0, (x3 + 1))]) dX0_liesIn_38 rfl rfl q5 rfl ?_
      refine z_goto (tgt := 4) dX0_liesIn_41 rfl ?_
      exact h
set_option maxRecDepth 20000 in
set_option maxHeartbeats 4000000 in
theorem bX0_firstClash_0 {G : zG} {d : Nat} {M : zM} {Q : zV → zM → Prop} (hG : zP G)
    (h : Y G (d + 1) mX0_firstClash 2 [(2, 176), (2, 19), (0, 0), (9, 0), (9, 0)] [] M Q) :
    Y G (d + 1) mX0_firstClash 0 [(2, 176), (2, 19), (9, 0), (9, 0), (9, 0)] [] M Q := by
  refine z_iconst dX0_firstClash_0 ki_0 ?_
  refine y_istoren (ls' := [(2, 176), (2, 19), (0, 0), (9, 0), (9, 0)]) dX0_firstClash_1 rfl rfl ?_
  exact h
set_option maxRecDepth 20000 in
set_option maxHeartbeats 4000000 in
theorem bX0_firstClash_2 {G : zG} {d : Nat} {M : zM} {Q : zV → zM → Prop} (hG : zP G) {x2 : Int}
    (h : (((M 176 7) ≤ x2 → Q (0, (-1)) M) ∧ (x2 < (M 176 7) → Y G (d + 1) mX0_firstClash 12 [(2, 176), (2, 19), (0, x2), (0, 0), (9, 0)] [] M Q))) :
    Y G (d + 1) mX0_firstClash 2 [(2, 176), (2, 19), (0, x2), (9, 0), (9, 0)] [] M Q := by
  refine z_iloadn dX0_firstClash_2 rfl ?_
  refine z_aloadn dX0_firstClash_3 rfl (Or.inl rfl) ?_
  refine y_getf (x := (M 176 7)) dX0_firstClash_4 fX0_41 sh176 (by decide) rfl rfl ?_
  refine z_icmpge (tgt := 74) dX0_firstClash_7 rfl (fun q => ?_) (fun q => ?_)
  · replace h := h.1 q
    refine z_iconst dX0_firstClash_74 ki_m1 ?_
    exact z_ireturn dX0_firstClash_75 (Or.inl rfl) rfl h
  · replace h := h.2 q
    refine z_iconst dX0_firstClash_10 ki_0 ?_
    refine y_istoren (ls' := [(2, 176), (2, 19), (0, x2), (0, 0), (9, 0)]) dX0_firstClash_11 rfl rfl ?_
    exact h
set_option maxRecDepth 20000 in
set_option maxHeartbeats 4000000 in
theorem bX0_firstClash_12 {G : zG} {d : Nat} {M : zM} {Q : zV → zM → Prop} (hG : zP G) {x2 x3 : Int}
    (h : ((x2 ≤ x3 → (-2147483648 ≤ x2 + 1 ∧ x2 + 1 ≤ 2147483647) ∧ Y G (d + 1) mX0_firstClash 2 [(2, 176), (2, 19), (0, (x2 + 1)), (9, 0), (9, 0)] [] M Q) ∧ (x3 < x2 → (0 ≤ x3 ∧ x3 < 12) ∧ (0 ≤ x2 ∧ x2 < 12) ∧ Y G d mX3_areAlike 0 [(2, 19), (0, (M 180 x3)), (0, (M 180 x2))] [] M (fun r M' => Y G (d + 1) mX0_firstClash 33 [(2, 176), (2, 19), (0, x2), (0, x3), (9, 0)] (zpush r []) M' Q)))) :
    Y G (d + 1) mX0_firstClash 12 [(2, 176), (2, 19), (0, x2), (0, x3), (9, 0)] [] M Q := by
  refine z_iloadn dX0_firstClash_12 rfl ?_
  refine z_iloadn dX0_firstClash_13 rfl ?_
  refine z_icmpge (tgt := 68) dX0_firstClash_14 rfl (fun q => ?_) (fun q => ?_)
  · replace h := h.1 q
    obtain ⟨q1, h⟩ := h
    refine y_iinc (ls' := [(2, 176), (2, 19), (0, (x2 + 1)), (0, x3), (9, 0)]) dX0_firstClash_68 rfl rfl q1 rfl ?_
    refine z_goto (tgt := 2) dX0_firstClash_71 rfl ?_
    refine z_sub (ls' := [(2, 176), (2, 19), (0, (x2 + 1)), (9, 0), (9, 0)]) ⟨Or.inl rfl, Or.inl rfl, Or.inl rfl, Or.inr rfl, Or.inl rfl, trivial⟩ ?_
    exact h
  · replace h := h.2 q
    refine z_aloadn dX0_firstClash_17 rfl (Or.inl rfl) ?_
    refine z_aloadn dX0_firstClash_18 rfl (Or.inl rfl) ?_
    refine y_getr (v := 180) hG dX0_firstClash_19 fX0_21 sh176 (by decide) rfl (by decide +kernel) (by decide) ?_
    refine z_iloadn dX0_firstClash_22 rfl ?_
    obtain ⟨q2, h⟩ := h
    refine y_iald (x := (M 180 x3)) dX0_firstClash_23 sh180 q2 rfl ?_
    refine z_aloadn dX0_firstClash_24 rfl (Or.inl rfl) ?_
    refine y_getr (v := 180) hG dX0_firstClash_25 fX0_21 sh176 (by decide) rfl (by decide +kernel) (by decide) ?_
    refine z_iloadn dX0_firstClash_28 rfl ?_
    obtain ⟨q3, h⟩ := h
    refine y_iald (x := (M 180 x2)) dX0_firstClash_29 sh180 q3 rfl ?_
    refine y_cv (mt2 := mX3_areAlike) (en := [(2, 19), (0, (M 180 x3)), (0, (M 180 x2))]) (st := []) (as := [(0, (M 180 x3)), (0, (M 180 x2))]) dX0_firstClash_30 lX0_52 kX3_areAlike iX3_areAlike eX3_areAlike rfl sh19 (by decide +kernel) (Nat.le_of_ble_eq_true rfl) (Nat.le_of_ble_eq_true rfl) rfl ?_
    exact h
set_option maxRecDepth 20000 in
set_option maxHeartbeats 4000000 in
theorem bX0_firstClash_33 {G : zG} {d : Nat} {M : zM} {Q : zV → zM → Prop} (hG : zP G) {x2 x3 x49 : Int}
    (h : ((x49 = 0 → (-2147483648 ≤ x3 + 1 ∧ x3 + 1 ≤ 2147483647) ∧ Y G (d + 1) mX0_firstClash 12 [(2, 176), (2, 19), (0, x2), (0, (x3 + 1)), (9, 0)] [] M Q) ∧ (¬ x49 = 0 → (0 ≤ x3 ∧ x3 < 12) ∧ (0 ≤ x2 ∧ x2 < 12) ∧ (((M 181 x3) = (M 181 x2) → (-2147483648 ≤ x3 + 1 ∧ x3 + 1 ≤ 2147483647) ∧ Y G (d + 1) mX0_firstClash 12 [(2, 176), (2, 19), (0, x2), (0, (x3 + 1)), (9, 0)] [] M Q) ∧ (¬ (M 181 x3) = (M 181 x2) → (-2147483648 ≤ 12 * x3 ∧ 12 * x3 ≤ 2147483647) ∧ (-2147483648 ≤ (12 * x3) + x2 ∧ (12 * x3) + x2 ≤ 2147483647) ∧ Q (0, ((12 * x3) + x2)) M))))) :
    Y G (d + 1) mX0_firstClash 33 [(2, 176), (2, 19), (0, x2), (0, x3), (9, 0)] [(0, x49)] M Q := by
  refine y_istore (ls' := [(2, 176), (2, 19), (0, x2), (0, x3), (0, x49)]) dX0_firstClash_33 rfl rfl ?_
  refine z_iload dX0_firstClash_35 rfl ?_
  refine z_ifeq (tgt := 62) dX0_firstClash_37 rfl (fun q => ?_) (fun q => ?_)
  · replace h := h.1 q
    obtain ⟨q1, h⟩ := h
    refine y_iinc (ls' := [(2, 176), (2, 19), (0, x2), (0, (x3 + 1)), (0, x49)]) dX0_firstClash_62 rfl rfl q1 rfl ?_
    refine z_goto (tgt := 12) dX0_firstClash_65 rfl ?_
    refine z_sub (ls' := [(2, 176), (2, 19), (0, x2), (0, (x3 + 1)), (9, 0)]) ⟨Or.inl rfl, Or.inl rfl, Or.inl rfl, Or.inl rfl, Or.inr rfl, trivial⟩ ?_
    exact h
  · replace h := h.2 q
    refine z_aloadn dX0_firstClash_40 rfl (Or.inl rfl) ?_
    refine y_getr (v := 181) hG dX0_firstClash_41 fX0_24 sh176 (by decide) rfl (by decide +kernel) (by decide) ?_
    refine z_iloadn dX0_firstClash_44 rfl ?_
    obtain ⟨q2, h⟩ := h
    refine y_iald (x := (M 181 x3)) dX0_firstClash_45 sh181 q2 rfl ?_
    refine z_aloadn dX0_firstClash_46 rfl (Or.inl rfl) ?_
    refine y_getr (v := 181) hG dX0_firstClash_47 fX0_24 sh176 (by decide) rfl (by decide +kernel) (by decide) ?_
    refine z_iloadn dX0_firstClash_50 rfl ?_
    obtain ⟨q3, h⟩ := h
    refine y_iald (x := (M 181 x2)) dX0_firstClash_51 sh181 q3 rfl ?_
    refine z_icmpeq (tgt := 62) dX0_firstClash_52 rfl (fun q => ?_) (fun q => ?_)
    · replace h := h.1 q
      obtain ⟨q4, h⟩ := h
      refine y_iinc (ls' := [(2, 176), (2, 19), (0, x2), (0, (x3 + 1)), (0, x49)]) dX0_firstClash_62 rfl rfl q4 rfl ?_
      refine z_goto (tgt := 12) dX0_firstClash_65 rfl ?_
      refine z_sub (ls' := [(2, 176), (2, 19), (0, x2), (0, (x3 + 1)), (9, 0)]) ⟨Or.inl rfl, Or.inl rfl, Or.inl rfl, Or.inl rfl, Or.inr rfl, trivial⟩ ?_
      exact h
    · replace h := h.2 q
      refine z_bipush dX0_firstClash_55 kb_12 ?_
      refine z_iloadn dX0_firstClash_57 rfl ?_
      obtain ⟨q5, h⟩ := h
      refine z_imul dX0_firstClash_58 q5 ?_
      refine z_iloadn dX0_firstClash_59 rfl ?_
      obtain ⟨q6, h⟩ := h
      refine z_iadd dX0_firstClash_60 q6 ?_
      exact z_ireturn dX0_firstClash_61 (Or.inl rfl) rfl h
set_option maxRecDepth 20000 in
set_option maxHeartbeats 4000000 in
theorem bX0_findParting_0 {G : zG} {d : Nat} {M : zM} {Q : zV → zM → Prop} (hG : zP G) {x1 x2 : Int}
    (h : ((¬ x1 = x2 → (0 ≤ x1 ∧ x1 < 12) ∧ (0 ≤ x2 ∧ x2 < 12) ∧ Y G d mJ7_fill_53178 0 [(2, 182), (0, 0), (9, 0), (9, 0)] [] M (fun r M' => Y G (d + 1) mX0_findParting 30 [(2, 176), (0, x1), (0, x2), (2, 19), (2, 2), (0, (zor (M 25 x1) (M 25 x2))), (9, 0)] (zpush r []) M' Q)) ∧ (x1 = x2 → Q (0, 0) M))) :
    Y G (d + 1) mX0_findParting 0 [(2, 176), (0, x1), (0, x2), (2, 19), (2, 2), (9, 0), (9, 0)] [] M Q := by
  refine z_iloadn dX0_findParting_0 rfl ?_
  refine z_iloadn dX0_findParting_1 rfl ?_
  refine z_icmpne (tgt := 7) dX0_findParting_2 rfl (fun q => ?_) (fun q => ?_)
  · replace h := h.1 q
    refine z_aloadn dX0_findParting_7 rfl (Or.inl rfl) ?_
    refine y_getr (v := 25) hG dX0_findParting_8 fX0_44 sh19 (by decide) rfl (by decide +kernel) (by decide) ?_
    refine z_iloadn dX0_findParting_11 rfl ?_
    obtain ⟨q1, h⟩ := h
    refine y_iald (x := (M 25 x1)) dX0_findParting_12 sh25 q1 rfl ?_
    refine z_aloadn dX0_findParting_13 rfl (Or.inl rfl) ?_
    refine y_getr (v := 25) hG dX0_findParting_14 fX0_44 sh19 (by decide) rfl (by decide +kernel) (by decide) ?_
    refine z_iloadn dX0_findParting_17 rfl ?_
    obtain ⟨q2, h⟩ := h
    refine y_iald (x := (M 25 x2)) dX0_findParting_18 sh25 q2 rfl ?_
    refine z_ior dX0_findParting_19 ?_
    refine y_istore (ls' := [(2, 176), (0, x1), (0, x2), (2, 19), (2, 2), (0, (zor (M 25 x1) (M 25 x2))), (9, 0)]) dX0_findParting_20 rfl rfl ?_
    refine z_aloadn dX0_findParting_22 rfl (Or.inl rfl) ?_
    refine y_getr (v := 182) hG dX0_findParting_23 fX0_27 sh176 (by decide) rfl (by decide +kernel) (by decide) ?_
    refine z_iconst dX0_findParting_26 ki_0 ?_
    refine y_cs (mt2 := mJ7_fill_53178) (en := [(2, 182), (0, 0), (9, 0), (9, 0)]) (st := []) (as := [(2, 182), (0, 0)]) dX0_findParting_27 lX0_56 kJ7_fill_53178 tJ7_fill_53178 rfl (Nat.le_of_ble_eq_true rfl) (Nat.le_of_ble_eq_true rfl) rfl ?_
    exact h
  · replace h := h.2 q
    refine z_iconst dX0_findParting_5 ki_0 ?_
    exact z_ireturn dX0_findParting_6 (Or.inr ⟨rfl, ⟨by decide, by decide⟩⟩) rfl h
set_option maxRecDepth 20000 in
set_option maxHeartbeats 4000000 in
theorem bX0_findParting_33 {G : zG} {d : Nat} {M : zM} {Q : zV → zM → Prop} (hG : zP G) {x1 x2 x5 x6 : Int}
    (h : ((10000 ≤ x6 → Q (0, 0) M) ∧ (x6 < 10000 → Y G d mX3_answerIn 0 [(2, 19), (0, x1), (2, 2), (2, 182), (9, 0)] [] M (fun r M' => Y G (d + 1) mX0_findParting 52 [(2, 176), (0, x1), (0, x2), (2, 19), (2, 2), (0, x5), (0, x6)] (zpush r []) M' Q)))) :
    Y G (d + 1) mX0_findParting 33 [(2, 176), (0, x1), (0, x2), (2, 19), (2, 2), (0, x5), (0, x6)] [] M Q := by
  refine z_iload dX0_findParting_33 rfl ?_
  refine z_sipush dX0_findParting_35 ks_10000 ?_
  refine z_icmpge (tgt := 85) dX0_findParting_38 rfl (fun q => ?_) (fun q => ?_)
  · replace h := h.1 q
    refine z_iconst dX0_findParting_85 ki_0 ?_
    exact z_ireturn dX0_findParting_86 (Or.inr ⟨rfl, ⟨by decide, by decide⟩⟩) rfl h
  · replace h := h.2 q
    refine z_aloadn dX0_findParting_41 rfl (Or.inl rfl) ?_
    refine z_iloadn dX0_findParting_42 rfl ?_
    refine z_aload dX0_findParting_43 rfl (Or.inl rfl) ?_
    refine z_aloadn dX0_findParting_45 rfl (Or.inl rfl) ?_
    refine y_getr (v := 182) hG dX0_findParting_46 fX0_27 sh176 (by decide) rfl (by decide +kernel) (by decide) ?_
    refine y_cv (mt2 := mX3_answerIn) (en := [(2, 19), (0, x1), (2, 2), (2, 182), (9, 0)]) (st := []) (as := [(0, x1), (2, 2), (2, 182)]) dX0_findParting_49 lX0_62 kX3_answerIn iX3_answerIn eX3_answerIn rfl sh19 (by decide +kernel) (Nat.le_of_ble_eq_true rfl) (Nat.le_of_ble_eq_true rfl) rfl ?_
    exact h
set_option maxRecDepth 20000 in
set_option maxHeartbeats 4000000 in
theorem bX0_findParting_30 {G : zG} {d : Nat} {M : zM} {Q : zV → zM → Prop} (hG : zP G) {x1 x2 x5 : Int}
    (h : Y G (d + 1) mX0_findParting 33 [(2, 176), (0, x1), (0, x2), (2, 19), (2, 2), (0, x5), (0, 0)] [] M Q) :
    Y G (d + 1) mX0_findParting 30 [(2, 176), (0, x1), (0, x2), (2, 19), (2, 2), (0, x5), (9, 0)] [] M Q := by
  refine z_iconst dX0_findParting_30 ki_0 ?_
  refine y_istore (ls' := [(2, 176), (0, x1), (0, x2), (2, 19), (2, 2), (0, x5), (0, 0)]) dX0_findParting_31 rfl rfl ?_
  exact h
set_option maxRecDepth 20000 in
set_option maxHeartbeats 4000000 in
theorem bX0_findParting_52 {G : zG} {d : Nat} {M : zM} {Q : zV → zM → Prop} (hG : zP G) {x1 x2 x5 x6 x49 : Int}
    (h : Y G d mX3_answerIn 0 [(2, 19), (0, x2), (2, 2), (2, 182), (9, 0)] [] M (fun r M' => Y G (d + 1) mX0_findParting 63 [(2, 176), (0, x1), (0, x2), (2, 19), (2, 2), (0, x5), (0, x6)] (zpush r [(0, x49)]) M' Q)) :
    Y G (d + 1) mX0_findParting 52 [(2, 176), (0, x1), (0, x2), (2, 19), (2, 2), (0, x5), (0, x6)] [(0, x49)] M Q := by
  refine z_aloadn dX0_findParting_52 rfl (Or.inl rfl) ?_
  refine z_iloadn dX0_findParting_53 rfl ?_
  refine z_aload dX0_findParting_54 rfl (Or.inl rfl) ?_
  refine z_aloadn dX0_findParting_56 rfl (Or.inl rfl) ?_
  refine y_getr (v := 182) hG dX0_findParting_57 fX0_27 sh176 (by decide) rfl (by decide +kernel) (by decide) ?_
  refine y_cv (mt2 := mX3_answerIn) (en := [(2, 19), (0, x2), (2, 2), (2, 182), (9, 0)]) (st := [(0, x49)]) (as := [(0, x2), (2, 2), (2, 182)]) dX0_findParting_60 lX0_62 kX3_answerIn iX3_answerIn eX3_answerIn rfl sh19 (by decide +kernel) (Nat.le_of_ble_eq_true rfl) (Nat.le_of_ble_eq_true rfl) rfl ?_
  exact h
set_option maxRecDepth 20000 in
set_option maxHeartbeats 4000000 in
theorem bX0_findParting_63 {G : zG} {d : Nat} {M : zM} {Q : zV → zM → Prop} (hG : zP G) {x1 x2 x5 x6 x49 x50 : Int}
    (h : ((x50 = x49 → Y G d mX0_nextWorld 0 [(2, 176), (0, x5), (9, 0)] [] M (fun r M' => Y G (d + 1) mX0_findParting 74 [(2, 176), (0, x1), (0, x2), (2, 19), (2, 2), (0, x5), (0, x6)] (zpush r []) M' Q)) ∧ (¬ x50 = x49 → Q (0, 1) M))) :
    Y G (d + 1) mX0_findParting 63 [(2, 176), (0, x1), (0, x2), (2, 19), (2, 2), (0, x5), (0, x6)] [(0, x49), (0, x50)] M Q := by
  refine z_icmpeq (tgt := 68) dX0_findParting_63 rfl (fun q => ?_) (fun q => ?_)
  · replace h := h.1 q
    refine z_aloadn dX0_findParting_68 rfl (Or.inl rfl) ?_
    refine z_iload dX0_findParting_69 rfl ?_
    refine y_cv (mt2 := mX0_nextWorld) (en := [(2, 176), (0, x5), (9, 0)]) (st := []) (as := [(0, x5)]) dX0_findParting_71 lX0_66 kX0_nextWorld iX0_nextWorld eX0_nextWorld rfl sh176 (by decide +kernel) (Nat.le_of_ble_eq_true rfl) (Nat.le_of_ble_eq_true rfl) rfl ?_
    exact h
  · replace h := h.2 q
    refine z_iconst dX0_findParting_66 ki_1 ?_
    exact z_ireturn dX0_findParting_67 (Or.inr ⟨rfl, ⟨by decide, by decide⟩⟩) rfl h
set_option maxRecDepth 20000 in
set_option maxHeartbeats 4000000 in
theorem bX0_findParting_74 {G : zG} {d : Nat} {M : zM} {Q : zV → zM → Prop} (hG : zP G) {x1 x2 x5 x6 x49 : Int}
    (h : ((¬ x49 = 0 → (-2147483648 ≤ x6 + 1 ∧ x6 + 1 ≤ 2147483647) ∧ Y G (d + 1) mX0_findParting 33 [(2, 176), (0, x1), (0, x2), (2, 19), (2, 2), (0, x5), (0, (x6 + 1))] [] M Q) ∧ (x49 = 0 → Q (0, 0) M))) :
    Y G (d + 1) mX0_findParting 74 [(2, 176), (0, x1), (0, x2), (2, 19), (2, 2), (0, x5), (0, x6)] [(0, x49)] M Q := by
  refine z_ifne (tgt := 79) dX0_findParting_74 rfl (fun q => ?_) (fun q => ?_)
  · replace h := h.1 q
    obtain ⟨q1, h⟩ := h
    refine y_iinc (ls' := [(2, 176), (0, x1), (0, x2), (2, 19), (2, 2), (0, x5), (0, (x6 + 1))]) dX0_findParting_79 rfl rfl q1 rfl ?_
    refine z_goto (tgt := 33) dX0_findParting_82 rfl ?_
    exact h
  · replace h := h.2 q
    refine z_iconst dX0_findParting_77 ki_0 ?_
    exact z_ireturn dX0_findParting_78 (Or.inr ⟨rfl, ⟨by decide, by decide⟩⟩) rfl h
set_option maxRecDepth 20000 in
set_option maxHeartbeats 4000000 in
theorem bX0_nextWorld_0 {G : zG} {d : Nat} {M : zM} {Q : zV → zM → Prop} (hG : zP G) {x1 : Int}
    (h : Y G d mX0_nextWorld 2 [(2, 176), (0, x1), (0, 3)] [] M Q) :
    Y G d mX0_nextWorld 0 [(2, 176), (0, x1), (9, 0)] [] M Q := by
  refine z_iconst dX0_nextWorld_0 ki_3 ?_
  refine y_istoren (ls' := [(2, 176), (0, x1), (0, 3)]) dX0_nextWorld_1 rfl rfl ?_
  exact h
set_option maxRecDepth 20000 in
set_option maxHeartbeats 4000000 in
theorem bX0_nextWorld_2 {G : zG} {d : Nat} {M : zM} {Q : zV → zM → Prop} (hG : zP G) {x1 x2 : Int}
    (h : ((x2 < 0 → Q (0, 0) M) ∧ (0 ≤ x2 → (((zand (zshr x1 x2) 1) = 0 → (-2147483648 ≤ x2 + (-1) ∧ x2 + (-1) ≤ 2147483647) ∧ Y G d mX0_nextWorld 2 [(2, 176), (0, x1), (0, (x2 + (-1)))] [] M Q) ∧ (¬ (zand (zshr x1 x2) 1) = 0 → (0 ≤ x2 ∧ x2 < 4) ∧ ((9 ≤ (M 182 x2) → (0 ≤ x2 ∧ x2 < 4) ∧ (-2147483648 ≤ x2 + (-1) ∧ x2 + (-1) ≤ 2147483647) ∧ Y G d mX0_nextWorld 2 [(2, 176), (0, x1), (0, (x2 + (-1)))] [] (zset M 182 x2 0) Q) ∧ ((M 182 x2) < 9 → (0 ≤ x2 ∧ x2 < 4) ∧ (-2147483648 ≤ (M 182 x2) + 1 ∧ (M 182 x2) + 1 ≤ 2147483647) ∧ (0 ≤ x2 ∧ x2 < 4) ∧ Q (0, 1) (zset M 182 x2 ((M 182 x2) + 1))))))))) :
    Y G d mX0_nextWorld 2 [(2, 176), (0, x1), (0, x2)] [] M Q := by
  refine z_iloadn dX0_nextWorld_2 rfl ?_
  refine z_iflt (tgt := 50) dX0_nextWorld_3 rfl (fun q => ?_) (fun q => ?_)
  · replace h := h.1 q
    refine z_iconst dX0_nextWorld_50 ki_0 ?_
    exact z_ireturn dX0_nextWorld_51 (Or.inr ⟨rfl, ⟨by decide, by decide⟩⟩) rfl h
  · replace h := h.2 q
    refine z_iloadn dX0_nextWorld_6 rfl ?_
    refine z_iloadn dX0_nextWorld_7 rfl ?_
    refine z_ishr dX0_nextWorld_8 ?_
    refine z_iconst dX0_nextWorld_9 ki_1 ?_
    refine z_iand dX0_nextWorld_10 ?_
    refine z_ifeq (tgt := 44) dX0_nextWorld_11 rfl (fun q => ?_) (fun q => ?_)
    · replace h := h.1 q
      obtain ⟨q1, h⟩ := h
      refine y_iinc (ls' := [(2, 176), (0, x1), (0, (x2 + (-1)))]) dX0_nextWorld_44 rfl rfl q1 rfl ?_
      refine z_goto (tgt := 2) dX0_nextWorld_47 rfl ?_
      exact h
    · replace h := h.2 q
      refine z_aloadn dX0_nextWorld_14 rfl (Or.inl rfl) ?_
      refine y_getr (v := 182) hG dX0_nextWorld_15 fX0_27 sh176 (by decide) rfl (by decide +kernel) (by decide) ?_
      refine z_iloadn dX0_nextWorld_18 rfl ?_
      obtain ⟨q2, h⟩ := h
      refine y_iald (x := (M 182 x2)) dX0_nextWorld_19 sh182 q2 rfl ?_
      refine z_bipush dX0_nextWorld_20 kb_9 ?_
      refine z_icmpge (tgt := 37) dX0_nextWorld_22 rfl (fun q => ?_) (fun q => ?_)
      · replace h := h.1 q
        refine z_aloadn dX0_nextWorld_37 rfl (Or.inl rfl) ?_
        refine y_getr (v := 182) hG dX0_nextWorld_38 fX0_27 sh176 (by decide) rfl (by decide +kernel) (by decide) ?_
        refine z_iloadn dX0_nextWorld_41 rfl ?_
        refine z_iconst dX0_nextWorld_42 ki_0 ?_
        obtain ⟨q3, h⟩ := h
        refine y_iast hG dX0_nextWorld_43 sh182 q3 ?_
        obtain ⟨q4, h⟩ := h
        refine y_iinc (ls' := [(2, 176), (0, x1), (0, (x2 + (-1)))]) dX0_nextWorld_44 rfl rfl q4 rfl ?_
        refine z_goto (tgt := 2) dX0_nextWorld_47 rfl ?_
        exact h
      · replace h := h.2 q
        refine z_aloadn dX0_nextWorld_25 rfl (Or.inl rfl) ?_
        refine y_getr (v := 182) hG dX0_nextWorld_26 fX0_27 sh176 (by decide) rfl (by decide +kernel) (by decide) ?_
        refine z_iloadn dX0_nextWorld_29 rfl ?_
        refine z_dup2 dX0_nextWorld_30 (show (0 : Nat) ≠ 1 by decide) (show (2 : Nat) ≠ 1 by decide) ?_
        obtain ⟨q5, h⟩ := h
        refine y_iald (x := (M 182 x2)) dX0_nextWorld_31 sh182 q5 rfl ?_
        refine z_iconst dX0_nextWorld_32 ki_1 ?_
        obtain ⟨q6, h⟩ := h
        refine z_iadd dX0_nextWorld_33 q6 ?_
        obtain ⟨q7, h⟩ := h
        refine y_iast hG dX0_nextWorld_34 sh182 q7 ?_
        refine z_iconst dX0_nextWorld_35 ki_1 ?_
        exact z_ireturn dX0_nextWorld_36 (Or.inr ⟨rfl, ⟨by decide, by decide⟩⟩) rfl h
