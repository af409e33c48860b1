set_option maxRecDepth 20000 in
set_option maxHeartbeats 4000000 in
theorem bX10_workOut_0 {G : zG} {d : Nat} {M : zM} {Q : zV → zM → Prop} (hG : zP G) {r1 x2 x3 r4 : Int} {nr4 : Nat} (hr1 : zND r1) (hr4 : zsh r4.toNat = (100, nr4))
    (h : ((x2 < 0 → Q (0, 0) M) ∧ (0 ≤ x2 → ((x3 < x2 → Q (0, 0) M) ∧ (x2 ≤ x3 → ((x3 < (M r1 8) → Y G (d + 1) mX10_workOut 22 [(2, 2), (2, r1), (0, x2), (0, x3), (2, r4), (0, x2), (9, 0)] [] M Q) ∧ ((M r1 8) ≤ x3 → Q (0, 0) M))))))) :
    Y G (d + 1) mX10_workOut 0 [(2, 2), (2, r1), (0, x2), (0, x3), (2, r4), (9, 0), (9, 0)] [] M Q := by
  refine z_iloadn dX10_workOut_0 rfl ?_
  refine z_iflt (tgt := 17) dX10_workOut_1 rfl (fun q => ?_) (fun q => ?_)
  · replace h := h.1 q
    refine z_iconst dX10_workOut_17 ki_0 ?_
    exact z_ireturn dX10_workOut_18 (Or.inl rfl) rfl h
  · replace h := h.2 q
    refine z_iloadn dX10_workOut_4 rfl ?_
    refine z_iloadn dX10_workOut_5 rfl ?_
    refine z_icmpgt (tgt := 17) dX10_workOut_6 rfl (fun q => ?_) (fun q => ?_)
    · replace h := h.1 q
      refine z_iconst dX10_workOut_17 ki_0 ?_
      exact z_ireturn dX10_workOut_18 (Or.inl rfl) rfl h
    · replace h := h.2 q
      refine z_iloadn dX10_workOut_9 rfl ?_
      refine z_aloadn dX10_workOut_10 rfl (Or.inl rfl) ?_
      refine y_getf (x := (M r1 8)) dX10_workOut_11 fX10_69 (nd_0 hr1) (by decide) rfl rfl ?_
      refine z_icmplt (tgt := 19) dX10_workOut_14 rfl (fun q => ?_) (fun q => ?_)
      · replace h := h.1 q
        refine z_iloadn dX10_workOut_19 rfl ?_
        refine y_istore (ls' := [(2, 2), (2, r1), (0, x2), (0, x3), (2, r4), (0, x2), (9, 0)]) dX10_workOut_20 rfl rfl ?_
        exact h
      · replace h := h.2 q
        refine z_iconst dX10_workOut_17 ki_0 ?_
        exact z_ireturn dX10_workOut_18 (Or.inl rfl) rfl h
set_option maxRecDepth 20000 in
set_option maxHeartbeats 4000000 in
theorem bX10_workOut_22 {G : zG} {d : Nat} {M : zM} {Q : zV → zM → Prop} (hG : zP G) {r1 x2 x3 r4 x5 : Int} {nr4 : Nat} (hr1 : zND r1) (hr4 : zsh r4.toNat = (100, nr4))
    (h : ((x3 < x5 → (0 ≤ x3 ∧ x3 < 300) ∧ Q (0, (M 11 x3)) M) ∧ (x5 ≤ x3 → (0 ≤ x5 ∧ x5 < 300) ∧ (0 ≤ x5 ∧ x5 < 300) ∧ ((((M (r1 + 1) x5) = 0) → (0 ≤ x5 ∧ x5 < 300) ∧ (-2147483648 ≤ x5 + 1 ∧ x5 + 1 ≤ 2147483647) ∧ Y G (d + 1) mX10_workOut 22 [(2, 2), (2, r1), (0, x2), (0, x3), (2, r4), (0, (x5 + 1)), (9, 0)] [] (zset M 11 x5 (M (r1 + 2) x5)) Q) ∧ (((M (r1 + 1) x5) = 1) → (((M (r1 + 2) x5) < 0 → (0 ≤ x5 ∧ x5 < 300) ∧ (-2147483648 ≤ x5 + 1 ∧ x5 + 1 ≤ 2147483647) ∧ Y G (d + 1) mX10_workOut 22 [(2, 2), (2, r1), (0, x2), (0, x3), (2, r4), (0, (x5 + 1)), (9, 0)] [] (zset M 11 x5 0) Q) ∧ (0 ≤ (M (r1 + 2) x5) → (nr4 ≠ 0) ∧ (((nr4 : Int) ≤ (M (r1 + 2) x5) → (0 ≤ x5 ∧ x5 < 300) ∧ (-2147483648 ≤ x5 + 1 ∧ x5 + 1 ≤ 2147483647) ∧ Y G (d + 1) mX10_workOut 22 [(2, 2), (2, r1), (0, x2), (0, x3), (2, r4), (0, (x5 + 1)), (9, 0)] [] (zset M 11 x5 0) Q) ∧ ((M (r1 + 2) x5) < (nr4 : Int) → (0 ≤ (M (r1 + 2) x5) ∧ (M (r1 + 2) x5) < (nr4 : Int)) ∧ (0 ≤ x5 ∧ x5 < 300) ∧ (-2147483648 ≤ x5 + 1 ∧ x5 + 1 ≤ 2147483647) ∧ Y G (d + 1) mX10_workOut 22 [(2, 2), (2, r1), (0, x2), (0, x3), (2, r4), (0, (x5 + 1)), (9, 0)] [] (zset M 11 x5 (M r4 (M (r1 + 2) x5))) Q))))) ∧ (((M (r1 + 1) x5) = 2) → Y G d mX10_sumOf 0 [(2, 2), (2, r1), (0, x5), (9, 0), (9, 0), (9, 0)] [] M (fun r M' => Y G (d + 1) mX10_workOut 133 [(2, 2), (2, r1), (0, x2), (0, x3), (2, r4), (0, x5), (0, (M (r1 + 2) x5))] (zpush r [(0, x5), (2, 11)]) M' Q)) ∧ (((M (r1 + 1) x5) = 3) → Y G d mX10_productOf 0 [(2, 2), (2, r1), (0, x5), (9, 0), (9, 0), (9, 0), (9, 0)] [] M (fun r M' => Y G (d + 1) mX10_workOut 150 [(2, 2), (2, r1), (0, x2), (0, x3), (2, r4), (0, x5), (0, (M (r1 + 2) x5))] (zpush r [(0, x5), (2, 11)]) M' Q)) ∧ (((M (r1 + 1) x5) < 0 ∨ 3 < (M (r1 + 1) x5)) → Y G d mX10_workWord 0 [(2, 2), (2, r1), (0, x5), (9, 0), (9, 0), (9, 0), (9, 0), (9, 0), (9, 0)] [] M (fun r M' => Y G (d + 1) mX10_workOut 167 [(2, 2), (2, r1), (0, x2), (0, x3), (2, r4), (0, x5), (0, (M (r1 + 2) x5))] (zpush r [(0, x5), (2, 11)]) M' Q)))))) :
    Y G (d + 1) mX10_workOut 22 [(2, 2), (2, r1), (0, x2), (0, x3), (2, r4), (0, x5), (9, 0)] [] M Q := by
  refine z_iload dX10_workOut_22 rfl ?_
  refine z_iloadn dX10_workOut_24 rfl ?_
  refine z_icmpgt (tgt := 174) dX10_workOut_25 rfl (fun q => ?_) (fun q => ?_)
  · replace h := h.1 q
    refine z_aloadn dX10_workOut_174 rfl (Or.inl rfl) ?_
    refine y_getr (v := 11) hG dX10_workOut_175 fX10_36 sh2 (by decide) rfl (by decide +kernel) (by decide) ?_
    refine z_iloadn dX10_workOut_178 rfl ?_
    obtain ⟨q1, h⟩ := h
    refine y_iald (x := (M 11 x3)) dX10_workOut_179 sh11 q1 rfl ?_
    exact z_ireturn dX10_workOut_180 (Or.inl rfl) rfl h
  · replace h := h.2 q
    refine z_aloadn dX10_workOut_28 rfl (Or.inl rfl) ?_
    refine y_getr (v := (r1 + 2)) hG dX10_workOut_29 fX10_74 (nd_0 hr1) (by decide) rfl (nd_x1 hr1) (nd_ne hr1 2 (by decide)) ?_
    refine z_iload dX10_workOut_32 rfl ?_
    obtain ⟨q2, h⟩ := h
    refine y_iald (x := (M (r1 + 2) x5)) dX10_workOut_34 (nd_2 hr1) q2 rfl ?_
    refine y_istore (ls' := [(2, 2), (2, r1), (0, x2), (0, x3), (2, r4), (0, x5), (0, (M (r1 + 2) x5))]) dX10_workOut_35 rfl rfl ?_
    refine z_aloadn dX10_workOut_37 rfl (Or.inl rfl) ?_
    refine y_getr (v := (r1 + 1)) hG dX10_workOut_38 fX10_77 (nd_0 hr1) (by decide) rfl (nd_x0 hr1) (nd_ne hr1 1 (by decide)) ?_
    refine z_iload dX10_workOut_41 rfl ?_
    obtain ⟨q3, h⟩ := h
    refine y_iald (x := (M (r1 + 1) x5)) dX10_workOut_43 (nd_1 hr1) q3 rfl ?_
    rcases (show (M (r1 + 1) x5) < 0 ∨ 3 < (M (r1 + 1) x5) ∨ (M (r1 + 1) x5) = 0 ∨ (M (r1 + 1) x5) = 1 ∨ (M (r1 + 1) x5) = 2 ∨ (M (r1 + 1) x5) = 3 by omega) with q | q | q | q | q | q
    · replace h := h.2.2.2.2 (Or.inl q)
      refine z_tswOut (tgt := 154) dX10_workOut_44 (Or.inl q) rfl ?_
      refine z_aloadn dX10_workOut_154 rfl (Or.inl rfl) ?_
      refine y_getr (v := 11) hG dX10_workOut_155 fX10_36 sh2 (by decide) rfl (by decide +kernel) (by decide) ?_
      refine z_iload dX10_workOut_158 rfl ?_
      refine z_aloadn dX10_workOut_160 rfl (Or.inl rfl) ?_
      refine z_aloadn dX10_workOut_161 rfl (Or.inl rfl) ?_
      refine z_iload dX10_workOut_162 rfl ?_
      refine y_cv (mt2 := mX10_workWord) (en := [(2, 2), (2, r1), (0, x5), (9, 0), (9, 0), (9, 0), (9, 0), (9, 0), (9, 0)]) (st := [(0, x5), (2, 11)]) (as := [(2, r1), (0, x5)]) dX10_workOut_164 lX10_87 kX10_workWord iX10_workWord eX10_workWord rfl sh2 (by decide +kernel) (Nat.le_of_ble_eq_true rfl) (Nat.le_of_ble_eq_true rfl) rfl ?_
      exact h
    · replace h := h.2.2.2.2 (Or.inr q)
      refine z_tswOut (tgt := 154) dX10_workOut_44 (Or.inr q) rfl ?_
      refine z_aloadn dX10_workOut_154 rfl (Or.inl rfl) ?_
      refine y_getr (v := 11) hG dX10_workOut_155 fX10_36 sh2 (by decide) rfl (by decide +kernel) (by decide) ?_
      refine z_iload dX10_workOut_158 rfl ?_
      refine z_aloadn dX10_workOut_160 rfl (Or.inl rfl) ?_
      refine z_aloadn dX10_workOut_161 rfl (Or.inl rfl) ?_
      refine z_iload dX10_workOut_162 rfl ?_
      refine y_cv (mt2 := mX10_workWord) (en := [(2, 2), (2, r1), (0, x5), (9, 0), (9, 0), (9, 0), (9, 0), (9, 0), (9, 0)]) (st := [(0, x5), (2, 11)]) (as := [(2, r1), (0, x5)]) dX10_workOut_164 lX10_87 kX10_workWord iX10_workWord eX10_workWord rfl sh2 (by decide +kernel) (Nat.le_of_ble_eq_true rfl) (Nat.le_of_ble_eq_true rfl) rfl ?_
      exact h
    · replace h := h.1 q
      refine y_tsw (tgt := 76) (k := 0) dX10_workOut_44 q (by decide) rfl rfl ?_
      refine z_aloadn dX10_workOut_76 rfl (Or.inl rfl) ?_
      refine y_getr (v := 11) hG dX10_workOut_77 fX10_36 sh2 (by decide) rfl (by decide +kernel) (by decide) ?_
      refine z_iload dX10_workOut_80 rfl ?_
      refine z_iload dX10_workOut_82 rfl ?_
      obtain ⟨q4, h⟩ := h
      refine y_iast hG dX10_workOut_84 sh11 q4 ?_
      refine z_goto (tgt := 168) dX10_workOut_85 rfl ?_
      obtain ⟨q5, h⟩ := h
      refine y_iinc (ls' := [(2, 2), (2, r1), (0, x2), (0, x3), (2, r4), (0, (x5 + 1)), (0, (M (r1 + 2) x5))]) dX10_workOut_168 rfl rfl q5 rfl ?_
      refine z_goto (tgt := 22) dX10_workOut_171 rfl ?_
      refine z_sub (ls' := [(2, 2), (2, r1), (0, x2), (0, x3), (2, r4), (0, (x5 + 1)), (9, 0)]) ⟨Or.inl rfl, Or.inl rfl, Or.inl rfl, Or.inl rfl, Or.inl rfl, Or.inl rfl, Or.inr rfl, trivial⟩ ?_
      exact h
    · replace h := h.2.1 q
      refine y_tsw (tgt := 88) (k := 1) dX10_workOut_44 q (by decide) rfl rfl ?_
      refine z_aloadn dX10_workOut_88 rfl (Or.inl rfl) ?_
      refine y_getr (v := 11) hG dX10_workOut_89 fX10_36 sh2 (by decide) rfl (by decide +kernel) (by decide) ?_
      refine z_iload dX10_workOut_92 rfl ?_
      refine z_iload dX10_workOut_94 rfl ?_
      refine z_iflt (tgt := 115) dX10_workOut_96 rfl (fun q => ?_) (fun q => ?_)
      · replace h := h.1 q
        refine z_iconst dX10_workOut_115 ki_0 ?_
        obtain ⟨q6, h⟩ := h
        refine y_iast hG dX10_workOut_116 sh11 q6 ?_
        refine z_goto (tgt := 168) dX10_workOut_117 rfl ?_
        obtain ⟨q7, h⟩ := h
        refine y_iinc (ls' := [(2, 2), (2, r1), (0, x2), (0, x3), (2, r4), (0, (x5 + 1)), (0, (M (r1 + 2) x5))]) dX10_workOut_168 rfl rfl q7 rfl ?_
        refine z_goto (tgt := 22) dX10_workOut_171 rfl ?_
        refine z_sub (ls' := [(2, 2), (2, r1), (0, x2), (0, x3), (2, r4), (0, (x5 + 1)), (9, 0)]) ⟨Or.inl rfl, Or.inl rfl, Or.inl rfl, Or.inl rfl, Or.inl rfl, Or.inl rfl, Or.inr rfl, trivial⟩ ?_
        exact h
      · replace h := h.2 q
        refine z_iload dX10_workOut_99 rfl ?_
        refine z_aload dX10_workOut_101 rfl (Or.inl rfl) ?_
        obtain ⟨q8, h⟩ := h
        refine y_alen (x := (nr4 : Int)) dX10_workOut_103 hr4 (by decide) q8 rfl ?_
        refine z_icmpge (tgt := 115) dX10_workOut_104 rfl (fun q => ?_) (fun q => ?_)
        · replace h := h.1 q
          refine z_iconst dX10_workOut_115 ki_0 ?_
          obtain ⟨q9, h⟩ := h
          refine y_iast hG dX10_workOut_116 sh11 q9 ?_
          refine z_goto (tgt := 168) dX10_workOut_117 rfl ?_
          obtain ⟨q10, h⟩ := h
          refine y_iinc (ls' := [(2, 2), (2, r1), (0, x2), (0, x3), (2, r4), (0, (x5 + 1)), (0, (M (r1 + 2) x5))]) dX10_workOut_168 rfl rfl q10 rfl ?_
          refine z_goto (tgt := 22) dX10_workOut_171 rfl ?_
          refine z_sub (ls' := [(2, 2), (2, r1), (0, x2), (0, x3), (2, r4), (0, (x5 + 1)), (9, 0)]) ⟨Or.inl rfl, Or.inl rfl, Or.inl rfl, Or.inl rfl, Or.inl rfl, Or.inl rfl, Or.inr rfl, trivial⟩ ?_
          exact h
        · replace h := h.2 q
          refine z_aload dX10_workOut_107 rfl (Or.inl rfl) ?_
          refine z_iload dX10_workOut_109 rfl ?_
          obtain ⟨q11, h⟩ := h
          refine y_iald (x := (M r4 (M (r1 + 2) x5))) dX10_workOut_111 hr4 q11 rfl ?_
          refine z_goto (tgt := 116) dX10_workOut_112 rfl ?_
          obtain ⟨q12, h⟩ := h
          refine y_iast hG dX10_workOut_116 sh11 q12 ?_
          refine z_goto (tgt := 168) dX10_workOut_117 rfl ?_
          obtain ⟨q13, h⟩ := h
          refine y_iinc (ls' := [(2, 2), (2, r1), (0, x2), (0, x3), (2, r4), (0, (x5 + 1)), (0, (M (r1 + 2) x5))]) dX10_workOut_168 rfl rfl q13 rfl ?_
          refine z_goto (tgt := 22) dX10_workOut_171 rfl ?_
          refine z_sub (ls' := [(2, 2), (2, r1), (0, x2), (0, x3), (2, r4), (0, (x5 + 1)), (9, 0)]) ⟨Or.inl rfl, Or.inl rfl, Or.inl rfl, Or.inl rfl, Or.inl rfl, Or.inl rfl, Or.inr rfl, trivial⟩ ?_
          exact h
    · replace h := h.2.2.1 q
      refine y_tsw (tgt := 120) (k := 2) dX10_workOut_44 q (by decide) rfl rfl ?_
      refine z_aloadn dX10_workOut_120 rfl (Or.inl rfl) ?_
      refine y_getr (v := 11) hG dX10_workOut_121 fX10_36 sh2 (by decide) rfl (by decide +kernel) (by decide) ?_
      refine z_iload dX10_workOut_124 rfl ?_
      refine z_aloadn dX10_workOut_126 rfl (Or.inl rfl) ?_
      refine z_aloadn dX10_workOut_127 rfl (Or.inl rfl) ?_
      refine z_iload dX10_workOut_128 rfl ?_
      refine y_cv (mt2 := mX10_sumOf) (en := [(2, 2), (2, r1), (0, x5), (9, 0), (9, 0), (9, 0)]) (st := [(0, x5), (2, 11)]) (as := [(2, r1), (0, x5)]) dX10_workOut_130 lX10_80 kX10_sumOf iX10_sumOf eX10_sumOf rfl sh2 (by decide +kernel) (Nat.le_of_ble_eq_true rfl) (Nat.le_of_ble_eq_true rfl) rfl ?_
      exact h
    · replace h := h.2.2.2.1 q
      refine y_tsw (tgt := 137) (k := 3) dX10_workOut_44 q (by decide) rfl rfl ?_
      refine z_aloadn dX10_workOut_137 rfl (Or.inl rfl) ?_
      refine y_getr (v := 11) hG dX10_workOut_138 fX10_36 sh2 (by decide) rfl (by decide +kernel) (by decide) ?_
      refine z_iload dX10_workOut_141 rfl ?_
      refine z_aloadn dX10_workOut_143 rfl (Or.inl rfl) ?_
      refine z_aloadn dX10_workOut_144 rfl (Or.inl rfl) ?_
      refine z_iload dX10_workOut_145 rfl ?_
      refine y_cv (mt2 := mX10_productOf) (en := [(2, 2), (2, r1), (0, x5), (9, 0), (9, 0), (9, 0), (9, 0)]) (st := [(0, x5), (2, 11)]) (as := [(2, r1), (0, x5)]) dX10_workOut_147 lX10_84 kX10_productOf iX10_productOf eX10_productOf rfl sh2 (by decide +kernel) (Nat.le_of_ble_eq_true rfl) (Nat.le_of_ble_eq_true rfl) rfl ?_
      exact h
set_option maxRecDepth 20000 in
set_option maxHeartbeats 4000000 in
theorem bX10_workOut_133 {G : zG} {d : Nat} {M : zM} {Q : zV → zM → Prop} (hG : zP G) {r1 x2 x3 r4 x5 x6 x49 x50 : Int} {nr4 : Nat} (hr1 : zND r1) (hr4 : zsh r4.toNat = (100, nr4))
    (h : (0 ≤ x50 ∧ x50 < 300) ∧ (-2147483648 ≤ x5 + 1 ∧ x5 + 1 ≤ 2147483647) ∧ Y G (d + 1) mX10_workOut 22 [(2, 2), (2, r1), (0, x2), (0, x3), (2, r4), (0, (x5 + 1)), (9, 0)] [] (zset M 11 x50 x49) Q) :
    Y G (d + 1) mX10_workOut 133 [(2, 2), (2, r1), (0, x2), (0, x3), (2, r4), (0, x5), (0, x6)] [(0, x49), (0, x50), (2, 11)] M Q := by
  obtain ⟨q1, h⟩ := h
  refine y_iast hG dX10_workOut_133 sh11 q1 ?_
  refine z_goto (tgt := 168) dX10_workOut_134 rfl ?_
  obtain ⟨q2, h⟩ := h
  refine y_iinc (ls' := [(2, 2), (2, r1), (0, x2), (0, x3), (2, r4), (0, (x5 + 1)), (0, x6)]) dX10_workOut_168 rfl rfl q2 rfl ?_
  refine z_goto (tgt := 22) dX10_workOut_171 rfl ?_
  refine z_sub (ls' := [(2, 2), (2, r1), (0, x2), (0, x3), (2, r4), (0, (x5 + 1)), (9, 0)]) ⟨Or.inl rfl, Or.inl rfl, Or.inl rfl, Or.inl rfl, Or.inl rfl, Or.inl rfl, Or.inr rfl, trivial⟩ ?_
  exact h
set_option maxRecDepth 20000 in
set_option maxHeartbeats 4000000 in
theorem bX10_workOut_150 {G : zG} {d : Nat} {M : zM} {Q : zV → zM → Prop} (hG : zP G) {r1 x2 x3 r4 x5 x6 x49 x50 : Int} {nr4 : Nat} (hr1 : zND r1) (hr4 : zsh r4.toNat = (100, nr4))
    (h : (0 ≤ x50 ∧ x50 < 300) ∧ (-2147483648 ≤ x5 + 1 ∧ x5 + 1 ≤ 2147483647) ∧ Y G (d + 1) mX10_workOut 22 [(2, 2), (2, r1), (0, x2), (0, x3), (2, r4), (0, (x5 + 1)), (9, 0)] [] (zset M 11 x50 x49) Q) :
    Y G (d + 1) mX10_workOut 150 [(2, 2), (2, r1), (0, x2), (0, x3), (2, r4), (0, x5), (0, x6)] [(0, x49), (0, x50), (2, 11)] M Q := by
  obtain ⟨q1, h⟩ := h
  refine y_iast hG dX10_workOut_150 sh11 q1 ?_
  refine z_goto (tgt := 168) dX10_workOut_151 rfl ?_
  obtain ⟨q2, h⟩ := h
  refine y_iinc (ls' := [(2, 2), (2, r1), (0, x2), (0, x3), (2, r4), (0, (x5 + 1)), (0, x6)]) dX10_workOut_168 rfl rfl q2 rfl ?_
  refine z_goto (tgt := 22) dX10_workOut_171 rfl ?_
  refine z_sub (ls' := [(2, 2), (2, r1), (0, x2), (0, x3), (2, r4), (0, (x5 + 1)), (9, 0)]) ⟨Or.inl rfl, Or.inl rfl, Or.inl rfl, Or.inl rfl, Or.inl rfl, Or.inl rfl, Or.inr rfl, trivial⟩ ?_
  exact h
set_option maxRecDepth 20000 in
set_option maxHeartbeats 4000000 in
theorem bX10_workOut_167 {G : zG} {d : Nat} {M : zM} {Q : zV → zM → Prop} (hG : zP G) {r1 x2 x3 r4 x5 x6 x49 x50 : Int} {nr4 : Nat} (hr1 : zND r1) (hr4 : zsh r4.toNat = (100, nr4))
    (h : (0 ≤ x50 ∧ x50 < 300) ∧ (-2147483648 ≤ x5 + 1 ∧ x5 + 1 ≤ 2147483647) ∧ Y G (d + 1) mX10_workOut 22 [(2, 2), (2, r1), (0, x2), (0, x3), (2, r4), (0, (x5 + 1)), (9, 0)] [] (zset M 11 x50 x49) Q) :
    Y G (d + 1) mX10_workOut 167 [(2, 2), (2, r1), (0, x2), (0, x3), (2, r4), (0, x5), (0, x6)] [(0, x49), (0, x50), (2, 11)] M Q := by
  obtain ⟨q1, h⟩ := h
  refine y_iast hG dX10_workOut_167 sh11 q1 ?_
  obtain ⟨q2, h⟩ := h
  refine y_iinc (ls' := [(2, 2), (2, r1), (0, x2), (0, x3), (2, r4), (0, (x5 + 1)), (0, x6)]) dX10_workOut_168 rfl rfl q2 rfl ?_
  refine z_goto (tgt := 22) dX10_workOut_171 rfl ?_
  refine z_sub (ls' := [(2, 2), (2, r1), (0, x2), (0, x3), (2, r4), (0, (x5 + 1)), (9, 0)]) ⟨Or.inl rfl, Or.inl rfl, Or.inl rfl, Or.inl rfl, Or.inl rfl, Or.inl rfl, Or.inr rfl, trivial⟩ ?_
  exact h
set_option maxRecDepth 20000 in
set_option maxHeartbeats 4000000 in
theorem bX10_sumOf_0 {G : zG} {d : Nat} {M : zM} {Q : zV → zM → Prop} (hG : zP G) {r1 x2 : Int} (hr1 : zND r1)
    (h : (0 ≤ x2 ∧ x2 < 300) ∧ (0 ≤ x2 ∧ x2 < 300) ∧ Y G (d + 1) mX10_sumOf 18 [(2, 2), (2, r1), (0, x2), (0, 0), (0, (M (r1 + 5) x2)), (0, (M (r1 + 4) x2))] [] M Q) :
    Y G (d + 1) mX10_sumOf 0 [(2, 2), (2, r1), (0, x2), (9, 0), (9, 0), (9, 0)] [] M Q := by
  refine z_iconst dX10_sumOf_0 ki_0 ?_
  refine y_istoren (ls' := [(2, 2), (2, r1), (0, x2), (0, 0), (9, 0), (9, 0)]) dX10_sumOf_1 rfl rfl ?_
  refine z_aloadn dX10_sumOf_2 rfl (Or.inl rfl) ?_
  refine y_getr (v := (r1 + 5)) hG dX10_sumOf_3 fX10_90 (nd_0 hr1) (by decide) rfl (nd_x4 hr1) (nd_ne hr1 5 (by decide)) ?_
  refine z_iloadn dX10_sumOf_6 rfl ?_
  obtain ⟨q1, h⟩ := h
  refine y_iald (x := (M (r1 + 5) x2)) dX10_sumOf_7 (nd_5 hr1) q1 rfl ?_
  refine y_istore (ls' := [(2, 2), (2, r1), (0, x2), (0, 0), (0, (M (r1 + 5) x2)), (9, 0)]) dX10_sumOf_8 rfl rfl ?_
  refine z_aloadn dX10_sumOf_10 rfl (Or.inl rfl) ?_
  refine y_getr (v := (r1 + 4)) hG dX10_sumOf_11 fX10_93 (nd_0 hr1) (by decide) rfl (nd_x3 hr1) (nd_ne hr1 4 (by decide)) ?_
  refine z_iloadn dX10_sumOf_14 rfl ?_
  obtain ⟨q2, h⟩ := h
  refine y_iald (x := (M (r1 + 4) x2)) dX10_sumOf_15 (nd_4 hr1) q2 rfl ?_
  refine y_istore (ls' := [(2, 2), (2, r1), (0, x2), (0, 0), (0, (M (r1 + 5) x2)), (0, (M (r1 + 4) x2))]) dX10_sumOf_16 rfl rfl ?_
  exact h
set_option maxRecDepth 20000 in
set_option maxHeartbeats 4000000 in
theorem bX10_sumOf_18 {G : zG} {d : Nat} {M : zM} {Q : zV → zM → Prop} (hG : zP G) {r1 x2 x3 x4 x5 : Int} (hr1 : zND r1)
    (h : ((x5 ≤ 0 → Q (0, x3) M) ∧ (0 < x5 → ((x4 < 0 → Q (0, x3) M) ∧ (0 ≤ x4 → ((x2 ≤ x4 → Q (0, x3) M) ∧ (x4 < x2 → (0 ≤ x4 ∧ x4 < 300) ∧ ((0 ≤ (M (r1 + 3) x4) → (0 ≤ x4 ∧ x4 < 300) ∧ (-2147483648 ≤ x3 + (M 11 x4) ∧ x3 + (M 11 x4) ≤ 2147483647) ∧ ((1000000 < (x3 + (M 11 x4)) → (0 ≤ x4 ∧ x4 < 300) ∧ (-2147483648 ≤ x5 + (-1) ∧ x5 + (-1) ≤ 2147483647) ∧ Y G (d + 1) mX10_sumOf 18 [(2, 2), (2, r1), (0, x2), (0, (zcl (x3 + (M 11 x4)))), (0, (M (r1 + 7) x4)), (0, (x5 + (-1)))] [] M Q) ∧ ((x3 + (M 11 x4)) ≤ 1000000 → (((-1000000) ≤ (x3 + (M 11 x4)) → (0 ≤ x4 ∧ x4 < 300) ∧ (-2147483648 ≤ x5 + (-1) ∧ x5 + (-1) ≤ 2147483647) ∧ Y G (d + 1) mX10_sumOf 18 [(2, 2), (2, r1), (0, x2), (0, (x3 + (M 11 x4))), (0, (M (r1 + 7) x4)), (0, (x5 + (-1)))] [] M Q) ∧ ((x3 + (M 11 x4)) < (-1000000) → (0 ≤ x4 ∧ x4 < 300) ∧ (-2147483648 ≤ x5 + (-1) ∧ x5 + (-1) ≤ 2147483647) ∧ Y G (d + 1) mX10_sumOf 18 [(2, 2), (2, r1), (0, x2), (0, (zcl (x3 + (M 11 x4)))), (0, (M (r1 + 7) x4)), (0, (x5 + (-1)))] [] M Q))))) ∧ ((M (r1 + 3) x4) < 0 → (0 ≤ x4 ∧ x4 < 300) ∧ (-2147483648 ≤ -(M 11 x4) ∧ -(M 11 x4) ≤ 2147483647) ∧ (-2147483648 ≤ x3 + (-(M 11 x4)) ∧ x3 + (-(M 11 x4)) ≤ 2147483647) ∧ ((1000000 < (x3 + (-(M 11 x4))) → (0 ≤ x4 ∧ x4 < 300) ∧ (-2147483648 ≤ x5 + (-1) ∧ x5 + (-1) ≤ 2147483647) ∧ Y G (d + 1) mX10_sumOf 18 [(2, 2), (2, r1), (0, x2), (0, (zcl (x3 + (-(M 11 x4))))), (0, (M (r1 + 7) x4)), (0, (x5 + (-1)))] [] M Q) ∧ ((x3 + (-(M 11 x4))) ≤ 1000000 → (((-1000000) ≤ (x3 + (-(M 11 x4))) → (0 ≤ x4 ∧ x4 < 300) ∧ (-2147483648 ≤ x5 + (-1) ∧ x5 + (-1) ≤ 2147483647) ∧ Y G (d + 1) mX10_sumOf 18 [(2, 2), (2, r1), (0, x2), (0, (x3 + (-(M 11 x4)))), (0, (M (r1 + 7) x4)), (0, (x5 + (-1)))] [] M Q) ∧ ((x3 + (-(M 11 x4))) < (-1000000) → (0 ≤ x4 ∧ x4 < 300) ∧ (-2147483648 ≤ x5 + (-1) ∧ x5 + (-1) ≤ 2147483647) ∧ Y G (d + 1) mX10_sumOf 18 [(2, 2), (2, r1), (0, x2), (0, (zcl (x3 + (-(M 11 x4))))), (0, (M (r1 + 7) x4)), (0, (x5 + (-1)))] [] M Q))))))))))))) :
    Y G (d + 1) mX10_sumOf 18 [(2, 2), (2, r1), (0, x2), (0, x3), (0, x4), (0, x5)] [] M Q := by
  refine z_iload dX10_sumOf_18 rfl ?_
  refine z_ifle (tgt := 98) dX10_sumOf_20 rfl (fun q => ?_) (fun q => ?_)
  · replace h := h.1 q
    refine z_iloadn dX10_sumOf_98 rfl ?_
    exact z_ireturn dX10_sumOf_99 (Or.inl rfl) rfl h
  · replace h := h.2 q
    refine z_iload dX10_sumOf_23 rfl ?_
    refine z_iflt (tgt := 98) dX10_sumOf_25 rfl (fun q => ?_) (fun q => ?_)
    · replace h := h.1 q
      refine z_iloadn dX10_sumOf_98 rfl ?_
      exact z_ireturn dX10_sumOf_99 (Or.inl rfl) rfl h
    · replace h := h.2 q
      refine z_iload dX10_sumOf_28 rfl ?_
      refine z_iloadn dX10_sumOf_30 rfl ?_
      refine z_icmpge (tgt := 98) dX10_sumOf_31 rfl (fun q => ?_) (fun q => ?_)
      · replace h := h.1 q
        refine z_iloadn dX10_sumOf_98 rfl ?_
        exact z_ireturn dX10_sumOf_99 (Or.inl rfl) rfl h
      · replace h := h.2 q
        refine z_iloadn dX10_sumOf_34 rfl ?_
        refine z_aloadn dX10_sumOf_35 rfl (Or.inl rfl) ?_
        refine y_getr (v := (r1 + 3)) hG dX10_sumOf_36 fX10_96 (nd_0 hr1) (by decide) rfl (nd_x2 hr1) (nd_ne hr1 3 (by decide)) ?_
        refine z_iload dX10_sumOf_39 rfl ?_
        obtain ⟨q1, h⟩ := h
        refine y_iald (x := (M (r1 + 3) x4)) dX10_sumOf_41 (nd_3 hr1) q1 rfl ?_
        refine z_ifge (tgt := 56) dX10_sumOf_42 rfl (fun q => ?_) (fun q => ?_)
        · replace h := h.1 q
          refine z_aloadn dX10_sumOf_56 rfl (Or.inl rfl) ?_
          refine y_getr (v := 11) hG dX10_sumOf_57 fX10_36 sh2 (by decide) rfl (by decide +kernel) (by decide) ?_
          refine z_iload dX10_sumOf_60 rfl ?_
          obtain ⟨q2, h⟩ := h
          refine y_iald (x := (M 11 x4)) dX10_sumOf_62 sh11 q2 rfl ?_
          obtain ⟨q3, h⟩ := h
          refine z_iadd dX10_sumOf_63 q3 ?_
          refine y_istoren (ls' := [(2, 2), (2, r1), (0, x2), (0, (x3 + (M 11 x4))), (0, x4), (0, x5)]) dX10_sumOf_64 rfl rfl ?_
          refine z_iloadn dX10_sumOf_65 rfl ?_
          refine z_ldc (k := 1000000) (v := 1000000) dX10_sumOf_66 ⟨by decide, ⟨by decide, by decide⟩⟩ qX10_99 ?_
          refine z_icmpgt (tgt := 77) dX10_sumOf_68 rfl (fun q => ?_) (fun q => ?_)
          · replace h := h.1 q
            refine z_iloadn dX10_sumOf_77 rfl ?_
            refine z_i2l dX10_sumOf_78 ?_
            refine y_cs (mt2 := mX11_clamped) (en := [(1, (x3 + (M 11 x4))), (9, 0)]) (st := []) (as := [(1, (x3 + (M 11 x4)))]) dX10_sumOf_79 lX10_101 kX11_clamped tX11_clamped rfl (Nat.le_of_ble_eq_true rfl) (Nat.le_of_ble_eq_true rfl) rfl (s_clamped hG ?_)
            show Y G (d + 1) mX10_sumOf 82 [(2, 2), (2, r1), (0, x2), (0, (x3 + (M 11 x4))), (0, x4), (0, x5)] [(0, (zcl (x3 + (M 11 x4))))] M Q
            refine y_istoren (ls' := [(2, 2), (2, r1), (0, x2), (0, (zcl (x3 + (M 11 x4)))), (0, x4), (0, x5)]) dX10_sumOf_82 rfl rfl ?_
            refine z_aloadn dX10_sumOf_83 rfl (Or.inl rfl) ?_
            refine y_getr (v := (r1 + 7)) hG dX10_sumOf_84 fX10_105 (nd_0 hr1) (by decide) rfl (nd_x6 hr1) (nd_ne hr1 7 (by decide)) ?_
            refine z_iload dX10_sumOf_87 rfl ?_
            obtain ⟨q4, h⟩ := h
            refine y_iald (x := (M (r1 + 7) x4)) dX10_sumOf_89 (nd_7 hr1) q4 rfl ?_
            refine y_istore (ls' := [(2, 2), (2, r1), (0, x2), (0, (zcl (x3 + (M 11 x4)))), (0, (M (r1 + 7) x4)), (0, x5)]) dX10_sumOf_90 rfl rfl ?_
            obtain ⟨q5, h⟩ := h
            refine y_iinc (ls' := [(2, 2), (2, r1), (0, x2), (0, (zcl (x3 + (M 11 x4)))), (0, (M (r1 + 7) x4)), (0, (x5 + (-1)))]) dX10_sumOf_92 rfl rfl q5 rfl ?_
            refine z_goto (tgt := 18) dX10_sumOf_95 rfl ?_
            exact h
          · replace h := h.2 q
            refine z_iloadn dX10_sumOf_71 rfl ?_
            refine z_ldc (k := (-1000000)) (v := (-1000000)) dX10_sumOf_72 ⟨by decide, ⟨by decide, by decide⟩⟩ qX10_100 ?_
            refine z_icmpge (tgt := 83) dX10_sumOf_74 rfl (fun q => ?_) (fun q => ?_)
            · replace h := h.1 q
              refine z_aloadn dX10_sumOf_83 rfl (Or.inl rfl) ?_
              refine y_getr (v := (r1 + 7)) hG dX10_sumOf_84 fX10_105 (nd_0 hr1) (by decide) rfl (nd_x6 hr1) (nd_ne hr1 7 (by decide)) ?_
              refine z_iload dX10_sumOf_87 rfl ?_
              obtain ⟨q6, h⟩ := h
              refine y_iald (x := (M (r1 + 7) x4)) dX10_sumOf_89 (nd_7 hr1) q6 rfl ?_
              refine y_istore (ls' := [(2, 2), (2, r1), (0, x2), (0, (x3 + (M 11 x4))), (0, (M (r1 + 7) x4)), (0, x5)]) dX10_sumOf_90 rfl rfl ?_
              obtain ⟨q7, h⟩ := h
              refine y_iinc (ls' := [(2, 2), (2, r1), (0, x2), (0, (x3 + (M 11 x4))), (0, (M (r1 + 7) x4)), (0, (x5 + (-1)))]) dX10_sumOf_92 rfl rfl q7 rfl ?_
              refine z_goto (tgt := 18) dX10_sumOf_95 rfl ?_
              exact h
            · replace h := h.2 q
              refine z_iloadn dX10_sumOf_77 rfl ?_
              refine z_i2l dX10_sumOf_78 ?_
              refine y_cs (mt2 := mX11_clamped) (en := [(1, (x3 + (M 11 x4))), (9, 0)]) (st := []) (as := [(1, (x3 + (M 11 x4)))]) dX10_sumOf_79 lX10_101 kX11_clamped tX11_clamped rfl (Nat.le_of_ble_eq_true rfl) (Nat.le_of_ble_eq_true rfl) rfl (s_clamped hG ?_)
              show Y G (d + 1) mX10_sumOf 82 [(2, 2), (2, r1), (0, x2), (0, (x3 + (M 11 x4))), (0, x4), (0, x5)] [(0, (zcl (x3 + (M 11 x4))))] M Q
              refine y_istoren (ls' := [(2, 2), (2, r1), (0, x2), (0, (zcl (x3 + (M 11 x4)))), (0, x4), (0, x5)]) dX10_sumOf_82 rfl rfl ?_
              refine z_aloadn dX10_sumOf_83 rfl (Or.inl rfl) ?_
              refine y_getr (v := (r1 + 7)) hG dX10_sumOf_84 fX10_105 (nd_0 hr1) (by decide) rfl (nd_x6 hr1) (nd_ne hr1 7 (by decide)) ?_
              refine z_iload dX10_sumOf_87 rfl ?_
              obtain ⟨q8, h⟩ := h
              refine y_iald (x := (M (r1 + 7) x4)) dX10_sumOf_89 (nd_7 hr1) q8 rfl ?_
              refine y_istore (ls' := [(2, 2), (2, r1), (0, x2), (0, (zcl (x3 + (M 11 x4)))), (0, (M (r1 + 7) x4)), (0, x5)]) dX10_sumOf_90 rfl rfl ?_
              obtain ⟨q9, h⟩ := h
              refine y_iinc (ls' := [(2, 2), (2, r1), (0, x2), (0, (zcl (x3 + (M 11 x4)))), (0, (M (r1 + 7) x4)), (0, (x5 + (-1)))]) dX10_sumOf_92 rfl rfl q9 rfl ?_
              refine z_goto (tgt := 18) dX10_sumOf_95 rfl ?_
              exact h
        · replace h := h.2 q
          refine z_aloadn dX10_sumOf_45 rfl (Or.inl rfl) ?_
          refine y_getr (v := 11) hG dX10_sumOf_46 fX10_36 sh2 (by decide) rfl (by decide +kernel) (by decide) ?_
          refine z_iload dX10_sumOf_49 rfl ?_
          obtain ⟨q10, h⟩ := h
          refine y_iald (x := (M 11 x4)) dX10_sumOf_51 sh11 q10 rfl ?_
          obtain ⟨q11, h⟩ := h
          refine z_ineg dX10_sumOf_52 q11 ?_
          refine z_goto (tgt := 63) dX10_sumOf_53 rfl ?_
          obtain ⟨q12, h⟩ := h
          refine z_iadd dX10_sumOf_63 q12 ?_
          refine y_istoren (ls' := [(2, 2), (2, r1), (0, x2), (0, (x3 + (-(M 11 x4)))), (0, x4), (0, x5)]) dX10_sumOf_64 rfl rfl ?_
          refine z_iloadn dX10_sumOf_65 rfl ?_
          refine z_ldc (k := 1000000) (v := 1000000) dX10_sumOf_66 ⟨by decide, ⟨by decide, by decide⟩⟩ qX10_99 ?_
          refine z_icmpgt (tgt := 77) dX10_sumOf_68 rfl (fun q => ?_) (fun q => ?_)
          · replace h := h.1 q
            refine z_iloadn dX10_sumOf_77 rfl ?_
            refine z_i2l dX10_sumOf_78 ?_
            refine y_cs (mt2 := mX11_clamped) (en := [(1, (x3 + (-(M 11 x4)))), (9, 0)]) (st := []) (as := [(1, (x3 + (-(M 11 x4))))]) dX10_sumOf_79 lX10_101 kX11_clamped tX11_clamped rfl (Nat.le_of_ble_eq_true rfl) (Nat.le_of_ble_eq_true rfl) rfl (s_clamped hG ?_)
            show Y G (d + 1) mX10_sumOf 82 [(2, 2), (2, r1), (0, x2), (0, (x3 + (-(M 11 x4)))), (0, x4), (0, x5)] [(0, (zcl (x3 + (-(M 11 x4)))))] M Q
            refine y_istoren (ls' := [(2, 2), (2, r1), (0, x2), (0, (zcl (x3 + (-(M 11 x4))))), (0, x4), (0, x5)]) dX10_sumOf_82 rfl rfl ?_
            refine z_aloadn dX10_sumOf_83 rfl (Or.inl rfl) ?_
            refine y_getr (v := (r1 + 7)) hG dX10_sumOf_84 fX10_105 (nd_0 hr1) (by decide) rfl (nd_x6 hr1) (nd_ne hr1 7 (by decide)) ?_
            refine z_iload dX10_sumOf_87 rfl ?_
            obtain ⟨q13, h⟩ := h
            refine y_iald (x := (M (r1 + 7) x4)) dX10_sumOf_89 (nd_7 hr1) q13 rfl ?_
            refine y_istore (ls' := [(2, 2), (2, r1), (0, x2), (0, (zcl (x3 + (-(M 11 x4))))), (0, (M (r1 + 7) x4)), (0, x5)]) dX10_sumOf_90 rfl rfl ?_
            obtain ⟨q14, h⟩ := h
            refine y_iinc (ls' := [(2, 2), (2, r1), (0, x2), (0, (zcl (x3 + (-(M 11 x4))))), (0, (M (r1 + 7) x4)), (0, (x5 + (-1)))]) dX10_sumOf_92 rfl rfl q14 rfl ?_
            refine z_goto (tgt := 18) dX10_sumOf_95 rfl ?_
            exact h
          · replace h := h.2 q
            refine z_iloadn dX10_sumOf_71 rfl ?_
            refine z_ldc (k := (-1000000)) (v := (-1000000)) dX10_sumOf_72 ⟨by decide, ⟨by decide, by decide⟩⟩ qX10_100 ?_
            refine z_icmpge (tgt := 83) dX10_sumOf_74 rfl (fun q => ?_) (fun q => ?_)
            · replace h := h.1 q
              refine z_aloadn dX10_sumOf_83 rfl (Or.inl rfl) ?_
              refine y_getr (v := (r1 + 7)) hG dX10_sumOf_84 fX10_105 (nd_0 hr1) (by decide) rfl (nd_x6 hr1) (nd_ne hr1 7 (by decide)) ?_
              refine z_iload dX10_sumOf_87 rfl ?_
              obtain ⟨q15, h⟩ := h
              refine y_iald (x := (M (r1 + 7) x4)) dX10_sumOf_89 (nd_7 hr1) q15 rfl ?_
              refine y_istore (ls' := [(2, 2), (2, r1), (0, x2), (0, (x3 + (-(M 11 x4)))), (0, (M (r1 + 7) x4)), (0, x5)]) dX10_sumOf_90 rfl rfl ?_
              obtain ⟨q16, h⟩ := h
              refine y_iinc (ls' := [(2, 2), (2, r1), (0, x2), (0, (x3 + (-(M 11 x4)))), (0, (M (r1 + 7) x4)), (0, (x5 + (-1)))]) dX10_sumOf_92 rfl rfl q16 rfl ?_
              refine z_goto (tgt := 18) dX10_sumOf_95 rfl ?_
              exact h
            · replace h := h.2 q
              refine z_iloadn dX10_sumOf_77 rfl ?_
              refine z_i2l dX10_sumOf_78 ?_
              refine y_cs (mt2 := mX11_clamped) (en := [(1, (x3 + (-(M 11 x4)))), (9, 0)]) (st := []) (as := [(1, (x3 + (-(M 11 x4))))]) dX10_sumOf_79 lX10_101 kX11_clamped tX11_clamped rfl (Nat.le_of_ble_eq_true rfl) (Nat.le_of_ble_eq_true rfl) rfl (s_clamped hG ?_)
              show Y G (d + 1) mX10_sumOf 82 [(2, 2), (2, r1), (0, x2), (0, (x3 + (-(M 11 x4)))), (0, x4), (0, x5)] [(0, (zcl (x3 + (-(M 11 x4)))))] M Q
              refine y_istoren (ls' := [(2, 2), (2, r1), (0, x2), (0, (zcl (x3 + (-(M 11 x4))))), (0, x4), (0, x5)]) dX10_sumOf_82 rfl rfl ?_
              refine z_aloadn dX10_sumOf_83 rfl (Or.inl rfl) ?_
              refine y_getr (v := (r1 + 7)) hG dX10_sumOf_84 fX10_105 (nd_0 hr1) (by decide) rfl (nd_x6 hr1) (nd_ne hr1 7 (by decide)) ?_
              refine z_iload dX10_sumOf_87 rfl ?_
              obtain ⟨q17, h⟩ := h
              refine y_iald (x := (M (r1 + 7) x4)) dX10_sumOf_89 (nd_7 hr1) q17 rfl ?_
              refine y_istore (ls' := [(2, 2), (2, r1), (0, x2), (0, (zcl (x3 + (-(M 11 x4))))), (0, (M (r1 + 7) x4)), (0, x5)]) dX10_sumOf_90 rfl rfl ?_
              obtain ⟨q18, h⟩ := h
              refine y_iinc (ls' := [(2, 2), (2, r1), (0, x2), (0, (zcl (x3 + (-(M 11 x4))))), (0, (M (r1 + 7) x4)), (0, (x5 + (-1)))]) dX10_sumOf_92 rfl rfl q18 rfl ?_
              refine z_goto (tgt := 18) dX10_sumOf_95 rfl ?_
              exact h
set_option maxRecDepth 20000 in
set_option maxHeartbeats 4000000 in
theorem bX10_productOf_0 {G : zG} {d : Nat} {M : zM} {Q : zV → zM → Prop} (hG : zP G) {r1 x2 : Int} (hr1 : zND r1)
    (h : (0 ≤ x2 ∧ x2 < 300) ∧ (0 ≤ x2 ∧ x2 < 300) ∧ Y G (d + 1) mX10_productOf 18 [(2, 2), (2, r1), (0, x2), (1, 1), (9, 0), (0, (M (r1 + 5) x2)), (0, (M (r1 + 4) x2))] [] M Q) :
    Y G (d + 1) mX10_productOf 0 [(2, 2), (2, r1), (0, x2), (9, 0), (9, 0), (9, 0), (9, 0)] [] M Q := by
  refine z_lconst (k := 1) dX10_productOf_0 ⟨by decide, ⟨by decide, by decide⟩⟩ ?_
  refine y_lstoren (ls' := [(2, 2), (2, r1), (0, x2), (1, 1), (9, 0), (9, 0), (9, 0)]) dX10_productOf_1 rfl (Nat.le_of_ble_eq_true rfl) rfl ?_
  refine z_aloadn dX10_productOf_2 rfl (Or.inl rfl) ?_
  refine y_getr (v := (r1 + 5)) hG dX10_productOf_3 fX10_90 (nd_0 hr1) (by decide) rfl (nd_x4 hr1) (nd_ne hr1 5 (by decide)) ?_
  refine z_iloadn dX10_productOf_6 rfl ?_
  obtain ⟨q1, h⟩ := h
  refine y_iald (x := (M (r1 + 5) x2)) dX10_productOf_7 (nd_5 hr1) q1 rfl ?_
  refine y_istore (ls' := [(2, 2), (2, r1), (0, x2), (1, 1), (9, 0), (0, (M (r1 + 5) x2)), (9, 0)]) dX10_productOf_8 rfl rfl ?_
  refine z_aloadn dX10_productOf_10 rfl (Or.inl rfl) ?_
  refine y_getr (v := (r1 + 4)) hG dX10_productOf_11 fX10_93 (nd_0 hr1) (by decide) rfl (nd_x3 hr1) (nd_ne hr1 4 (by decide)) ?_
  refine z_iloadn dX10_productOf_14 rfl ?_
  obtain ⟨q2, h⟩ := h
  refine y_iald (x := (M (r1 + 4) x2)) dX10_productOf_15 (nd_4 hr1) q2 rfl ?_
  refine y_istore (ls' := [(2, 2), (2, r1), (0, x2), (1, 1), (9, 0), (0, (M (r1 + 5) x2)), (0, (M (r1 + 4) x2))]) dX10_productOf_16 rfl rfl ?_
  exact h
set_option maxRecDepth 20000 in
set_option maxHeartbeats 4000000 in
theorem bX10_productOf_18 {G : zG} {d : Nat} {M : zM} {Q : zV → zM → Prop} (hG : zP G) {r1 x2 x3 x5 x6 : Int} (hr1 : zND r1)
    (h : ((x6 ≤ 0 → Q (0, (zw x3)) M) ∧ (0 < x6 → ((x5 < 0 → Q (0, (zw x3)) M) ∧ (0 ≤ x5 → ((x2 ≤ x5 → Q (0, (zw x3)) M) ∧ (x5 < x2 → (0 ≤ x5 ∧ x5 < 300) ∧ (zin 1 (x3 * (M 11 x5))) ∧ ((0 < (zlcmp (x3 * (M 11 x5)) 1000000) → (0 ≤ x5 ∧ x5 < 300) ∧ (-2147483648 ≤ x6 + (-1) ∧ x6 + (-1) ≤ 2147483647) ∧ Y G (d + 1) mX10_productOf 18 [(2, 2), (2, r1), (0, x2), (1, (zcl (x3 * (M 11 x5)))), (9, 0), (0, (M (r1 + 7) x5)), (0, (x6 + (-1)))] [] M Q) ∧ ((zlcmp (x3 * (M 11 x5)) 1000000) ≤ 0 → ((0 ≤ (zlcmp (x3 * (M 11 x5)) (-1000000)) → (0 ≤ x5 ∧ x5 < 300) ∧ (-2147483648 ≤ x6 + (-1) ∧ x6 + (-1) ≤ 2147483647) ∧ Y G (d + 1) mX10_productOf 18 [(2, 2), (2, r1), (0, x2), (1, (x3 * (M 11 x5))), (9, 0), (0, (M (r1 + 7) x5)), (0, (x6 + (-1)))] [] M Q) ∧ ((zlcmp (x3 * (M 11 x5)) (-1000000)) < 0 → (0 ≤ x5 ∧ x5 < 300) ∧ (-2147483648 ≤ x6 + (-1) ∧ x6 + (-1) ≤ 2147483647) ∧ Y G (d + 1) mX10_productOf 18 [(2, 2), (2, r1), (0, x2), (1, (zcl (x3 * (M 11 x5)))), (9, 0), (0, (M (r1 + 7) x5)), (0, (x6 + (-1)))] [] M Q))))))))))) :
    Y G (d + 1) mX10_productOf 18 [(2, 2), (2, r1), (0, x2), (1, x3), (9, 0), (0, x5), (0, x6)] [] M Q := by
  refine z_iload dX10_productOf_18 rfl ?_
  refine z_ifle (tgt := 82) dX10_productOf_20 rfl (fun q => ?_) (fun q => ?_)
  · replace h := h.1 q
    refine z_lloadn dX10_productOf_82 rfl ?_
    refine z_l2i dX10_productOf_83 ?_
    exact z_ireturn dX10_productOf_84 (Or.inl rfl) rfl h
  · replace h := h.2 q
    refine z_iload dX10_productOf_23 rfl ?_
    refine z_iflt (tgt := 82) dX10_productOf_25 rfl (fun q => ?_) (fun q => ?_)
    · replace h := h.1 q
      refine z_lloadn dX10_productOf_82 rfl ?_
      refine z_l2i dX10_productOf_83 ?_
      exact z_ireturn dX10_productOf_84 (Or.inl rfl) rfl h
    · replace h := h.2 q
      refine z_iload dX10_productOf_28 rfl ?_
      refine z_iloadn dX10_productOf_30 rfl ?_
      refine z_icmpge (tgt := 82) dX10_productOf_31 rfl (fun q => ?_) (fun q => ?_)
      · replace h := h.1 q
        refine z_lloadn dX10_productOf_82 rfl ?_
        refine z_l2i dX10_productOf_83 ?_
        exact z_ireturn dX10_productOf_84 (Or.inl rfl) rfl h
      · replace h := h.2 q
        refine z_lloadn dX10_productOf_34 rfl ?_
        refine z_aloadn dX10_productOf_35 rfl (Or.inl rfl) ?_
        refine y_getr (v := 11) hG dX10_productOf_36 fX10_36 sh2 (by decide) rfl (by decide +kernel) (by decide) ?_
        refine z_iload dX10_productOf_39 rfl ?_
        obtain ⟨q1, h⟩ := h
        refine y_iald (x := (M 11 x5)) dX10_productOf_41 sh11 q1 rfl ?_
        refine z_i2l dX10_productOf_42 ?_
        obtain ⟨q2, h⟩ := h
        refine z_lmul dX10_productOf_43 q2 ?_
        refine y_lstoren (ls' := [(2, 2), (2, r1), (0, x2), (1, (x3 * (M 11 x5))), (9, 0), (0, x5), (0, x6)]) dX10_productOf_44 rfl (Nat.le_of_ble_eq_true rfl) rfl ?_
        refine z_lloadn dX10_productOf_45 rfl ?_
        refine z_ldc2 (k := 1000000) (v := 1000000) dX10_productOf_46 ⟨by decide, ⟨by decide, by decide⟩⟩ qlX10_108 ?_
        refine z_lcmp dX10_productOf_49 ?_
        refine z_ifgt (tgt := 61) dX10_productOf_50 rfl (fun q => ?_) (fun q => ?_)
        · replace h := h.1 q
          refine z_lloadn dX10_productOf_61 rfl ?_
          refine y_cs (mt2 := mX11_clamped) (en := [(1, (x3 * (M 11 x5))), (9, 0)]) (st := []) (as := [(1, (x3 * (M 11 x5)))]) dX10_productOf_62 lX10_101 kX11_clamped tX11_clamped rfl (Nat.le_of_ble_eq_true rfl) (Nat.le_of_ble_eq_true rfl) rfl (s_clamped hG ?_)
          show Y G (d + 1) mX10_productOf 65 [(2, 2), (2, r1), (0, x2), (1, (x3 * (M 11 x5))), (9, 0), (0, x5), (0, x6)] [(0, (zcl (x3 * (M 11 x5))))] M Q
          refine z_i2l dX10_productOf_65 ?_
          refine y_lstoren (ls' := [(2, 2), (2, r1), (0, x2), (1, (zcl (x3 * (M 11 x5)))), (9, 0), (0, x5), (0, x6)]) dX10_productOf_66 rfl (Nat.le_of_ble_eq_true rfl) rfl ?_
          refine z_aloadn dX10_productOf_67 rfl (Or.inl rfl) ?_
          refine y_getr (v := (r1 + 7)) hG dX10_productOf_68 fX10_105 (nd_0 hr1) (by decide) rfl (nd_x6 hr1) (nd_ne hr1 7 (by decide)) ?_
          refine z_iload dX10_productOf_71 rfl ?_
          obtain ⟨q3, h⟩ := h
          refine y_iald (x := (M (r1 + 7) x5)) dX10_productOf_73 (nd_7 hr1) q3 rfl ?_
          refine y_istore (ls' := [(2, 2), (2, r1), (0, x2), (1, (zcl (x3 * (M 11 x5)))), (9, 0), (0, (M (r1 + 7) x5)), (0, x6)]) dX10_productOf_74 rfl rfl ?_
          obtain ⟨q4, h⟩ := h
          refine y_iinc (ls' := [(2, 2), (2, r1), (0, x2), (1, (zcl (x3 * (M 11 x5)))), (9, 0), (0, (M (r1 + 7) x5)), (0, (x6 + (-1)))]) dX10_productOf_76 rfl rfl q4 rfl ?_
          refine z_goto (tgt := 18) dX10_productOf_79 rfl ?_
          exact h
        · replace h := h.2 q
          refine z_lloadn dX10_productOf_53 rfl ?_
          refine z_ldc2 (k := (-1000000)) (v := (-1000000)) dX10_productOf_54 ⟨by decide, ⟨by decide, by decide⟩⟩ qlX10_110 ?_
          refine z_lcmp dX10_productOf_57 ?_
          refine z_ifge (tgt := 67) dX10_productOf_58 rfl (fun q => ?_) (fun q => ?_)
          · replace h := h.1 q
            refine z_aloadn dX10_productOf_67 rfl (Or.inl rfl) ?_
            refine y_getr (v := (r1 + 7)) hG dX10_productOf_68 fX10_105 (nd_0 hr1) (by decide) rfl (nd_x6 hr1) (nd_ne hr1 7 (by decide)) ?_
            refine z_iload dX10_productOf_71 rfl ?_
            obtain ⟨q5, h⟩ := h
            refine y_iald (x := (M (r1 + 7) x5)) dX10_productOf_73 (nd_7 hr1) q5 rfl ?_
            refine y_istore (ls' := [(2, 2), (2, r1), (0, x2), (1, (x3 * (M 11 x5))), (9, 0), (0, (M (r1 + 7) x5)), (0, x6)]) dX10_productOf_74 rfl rfl ?_
            obtain ⟨q6, h⟩ := h
            refine y_iinc (ls' := [(2, 2), (2, r1), (0, x2), (1, (x3 * (M 11 x5))), (9, 0), (0, (M (r1 + 7) x5)), (0, (x6 + (-1)))]) dX10_productOf_76 rfl rfl q6 rfl ?_
            refine z_goto (tgt := 18) dX10_productOf_79 rfl ?_
            exact h
          · replace h := h.2 q
            refine z_lloadn dX10_productOf_61 rfl ?_
            refine y_cs (mt2 := mX11_clamped) (en := [(1, (x3 * (M 11 x5))), (9, 0)]) (st := []) (as := [(1, (x3 * (M 11 x5)))]) dX10_productOf_62 lX10_101 kX11_clamped tX11_clamped rfl (Nat.le_of_ble_eq_true rfl) (Nat.le_of_ble_eq_true rfl) rfl (s_clamped hG ?_)
            show Y G (d + 1) mX10_productOf 65 [(2, 2), (2, r1), (0, x2), (1, (x3 * (M 11 x5))), (9, 0), (0, x5), (0, x6)] [(0, (zcl (x3 * (M 11 x5))))] M Q
            refine z_i2l dX10_productOf_65 ?_
            refine y_lstoren (ls' := [(2, 2), (2, r1), (0, x2), (1, (zcl (x3 * (M 11 x5)))), (9, 0), (0, x5), (0, x6)]) dX10_productOf_66 rfl (Nat.le_of_ble_eq_true rfl) rfl ?_
            refine z_aloadn dX10_productOf_67 rfl (Or.inl rfl) ?_
            refine y_getr (v := (r1 + 7)) hG dX10_productOf_68 fX10_105 (nd_0 hr1) (by decide) rfl (nd_x6 hr1) (nd_ne hr1 7 (by decide)) ?_
            refine z_iload dX10_productOf_71 rfl ?_
            obtain ⟨q7, h⟩ := h
            refine y_iald (x := (M (r1 + 7) x5)) dX10_productOf_73 (nd_7 hr1) q7 rfl ?_
            refine y_istore (ls' := [(2, 2), (2, r1), (0, x2), (1, (zcl (x3 * (M 11 x5)))), (9, 0), (0, (M (r1 + 7) x5)), (0, x6)]) dX10_productOf_74 rfl rfl ?_
            obtain ⟨q8, h⟩ := h
            refine y_iinc (ls' := [(2, 2), (2, r1), (0, x2), (1, (zcl (x3 * (M 11 x5)))), (9, 0), (0, (M (r1 + 7) x5)), (0, (x6 + (-1)))]) dX10_productOf_76 rfl rfl q8 rfl ?_
            refine z_goto (tgt := 18) dX10_productOf_79 rfl ?_
            exact h
set_option maxRecDepth 20000 in
set_option maxHeartbeats 4000000 in
theorem bX10_workWord_0 {G : zG} {d : Nat} {M : zM} {Q : zV → zM → Prop} (hG : zP G) {r1 x2 : Int} (hr1 : zND r1)
    (h : (0 ≤ x2 ∧ x2 < 300) ∧ Y G d mX10_resultOf 0 [(2, 2), (0, (M (r1 + 5) x2)), (0, x2)] [] M (fun r M' => Y G (d + 1) mX10_workWord 13 [(2, 2), (2, r1), (0, x2), (0, (M (r1 + 5) x2)), (9, 0), (9, 0), (9, 0), (9, 0), (9, 0)] (zpush r []) M' Q)) :
    Y G (d + 1) mX10_workWord 0 [(2, 2), (2, r1), (0, x2), (9, 0), (9, 0), (9, 0), (9, 0), (9, 0), (9, 0)] [] M Q := by
  refine z_aloadn dX10_workWord_0 rfl (Or.inl rfl) ?_
  refine y_getr (v := (r1 + 5)) hG dX10_workWord_1 fX10_90 (nd_0 hr1) (by decide) rfl (nd_x4 hr1) (nd_ne hr1 5 (by decide)) ?_
  refine z_iloadn dX10_workWord_4 rfl ?_
  obtain ⟨q1, h⟩ := h
  refine y_iald (x := (M (r1 + 5) x2)) dX10_workWord_5 (nd_5 hr1) q1 rfl ?_
  refine y_istoren (ls' := [(2, 2), (2, r1), (0, x2), (0, (M (r1 + 5) x2)), (9, 0), (9, 0), (9, 0), (9, 0), (9, 0)]) dX10_workWord_6 rfl rfl ?_
  refine z_aloadn dX10_workWord_7 rfl (Or.inl rfl) ?_
  refine z_iloadn dX10_workWord_8 rfl ?_
  refine z_iloadn dX10_workWord_9 rfl ?_
  refine y_cv (mt2 := mX10_resultOf) (en := [(2, 2), (0, (M (r1 + 5) x2)), (0, x2)]) (st := []) (as := [(0, (M (r1 + 5) x2)), (0, x2)]) dX10_workWord_10 lX10_112 kX10_resultOf iX10_resultOf eX10_resultOf rfl sh2 (by decide +kernel) (Nat.le_of_ble_eq_true rfl) (Nat.le_of_ble_eq_true rfl) rfl ?_
  exact h
set_option maxRecDepth 20000 in
set_option maxHeartbeats 4000000 in
theorem bX10_workWord_13 {G : zG} {d : Nat} {M : zM} {Q : zV → zM → Prop} (hG : zP G) {r1 x2 x3 x49 : Int} (hr1 : zND r1)
    (h : (M r1 8 ≤ 300) ∧ Y G d mX10_resultOf 0 [(2, 2), (0, (znf M r1 7 x3 (-1))), (0, x2)] [] M (fun r M' => Y G (d + 1) mX10_workWord 29 [(2, 2), (2, r1), (0, x2), (0, x3), (0, x49), (0, (znf M r1 7 x3 (-1))), (9, 0), (9, 0), (9, 0)] (zpush r []) M' Q)) :
    Y G (d + 1) mX10_workWord 13 [(2, 2), (2, r1), (0, x2), (0, x3), (9, 0), (9, 0), (9, 0), (9, 0), (9, 0)] [(0, x49)] M Q := by
  refine y_istore (ls' := [(2, 2), (2, r1), (0, x2), (0, x3), (0, x49), (9, 0), (9, 0), (9, 0), (9, 0)]) dX10_workWord_13 rfl rfl ?_
  refine z_aloadn dX10_workWord_15 rfl (Or.inl rfl) ?_
  refine z_iloadn dX10_workWord_16 rfl ?_
  obtain ⟨q1, h⟩ := h
  refine y_cv (mt2 := mX1_behind) (en := [(2, r1), (0, x3)]) (st := []) (as := [(0, x3)]) dX10_workWord_17 lX10_116 kX1_behind iX1_behind eX1_behind rfl (nd_0 hr1) (by decide +kernel) (Nat.le_of_ble_eq_true rfl) (Nat.le_of_ble_eq_true rfl) rfl (s_behind hG hr1 q1 ?_)
  show Y G (d + 1) mX10_workWord 20 [(2, 2), (2, r1), (0, x2), (0, x3), (0, x49), (9, 0), (9, 0), (9, 0), (9, 0)] [(0, (znf M r1 7 x3 (-1)))] M Q
  refine y_istore (ls' := [(2, 2), (2, r1), (0, x2), (0, x3), (0, x49), (0, (znf M r1 7 x3 (-1))), (9, 0), (9, 0), (9, 0)]) dX10_workWord_20 rfl rfl ?_
  refine z_aloadn dX10_workWord_22 rfl (Or.inl rfl) ?_
  refine z_iload dX10_workWord_23 rfl ?_
  refine z_iloadn dX10_workWord_25 rfl ?_
  refine y_cv (mt2 := mX10_resultOf) (en := [(2, 2), (0, (znf M r1 7 x3 (-1))), (0, x2)]) (st := []) (as := [(0, (znf M r1 7 x3 (-1))), (0, x2)]) dX10_workWord_26 lX10_112 kX10_resultOf iX10_resultOf eX10_resultOf rfl sh2 (by decide +kernel) (Nat.le_of_ble_eq_true rfl) (Nat.le_of_ble_eq_true rfl) rfl ?_
  exact h
set_option maxRecDepth 20000 in
set_option maxHeartbeats 4000000 in
theorem bX10_workWord_29 {G : zG} {d : Nat} {M : zM} {Q : zV → zM → Prop} (hG : zP G) {r1 x2 x3 x4 x5 x49 : Int} (hr1 : zND r1)
    (h : (0 ≤ x2 ∧ x2 < 300) ∧ ((((M (r1 + 1) x2) = 4) → (-2147483648 ≤ (M 2 4) - 1 ∧ (M 2 4) - 1 ≤ 2147483647) ∧ ((0 ≤ x4 ∧ x4 ≤ ((M 2 4) - 1) → (0 ≤ x4 ∧ x4 < 8) ∧ Q (0, (M 4 x4)) M) ∧ (¬ (0 ≤ x4 ∧ x4 ≤ ((M 2 4) - 1)) → Q (0, (-1)) M))) ∧ (((M (r1 + 1) x2) = 5) → (-2147483648 ≤ (M 2 4) - 1 ∧ (M 2 4) - 1 ≤ 2147483647) ∧ ((0 ≤ x4 ∧ x4 ≤ ((M 2 4) - 1) → (0 ≤ x4 ∧ x4 < 8) ∧ Q (0, (M 10 x4)) M) ∧ (¬ (0 ≤ x4 ∧ x4 ≤ ((M 2 4) - 1)) → Q (0, (-1)) M))) ∧ (((M (r1 + 1) x2) = 6) → Y G d mX10_kinOf 0 [(2, 2), (0, x4), (0, x49), (9, 0)] [] M (fun r M' => Y G (d + 1) mX10_workWord 138 [(2, 2), (2, r1), (0, x2), (0, x3), (0, x4), (0, x5), (0, x49), (9, 0), (9, 0)] (zpush r []) M' Q)) ∧ (((M (r1 + 1) x2) = 7) → Y G d mX10_wayOf 0 [(2, 2), (0, x4), (0, x49), (9, 0)] [] M (fun r M' => Y G (d + 1) mX10_workWord 147 [(2, 2), (2, r1), (0, x2), (0, x3), (0, x4), (0, x5), (0, x49), (9, 0), (9, 0)] (zpush r []) M' Q)) ∧ (((M (r1 + 1) x2) = 8) → Q (0, (max x4 x49)) M) ∧ (((M (r1 + 1) x2) = 9) → Q (0, (min x4 x49)) M) ∧ (((M (r1 + 1) x2) < 4 ∨ 9 < (M (r1 + 1) x2)) → (M r1 8 ≤ 300) ∧ (0 ≤ x2 ∧ x2 < 300) ∧ Y G d mX10_holds 0 [(0, (M (r1 + 2) x2)), (0, x4), (0, x49)] [] M (fun r M' => Y G (d + 1) mX10_workWord 185 [(2, 2), (2, r1), (0, x2), (0, x3), (0, x4), (0, x5), (0, x49), (0, (znf M r1 7 x5 (-1))), (9, 0)] (zpush r []) M' Q)))) :
    Y G (d + 1) mX10_workWord 29 [(2, 2), (2, r1), (0, x2), (0, x3), (0, x4), (0, x5), (9, 0), (9, 0), (9, 0)] [(0, x49)] M Q := by
  refine y_istore (ls' := [(2, 2), (2, r1), (0, x2), (0, x3), (0, x4), (0, x5), (0, x49), (9, 0), (9, 0)]) dX10_workWord_29 rfl rfl ?_
  refine z_aloadn dX10_workWord_31 rfl (Or.inl rfl) ?_
  refine y_getr (v := (r1 + 1)) hG dX10_workWord_32 fX10_77 (nd_0 hr1) (by decide) rfl (nd_x0 hr1) (nd_ne hr1 1 (by decide)) ?_
  refine z_iloadn dX10_workWord_35 rfl ?_
  obtain ⟨q1, h⟩ := h
  refine y_iald (x := (M (r1 + 1) x2)) dX10_workWord_36 (nd_1 hr1) q1 rfl ?_
  rcases (show (M (r1 + 1) x2) < 4 ∨ 9 < (M (r1 + 1) x2) ∨ (M (r1 + 1) x2) = 4 ∨ (M (r1 + 1) x2) = 5 ∨ (M (r1 + 1) x2) = 6 ∨ (M (r1 + 1) x2) = 7 ∨ (M (r1 + 1) x2) = 8 ∨ (M (r1 + 1) x2) = 9 by omega) with q | q | q | q | q | q | q | q
  · replace h := h.2.2.2.2.2.2 (Or.inl q)
    refine z_tswOut (tgt := 164) dX10_workWord_37 (Or.inl q) rfl ?_
    refine z_aloadn dX10_workWord_164 rfl (Or.inl rfl) ?_
    refine z_iload dX10_workWord_165 rfl ?_
    obtain ⟨q6, h⟩ := h
    refine y_cv (mt2 := mX1_behind) (en := [(2, r1), (0, x5)]) (st := []) (as := [(0, x5)]) dX10_workWord_167 lX10_116 kX1_behind iX1_behind eX1_behind rfl (nd_0 hr1) (by decide +kernel) (Nat.le_of_ble_eq_true rfl) (Nat.le_of_ble_eq_true rfl) rfl (s_behind hG hr1 q6 ?_)
    show Y G (d + 1) mX10_workWord 170 [(2, 2), (2, r1), (0, x2), (0, x3), (0, x4), (0, x5), (0, x49), (9, 0), (9, 0)] [(0, (znf M r1 7 x5 (-1)))] M Q
    refine y_istore (ls' := [(2, 2), (2, r1), (0, x2), (0, x3), (0, x4), (0, x5), (0, x49), (0, (znf M r1 7 x5 (-1))), (9, 0)]) dX10_workWord_170 rfl rfl ?_
    refine z_aloadn dX10_workWord_172 rfl (Or.inl rfl) ?_
    refine y_getr (v := (r1 + 2)) hG dX10_workWord_173 fX10_74 (nd_0 hr1) (by decide) rfl (nd_x1 hr1) (nd_ne hr1 2 (by decide)) ?_
    refine z_iloadn dX10_workWord_176 rfl ?_
    obtain ⟨q7, h⟩ := h
    refine y_iald (x := (M (r1 + 2) x2)) dX10_workWord_177 (nd_2 hr1) q7 rfl ?_
    refine z_iload dX10_workWord_178 rfl ?_
    refine z_iload dX10_workWord_180 rfl ?_
    refine y_cs (mt2 := mX10_holds) (en := [(0, (M (r1 + 2) x2)), (0, x4), (0, x49)]) (st := []) (as := [(0, (M (r1 + 2) x2)), (0, x4), (0, x49)]) dX10_workWord_182 lX10_134 kX10_holds tX10_holds rfl (Nat.le_of_ble_eq_true rfl) (Nat.le_of_ble_eq_true rfl) rfl ?_
    exact h
  · replace h := h.2.2.2.2.2.2 (Or.inr q)
    refine z_tswOut (tgt := 164) dX10_workWord_37 (Or.inr q) rfl ?_
    refine z_aloadn dX10_workWord_164 rfl (Or.inl rfl) ?_
    refine z_iload dX10_workWord_165 rfl ?_
    obtain ⟨q6, h⟩ := h
    refine y_cv (mt2 := mX1_behind) (en := [(2, r1), (0, x5)]) (st := []) (as := [(0, x5)]) dX10_workWord_167 lX10_116 kX1_behind iX1_behind eX1_behind rfl (nd_0 hr1) (by decide +kernel) (Nat.le_of_ble_eq_true rfl) (Nat.le_of_ble_eq_true rfl) rfl (s_behind hG hr1 q6 ?_)
    show Y G (d + 1) mX10_workWord 170 [(2, 2), (2, r1), (0, x2), (0, x3), (0, x4), (0, x5), (0, x49), (9, 0), (9, 0)] [(0, (znf M r1 7 x5 (-1)))] M Q
    refine y_istore (ls' := [(2, 2), (2, r1), (0, x2), (0, x3), (0, x4), (0, x5), (0, x49), (0, (znf M r1 7 x5 (-1))), (9, 0)]) dX10_workWord_170 rfl rfl ?_
    refine z_aloadn dX10_workWord_172 rfl (Or.inl rfl) ?_
    refine y_getr (v := (r1 + 2)) hG dX10_workWord_173 fX10_74 (nd_0 hr1) (by decide) rfl (nd_x1 hr1) (nd_ne hr1 2 (by decide)) ?_
    refine z_iloadn dX10_workWord_176 rfl ?_
    obtain ⟨q7, h⟩ := h
    refine y_iald (x := (M (r1 + 2) x2)) dX10_workWord_177 (nd_2 hr1) q7 rfl ?_
    refine z_iload dX10_workWord_178 rfl ?_
    refine z_iload dX10_workWord_180 rfl ?_
    refine y_cs (mt2 := mX10_holds) (en := [(0, (M (r1 + 2) x2)), (0, x4), (0, x49)]) (st := []) (as := [(0, (M (r1 + 2) x2)), (0, x4), (0, x49)]) dX10_workWord_182 lX10_134 kX10_holds tX10_holds rfl (Nat.le_of_ble_eq_true rfl) (Nat.le_of_ble_eq_true rfl) rfl ?_
    exact h
  · replace h := h.1 q
    refine y_tsw (tgt := 76) (k := 4) dX10_workWord_37 q (by decide) rfl rfl ?_
    refine z_iload dX10_workWord_76 rfl ?_
    refine z_iconst dX10_workWord_78 ki_0 ?_
    refine z_aloadn dX10_workWord_79 rfl (Or.inl rfl) ?_
    refine y_getf (x := (M 2 4)) dX10_workWord_80 fX10_49 sh2 (by decide) rfl rfl ?_
    refine z_iconst dX10_workWord_83 ki_1 ?_
    obtain ⟨q2, h⟩ := h
    refine z_isub dX10_workWord_84 q2 ?_
    refine y_cs (mt2 := mX11_within) (en := [(0, x4), (0, 0), (0, ((M 2 4) - 1))]) (st := []) (as := [(0, x4), (0, 0), (0, ((M 2 4) - 1))]) dX10_workWord_85 lX10_45 kX11_within tX11_within rfl (Nat.le_of_ble_eq_true rfl) (Nat.le_of_ble_eq_true rfl) rfl (s_within hG (fun q => ?_) (fun q => ?_))
    · replace h := h.1 q
      show Y G (d + 1) mX10_workWord 88 [(2, 2), (2, r1), (0, x2), (0, x3), (0, x4), (0, x5), (0, x49), (9, 0), (9, 0)] [(0, 1)] M Q
      refine z_ifeq (tgt := 101) dX10_workWord_88 rfl (fun q => absurd q (by decide)) (fun _ => ?_)
      refine z_aloadn dX10_workWord_91 rfl (Or.inl rfl) ?_
      refine y_getr (v := 4) hG dX10_workWord_92 fX10_15 sh2 (by decide) rfl (by decide +kernel) (by decide) ?_
      refine z_iload dX10_workWord_95 rfl ?_
      obtain ⟨q3, h⟩ := h
      refine y_iald (x := (M 4 x4)) dX10_workWord_97 sh4 q3 rfl ?_
      refine z_goto (tgt := 102) dX10_workWord_98 rfl ?_
      exact z_ireturn dX10_workWord_102 (Or.inl rfl) rfl h
    · replace h := h.2 q
      show Y G (d + 1) mX10_workWord 88 [(2, 2), (2, r1), (0, x2), (0, x3), (0, x4), (0, x5), (0, x49), (9, 0), (9, 0)] [(0, 0)] M Q
      refine z_ifeq (tgt := 101) dX10_workWord_88 rfl (fun _ => ?_) (fun q => absurd q (by decide))
      refine z_iconst dX10_workWord_101 ki_m1 ?_
      exact z_ireturn dX10_workWord_102 (Or.inl rfl) rfl h
  · replace h := h.2.1 q
    refine y_tsw (tgt := 103) (k := 5) dX10_workWord_37 q (by decide) rfl rfl ?_
    refine z_iload dX10_workWord_103 rfl ?_
    refine z_iconst dX10_workWord_105 ki_0 ?_
    refine z_aloadn dX10_workWord_106 rfl (Or.inl rfl) ?_
    refine y_getf (x := (M 2 4)) dX10_workWord_107 fX10_49 sh2 (by decide) rfl rfl ?_
    refine z_iconst dX10_workWord_110 ki_1 ?_
    obtain ⟨q4, h⟩ := h
    refine z_isub dX10_workWord_111 q4 ?_
    refine y_cs (mt2 := mX11_within) (en := [(0, x4), (0, 0), (0, ((M 2 4) - 1))]) (st := []) (as := [(0, x4), (0, 0), (0, ((M 2 4) - 1))]) dX10_workWord_112 lX10_45 kX11_within tX11_within rfl (Nat.le_of_ble_eq_true rfl) (Nat.le_of_ble_eq_true rfl) rfl (s_within hG (fun q => ?_) (fun q => ?_))
    · replace h := h.1 q
      show Y G (d + 1) mX10_workWord 115 [(2, 2), (2, r1), (0, x2), (0, x3), (0, x4), (0, x5), (0, x49), (9, 0), (9, 0)] [(0, 1)] M Q
      refine z_ifeq (tgt := 128) dX10_workWord_115 rfl (fun q => absurd q (by decide)) (fun _ => ?_)
      refine z_aloadn dX10_workWord_118 rfl (Or.inl rfl) ?_
      refine y_getr (v := 10) hG dX10_workWord_119 fX10_33 sh2 (by decide) rfl (by decide +kernel) (by decide) ?_
      refine z_iload dX10_workWord_122 rfl ?_
      obtain ⟨q5, h⟩ := h
      refine y_iald (x := (M 10 x4)) dX10_workWord_124 sh10 q5 rfl ?_
      refine z_goto (tgt := 129) dX10_workWord_125 rfl ?_
      exact z_ireturn dX10_workWord_129 (Or.inl rfl) rfl h
    · replace h := h.2 q
      show Y G (d + 1) mX10_workWord 115 [(2, 2), (2, r1), (0, x2), (0, x3), (0, x4), (0, x5), (0, x49), (9, 0), (9, 0)] [(0, 0)] M Q
      refine z_ifeq (tgt := 128) dX10_workWord_115 rfl (fun _ => ?_) (fun q => absurd q (by decide))
      refine z_iconst dX10_workWord_128 ki_m1 ?_
      exact z_ireturn dX10_workWord_129 (Or.inl rfl) rfl h
  · replace h := h.2.2.1 q
    refine y_tsw (tgt := 130) (k := 6) dX10_workWord_37 q (by decide) rfl rfl ?_
    refine z_aloadn dX10_workWord_130 rfl (Or.inl rfl) ?_
    refine z_iload dX10_workWord_131 rfl ?_
    refine z_iload dX10_workWord_133 rfl ?_
    refine y_cv (mt2 := mX10_kinOf) (en := [(2, 2), (0, x4), (0, x49), (9, 0)]) (st := []) (as := [(0, x4), (0, x49)]) dX10_workWord_135 lX10_120 kX10_kinOf iX10_kinOf eX10_kinOf rfl sh2 (by decide +kernel) (Nat.le_of_ble_eq_true rfl) (Nat.le_of_ble_eq_true rfl) rfl ?_
    exact h
  · replace h := h.2.2.2.1 q
    refine y_tsw (tgt := 139) (k := 7) dX10_workWord_37 q (by decide) rfl rfl ?_
    refine z_aloadn dX10_workWord_139 rfl (Or.inl rfl) ?_
    refine z_iload dX10_workWord_140 rfl ?_
    refine z_iload dX10_workWord_142 rfl ?_
    refine y_cv (mt2 := mX10_wayOf) (en := [(2, 2), (0, x4), (0, x49), (9, 0)]) (st := []) (as := [(0, x4), (0, x49)]) dX10_workWord_144 lX10_123 kX10_wayOf iX10_wayOf eX10_wayOf rfl sh2 (by decide +kernel) (Nat.le_of_ble_eq_true rfl) (Nat.le_of_ble_eq_true rfl) rfl ?_
    exact h
  · replace h := h.2.2.2.2.1 q
    refine y_tsw (tgt := 148) (k := 8) dX10_workWord_37 q (by decide) rfl rfl ?_
    refine z_iload dX10_workWord_148 rfl ?_
    refine z_iload dX10_workWord_150 rfl ?_
    refine z_max dX10_workWord_152 mwX10_126 (Nat.le_of_ble_eq_true rfl) ?_
    exact z_ireturn dX10_workWord_155 (Or.inl rfl) rfl h
  · replace h := h.2.2.2.2.2.1 q
    refine y_tsw (tgt := 156) (k := 9) dX10_workWord_37 q (by decide) rfl rfl ?_
    refine z_iload dX10_workWord_156 rfl ?_
    refine z_iload dX10_workWord_158 rfl ?_
    refine z_min dX10_workWord_160 mwX10_131 (Nat.le_of_ble_eq_true rfl) ?_
    exact z_ireturn dX10_workWord_163 (Or.inl rfl) rfl h
set_option maxRecDepth 20000 in
set_option maxHeartbeats 4000000 in
theorem bX10_workWord_138 {G : zG} {d : Nat} {M : zM} {Q : zV → zM → Prop} (hG : zP G) {r1 x2 x3 x4 x5 x6 x49 : Int} (hr1 : zND r1)
    (h : Q (0, x49) M) :
    Y G (d + 1) mX10_workWord 138 [(2, 2), (2, r1), (0, x2), (0, x3), (0, x4), (0, x5), (0, x6), (9, 0), (9, 0)] [(0, x49)] M Q := by
  exact z_ireturn dX10_workWord_138 (Or.inl rfl) rfl h
set_option maxRecDepth 20000 in
set_option maxHeartbeats 4000000 in
theorem bX10_workWord_147 {G : zG} {d : Nat} {M : zM} {Q : zV → zM → Prop} (hG : zP G) {r1 x2 x3 x4 x5 x6 x49 : Int} (hr1 : zND r1)
    (h : Q (0, x49) M) :
    Y G (d + 1) mX10_workWord 147 [(2, 2), (2, r1), (0, x2), (0, x3), (0, x4), (0, x5), (0, x6), (9, 0), (9, 0)] [(0, x49)] M Q := by
  exact z_ireturn dX10_workWord_147 (Or.inl rfl) rfl h
set_option maxRecDepth 20000 in
set_option maxHeartbeats 4000000 in
theorem bX10_workWord_185 {G : zG} {d : Nat} {M : zM} {Q : zV → zM → Prop} (hG : zP G) {r1 x2 x3 x4 x5 x6 x7 x49 : Int} (hr1 : zND r1)
    (h : ((x49 = 0 → (M r1 8 ≤ 300) ∧ Y G d mX10_resultOf 0 [(2, 2), (0, (znf M r1 7 x7 (-1))), (0, x2)] [] M (fun r M' => Y G (d + 1) mX10_workWord 208 [(2, 2), (2, r1), (0, x2), (0, x3), (0, x4), (0, x5), (0, x6), (0, x7), (0, x49)] (zpush r []) M' Q)) ∧ (¬ x49 = 0 → Y G d mX10_resultOf 0 [(2, 2), (0, x7), (0, x2)] [] M (fun r M' => Y G (d + 1) mX10_workWord 208 [(2, 2), (2, r1), (0, x2), (0, x3), (0, x4), (0, x5), (0, x6), (0, x7), (0, x49)] (zpush r []) M' Q)))) :
    Y G (d + 1) mX10_workWord 185 [(2, 2), (2, r1), (0, x2), (0, x3), (0, x4), (0, x5), (0, x6), (0, x7), (9, 0)] [(0, x49)] M Q := by
  refine y_istore (ls' := [(2, 2), (2, r1), (0, x2), (0, x3), (0, x4), (0, x5), (0, x6), (0, x7), (0, x49)]) dX10_workWord_185 rfl rfl ?_
  refine z_aloadn dX10_workWord_187 rfl (Or.inl rfl) ?_
  refine z_iload dX10_workWord_188 rfl ?_
  refine z_ifeq (tgt := 198) dX10_workWord_190 rfl (fun q => ?_) (fun q => ?_)
  · replace h := h.1 q
    refine z_aloadn dX10_workWord_198 rfl (Or.inl rfl) ?_
    refine z_iload dX10_workWord_199 rfl ?_
    obtain ⟨q1, h⟩ := h
    refine y_cv (mt2 := mX1_behind) (en := [(2, r1), (0, x7)]) (st := [(2, 2)]) (as := [(0, x7)]) dX10_workWord_201 lX10_116 kX1_behind iX1_behind eX1_behind rfl (nd_0 hr1) (by decide +kernel) (Nat.le_of_ble_eq_true rfl) (Nat.le_of_ble_eq_true rfl) rfl (s_behind hG hr1 q1 ?_)
    show Y G (d + 1) mX10_workWord 204 [(2, 2), (2, r1), (0, x2), (0, x3), (0, x4), (0, x5), (0, x6), (0, x7), (0, x49)] [(0, (znf M r1 7 x7 (-1))), (2, 2)] M Q
    refine z_iloadn dX10_workWord_204 rfl ?_
    refine y_cv (mt2 := mX10_resultOf) (en := [(2, 2), (0, (znf M r1 7 x7 (-1))), (0, x2)]) (st := []) (as := [(0, (znf M r1 7 x7 (-1))), (0, x2)]) dX10_workWord_205 lX10_112 kX10_resultOf iX10_resultOf eX10_resultOf rfl sh2 (by decide +kernel) (Nat.le_of_ble_eq_true rfl) (Nat.le_of_ble_eq_true rfl) rfl ?_
    exact h
  · replace h := h.2 q
    refine z_iload dX10_workWord_193 rfl ?_
    refine z_goto (tgt := 204) dX10_workWord_195 rfl ?_
    refine z_iloadn dX10_workWord_204 rfl ?_
    refine y_cv (mt2 := mX10_resultOf) (en := [(2, 2), (0, x7), (0, x2)]) (st := []) (as := [(0, x7), (0, x2)]) dX10_workWord_205 lX10_112 kX10_resultOf iX10_resultOf eX10_resultOf rfl sh2 (by decide +kernel) (Nat.le_of_ble_eq_true rfl) (Nat.le_of_ble_eq_true rfl) rfl ?_
    exact h
set_option maxRecDepth 20000 in
set_option maxHeartbeats 4000000 in
theorem bX10_workWord_208 {G : zG} {d : Nat} {M : zM} {Q : zV → zM → Prop} (hG : zP G) {r1 x2 x3 x4 x5 x6 x7 x8 x49 : Int} (hr1 : zND r1)
    (h : Q (0, x49) M) :
    Y G (d + 1) mX10_workWord 208 [(2, 2), (2, r1), (0, x2), (0, x3), (0, x4), (0, x5), (0, x6), (0, x7), (0, x8)] [(0, x49)] M Q := by
  exact z_ireturn dX10_workWord_208 (Or.inl rfl) rfl h
set_option maxRecDepth 20000 in
set_option maxHeartbeats 4000000 in
theorem bX10_save_0 {G : zG} {d : Nat} {M : zM} {Q : zV → zM → Prop} (hG : zP G)
    (h : Y G d mX5_putAll 0 [(2, 184), (2, 3), (9, 0)] [] M (fun r M' => Y G (d + 1) mX10_save 8 [(2, 2), (2, 184)] (zpush r []) M' Q)) :
    Y G (d + 1) mX10_save 0 [(2, 2), (2, 184)] [] M Q := by
  refine z_aloadn dX10_save_0 rfl (Or.inl rfl) ?_
  refine z_aloadn dX10_save_1 rfl (Or.inl rfl) ?_
  refine y_getr (v := 3) hG dX10_save_2 fX10_9 sh2 (by decide) rfl (by decide +kernel) (by decide) ?_
  refine y_cv (mt2 := mX5_putAll) (en := [(2, 184), (2, 3), (9, 0)]) (st := []) (as := [(2, 3)]) dX10_save_5 lX10_137 kX5_putAll iX5_putAll eX5_putAll rfl sh184 (by decide +kernel) (Nat.le_of_ble_eq_true rfl) (Nat.le_of_ble_eq_true rfl) rfl ?_
  exact h
set_option maxRecDepth 20000 in
set_option maxHeartbeats 4000000 in
theorem bX10_save_8 {G : zG} {d : Nat} {M : zM} {Q : zV → zM → Prop} (hG : zP G)
    (h : Y G d mX5_put 0 [(2, 184), (0, (M 2 4))] [] M (fun r M' => Y G (d + 1) mX10_save 16 [(2, 2), (2, 184)] (zpush r []) M' Q)) :
    Y G (d + 1) mX10_save 8 [(2, 2), (2, 184)] [] M Q := by
  refine z_aloadn dX10_save_8 rfl (Or.inl rfl) ?_
  refine z_aloadn dX10_save_9 rfl (Or.inl rfl) ?_
  refine y_getf (x := (M 2 4)) dX10_save_10 fX10_49 sh2 (by decide) rfl rfl ?_
  refine y_cv (mt2 := mX5_put) (en := [(2, 184), (0, (M 2 4))]) (st := []) (as := [(0, (M 2 4))]) dX10_save_13 lX10_143 kX5_put iX5_put eX5_put rfl sh184 (by decide +kernel) (Nat.le_of_ble_eq_true rfl) (Nat.le_of_ble_eq_true rfl) rfl ?_
  exact h
set_option maxRecDepth 20000 in
set_option maxHeartbeats 4000000 in
theorem bX10_save_16 {G : zG} {d : Nat} {M : zM} {Q : zV → zM → Prop} (hG : zP G)
    (h : Y G d mX5_putAll 0 [(2, 184), (2, 7), (9, 0)] [] M (fun r M' => Y G (d + 1) mX10_save 24 [(2, 2), (2, 184)] (zpush r []) M' Q)) :
    Y G (d + 1) mX10_save 16 [(2, 2), (2, 184)] [] M Q := by
  refine z_aloadn dX10_save_16 rfl (Or.inl rfl) ?_
  refine z_aloadn dX10_save_17 rfl (Or.inl rfl) ?_
  refine y_getr (v := 7) hG dX10_save_18 fX10_24 sh2 (by decide) rfl (by decide +kernel) (by decide) ?_
  refine y_cv (mt2 := mX5_putAll) (en := [(2, 184), (2, 7), (9, 0)]) (st := []) (as := [(2, 7)]) dX10_save_21 lX10_137 kX5_putAll iX5_putAll eX5_putAll rfl sh184 (by decide +kernel) (Nat.le_of_ble_eq_true rfl) (Nat.le_of_ble_eq_true rfl) rfl ?_
  exact h
set_option maxRecDepth 20000 in
set_option maxHeartbeats 4000000 in
theorem bX10_save_24 {G : zG} {d : Nat} {M : zM} {Q : zV → zM → Prop} (hG : zP G)
    (h : Q (9, 0) M) :
    Y G (d + 1) mX10_save 24 [(2, 2), (2, 184)] [] M Q := by
  exact z_return dX10_save_24 rfl rfl h
set_option maxRecDepth 20000 in
set_option maxHeartbeats 4000000 in
theorem bX10_restore_0 {G : zG} {d : Nat} {M : zM} {Q : zV → zM → Prop} (hG : zP G)
    (h : Y G d mX5_takeAll 0 [(2, 184), (2, 3), (9, 0)] [] M (fun r M' => Y G (d + 1) mX10_restore 8 [(2, 2), (2, 184)] (zpush r []) M' Q)) :
    Y G (d + 1) mX10_restore 0 [(2, 2), (2, 184)] [] M Q := by
  refine z_aloadn dX10_restore_0 rfl (Or.inl rfl) ?_
  refine z_aloadn dX10_restore_1 rfl (Or.inl rfl) ?_
  refine y_getr (v := 3) hG dX10_restore_2 fX10_9 sh2 (by decide) rfl (by decide +kernel) (by decide) ?_
  refine y_cv (mt2 := mX5_takeAll) (en := [(2, 184), (2, 3), (9, 0)]) (st := []) (as := [(2, 3)]) dX10_restore_5 lX10_147 kX5_takeAll iX5_takeAll eX5_takeAll rfl sh184 (by decide +kernel) (Nat.le_of_ble_eq_true rfl) (Nat.le_of_ble_eq_true rfl) rfl ?_
  exact h
set_option maxRecDepth 20000 in
set_option maxHeartbeats 4000000 in
theorem bX10_restore_8 {G : zG} {d : Nat} {M : zM} {Q : zV → zM → Prop} (hG : zP G)
    (h : Y G d mX5_take 0 [(2, 184)] [] M (fun r M' => Y G (d + 1) mX10_restore 14 [(2, 2), (2, 184)] (zpush r [(0, 0), (2, 2)]) M' Q)) :
    Y G (d + 1) mX10_restore 8 [(2, 2), (2, 184)] [] M Q := by
  refine z_aloadn dX10_restore_8 rfl (Or.inl rfl) ?_
  refine z_iconst dX10_restore_9 ki_0 ?_
  refine z_aloadn dX10_restore_10 rfl (Or.inl rfl) ?_
  refine y_cv (mt2 := mX5_take) (en := [(2, 184)]) (st := [(0, 0), (2, 2)]) (as := []) dX10_restore_11 lX10_150 kX5_take iX5_take eX5_take rfl sh184 (by decide +kernel) (Nat.le_of_ble_eq_true rfl) (Nat.le_of_ble_eq_true rfl) rfl ?_
  exact h
set_option maxRecDepth 20000 in
set_option maxHeartbeats 4000000 in
theorem bX10_restore_14 {G : zG} {d : Nat} {M : zM} {Q : zV → zM → Prop} (hG : zP G) {x49 : Int}
    (h : Y G d mX5_takeAll 0 [(2, 184), (2, 7), (9, 0)] [] (zset M 2 4 (max 0 (min x49 8))) (fun r M' => Y G (d + 1) mX10_restore 33 [(2, 2), (2, 184)] (zpush r []) M' Q)) :
    Y G (d + 1) mX10_restore 14 [(2, 2), (2, 184)] [(0, x49), (0, 0), (2, 2)] M Q := by
  refine z_bipush dX10_restore_14 kb_8 ?_
  refine z_min dX10_restore_16 mwX10_131 (Nat.le_of_ble_eq_true rfl) ?_
  refine z_max dX10_restore_19 mwX10_126 (Nat.le_of_ble_eq_true rfl) ?_
  refine y_putf (M' := zset M 2 4 (max 0 (min x49 8))) hG dX10_restore_22 fX10_49 sh2 (by decide) ⟨rfl, rfl⟩ p10_4 (fun q => absurd q (by decide)) (by decide) rfl ?_
  refine z_aloadn dX10_restore_25 rfl (Or.inl rfl) ?_
  refine z_aloadn dX10_restore_26 rfl (Or.inl rfl) ?_
  refine y_getr (v := 7) hG dX10_restore_27 fX10_24 sh2 (by decide) rfl (by decide +kernel) (by decide) ?_
  refine y_cv (mt2 := mX5_takeAll) (en := [(2, 184), (2, 7), (9, 0)]) (st := []) (as := [(2, 7)]) dX10_restore_30 lX10_147 kX5_takeAll iX5_takeAll eX5_takeAll rfl sh184 (by decide +kernel) (Nat.le_of_ble_eq_true rfl) (Nat.le_of_ble_eq_true rfl) rfl ?_
  exact h
set_option maxRecDepth 20000 in
set_option maxHeartbeats 4000000 in
theorem bX10_restore_33 {G : zG} {d : Nat} {M : zM} {Q : zV → zM → Prop} (hG : zP G)
    (h : Y G d mX10_measureKin 0 [(2, 2), (9, 0)] [] M (fun r M' => Y G (d + 1) mX10_restore 37 [(2, 2), (2, 184)] (zpush r []) M' Q)) :
    Y G (d + 1) mX10_restore 33 [(2, 2), (2, 184)] [] M Q := by
  refine z_aloadn dX10_restore_33 rfl (Or.inl rfl) ?_
  refine y_cv (mt2 := mX10_measureKin) (en := [(2, 2), (9, 0)]) (st := []) (as := []) dX10_restore_34 lX10_39 kX10_measureKin iX10_measureKin eX10_measureKin rfl sh2 (by decide +kernel) (Nat.le_of_ble_eq_true rfl) (Nat.le_of_ble_eq_true rfl) rfl ?_
  exact h
set_option maxRecDepth 20000 in
set_option maxHeartbeats 4000000 in
theorem bX10_restore_37 {G : zG} {d : Nat} {M : zM} {Q : zV → zM → Prop} (hG : zP G)
    (h : Y G d mX10_measureWays 0 [(2, 2), (9, 0)] [] M (fun r M' => Y G (d + 1) mX10_restore 41 [(2, 2), (2, 184)] (zpush r []) M' Q)) :
    Y G (d + 1) mX10_restore 37 [(2, 2), (2, 184)] [] M Q := by
  refine z_aloadn dX10_restore_37 rfl (Or.inl rfl) ?_
  refine y_cv (mt2 := mX10_measureWays) (en := [(2, 2), (9, 0)]) (st := []) (as := []) dX10_restore_38 lX10_42 kX10_measureWays iX10_measureWays eX10_measureWays rfl sh2 (by decide +kernel) (Nat.le_of_ble_eq_true rfl) (Nat.le_of_ble_eq_true rfl) rfl ?_
  exact h
set_option maxRecDepth 20000 in
set_option maxHeartbeats 4000000 in
theorem bX10_restore_41 {G : zG} {d : Nat} {M : zM} {Q : zV → zM → Prop} (hG : zP G)
    (h : Q (9, 0) M) :
    Y G (d + 1) mX10_restore 41 [(2, 2), (2, 184)] [] M Q := by
  exact z_return dX10_restore_41 rfl rfl h
set_option maxRecDepth 20000 in
set_option maxHeartbeats 4000000 in
theorem bX10_addPerson_0 {G : zG} {d : Nat} {M : zM} {Q : zV → zM → Prop} (hG : zP G) {x1 x2 x3 : Int}
    (h : ((0 ≤ x1 ∧ x1 ≤ 99 → (-2147483648 ≤ (M 2 4) - 1 ∧ (M 2 4) - 1 ≤ 2147483647) ∧ (((-1) ≤ x2 ∧ x2 ≤ ((M 2 4) - 1) → (-2147483648 ≤ (M 2 4) - 1 ∧ (M 2 4) - 1 ≤ 2147483647) ∧ (((-1) ≤ x3 ∧ x3 ≤ ((M 2 4) - 1) → ((8 ≤ (M 2 4) → Q (0, (-1)) M) ∧ ((M 2 4) < 8 → ((¬ x2 = x3 → Y G (d + 1) mX10_addPerson 71 [(2, 2), (0, x1), (0, x2), (0, x3), (0, 1)] [] M Q) ∧ (x2 = x3 → ((x2 = (-1) → Y G (d + 1) mX10_addPerson 71 [(2, 2), (0, x1), (0, x2), (0, x3), (0, 1)] [] M Q) ∧ (¬ x2 = (-1) → Q (0, (-1)) M))))))) ∧ (¬ ((-1) ≤ x3 ∧ x3 ≤ ((M 2 4) - 1)) → Y G (d + 1) mX10_addPerson 42 [(2, 2), (0, x1), (0, x2), (0, x3), (9, 0)] [] M Q))) ∧ (¬ ((-1) ≤ x2 ∧ x2 ≤ ((M 2 4) - 1)) → Y G (d + 1) mX10_addPerson 42 [(2, 2), (0, x1), (0, x2), (0, x3), (9, 0)] [] M Q))) ∧ (¬ (0 ≤ x1 ∧ x1 ≤ 99) → Y G (d + 1) mX10_addPerson 42 [(2, 2), (0, x1), (0, x2), (0, x3), (9, 0)] [] M Q))) :
    Y G (d + 1) mX10_addPerson 0 [(2, 2), (0, x1), (0, x2), (0, x3), (9, 0)] [] M Q := by
  refine z_iloadn dX10_addPerson_0 rfl ?_
  refine z_iconst dX10_addPerson_1 ki_0 ?_
  refine z_bipush dX10_addPerson_2 kb_99 ?_
  refine y_cs (mt2 := mX11_within) (en := [(0, x1), (0, 0), (0, 99)]) (st := []) (as := [(0, x1), (0, 0), (0, 99)]) dX10_addPerson_4 lX10_45 kX11_within tX11_within rfl (Nat.le_of_ble_eq_true rfl) (Nat.le_of_ble_eq_true rfl) rfl (s_within hG (fun q => ?_) (fun q => ?_))
  · replace h := h.1 q
    show Y G (d + 1) mX10_addPerson 7 [(2, 2), (0, x1), (0, x2), (0, x3), (9, 0)] [(0, 1)] M Q
    refine z_ifeq (tgt := 42) dX10_addPerson_7 rfl (fun q => absurd q (by decide)) (fun _ => ?_)
    refine z_iloadn dX10_addPerson_10 rfl ?_
    refine z_iconst dX10_addPerson_11 ki_m1 ?_
    refine z_aloadn dX10_addPerson_12 rfl (Or.inl rfl) ?_
    refine y_getf (x := (M 2 4)) dX10_addPerson_13 fX10_49 sh2 (by decide) rfl rfl ?_
    refine z_iconst dX10_addPerson_16 ki_1 ?_
    obtain ⟨q1, h⟩ := h
    refine z_isub dX10_addPerson_17 q1 ?_
    refine y_cs (mt2 := mX11_within) (en := [(0, x2), (0, (-1)), (0, ((M 2 4) - 1))]) (st := []) (as := [(0, x2), (0, (-1)), (0, ((M 2 4) - 1))]) dX10_addPerson_18 lX10_45 kX11_within tX11_within rfl (Nat.le_of_ble_eq_true rfl) (Nat.le_of_ble_eq_true rfl) rfl (s_within hG (fun q => ?_) (fun q => ?_))
    · replace h := h.1 q
      show Y G (d + 1) mX10_addPerson 21 [(2, 2), (0, x1), (0, x2), (0, x3), (9, 0)] [(0, 1)] M Q
      refine z_ifeq (tgt := 42) dX10_addPerson_21 rfl (fun q => absurd q (by decide)) (fun _ => ?_)
      refine z_iloadn dX10_addPerson_24 rfl ?_
      refine z_iconst dX10_addPerson_25 ki_m1 ?_
      refine z_aloadn dX10_addPerson_26 rfl (Or.inl rfl) ?_
      refine y_getf (x := (M 2 4)) dX10_addPerson_27 fX10_49 sh2 (by decide) rfl rfl ?_
      refine z_iconst dX10_addPerson_30 ki_1 ?_
      obtain ⟨q2, h⟩ := h
      refine z_isub dX10_addPerson_31 q2 ?_
      refine y_cs (mt2 := mX11_within) (en := [(0, x3), (0, (-1)), (0, ((M 2 4) - 1))]) (st := []) (as := [(0, x3), (0, (-1)), (0, ((M 2 4) - 1))]) dX10_addPerson_32 lX10_45 kX11_within tX11_within rfl (Nat.le_of_ble_eq_true rfl) (Nat.le_of_ble_eq_true rfl) rfl (s_within hG (fun q => ?_) (fun q => ?_))
      · replace h := h.1 q
        show Y G (d + 1) mX10_addPerson 35 [(2, 2), (0, x1), (0, x2), (0, x3), (9, 0)] [(0, 1)] M Q
        refine z_ifeq (tgt := 42) dX10_addPerson_35 rfl (fun q => absurd q (by decide)) (fun _ => ?_)
        refine z_iconst dX10_addPerson_38 ki_1 ?_
        refine z_goto (tgt := 43) dX10_addPerson_39 rfl ?_
        refine y_istore (ls' := [(2, 2), (0, x1), (0, x2), (0, x3), (0, 1)]) dX10_addPerson_43 rfl rfl ?_
        refine z_iload dX10_addPerson_45 rfl ?_
        refine z_ifeq (tgt := 69) dX10_addPerson_47 rfl (fun q => absurd q (by decide)) (fun _ => ?_)
        refine z_aloadn dX10_addPerson_50 rfl (Or.inl rfl) ?_
        refine y_getf (x := (M 2 4)) dX10_addPerson_51 fX10_49 sh2 (by decide) rfl rfl ?_
        refine z_bipush dX10_addPerson_54 kb_8 ?_
        refine z_icmpge (tgt := 69) dX10_addPerson_56 rfl (fun q => ?_) (fun q => ?_)
        · replace h := h.1 q
          refine z_iconst dX10_addPerson_69 ki_m1 ?_
          exact z_ireturn dX10_addPerson_70 (Or.inl rfl) rfl h
        · replace h := h.2 q
          refine z_iloadn dX10_addPerson_59 rfl ?_
          refine z_iloadn dX10_addPerson_60 rfl ?_
          refine z_icmpne (tgt := 71) dX10_addPerson_61 rfl (fun q => ?_) (fun q => ?_)
          · replace h := h.1 q
            exact h
          · replace h := h.2 q
            refine z_iloadn dX10_addPerson_64 rfl ?_
            refine z_iconst dX10_addPerson_65 ki_m1 ?_
            refine z_icmpeq (tgt := 71) dX10_addPerson_66 rfl (fun q => ?_) (fun q => ?_)
            · replace h := h.1 q
              exact h
            · replace h := h.2 q
              refine z_iconst dX10_addPerson_69 ki_m1 ?_
              exact z_ireturn dX10_addPerson_70 (Or.inl rfl) rfl h
      · replace h := h.2 q
        show Y G (d + 1) mX10_addPerson 35 [(2, 2), (0, x1), (0, x2), (0, x3), (9, 0)] [(0, 0)] M Q
        refine z_ifeq (tgt := 42) dX10_addPerson_35 rfl (fun _ => ?_) (fun q => absurd q (by decide))
        exact h
    · replace h := h.2 q
      show Y G (d + 1) mX10_addPerson 21 [(2, 2), (0, x1), (0, x2), (0, x3), (9, 0)] [(0, 0)] M Q
      refine z_ifeq (tgt := 42) dX10_addPerson_21 rfl (fun _ => ?_) (fun q => absurd q (by decide))
      exact h
  · replace h := h.2 q
    show Y G (d + 1) mX10_addPerson 7 [(2, 2), (0, x1), (0, x2), (0, x3), (9, 0)] [(0, 0)] M Q
    refine z_ifeq (tgt := 42) dX10_addPerson_7 rfl (fun _ => ?_) (fun q => absurd q (by decide))
    exact h
set_option maxRecDepth 20000 in
set_option maxHeartbeats 4000000 in
theorem bX10_addPerson_42 {G : zG} {d : Nat} {M : zM} {Q : zV → zM → Prop} (hG : zP G) {x1 x2 x3 : Int}
    (h : Q (0, (-1)) M) :
    Y G (d + 1) mX10_addPerson 42 [(2, 2), (0, x1), (0, x2), (0, x3), (9, 0)] [] M Q := by
  refine z_iconst dX10_addPerson_42 ki_0 ?_
  refine y_istore (ls' := [(2, 2), (0, x1), (0, x2), (0, x3), (0, 0)]) dX10_addPerson_43 rfl rfl ?_
  refine z_iload dX10_addPerson_45 rfl ?_
  refine z_ifeq (tgt := 69) dX10_addPerson_47 rfl (fun _ => ?_) (fun q => absurd q (by decide))
  refine z_iconst dX10_addPerson_69 ki_m1 ?_
  exact z_ireturn dX10_addPerson_70 (Or.inl rfl) rfl h
set_option maxRecDepth 20000 in
set_option maxHeartbeats 4000000 in
theorem bX10_addPerson_71 {G : zG} {d : Nat} {M : zM} {Q : zV → zM → Prop} (hG : zP G) {x1 x2 x3 x4 : Int}
    (h : (0 ≤ (M 2 4) ∧ (M 2 4) < 8) ∧ (0 ≤ (M 2 4) ∧ (M 2 4) < 8) ∧ (0 ≤ (M 2 4) ∧ (M 2 4) < 8) ∧ (-2147483648 ≤ (M 2 4) + 1 ∧ (M 2 4) + 1 ≤ 2147483647) ∧ Y G d mX10_measureKin 0 [(2, 2), (9, 0)] [] (zset (zset (zset (zset M 4 (M 2 4) x1) 5 (M 2 4) x2) 6 (M 2 4) x3) 2 4 ((M 2 4) + 1)) (fun r M' => Y G (d + 1) mX10_addPerson 115 [(2, 2), (0, x1), (0, x2), (0, x3), (0, x4)] (zpush r []) M' Q)) :
    Y G (d + 1) mX10_addPerson 71 [(2, 2), (0, x1), (0, x2), (0, x3), (0, x4)] [] M Q := by
  refine z_aloadn dX10_addPerson_71 rfl (Or.inl rfl) ?_
  refine y_getr (v := 4) hG dX10_addPerson_72 fX10_15 sh2 (by decide) rfl (by decide +kernel) (by decide) ?_
  refine z_aloadn dX10_addPerson_75 rfl (Or.inl rfl) ?_
  refine y_getf (x := (M 2 4)) dX10_addPerson_76 fX10_49 sh2 (by decide) rfl rfl ?_
  refine z_iloadn dX10_addPerson_79 rfl ?_
  obtain ⟨q1, h⟩ := h
  refine y_iast hG dX10_addPerson_80 sh4 q1 ?_
  refine z_aloadn dX10_addPerson_81 rfl (Or.inl rfl) ?_
  refine y_getr (v := 5) hG dX10_addPerson_82 fX10_18 sh2 (by decide) rfl (by decide +kernel) (by decide) ?_
  refine z_aloadn dX10_addPerson_85 rfl (Or.inl rfl) ?_
  refine y_getf (x := (M 2 4)) dX10_addPerson_86 fX10_49 sh2 (by decide) rfl (zset_ne (fun q => absurd q.1 (by decide))) ?_
  refine z_iloadn dX10_addPerson_89 rfl ?_
  obtain ⟨q2, h⟩ := h
  refine y_iast hG dX10_addPerson_90 sh5 q2 ?_
  refine z_aloadn dX10_addPerson_91 rfl (Or.inl rfl) ?_
  refine y_getr (v := 6) hG dX10_addPerson_92 fX10_21 sh2 (by decide) rfl (by decide +kernel) (by decide) ?_
  refine z_aloadn dX10_addPerson_95 rfl (Or.inl rfl) ?_
  refine y_getf (x := (M 2 4)) dX10_addPerson_96 fX10_49 sh2 (by decide) rfl (((zset_ne (fun q => absurd q.1 (by decide))).trans (zset_ne (fun q => absurd q.1 (by decide))))) ?_
  refine z_iloadn dX10_addPerson_99 rfl ?_
  obtain ⟨q3, h⟩ := h
  refine y_iast hG dX10_addPerson_100 sh6 q3 ?_
  refine z_aloadn dX10_addPerson_101 rfl (Or.inl rfl) ?_
  refine z_dup dX10_addPerson_102 (show (2 : Nat) ≠ 1 by decide) ?_
  refine y_getf (x := (M 2 4)) dX10_addPerson_103 fX10_49 sh2 (by decide) rfl (((zset_ne (fun q => absurd q.1 (by decide))).trans (((zset_ne (fun q => absurd q.1 (by decide))).trans (zset_ne (fun q => absurd q.1 (by decide))))))) ?_
  refine z_iconst dX10_addPerson_106 ki_1 ?_
  obtain ⟨q4, h⟩ := h
  refine z_iadd dX10_addPerson_107 q4 ?_
  refine y_putf (M' := zset (zset (zset (zset M 4 (M 2 4) x1) 5 (M 2 4) x2) 6 (M 2 4) x3) 2 4 ((M 2 4) + 1)) hG dX10_addPerson_108 fX10_49 sh2 (by decide) ⟨rfl, rfl⟩ p10_4 (fun q => absurd q (by decide)) (by decide) rfl ?_
  refine z_aloadn dX10_addPerson_111 rfl (Or.inl rfl) ?_
  refine y_cv (mt2 := mX10_measureKin) (en := [(2, 2), (9, 0)]) (st := []) (as := []) dX10_addPerson_112 lX10_39 kX10_measureKin iX10_measureKin eX10_measureKin rfl sh2 (by decide +kernel) (Nat.le_of_ble_eq_true rfl) (Nat.le_of_ble_eq_true rfl) rfl ?_
  exact h
set_option maxRecDepth 20000 in
set_option maxHeartbeats 4000000 in
theorem bX10_addPerson_115 {G : zG} {d : Nat} {M : zM} {Q : zV → zM → Prop} (hG : zP G) {x1 x2 x3 x4 : Int}
    (h : (-2147483648 ≤ (M 2 4) - 1 ∧ (M 2 4) - 1 ≤ 2147483647) ∧ Q (0, ((M 2 4) - 1)) M) :
    Y G (d + 1) mX10_addPerson 115 [(2, 2), (0, x1), (0, x2), (0, x3), (0, x4)] [] M Q := by
  refine z_aloadn dX10_addPerson_115 rfl (Or.inl rfl) ?_
  refine y_getf (x := (M 2 4)) dX10_addPerson_116 fX10_49 sh2 (by decide) rfl rfl ?_
  refine z_iconst dX10_addPerson_119 ki_1 ?_
  obtain ⟨q1, h⟩ := h
  refine z_isub dX10_addPerson_120 q1 ?_
  exact z_ireturn dX10_addPerson_121 (Or.inl rfl) rfl h
set_option maxRecDepth 20000 in
set_option maxHeartbeats 4000000 in
theorem bX10_layRoad_0 {G : zG} {d : Nat} {M : zM} {Q : zV → zM → Prop} (hG : zP G) {x1 x2 x3 : Int}
    (h : ((0 ≤ x1 ∧ x1 ≤ 5 → ((0 ≤ x2 ∧ x2 ≤ 5 → ((1 ≤ x3 ∧ x3 ≤ 99 → ((¬ x1 = x2 → (-2147483648 ≤ x1 * 6 ∧ x1 * 6 ≤ 2147483647) ∧ (-2147483648 ≤ (x1 * 6) + x2 ∧ (x1 * 6) + x2 ≤ 2147483647) ∧ (0 ≤ ((x1 * 6) + x2) ∧ ((x1 * 6) + x2) < 36) ∧ (-2147483648 ≤ x2 * 6 ∧ x2 * 6 ≤ 2147483647) ∧ (-2147483648 ≤ (x2 * 6) + x1 ∧ (x2 * 6) + x1 ≤ 2147483647) ∧ (0 ≤ ((x2 * 6) + x1) ∧ ((x2 * 6) + x1) < 36) ∧ Y G d mX10_measureWays 0 [(2, 2), (9, 0)] [] (zset (zset M 7 ((x1 * 6) + x2) x3) 7 ((x2 * 6) + x1) x3) (fun r M' => Y G (d + 1) mX10_layRoad 75 [(2, 2), (0, x1), (0, x2), (0, x3), (0, 1)] (zpush r []) M' Q)) ∧ (x1 = x2 → Q (0, 0) M))) ∧ (¬ (1 ≤ x3 ∧ x3 ≤ 99) → Y G (d + 1) mX10_layRoad 32 [(2, 2), (0, x1), (0, x2), (0, x3), (9, 0)] [] M Q))) ∧ (¬ (0 ≤ x2 ∧ x2 ≤ 5) → Y G (d + 1) mX10_layRoad 32 [(2, 2), (0, x1), (0, x2), (0, x3), (9, 0)] [] M Q))) ∧ (¬ (0 ≤ x1 ∧ x1 ≤ 5) → Y G (d + 1) mX10_layRoad 32 [(2, 2), (0, x1), (0, x2), (0, x3), (9, 0)] [] M Q))) :
    Y G (d + 1) mX10_layRoad 0 [(2, 2), (0, x1), (0, x2), (0, x3), (9, 0)] [] M Q := by
  refine z_iloadn dX10_layRoad_0 rfl ?_
  refine z_iconst dX10_layRoad_1 ki_0 ?_
  refine z_iconst dX10_layRoad_2 ki_5 ?_
  refine y_cs (mt2 := mX11_within) (en := [(0, x1), (0, 0), (0, 5)]) (st := []) (as := [(0, x1), (0, 0), (0, 5)]) dX10_layRoad_3 lX10_45 kX11_within tX11_within rfl (Nat.le_of_ble_eq_true rfl) (Nat.le_of_ble_eq_true rfl) rfl (s_within hG (fun q => ?_) (fun q => ?_))
  · replace h := h.1 q
    show Y G (d + 1) mX10_layRoad 6 [(2, 2), (0, x1), (0, x2), (0, x3), (9, 0)] [(0, 1)] M Q
    refine z_ifeq (tgt := 32) dX10_layRoad_6 rfl (fun q => absurd q (by decide)) (fun _ => ?_)
    refine z_iloadn dX10_layRoad_9 rfl ?_
    refine z_iconst dX10_layRoad_10 ki_0 ?_
    refine z_iconst dX10_layRoad_11 ki_5 ?_
    refine y_cs (mt2 := mX11_within) (en := [(0, x2), (0, 0), (0, 5)]) (st := []) (as := [(0, x2), (0, 0), (0, 5)]) dX10_layRoad_12 lX10_45 kX11_within tX11_within rfl (Nat.le_of_ble_eq_true rfl) (Nat.le_of_ble_eq_true rfl) rfl (s_within hG (fun q => ?_) (fun q => ?_))
    · replace h := h.1 q
      show Y G (d + 1) mX10_layRoad 15 [(2, 2), (0, x1), (0, x2), (0, x3), (9, 0)] [(0, 1)] M Q
      refine z_ifeq (tgt := 32) dX10_layRoad_15 rfl (fun q => absurd q (by decide)) (fun _ => ?_)
      refine z_iloadn dX10_layRoad_18 rfl ?_
      refine z_iconst dX10_layRoad_19 ki_1 ?_
      refine z_bipush dX10_layRoad_20 kb_99 ?_
      refine y_cs (mt2 := mX11_within) (en := [(0, x3), (0, 1), (0, 99)]) (st := []) (as := [(0, x3), (0, 1), (0, 99)]) dX10_layRoad_22 lX10_45 kX11_within tX11_within rfl (Nat.le_of_ble_eq_true rfl) (Nat.le_of_ble_eq_true rfl) rfl (s_within hG (fun q => ?_) (fun q => ?_))
      · replace h := h.1 q
        show Y G (d + 1) mX10_layRoad 25 [(2, 2), (0, x1), (0, x2), (0, x3), (9, 0)] [(0, 1)] M Q
        refine z_ifeq (tgt := 32) dX10_layRoad_25 rfl (fun q => absurd q (by decide)) (fun _ => ?_)
        refine z_iconst dX10_layRoad_28 ki_1 ?_
        refine z_goto (tgt := 33) dX10_layRoad_29 rfl ?_
        refine y_istore (ls' := [(2, 2), (0, x1), (0, x2), (0, x3), (0, 1)]) dX10_layRoad_33 rfl rfl ?_
        refine z_iload dX10_layRoad_35 rfl ?_
        refine z_ifeq (tgt := 45) dX10_layRoad_37 rfl (fun q => absurd q (by decide)) (fun _ => ?_)
        refine z_iloadn dX10_layRoad_40 rfl ?_
        refine z_iloadn dX10_layRoad_41 rfl ?_
        refine z_icmpne (tgt := 47) dX10_layRoad_42 rfl (fun q => ?_) (fun q => ?_)
        · replace h := h.1 q
          refine z_aloadn dX10_layRoad_47 rfl (Or.inl rfl) ?_
          refine y_getr (v := 7) hG dX10_layRoad_48 fX10_24 sh2 (by decide) rfl (by decide +kernel) (by decide) ?_
          refine z_iloadn dX10_layRoad_51 rfl ?_
          refine z_bipush dX10_layRoad_52 kb_6 ?_
          obtain ⟨q1, h⟩ := h
          refine z_imul dX10_layRoad_54 q1 ?_
          refine z_iloadn dX10_layRoad_55 rfl ?_
          obtain ⟨q2, h⟩ := h
          refine z_iadd dX10_layRoad_56 q2 ?_
          refine z_iloadn dX10_layRoad_57 rfl ?_
          obtain ⟨q3, h⟩ := h
          refine y_iast hG dX10_layRoad_58 sh7 q3 ?_
          refine z_aloadn dX10_layRoad_59 rfl (Or.inl rfl) ?_
          refine y_getr (v := 7) hG dX10_layRoad_60 fX10_24 sh2 (by decide) rfl (by decide +kernel) (by decide) ?_
          refine z_iloadn dX10_layRoad_63 rfl ?_
          refine z_bipush dX10_layRoad_64 kb_6 ?_
          obtain ⟨q4, h⟩ := h
          refine z_imul dX10_layRoad_66 q4 ?_
          refine z_iloadn dX10_layRoad_67 rfl ?_
          obtain ⟨q5, h⟩ := h
          refine z_iadd dX10_layRoad_68 q5 ?_
          refine z_iloadn dX10_layRoad_69 rfl ?_
          obtain ⟨q6, h⟩ := h
          refine y_iast hG dX10_layRoad_70 sh7 q6 ?_
          refine z_aloadn dX10_layRoad_71 rfl (Or.inl rfl) ?_
          refine y_cv (mt2 := mX10_measureWays) (en := [(2, 2), (9, 0)]) (st := []) (as := []) dX10_layRoad_72 lX10_42 kX10_measureWays iX10_measureWays eX10_measureWays rfl sh2 (by decide +kernel) (Nat.le_of_ble_eq_true rfl) (Nat.le_of_ble_eq_true rfl) rfl ?_
          exact h
        · replace h := h.2 q
          refine z_iconst dX10_layRoad_45 ki_0 ?_
          exact z_ireturn dX10_layRoad_46 (Or.inr ⟨rfl, ⟨by decide, by decide⟩⟩) rfl h
      · replace h := h.2 q
        show Y G (d + 1) mX10_layRoad 25 [(2, 2), (0, x1), (0, x2), (0, x3), (9, 0)] [(0, 0)] M Q
        refine z_ifeq (tgt := 32) dX10_layRoad_25 rfl (fun _ => ?_) (fun q => absurd q (by decide))
        exact h
    · replace h := h.2 q
      show Y G (d + 1) mX10_layRoad 15 [(2, 2), (0, x1), (0, x2), (0, x3), (9, 0)] [(0, 0)] M Q
      refine z_ifeq (tgt := 32) dX10_layRoad_15 rfl (fun _ => ?_) (fun q => absurd q (by decide))
      exact h
  · replace h := h.2 q
    show Y G (d + 1) mX10_layRoad 6 [(2, 2), (0, x1), (0, x2), (0, x3), (9, 0)] [(0, 0)] M Q
    refine z_ifeq (tgt := 32) dX10_layRoad_6 rfl (fun _ => ?_) (fun q => absurd q (by decide))
    exact h
set_option maxRecDepth 20000 in
set_option maxHeartbeats 4000000 in
theorem bX10_layRoad_32 {G : zG} {d : Nat} {M : zM} {Q : zV → zM → Prop} (hG : zP G) {x1 x2 x3 : Int}
    (h : Q (0, 0) M) :
    Y G (d + 1) mX10_layRoad 32 [(2, 2), (0, x1), (0, x2), (0, x3), (9, 0)] [] M Q := by
  refine z_iconst dX10_layRoad_32 ki_0 ?_
  refine y_istore (ls' := [(2, 2), (0, x1), (0, x2), (0, x3), (0, 0)]) dX10_layRoad_33 rfl rfl ?_
  refine z_iload dX10_layRoad_35 rfl ?_
  refine z_ifeq (tgt := 45) dX10_layRoad_37 rfl (fun _ => ?_) (fun q => absurd q (by decide))
  refine z_iconst dX10_layRoad_45 ki_0 ?_
  exact z_ireturn dX10_layRoad_46 (Or.inr ⟨rfl, ⟨by decide, by decide⟩⟩) rfl h
set_option maxRecDepth 20000 in
set_option maxHeartbeats 4000000 in
theorem bX10_layRoad_75 {G : zG} {d : Nat} {M : zM} {Q : zV → zM → Prop} (hG : zP G) {x1 x2 x3 x4 : Int}
    (h : Q (0, 1) M) :
    Y G (d + 1) mX10_layRoad 75 [(2, 2), (0, x1), (0, x2), (0, x3), (0, x4)] [] M Q := by
  refine z_iconst dX10_layRoad_75 ki_1 ?_
  exact z_ireturn dX10_layRoad_76 (Or.inr ⟨rfl, ⟨by decide, by decide⟩⟩) rfl h
set_option maxRecDepth 20000 in
set_option maxHeartbeats 4000000 in
theorem bX10_measureKin_0 {G : zG} {d : Nat} {M : zM} {Q : zV → zM → Prop} (hG : zP G)
    (h : Y G d mJ7_fill_53178 0 [(2, 8), (0, (-1)), (9, 0), (9, 0)] [] M (fun r M' => Y G (d + 1) mX10_measureKin 8 [(2, 2), (9, 0)] (zpush r []) M' Q)) :
    Y G (d + 1) mX10_measureKin 0 [(2, 2), (9, 0)] [] M Q := by
  refine z_aloadn dX10_measureKin_0 rfl (Or.inl rfl) ?_
  refine y_getr (v := 8) hG dX10_measureKin_1 fX10_27 sh2 (by decide) rfl (by decide +kernel) (by decide) ?_
  refine z_iconst dX10_measureKin_4 ki_m1 ?_
  refine y_cs (mt2 := mJ7_fill_53178) (en := [(2, 8), (0, (-1)), (9, 0), (9, 0)]) (st := []) (as := [(2, 8), (0, (-1))]) dX10_measureKin_5 lX10_53 kJ7_fill_53178 tJ7_fill_53178 rfl (Nat.le_of_ble_eq_true rfl) (Nat.le_of_ble_eq_true rfl) rfl ?_
  exact h
set_option maxRecDepth 20000 in
set_option maxHeartbeats 4000000 in
theorem bX10_measureKin_18 {G : zG} {d : Nat} {M : zM} {Q : zV → zM → Prop} (hG : zP G) {x1 : Int}
    (h : (((M 2 4) ≤ x1 → Y G d mX10_closeTable 0 [(2, 8), (0, 8), (9, 0), (9, 0), (9, 0), (9, 0), (9, 0), (9, 0)] [] M (fun r M' => Y G (d + 1) mX10_measureKin 63 [(2, 2), (0, x1)] (zpush r []) M' Q)) ∧ (x1 < (M 2 4) → (0 ≤ x1 ∧ x1 < 8) ∧ Y G d mX10_joinParent 0 [(2, 2), (0, x1), (0, (M 5 x1))] [] M (fun r M' => Y G (d + 1) mX10_measureKin 37 [(2, 2), (0, x1)] (zpush r []) M' Q)))) :
    Y G (d + 1) mX10_measureKin 18 [(2, 2), (0, x1)] [] M Q := by
  refine z_iloadn dX10_measureKin_18 rfl ?_
  refine z_aloadn dX10_measureKin_19 rfl (Or.inl rfl) ?_
  refine y_getf (x := (M 2 4)) dX10_measureKin_20 fX10_49 sh2 (by decide) rfl rfl ?_
  refine z_icmpge (tgt := 54) dX10_measureKin_23 rfl (fun q => ?_) (fun q => ?_)
  · replace h := h.1 q
    refine z_aloadn dX10_measureKin_54 rfl (Or.inl rfl) ?_
    refine y_getr (v := 8) hG dX10_measureKin_55 fX10_27 sh2 (by decide) rfl (by decide +kernel) (by decide) ?_
    refine z_bipush dX10_measureKin_58 kb_8 ?_
    refine y_cs (mt2 := mX10_closeTable) (en := [(2, 8), (0, 8), (9, 0), (9, 0), (9, 0), (9, 0), (9, 0), (9, 0)]) (st := []) (as := [(2, 8), (0, 8)]) dX10_measureKin_60 lX10_63 kX10_closeTable tX10_closeTable rfl (Nat.le_of_ble_eq_true rfl) (Nat.le_of_ble_eq_true rfl) rfl ?_
    exact h
  · replace h := h.2 q
    refine z_aloadn dX10_measureKin_26 rfl (Or.inl rfl) ?_
    refine z_iloadn dX10_measureKin_27 rfl ?_
    refine z_aloadn dX10_measureKin_28 rfl (Or.inl rfl) ?_
    refine y_getr (v := 5) hG dX10_measureKin_29 fX10_18 sh2 (by decide) rfl (by decide +kernel) (by decide) ?_
    refine z_iloadn dX10_measureKin_32 rfl ?_
    obtain ⟨q1, h⟩ := h
    refine y_iald (x := (M 5 x1)) dX10_measureKin_33 sh5 q1 rfl ?_
    refine y_cv (mt2 := mX10_joinParent) (en := [(2, 2), (0, x1), (0, (M 5 x1))]) (st := []) (as := [(0, x1), (0, (M 5 x1))]) dX10_measureKin_34 lX10_59 kX10_joinParent iX10_joinParent eX10_joinParent rfl sh2 (by decide +kernel) (Nat.le_of_ble_eq_true rfl) (Nat.le_of_ble_eq_true rfl) rfl ?_
    exact h
set_option maxRecDepth 20000 in
set_option maxHeartbeats 4000000 in
theorem bX10_measureKin_8 {G : zG} {d : Nat} {M : zM} {Q : zV → zM → Prop} (hG : zP G)
    (h : Y G d mJ7_fill_53178 0 [(2, 10), (0, 0), (9, 0), (9, 0)] [] M (fun r M' => Y G (d + 1) mX10_measureKin 16 [(2, 2), (9, 0)] (zpush r []) M' Q)) :
    Y G (d + 1) mX10_measureKin 8 [(2, 2), (9, 0)] [] M Q := by
  refine z_aloadn dX10_measureKin_8 rfl (Or.inl rfl) ?_
  refine y_getr (v := 10) hG dX10_measureKin_9 fX10_33 sh2 (by decide) rfl (by decide +kernel) (by decide) ?_
  refine z_iconst dX10_measureKin_12 ki_0 ?_
  refine y_cs (mt2 := mJ7_fill_53178) (en := [(2, 10), (0, 0), (9, 0), (9, 0)]) (st := []) (as := [(2, 10), (0, 0)]) dX10_measureKin_13 lX10_53 kJ7_fill_53178 tJ7_fill_53178 rfl (Nat.le_of_ble_eq_true rfl) (Nat.le_of_ble_eq_true rfl) rfl ?_
  exact h
set_option maxRecDepth 20000 in
set_option maxHeartbeats 4000000 in
theorem bX10_measureKin_63 {G : zG} {d : Nat} {M : zM} {Q : zV → zM → Prop} (hG : zP G) {x1 : Int}
    (h : (-2147483648 ≤ (M 2 10) + 1 ∧ (M 2 10) + 1 ≤ 2147483647) ∧ Q (9, 0) (zset M 2 10 ((M 2 10) + 1))) :
    Y G (d + 1) mX10_measureKin 63 [(2, 2), (0, x1)] [] M Q := by
  refine z_aloadn dX10_measureKin_63 rfl (Or.inl rfl) ?_
  refine z_dup dX10_measureKin_64 (show (2 : Nat) ≠ 1 by decide) ?_
  refine y_getf (x := (M 2 10)) dX10_measureKin_65 fX10_66 sh2 (by decide) rfl rfl ?_
  refine z_iconst dX10_measureKin_68 ki_1 ?_
  obtain ⟨q1, h⟩ := h
  refine z_iadd dX10_measureKin_69 q1 ?_
  refine y_putf (M' := zset M 2 10 ((M 2 10) + 1)) hG dX10_measureKin_70 fX10_66 sh2 (by decide) ⟨rfl, rfl⟩ p10_10 (fun q => absurd q (by decide)) (by decide) rfl ?_
  exact z_return dX10_measureKin_73 rfl rfl h
set_option maxRecDepth 20000 in
set_option maxHeartbeats 4000000 in
theorem bX10_measureKin_37 {G : zG} {d : Nat} {M : zM} {Q : zV → zM → Prop} (hG : zP G) {x1 : Int}
    (h : (0 ≤ x1 ∧ x1 < 8) ∧ Y G d mX10_joinParent 0 [(2, 2), (0, x1), (0, (M 6 x1))] [] M (fun r M' => Y G (d + 1) mX10_measureKin 48 [(2, 2), (0, x1)] (zpush r []) M' Q)) :
    Y G (d + 1) mX10_measureKin 37 [(2, 2), (0, x1)] [] M Q := by
  refine z_aloadn dX10_measureKin_37 rfl (Or.inl rfl) ?_
  refine z_iloadn dX10_measureKin_38 rfl ?_
  refine z_aloadn dX10_measureKin_39 rfl (Or.inl rfl) ?_
  refine y_getr (v := 6) hG dX10_measureKin_40 fX10_21 sh2 (by decide) rfl (by decide +kernel) (by decide) ?_
  refine z_iloadn dX10_measureKin_43 rfl ?_
  obtain ⟨q1, h⟩ := h
  refine y_iald (x := (M 6 x1)) dX10_measureKin_44 sh6 q1 rfl ?_
  refine y_cv (mt2 := mX10_joinParent) (en := [(2, 2), (0, x1), (0, (M 6 x1))]) (st := []) (as := [(0, x1), (0, (M 6 x1))]) dX10_measureKin_45 lX10_59 kX10_joinParent iX10_joinParent eX10_joinParent rfl sh2 (by decide +kernel) (Nat.le_of_ble_eq_true rfl) (Nat.le_of_ble_eq_true rfl) rfl ?_
  exact h
set_option maxRecDepth 20000 in
set_option maxHeartbeats 4000000 in
theorem bX10_measureKin_16 {G : zG} {d : Nat} {M : zM} {Q : zV → zM → Prop} (hG : zP G)
    (h : Y G (d + 1) mX10_measureKin 18 [(2, 2), (0, 0)] [] M Q) :
    Y G (d + 1) mX10_measureKin 16 [(2, 2), (9, 0)] [] M Q := by
  refine z_iconst dX10_measureKin_16 ki_0 ?_
  refine y_istoren (ls' := [(2, 2), (0, 0)]) dX10_measureKin_17 rfl rfl ?_
  exact h
set_option maxRecDepth 20000 in
set_option maxHeartbeats 4000000 in
theorem bX10_measureKin_48 {G : zG} {d : Nat} {M : zM} {Q : zV → zM → Prop} (hG : zP G) {x1 : Int}
    (h : (-2147483648 ≤ x1 + 1 ∧ x1 + 1 ≤ 2147483647) ∧ Y G (d + 1) mX10_measureKin 18 [(2, 2), (0, (x1 + 1))] [] M Q) :
    Y G (d + 1) mX10_measureKin 48 [(2, 2), (0, x1)] [] M Q := by
  obtain ⟨q1, h⟩ := h
  refine y_iinc (ls' := [(2, 2), (0, (x1 + 1))]) dX10_measureKin_48 rfl rfl q1 rfl ?_
  refine z_goto (tgt := 18) dX10_measureKin_51 rfl ?_
  exact h
set_option maxRecDepth 20000 in
set_option maxHeartbeats 4000000 in
theorem bX10_joinParent_0 {G : zG} {d : Nat} {M : zM} {Q : zV → zM → Prop} (hG : zP G) {x1 x2 : Int}
    (h : (-2147483648 ≤ (M 2 4) - 1 ∧ (M 2 4) - 1 ≤ 2147483647) ∧ ((0 ≤ x2 ∧ x2 ≤ ((M 2 4) - 1) → (-2147483648 ≤ x1 * 8 ∧ x1 * 8 ≤ 2147483647) ∧ (-2147483648 ≤ (x1 * 8) + x2 ∧ (x1 * 8) + x2 ≤ 2147483647) ∧ (0 ≤ ((x1 * 8) + x2) ∧ ((x1 * 8) + x2) < 64) ∧ (-2147483648 ≤ x2 * 8 ∧ x2 * 8 ≤ 2147483647) ∧ (-2147483648 ≤ (x2 * 8) + x1 ∧ (x2 * 8) + x1 ≤ 2147483647) ∧ (0 ≤ ((x2 * 8) + x1) ∧ ((x2 * 8) + x1) < 64) ∧ (0 ≤ x2 ∧ x2 < 8) ∧ (-2147483648 ≤ (M 10 x2) + 1 ∧ (M 10 x2) + 1 ≤ 2147483647) ∧ (0 ≤ x2 ∧ x2 < 8) ∧ Q (9, 0) (zset (zset (zset M 8 ((x1 * 8) + x2) 1) 8 ((x2 * 8) + x1) 1) 10 x2 ((M 10 x2) + 1))) ∧ (¬ (0 ≤ x2 ∧ x2 ≤ ((M 2 4) - 1)) → Q (9, 0) M))) :
    Y G (d + 1) mX10_joinParent 0 [(2, 2), (0, x1), (0, x2)] [] M Q := by
  refine z_iloadn dX10_joinParent_0 rfl ?_
  refine z_iconst dX10_joinParent_1 ki_0 ?_
  refine z_aloadn dX10_joinParent_2 rfl (Or.inl rfl) ?_
  refine y_getf (x := (M 2 4)) dX10_joinParent_3 fX10_49 sh2 (by decide) rfl rfl ?_
  refine z_iconst dX10_joinParent_6 ki_1 ?_
  obtain ⟨q1, h⟩ := h
  refine z_isub dX10_joinParent_7 q1 ?_
  refine y_cs (mt2 := mX11_within) (en := [(0, x2), (0, 0), (0, ((M 2 4) - 1))]) (st := []) (as := [(0, x2), (0, 0), (0, ((M 2 4) - 1))]) dX10_joinParent_8 lX10_45 kX11_within tX11_within rfl (Nat.le_of_ble_eq_true rfl) (Nat.le_of_ble_eq_true rfl) rfl (s_within hG (fun q => ?_) (fun q => ?_))
  · replace h := h.1 q
    show Y G (d + 1) mX10_joinParent 11 [(2, 2), (0, x1), (0, x2)] [(0, 1)] M Q
    refine z_ifeq (tgt := 48) dX10_joinParent_11 rfl (fun q => absurd q (by decide)) (fun _ => ?_)
    refine z_aloadn dX10_joinParent_14 rfl (Or.inl rfl) ?_
    refine y_getr (v := 8) hG dX10_joinParent_15 fX10_27 sh2 (by decide) rfl (by decide +kernel) (by decide) ?_
    refine z_iloadn dX10_joinParent_18 rfl ?_
    refine z_bipush dX10_joinParent_19 kb_8 ?_
    obtain ⟨q2, h⟩ := h
    refine z_imul dX10_joinParent_21 q2 ?_
    refine z_iloadn dX10_joinParent_22 rfl ?_
    obtain ⟨q3, h⟩ := h
    refine z_iadd dX10_joinParent_23 q3 ?_
    refine z_iconst dX10_joinParent_24 ki_1 ?_
    obtain ⟨q4, h⟩ := h
    refine y_iast hG dX10_joinParent_25 sh8 q4 ?_
    refine z_aloadn dX10_joinParent_26 rfl (Or.inl rfl) ?_
    refine y_getr (v := 8) hG dX10_joinParent_27 fX10_27 sh2 (by decide) rfl (by decide +kernel) (by decide) ?_
    refine z_iloadn dX10_joinParent_30 rfl ?_
    refine z_bipush dX10_joinParent_31 kb_8 ?_
    obtain ⟨q5, h⟩ := h
    refine z_imul dX10_joinParent_33 q5 ?_
    refine z_iloadn dX10_joinParent_34 rfl ?_
    obtain ⟨q6, h⟩ := h
    refine z_iadd dX10_joinParent_35 q6 ?_
    refine z_iconst dX10_joinParent_36 ki_1 ?_
    obtain ⟨q7, h⟩ := h
    refine y_iast hG dX10_joinParent_37 sh8 q7 ?_
    refine z_aloadn dX10_joinParent_38 rfl (Or.inl rfl) ?_
    refine y_getr (v := 10) hG dX10_joinParent_39 fX10_33 sh2 (by decide) rfl (by decide +kernel) (by decide) ?_
    refine z_iloadn dX10_joinParent_42 rfl ?_
    refine z_dup2 dX10_joinParent_43 (show (0 : Nat) ≠ 1 by decide) (show (2 : Nat) ≠ 1 by decide) ?_
    obtain ⟨q8, h⟩ := h
    refine y_iald (x := (M 10 x2)) dX10_joinParent_44 sh10 q8 (((zset_ne (fun q => absurd q.1 (by decide))).trans (zset_ne (fun q => absurd q.1 (by decide))))) ?_
    refine z_iconst dX10_joinParent_45 ki_1 ?_
    obtain ⟨q9, h⟩ := h
    refine z_iadd dX10_joinParent_46 q9 ?_
    obtain ⟨q10, h⟩ := h
    refine y_iast hG dX10_joinParent_47 sh10 q10 ?_
    exact z_return dX10_joinParent_48 rfl rfl h
  · replace h := h.2 q
    show Y G (d + 1) mX10_joinParent 11 [(2, 2), (0, x1), (0, x2)] [(0, 0)] M Q
    refine z_ifeq (tgt := 48) dX10_joinParent_11 rfl (fun _ => ?_) (fun q => absurd q (by decide))
    exact z_return dX10_joinParent_48 rfl rfl h
set_option maxRecDepth 20000 in
set_option maxHeartbeats 4000000 in
theorem bX10_measureWays_0 {G : zG} {d : Nat} {M : zM} {Q : zV → zM → Prop} (hG : zP G)
    (h : Y G (d + 1) mX10_measureWays 2 [(2, 2), (0, 0)] [] M Q) :
    Y G (d + 1) mX10_measureWays 0 [(2, 2), (9, 0)] [] M Q := by
  refine z_iconst dX10_measureWays_0 ki_0 ?_
  refine y_istoren (ls' := [(2, 2), (0, 0)]) dX10_measureWays_1 rfl rfl ?_
  exact h
set_option maxRecDepth 20000 in
set_option maxHeartbeats 4000000 in
theorem bX10_measureWays_2 {G : zG} {d : Nat} {M : zM} {Q : zV → zM → Prop} (hG : zP G) {x1 : Int}
    (h : ((36 ≤ x1 → Y G d mX10_closeTable 0 [(2, 9), (0, 6), (9, 0), (9, 0), (9, 0), (9, 0), (9, 0), (9, 0)] [] M (fun r M' => Y G (d + 1) mX10_measureWays 48 [(2, 2), (0, x1)] (zpush r []) M' Q)) ∧ (x1 < 36 → (0 ≤ x1 ∧ x1 < 36) ∧ (((M 7 x1) ≤ 0 → (0 ≤ x1 ∧ x1 < 36) ∧ (-2147483648 ≤ x1 + 1 ∧ x1 + 1 ≤ 2147483647) ∧ Y G (d + 1) mX10_measureWays 2 [(2, 2), (0, (x1 + 1))] [] (zset M 9 x1 (-1)) Q) ∧ (0 < (M 7 x1) → (0 ≤ x1 ∧ x1 < 36) ∧ (0 ≤ x1 ∧ x1 < 36) ∧ (-2147483648 ≤ x1 + 1 ∧ x1 + 1 ≤ 2147483647) ∧ Y G (d + 1) mX10_measureWays 2 [(2, 2), (0, (x1 + 1))] [] (zset M 9 x1 (M 7 x1)) Q))))) :
    Y G (d + 1) mX10_measureWays 2 [(2, 2), (0, x1)] [] M Q := by
  refine z_iloadn dX10_measureWays_2 rfl ?_
  refine z_bipush dX10_measureWays_3 kb_36 ?_
  refine z_icmpge (tgt := 39) dX10_measureWays_5 rfl (fun q => ?_) (fun q => ?_)
  · replace h := h.1 q
    refine z_aloadn dX10_measureWays_39 rfl (Or.inl rfl) ?_
    refine y_getr (v := 9) hG dX10_measureWays_40 fX10_30 sh2 (by decide) rfl (by decide +kernel) (by decide) ?_
    refine z_bipush dX10_measureWays_43 kb_6 ?_
    refine y_cs (mt2 := mX10_closeTable) (en := [(2, 9), (0, 6), (9, 0), (9, 0), (9, 0), (9, 0), (9, 0), (9, 0)]) (st := []) (as := [(2, 9), (0, 6)]) dX10_measureWays_45 lX10_63 kX10_closeTable tX10_closeTable rfl (Nat.le_of_ble_eq_true rfl) (Nat.le_of_ble_eq_true rfl) rfl ?_
    exact h
  · replace h := h.2 q
    refine z_aloadn dX10_measureWays_8 rfl (Or.inl rfl) ?_
    refine y_getr (v := 9) hG dX10_measureWays_9 fX10_30 sh2 (by decide) rfl (by decide +kernel) (by decide) ?_
    refine z_iloadn dX10_measureWays_12 rfl ?_
    refine z_aloadn dX10_measureWays_13 rfl (Or.inl rfl) ?_
    refine y_getr (v := 7) hG dX10_measureWays_14 fX10_24 sh2 (by decide) rfl (by decide +kernel) (by decide) ?_
    refine z_iloadn dX10_measureWays_17 rfl ?_
    obtain ⟨q1, h⟩ := h
    refine y_iald (x := (M 7 x1)) dX10_measureWays_18 sh7 q1 rfl ?_
    refine z_ifle (tgt := 31) dX10_measureWays_19 rfl (fun q => ?_) (fun q => ?_)
    · replace h := h.1 q
      refine z_iconst dX10_measureWays_31 ki_m1 ?_
      obtain ⟨q2, h⟩ := h
      refine y_iast hG dX10_measureWays_32 sh9 q2 ?_
      obtain ⟨q3, h⟩ := h
      refine y_iinc (ls' := [(2, 2), (0, (x1 + 1))]) dX10_measureWays_33 rfl rfl q3 rfl ?_
      refine z_goto (tgt := 2) dX10_measureWays_36 rfl ?_
      exact h
    · replace h := h.2 q
      refine z_aloadn dX10_measureWays_22 rfl (Or.inl rfl) ?_
      refine y_getr (v := 7) hG dX10_measureWays_23 fX10_24 sh2 (by decide) rfl (by decide +kernel) (by decide) ?_
      refine z_iloadn dX10_measureWays_26 rfl ?_
      obtain ⟨q4, h⟩ := h
      refine y_iald (x := (M 7 x1)) dX10_measureWays_27 sh7 q4 rfl ?_
      refine z_goto (tgt := 32) dX10_measureWays_28 rfl ?_
      obtain ⟨q5, h⟩ := h
      refine y_iast hG dX10_measureWays_32 sh9 q5 ?_
      obtain ⟨q6, h⟩ := h
      refine y_iinc (ls' := [(2, 2), (0, (x1 + 1))]) dX10_measureWays_33 rfl rfl q6 rfl ?_
      refine z_goto (tgt := 2) dX10_measureWays_36 rfl ?_
      exact h
set_option maxRecDepth 20000 in
set_option maxHeartbeats 4000000 in
theorem bX10_measureWays_48 {G : zG} {d : Nat} {M : zM} {Q : zV → zM → Prop} (hG : zP G) {x1 : Int}
    (h : (-2147483648 ≤ (M 2 10) + 1 ∧ (M 2 10) + 1 ≤ 2147483647) ∧ Q (9, 0) (zset M 2 10 ((M 2 10) + 1))) :
    Y G (d + 1) mX10_measureWays 48 [(2, 2), (0, x1)] [] M Q := by
  refine z_aloadn dX10_measureWays_48 rfl (Or.inl rfl) ?_
  refine z_dup dX10_measureWays_49 (show (2 : Nat) ≠ 1 by decide) ?_
  refine y_getf (x := (M 2 10)) dX10_measureWays_50 fX10_66 sh2 (by decide) rfl rfl ?_
  refine z_iconst dX10_measureWays_53 ki_1 ?_
  obtain ⟨q1, h⟩ := h
  refine z_iadd dX10_measureWays_54 q1 ?_
  refine y_putf (M' := zset M 2 10 ((M 2 10) + 1)) hG dX10_measureWays_55 fX10_66 sh2 (by decide) ⟨rfl, rfl⟩ p10_10 (fun q => absurd q (by decide)) (by decide) rfl ?_
  exact z_return dX10_measureWays_58 rfl rfl h
set_option maxRecDepth 20000 in
set_option maxHeartbeats 4000000 in
theorem bX10_closeTable_0 {G : zG} {d : Nat} {M : zM} {Q : zV → zM → Prop} (hG : zP G) {r0 x1 : Int} {nr0 : Nat} (hr0 : zsh r0.toNat = (100, nr0))
    (h : (nr0 ≠ 0) ∧ (-2147483648 ≤ x1 * x1 ∧ x1 * x1 ≤ 2147483647) ∧ (((x1 * x1) ≤ (nr0 : Int) → Y G d mX10_closeTable 11 [(2, r0), (0, x1), (0, 0), (9, 0), (9, 0), (9, 0), (9, 0), (9, 0)] [] M Q) ∧ ((nr0 : Int) < (x1 * x1) → Q (9, 0) M))) :
    Y G d mX10_closeTable 0 [(2, r0), (0, x1), (9, 0), (9, 0), (9, 0), (9, 0), (9, 0), (9, 0)] [] M Q := by
  refine z_aloadn dX10_closeTable_0 rfl (Or.inl rfl) ?_
  obtain ⟨q1, h⟩ := h
  refine y_alen (x := (nr0 : Int)) dX10_closeTable_1 hr0 (by decide) q1 rfl ?_
  refine z_iloadn dX10_closeTable_2 rfl ?_
  refine z_iloadn dX10_closeTable_3 rfl ?_
  obtain ⟨q2, h⟩ := h
  refine z_imul dX10_closeTable_4 q2 ?_
  refine z_icmpge (tgt := 9) dX10_closeTable_5 rfl (fun q => ?_) (fun q => ?_)
  · replace h := h.1 q
    refine z_iconst dX10_closeTable_9 ki_0 ?_
    refine y_istoren (ls' := [(2, r0), (0, x1), (0, 0), (9, 0), (9, 0), (9, 0), (9, 0), (9, 0)]) dX10_closeTable_10 rfl rfl ?_
    exact h
  · replace h := h.2 q
    exact z_return dX10_closeTable_8 rfl rfl h
set_option maxRecDepth 20000 in
set_option maxHeartbeats 4000000 in
theorem bX10_closeTable_11 {G : zG} {d : Nat} {M : zM} {Q : zV → zM → Prop} (hG : zP G) {r0 x1 x2 : Int} {nr0 : Nat} (hr0 : zsh r0.toNat = (100, nr0))
    (h : ((x1 ≤ x2 → Y G d mX10_closeTable 32 [(2, r0), (0, x1), (0, 0), (9, 0), (9, 0), (9, 0), (9, 0), (9, 0)] [] M Q) ∧ (x2 < x1 → (-2147483648 ≤ x2 * x1 ∧ x2 * x1 ≤ 2147483647) ∧ (-2147483648 ≤ (x2 * x1) + x2 ∧ (x2 * x1) + x2 ≤ 2147483647) ∧ (0 ≤ ((x2 * x1) + x2) ∧ ((x2 * x1) + x2) < (nr0 : Int)) ∧ (-2147483648 ≤ x2 + 1 ∧ x2 + 1 ≤ 2147483647) ∧ Y G d mX10_closeTable 11 [(2, r0), (0, x1), (0, (x2 + 1)), (9, 0), (9, 0), (9, 0), (9, 0), (9, 0)] [] (zset M r0 ((x2 * x1) + x2) 0) Q))) :
    Y G d mX10_closeTable 11 [(2, r0), (0, x1), (0, x2), (9, 0), (9, 0), (9, 0), (9, 0), (9, 0)] [] M Q := by
  refine z_iloadn dX10_closeTable_11 rfl ?_
  refine z_iloadn dX10_closeTable_12 rfl ?_
  refine z_icmpge (tgt := 30) dX10_closeTable_13 rfl (fun q => ?_) (fun q => ?_)
  · replace h := h.1 q
    refine z_iconst dX10_closeTable_30 ki_0 ?_
    refine y_istoren (ls' := [(2, r0), (0, x1), (0, 0), (9, 0), (9, 0), (9, 0), (9, 0), (9, 0)]) dX10_closeTable_31 rfl rfl ?_
    exact h
  · replace h := h.2 q
    refine z_aloadn dX10_closeTable_16 rfl (Or.inl rfl) ?_
    refine z_iloadn dX10_closeTable_17 rfl ?_
    refine z_iloadn dX10_closeTable_18 rfl ?_
    obtain ⟨q1, h⟩ := h
    refine z_imul dX10_closeTable_19 q1 ?_
    refine z_iloadn dX10_closeTable_20 rfl ?_
    obtain ⟨q2, h⟩ := h
    refine z_iadd dX10_closeTable_21 q2 ?_
    refine z_iconst dX10_closeTable_22 ki_0 ?_
    obtain ⟨q3, h⟩ := h
    refine y_iast hG dX10_closeTable_23 hr0 q3 ?_
    obtain ⟨q4, h⟩ := h
    refine y_iinc (ls' := [(2, r0), (0, x1), (0, (x2 + 1)), (9, 0), (9, 0), (9, 0), (9, 0), (9, 0)]) dX10_closeTable_24 rfl rfl q4 rfl ?_
    refine z_goto (tgt := 11) dX10_closeTable_27 rfl ?_
    exact h
set_option maxRecDepth 20000 in
set_option maxHeartbeats 4000000 in
theorem bX10_closeTable_32 {G : zG} {d : Nat} {M : zM} {Q : zV → zM → Prop} (hG : zP G) {r0 x1 x2 : Int} {nr0 : Nat} (hr0 : zsh r0.toNat = (100, nr0))
    (h : ((x1 ≤ x2 → Q (9, 0) M) ∧ (x2 < x1 → Y G d mX10_closeTable 39 [(2, r0), (0, x1), (0, x2), (0, 0), (9, 0), (9, 0), (9, 0), (9, 0)] [] M Q))) :
    Y G d mX10_closeTable 32 [(2, r0), (0, x1), (0, x2), (9, 0), (9, 0), (9, 0), (9, 0), (9, 0)] [] M Q := by
  refine z_iloadn dX10_closeTable_32 rfl ?_
  refine z_iloadn dX10_closeTable_33 rfl ?_
  refine z_icmpge (tgt := 141) dX10_closeTable_34 rfl (fun q => ?_) (fun q => ?_)
  · replace h := h.1 q
    exact z_return dX10_closeTable_141 rfl rfl h
  · replace h := h.2 q
    refine z_iconst dX10_closeTable_37 ki_0 ?_
    refine y_istoren (ls' := [(2, r0), (0, x1), (0, x2), (0, 0), (9, 0), (9, 0), (9, 0), (9, 0)]) dX10_closeTable_38 rfl rfl ?_
    exact h
set_option maxRecDepth 20000 in
set_option maxHeartbeats 4000000 in
theorem bX10_closeTable_39 {G : zG} {d : Nat} {M : zM} {Q : zV → zM → Prop} (hG : zP G) {r0 x1 x2 x3 : Int} {nr0 : Nat} (hr0 : zsh r0.toNat = (100, nr0))
    (h : ((x1 ≤ x3 → (-2147483648 ≤ x2 + 1 ∧ x2 + 1 ≤ 2147483647) ∧ Y G d mX10_closeTable 32 [(2, r0), (0, x1), (0, (x2 + 1)), (9, 0), (9, 0), (9, 0), (9, 0), (9, 0)] [] M Q) ∧ (x3 < x1 → Y G d mX10_closeTable 47 [(2, r0), (0, x1), (0, x2), (0, x3), (0, 0), (9, 0), (9, 0), (9, 0)] [] M Q))) :
    Y G d mX10_closeTable 39 [(2, r0), (0, x1), (0, x2), (0, x3), (9, 0), (9, 0), (9, 0), (9, 0)] [] M Q := by
  refine z_iloadn dX10_closeTable_39 rfl ?_
  refine z_iloadn dX10_closeTable_40 rfl ?_
  refine z_icmpge (tgt := 135) dX10_closeTable_41 rfl (fun q => ?_) (fun q => ?_)
  · replace h := h.1 q
    obtain ⟨q1, h⟩ := h
    refine y_iinc (ls' := [(2, r0), (0, x1), (0, (x2 + 1)), (0, x3), (9, 0), (9, 0), (9, 0), (9, 0)]) dX10_closeTable_135 rfl rfl q1 rfl ?_
    refine z_goto (tgt := 32) dX10_closeTable_138 rfl ?_
    refine z_sub (ls' := [(2, r0), (0, x1), (0, (x2 + 1)), (9, 0), (9, 0), (9, 0), (9, 0), (9, 0)]) ⟨Or.inl rfl, Or.inl rfl, Or.inl rfl, Or.inr rfl, Or.inl rfl, Or.inl rfl, Or.inl rfl, Or.inl rfl, trivial⟩ ?_
    exact h
  · replace h := h.2 q
    refine z_iconst dX10_closeTable_44 ki_0 ?_
    refine y_istore (ls' := [(2, r0), (0, x1), (0, x2), (0, x3), (0, 0), (9, 0), (9, 0), (9, 0)]) dX10_closeTable_45 rfl rfl ?_
    exact h
set_option maxRecDepth 20000 in
set_option maxHeartbeats 4000000 in
theorem bX10_closeTable_47 {G : zG} {d : Nat} {M : zM} {Q : zV → zM → Prop} (hG : zP G) {r0 x1 x2 x3 x4 : Int} {nr0 : Nat} (hr0 : zsh r0.toNat = (100, nr0))
    (h : ((x1 ≤ x4 → (-2147483648 ≤ x3 + 1 ∧ x3 + 1 ≤ 2147483647) ∧ Y G d mX10_closeTable 39 [(2, r0), (0, x1), (0, x2), (0, (x3 + 1)), (9, 0), (9, 0), (9, 0), (9, 0)] [] M Q) ∧ (x4 < x1 → (-2147483648 ≤ x3 * x1 ∧ x3 * x1 ≤ 2147483647) ∧ (-2147483648 ≤ (x3 * x1) + x2 ∧ (x3 * x1) + x2 ≤ 2147483647) ∧ (0 ≤ ((x3 * x1) + x2) ∧ ((x3 * x1) + x2) < (nr0 : Int)) ∧ (-2147483648 ≤ x2 * x1 ∧ x2 * x1 ≤ 2147483647) ∧ (-2147483648 ≤ (x2 * x1) + x4 ∧ (x2 * x1) + x4 ≤ 2147483647) ∧ (0 ≤ ((x2 * x1) + x4) ∧ ((x2 * x1) + x4) < (nr0 : Int)) ∧ (-2147483648 ≤ x3 * x1 ∧ x3 * x1 ≤ 2147483647) ∧ (-2147483648 ≤ (x3 * x1) + x4 ∧ (x3 * x1) + x4 ≤ 2147483647) ∧ (0 ≤ ((x3 * x1) + x4) ∧ ((x3 * x1) + x4) < (nr0 : Int)) ∧ (((M r0 ((x3 * x1) + x2)) = (-1) → (-2147483648 ≤ x4 + 1 ∧ x4 + 1 ≤ 2147483647) ∧ Y G d mX10_closeTable 47 [(2, r0), (0, x1), (0, x2), (0, x3), (0, (x4 + 1)), (9, 0), (9, 0), (9, 0)] [] M Q) ∧ (¬ (M r0 ((x3 * x1) + x2)) = (-1) → (((M r0 ((x2 * x1) + x4)) = (-1) → (-2147483648 ≤ x4 + 1 ∧ x4 + 1 ≤ 2147483647) ∧ Y G d mX10_closeTable 47 [(2, r0), (0, x1), (0, x2), (0, x3), (0, (x4 + 1)), (9, 0), (9, 0), (9, 0)] [] M Q) ∧ (¬ (M r0 ((x2 * x1) + x4)) = (-1) → (((M r0 ((x3 * x1) + x4)) = (-1) → (-2147483648 ≤ x3 * x1 ∧ x3 * x1 ≤ 2147483647) ∧ (-2147483648 ≤ (x3 * x1) + x4 ∧ (x3 * x1) + x4 ≤ 2147483647) ∧ (-2147483648 ≤ (M r0 ((x3 * x1) + x2)) + (M r0 ((x2 * x1) + x4)) ∧ (M r0 ((x3 * x1) + x2)) + (M r0 ((x2 * x1) + x4)) ≤ 2147483647) ∧ (0 ≤ ((x3 * x1) + x4) ∧ ((x3 * x1) + x4) < (nr0 : Int)) ∧ (-2147483648 ≤ x4 + 1 ∧ x4 + 1 ≤ 2147483647) ∧ Y G d mX10_closeTable 47 [(2, r0), (0, x1), (0, x2), (0, x3), (0, (x4 + 1)), (9, 0), (9, 0), (9, 0)] [] (zset M r0 ((x3 * x1) + x4) ((M r0 ((x3 * x1) + x2)) + (M r0 ((x2 * x1) + x4)))) Q) ∧ (¬ (M r0 ((x3 * x1) + x4)) = (-1) → (-2147483648 ≤ (M r0 ((x3 * x1) + x2)) + (M r0 ((x2 * x1) + x4)) ∧ (M r0 ((x3 * x1) + x2)) + (M r0 ((x2 * x1) + x4)) ≤ 2147483647) ∧ (((M r0 ((x3 * x1) + x4)) ≤ ((M r0 ((x3 * x1) + x2)) + (M r0 ((x2 * x1) + x4))) → (-2147483648 ≤ x4 + 1 ∧ x4 + 1 ≤ 2147483647) ∧ Y G d mX10_closeTable 47 [(2, r0), (0, x1), (0, x2), (0, x3), (0, (x4 + 1)), (9, 0), (9, 0), (9, 0)] [] M Q) ∧ (((M r0 ((x3 * x1) + x2)) + (M r0 ((x2 * x1) + x4))) < (M r0 ((x3 * x1) + x4)) → (-2147483648 ≤ x3 * x1 ∧ x3 * x1 ≤ 2147483647) ∧ (-2147483648 ≤ (x3 * x1) + x4 ∧ (x3 * x1) + x4 ≤ 2147483647) ∧ (-2147483648 ≤ (M r0 ((x3 * x1) + x2)) + (M r0 ((x2 * x1) + x4)) ∧ (M r0 ((x3 * x1) + x2)) + (M r0 ((x2 * x1) + x4)) ≤ 2147483647) ∧ (0 ≤ ((x3 * x1) + x4) ∧ ((x3 * x1) + x4) < (nr0 : Int)) ∧ (-2147483648 ≤ x4 + 1 ∧ x4 + 1 ≤ 2147483647) ∧ Y G d mX10_closeTable 47 [(2, r0), (0, x1), (0, x2), (0, x3), (0, (x4 + 1)), (9, 0), (9, 0), (9, 0)] [] (zset M r0 ((x3 * x1) + x4) ((M r0 ((x3 * x1) + x2)) + (M r0 ((x2 * x1) + x4)))) Q))))))))))) :
    Y G d mX10_closeTable 47 [(2, r0), (0, x1), (0, x2), (0, x3), (0, x4), (9, 0), (9, 0), (9, 0)] [] M Q := by
  refine z_iload dX10_closeTable_47 rfl ?_
  refine z_iloadn dX10_closeTable_49 rfl ?_
  refine z_icmpge (tgt := 129) dX10_closeTable_50 rfl (fun q => ?_) (fun q => ?_)
  · replace h := h.1 q
    obtain ⟨q1, h⟩ := h
    refine y_iinc (ls' := [(2, r0), (0, x1), (0, x2), (0, (x3 + 1)), (0, x4), (9, 0), (9, 0), (9, 0)]) dX10_closeTable_129 rfl rfl q1 rfl ?_
    refine z_goto (tgt := 39) dX10_closeTable_132 rfl ?_
    refine z_sub (ls' := [(2, r0), (0, x1), (0, x2), (0, (x3 + 1)), (9, 0), (9, 0), (9, 0), (9, 0)]) ⟨Or.inl rfl, Or.inl rfl, Or.inl rfl, Or.inl rfl, Or.inr rfl, Or.inl rfl, Or.inl rfl, Or.inl rfl, trivial⟩ ?_
    exact h
  · replace h := h.2 q
    refine z_aloadn dX10_closeTable_53 rfl (Or.inl rfl) ?_
    refine z_iloadn dX10_closeTable_54 rfl ?_
    refine z_iloadn dX10_closeTable_55 rfl ?_
    obtain ⟨q2, h⟩ := h
    refine z_imul dX10_closeTable_56 q2 ?_
    refine z_iloadn dX10_closeTable_57 rfl ?_
    obtain ⟨q3, h⟩ := h
    refine z_iadd dX10_closeTable_58 q3 ?_
    obtain ⟨q4, h⟩ := h
    refine y_iald (x := (M r0 ((x3 * x1) + x2))) dX10_closeTable_59 hr0 q4 rfl ?_
    refine y_istore (ls' := [(2, r0), (0, x1), (0, x2), (0, x3), (0, x4), (0, (M r0 ((x3 * x1) + x2))), (9, 0), (9, 0)]) dX10_closeTable_60 rfl rfl ?_
    refine z_aloadn dX10_closeTable_62 rfl (Or.inl rfl) ?_
    refine z_iloadn dX10_closeTable_63 rfl ?_
    refine z_iloadn dX10_closeTable_64 rfl ?_
    obtain ⟨q5, h⟩ := h
    refine z_imul dX10_closeTable_65 q5 ?_
    refine z_iload dX10_closeTable_66 rfl ?_
    obtain ⟨q6, h⟩ := h
    refine z_iadd dX10_closeTable_68 q6 ?_
    obtain ⟨q7, h⟩ := h
    refine y_iald (x := (M r0 ((x2 * x1) + x4))) dX10_closeTable_69 hr0 q7 rfl ?_
    refine y_istore (ls' := [(2, r0), (0, x1), (0, x2), (0, x3), (0, x4), (0, (M r0 ((x3 * x1) + x2))), (0, (M r0 ((x2 * x1) + x4))), (9, 0)]) dX10_closeTable_70 rfl rfl ?_
    refine z_aloadn dX10_closeTable_72 rfl (Or.inl rfl) ?_
    refine z_iloadn dX10_closeTable_73 rfl ?_
    refine z_iloadn dX10_closeTable_74 rfl ?_
    obtain ⟨q8, h⟩ := h
    refine z_imul dX10_closeTable_75 q8 ?_
    refine z_iload dX10_closeTable_76 rfl ?_
    obtain ⟨q9, h⟩ := h
    refine z_iadd dX10_closeTable_78 q9 ?_
    obtain ⟨q10, h⟩ := h
    refine y_iald (x := (M r0 ((x3 * x1) + x4))) dX10_closeTable_79 hr0 q10 rfl ?_
    refine y_istore (ls' := [(2, r0), (0, x1), (0, x2), (0, x3), (0, x4), (0, (M r0 ((x3 * x1) + x2))), (0, (M r0 ((x2 * x1) + x4))), (0, (M r0 ((x3 * x1) + x4)))]) dX10_closeTable_80 rfl rfl ?_
    refine z_iload dX10_closeTable_82 rfl ?_
    refine z_iconst dX10_closeTable_84 ki_m1 ?_
    refine z_icmpeq (tgt := 123) dX10_closeTable_85 rfl (fun q => ?_) (fun q => ?_)
    · replace h := h.1 q
      obtain ⟨q11, h⟩ := h
      refine y_iinc (ls' := [(2, r0), (0, x1), (0, x2), (0, x3), (0, (x4 + 1)), (0, (M r0 ((x3 * x1) + x2))), (0, (M r0 ((x2 * x1) + x4))), (0, (M r0 ((x3 * x1) + x4)))]) dX10_closeTable_123 rfl rfl q11 rfl ?_
      refine z_goto (tgt := 47) dX10_closeTable_126 rfl ?_
      refine z_sub (ls' := [(2, r0), (0, x1), (0, x2), (0, x3), (0, (x4 + 1)), (9, 0), (9, 0), (9, 0)]) ⟨Or.inl rfl, Or.inl rfl, Or.inl rfl, Or.inl rfl, Or.inl rfl, Or.inr rfl, Or.inr rfl, Or.inr rfl, trivial⟩ ?_
      exact h
    · replace h := h.2 q
      refine z_iload dX10_closeTable_88 rfl ?_
      refine z_iconst dX10_closeTable_90 ki_m1 ?_
      refine z_icmpeq (tgt := 123) dX10_closeTable_91 rfl (fun q => ?_) (fun q => ?_)
      · replace h := h.1 q
        obtain ⟨q12, h⟩ := h
        refine y_iinc (ls' := [(2, r0), (0, x1), (0, x2), (0, x3), (0, (x4 + 1)), (0, (M r0 ((x3 * x1) + x2))), (0, (M r0 ((x2 * x1) + x4))), (0, (M r0 ((x3 * x1) + x4)))]) dX10_closeTable_123 rfl rfl q12 rfl ?_
        refine z_goto (tgt := 47) dX10_closeTable_126 rfl ?_
        refine z_sub (ls' := [(2, r0), (0, x1), (0, x2), (0, x3), (0, (x4 + 1)), (9, 0), (9, 0), (9, 0)]) ⟨Or.inl rfl, Or.inl rfl, Or.inl rfl, Or.inl rfl, Or.inl rfl, Or.inr rfl, Or.inr rfl, Or.inr rfl, trivial⟩ ?_
        exact h
      · replace h := h.2 q
        refine z_iload dX10_closeTable_94 rfl ?_
        refine z_iconst dX10_closeTable_96 ki_m1 ?_
        refine z_icmpeq (tgt := 110) dX10_closeTable_97 rfl (fun q => ?_) (fun q => ?_)
        · replace h := h.1 q
          refine z_aloadn dX10_closeTable_110 rfl (Or.inl rfl) ?_
          refine z_iloadn dX10_closeTable_111 rfl ?_
          refine z_iloadn dX10_closeTable_112 rfl ?_
          obtain ⟨q13, h⟩ := h
          refine z_imul dX10_closeTable_113 q13 ?_
          refine z_iload dX10_closeTable_114 rfl ?_
          obtain ⟨q14, h⟩ := h
          refine z_iadd dX10_closeTable_116 q14 ?_
          refine z_iload dX10_closeTable_117 rfl ?_
          refine z_iload dX10_closeTable_119 rfl ?_
          obtain ⟨q15, h⟩ := h
          refine z_iadd dX10_closeTable_121 q15 ?_
          obtain ⟨q16, h⟩ := h
          refine y_iast hG dX10_closeTable_122 hr0 q16 ?_
          obtain ⟨q17, h⟩ := h
          refine y_iinc (ls' := [(2, r0), (0, x1), (0, x2), (0, x3), (0, (x4 + 1)), (0, (M r0 ((x3 * x1) + x2))), (0, (M r0 ((x2 * x1) + x4))), (0, (M r0 ((x3 * x1) + x4)))]) dX10_closeTable_123 rfl rfl q17 rfl ?_
          refine z_goto (tgt := 47) dX10_closeTable_126 rfl ?_
          refine z_sub (ls' := [(2, r0), (0, x1), (0, x2), (0, x3), (0, (x4 + 1)), (9, 0), (9, 0), (9, 0)]) ⟨Or.inl rfl, Or.inl rfl, Or.inl rfl, Or.inl rfl, Or.inl rfl, Or.inr rfl, Or.inr rfl, Or.inr rfl, trivial⟩ ?_
          exact h
        · replace h := h.2 q
          refine z_iload dX10_closeTable_100 rfl ?_
          refine z_iload dX10_closeTable_102 rfl ?_
          obtain ⟨q18, h⟩ := h
          refine z_iadd dX10_closeTable_104 q18 ?_
          refine z_iload dX10_closeTable_105 rfl ?_
          refine z_icmpge (tgt := 123) dX10_closeTable_107 rfl (fun q => ?_) (fun q => ?_)
          · replace h := h.1 q
            obtain ⟨q19, h⟩ := h
            refine y_iinc (ls' := [(2, r0), (0, x1), (0, x2), (0, x3), (0, (x4 + 1)), (0, (M r0 ((x3 * x1) + x2))), (0, (M r0 ((x2 * x1) + x4))), (0, (M r0 ((x3 * x1) + x4)))]) dX10_closeTable_123 rfl rfl q19 rfl ?_
            refine z_goto (tgt := 47) dX10_closeTable_126 rfl ?_
            refine z_sub (ls' := [(2, r0), (0, x1), (0, x2), (0, x3), (0, (x4 + 1)), (9, 0), (9, 0), (9, 0)]) ⟨Or.inl rfl, Or.inl rfl, Or.inl rfl, Or.inl rfl, Or.inl rfl, Or.inr rfl, Or.inr rfl, Or.inr rfl, trivial⟩ ?_
            exact h
          · replace h := h.2 q
            refine z_aloadn dX10_closeTable_110 rfl (Or.inl rfl) ?_
            refine z_iloadn dX10_closeTable_111 rfl ?_
            refine z_iloadn dX10_closeTable_112 rfl ?_
            obtain ⟨q20, h⟩ := h
            refine z_imul dX10_closeTable_113 q20 ?_
            refine z_iload dX10_closeTable_114 rfl ?_
            obtain ⟨q21, h⟩ := h
            refine z_iadd dX10_closeTable_116 q21 ?_
            refine z_iload dX10_closeTable_117 rfl ?_
            refine z_iload dX10_closeTable_119 rfl ?_
            obtain ⟨q22, h⟩ := h
            refine z_iadd dX10_closeTable_121 q22 ?_
            obtain ⟨q23, h⟩ := h
            refine y_iast hG dX10_closeTable_122 hr0 q23 ?_
            obtain ⟨q24, h⟩ := h
            refine y_iinc (ls' := [(2, r0), (0, x1), (0, x2), (0, x3), (0, (x4 + 1)), (0, (M r0 ((x3 * x1) + x2))), (0, (M r0 ((x2 * x1) + x4))), (0, (M r0 ((x3 * x1) + x4)))]) dX10_closeTable_123 rfl rfl q24 rfl ?_
            refine z_goto (tgt := 47) dX10_closeTable_126 rfl ?_
            refine z_sub (ls' := [(2, r0), (0, x1), (0, x2), (0, x3), (0, (x4 + 1)), (9, 0), (9, 0), (9, 0)]) ⟨Or.inl rfl, Or.inl rfl, Or.inl rfl, Or.inl rfl, Or.inl rfl, Or.inr rfl, Or.inr rfl, Or.inr rfl, trivial⟩ ?_
            exact h
