set_option maxRecDepth 20000 in
set_option maxHeartbeats 4000000 in
theorem bX7_empty_0 {G : zG} {d : Nat} {M : zM} {Q : zV → zM → Prop} (hG : zP G) {o : Int} (ho : zSC o)
    (h : Q (9, 0) (zset (zset (zset M o 3 0) o 2 0) (o + 3) 8 0)) :
    Y G d mX7_empty 0 [(2, o)] [] M Q := by
  refine z_aloadn dX7_empty_0 rfl (Or.inl rfl) ?_
  refine z_iconst dX7_empty_1 ki_0 ?_
  refine y_putf (M' := zset M o 3 0) hG dX7_empty_2 fX7_25 (sc_0 ho) (by decide) ⟨rfl, rfl⟩ p7_3 (fun q => absurd q (by decide)) (by decide) rfl ?_
  refine z_aloadn dX7_empty_5 rfl (Or.inl rfl) ?_
  refine z_iconst dX7_empty_6 ki_0 ?_
  refine y_putf (M' := zset (zset M o 3 0) o 2 0) hG dX7_empty_7 fX7_29 (sc_0 ho) (by decide) ⟨rfl, rfl⟩ p7_2 (fun q => absurd q (by decide)) (by decide) rfl ?_
  refine z_aloadn dX7_empty_10 rfl (Or.inl rfl) ?_
  refine y_getr (v := (o + 3)) hG dX7_empty_11 fX7_21 (sc_0 ho) (by decide) rfl (sc_x4 ho) (sc_ne ho 3 (by decide)) ?_
  refine z_iconst dX7_empty_14 ki_0 ?_
  refine y_putf (M' := zset (zset (zset M o 3 0) o 2 0) (o + 3) 8 0) hG dX7_empty_15 fX7_32 (nd_0 (sc_nd ho)) (by decide) ⟨rfl, rfl⟩ p1_8 (fun q => absurd q (by decide)) (by decide) rfl ?_
  exact z_return dX7_empty_18 rfl rfl h
set_option maxRecDepth 20000 in
set_option maxHeartbeats 4000000 in
theorem bX7_beginClause_0 {G : zG} {d : Nat} {M : zM} {Q : zV → zM → Prop} (hG : zP G) {o x1 : Int} (ho : zSC o)
    (h : ((24 ≤ (M o 3) → Q (9, 0) M) ∧ ((M o 3) < 24 → (0 ≤ (M o 3) ∧ (M o 3) < 24) ∧ Y G d mX7_beginClause 26 [(2, o), (0, x1), (0, 0)] [] (zset (zset M (o + 1) (M o 3) x1) o 2 0) Q))) :
    Y G d mX7_beginClause 0 [(2, o), (0, x1), (9, 0)] [] M Q := by
  refine z_aloadn dX7_beginClause_0 rfl (Or.inl rfl) ?_
  refine y_getf (x := (M o 3)) dX7_beginClause_1 fX7_25 (sc_0 ho) (by decide) rfl rfl ?_
  refine z_bipush dX7_beginClause_4 kb_24 ?_
  refine z_icmpge (tgt := 53) dX7_beginClause_6 rfl (fun q => ?_) (fun q => ?_)
  · replace h := h.1 q
    exact z_return dX7_beginClause_53 rfl rfl h
  · replace h := h.2 q
    refine z_aloadn dX7_beginClause_9 rfl (Or.inl rfl) ?_
    refine y_getr (v := (o + 1)) hG dX7_beginClause_10 fX7_9 (sc_0 ho) (by decide) rfl (sc_x0 ho) (sc_ne ho 1 (by decide)) ?_
    refine z_aloadn dX7_beginClause_13 rfl (Or.inl rfl) ?_
    refine y_getf (x := (M o 3)) dX7_beginClause_14 fX7_25 (sc_0 ho) (by decide) rfl rfl ?_
    refine z_iloadn dX7_beginClause_17 rfl ?_
    obtain ⟨q1, h⟩ := h
    refine y_iast hG dX7_beginClause_18 (sc_1 ho) q1 ?_
    refine z_aloadn dX7_beginClause_19 rfl (Or.inl rfl) ?_
    refine z_iconst dX7_beginClause_20 ki_0 ?_
    refine y_putf (M' := zset (zset M (o + 1) (M o 3) x1) o 2 0) hG dX7_beginClause_21 fX7_29 (sc_0 ho) (by decide) ⟨rfl, rfl⟩ p7_2 (fun q => absurd q (by decide)) (by decide) rfl ?_
    refine z_iconst dX7_beginClause_24 ki_0 ?_
    refine y_istoren (ls' := [(2, o), (0, x1), (0, 0)]) dX7_beginClause_25 rfl rfl ?_
    exact h
set_option maxRecDepth 20000 in
set_option maxHeartbeats 4000000 in
theorem bX7_beginClause_26 {G : zG} {d : Nat} {M : zM} {Q : zV → zM → Prop} (hG : zP G) {o x1 x2 : Int} (ho : zSC o)
    (h : ((6 ≤ x2 → Q (9, 0) M) ∧ (x2 < 6 → (-2147483648 ≤ (M o 3) * 6 ∧ (M o 3) * 6 ≤ 2147483647) ∧ (-2147483648 ≤ ((M o 3) * 6) + x2 ∧ ((M o 3) * 6) + x2 ≤ 2147483647) ∧ (0 ≤ (((M o 3) * 6) + x2) ∧ (((M o 3) * 6) + x2) < 144) ∧ (-2147483648 ≤ x2 + 1 ∧ x2 + 1 ≤ 2147483647) ∧ Y G d mX7_beginClause 26 [(2, o), (0, x1), (0, (x2 + 1))] [] (zset M (o + 2) (((M o 3) * 6) + x2) (-1)) Q))) :
    Y G d mX7_beginClause 26 [(2, o), (0, x1), (0, x2)] [] M Q := by
  refine z_iloadn dX7_beginClause_26 rfl ?_
  refine z_bipush dX7_beginClause_27 kb_6 ?_
  refine z_icmpge (tgt := 53) dX7_beginClause_29 rfl (fun q => ?_) (fun q => ?_)
  · replace h := h.1 q
    exact z_return dX7_beginClause_53 rfl rfl h
  · replace h := h.2 q
    refine z_aloadn dX7_beginClause_32 rfl (Or.inl rfl) ?_
    refine y_getr (v := (o + 2)) hG dX7_beginClause_33 fX7_15 (sc_0 ho) (by decide) rfl (sc_x1 ho) (sc_ne ho 2 (by decide)) ?_
    refine z_aloadn dX7_beginClause_36 rfl (Or.inl rfl) ?_
    refine y_getf (x := (M o 3)) dX7_beginClause_37 fX7_25 (sc_0 ho) (by decide) rfl rfl ?_
    refine z_bipush dX7_beginClause_40 kb_6 ?_
    obtain ⟨q1, h⟩ := h
    refine z_imul dX7_beginClause_42 q1 ?_
    refine z_iloadn dX7_beginClause_43 rfl ?_
    obtain ⟨q2, h⟩ := h
    refine z_iadd dX7_beginClause_44 q2 ?_
    refine z_iconst dX7_beginClause_45 ki_m1 ?_
    obtain ⟨q3, h⟩ := h
    refine y_iast hG dX7_beginClause_46 (sc_2 ho) q3 ?_
    obtain ⟨q4, h⟩ := h
    refine y_iinc (ls' := [(2, o), (0, x1), (0, (x2 + 1))]) dX7_beginClause_47 rfl rfl q4 rfl ?_
    refine z_goto (tgt := 26) dX7_beginClause_50 rfl ?_
    exact h
