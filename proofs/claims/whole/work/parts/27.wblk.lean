set_option maxRecDepth 20000 in
set_option maxHeartbeats 4000000 in
theorem wX11_within_0 {G : zG} {d : Nat} {M : zM} {Q : zV → zM → Prop} {n : Nat} (hn : 11 ≤ n) (hW : zW G) {x0 x1 x2 : Int}
    (h : ((x0 < x1 → Q (0, 0) M) ∧ (x1 ≤ x0 → ((x2 < x0 → Q (0, 0) M) ∧ (x0 ≤ x2 → Q (0, 1) M))))) :
    Yw n G d mX11_within 0 [(0, x0), (0, x1), (0, x2)] [] M Q := by
  refine z_iloadn dX11_within_0 rfl ?_
  refine z_iloadn dX11_within_1 rfl ?_
  refine z_icmplt (tgt := 14) dX11_within_2 rfl (fun q => ?_) (fun q => ?_)
  · replace h := h.1 q
    refine z_iconst dX11_within_14 ki_0 ?_
    exact z_ireturn dX11_within_15 (Or.inr ⟨rfl, ⟨by decide, by decide⟩⟩) rfl h
  · replace h := h.2 q
    refine z_iloadn dX11_within_5 rfl ?_
    refine z_iloadn dX11_within_6 rfl ?_
    refine z_icmpgt (tgt := 14) dX11_within_7 rfl (fun q => ?_) (fun q => ?_)
    · replace h := h.1 q
      refine z_iconst dX11_within_14 ki_0 ?_
      exact z_ireturn dX11_within_15 (Or.inr ⟨rfl, ⟨by decide, by decide⟩⟩) rfl h
    · replace h := h.2 q
      refine z_iconst dX11_within_10 ki_1 ?_
      refine z_goto (tgt := 15) dX11_within_11 rfl ?_
      exact z_ireturn dX11_within_15 (Or.inr ⟨rfl, ⟨by decide, by decide⟩⟩) rfl h
set_option maxRecDepth 20000 in
set_option maxHeartbeats 4000000 in
theorem wJ7_fill_53178_0 {G : zG} {d : Nat} {M : zM} {Q : zV → zM → Prop} {n : Nat} (hn : 11 ≤ n) (hW : zW G) {r0 x1 : Int} {nr0 : Nat} (hr0 : zsh r0.toNat = (100, nr0)) (hbr0 : 3 ≤ r0 ∧ r0 ≤ 11)
    (h : (nr0 ≠ 0) ∧ Yw n G d mJ7_fill_53178 5 [(2, r0), (0, x1), (0, 0), (0, (nr0 : Int))] [] M Q) :
    Yw n G d mJ7_fill_53178 0 [(2, r0), (0, x1), (9, 0), (9, 0)] [] M Q := by
  refine z_iconst dJ7_fill_53178_0 ki_0 ?_
  refine y_istoren (ls' := [(2, r0), (0, x1), (0, 0), (9, 0)]) dJ7_fill_53178_1 rfl rfl ?_
  refine z_aloadn dJ7_fill_53178_2 rfl (Or.inl rfl) ?_
  obtain ⟨q1, h⟩ := h
  refine w_alen (x := (nr0 : Int)) hn hbr0 dJ7_fill_53178_3 hr0 (by decide) q1 rfl ?_
  refine y_istoren (ls' := [(2, r0), (0, x1), (0, 0), (0, (nr0 : Int))]) dJ7_fill_53178_4 rfl rfl ?_
  exact h
set_option maxRecDepth 20000 in
set_option maxHeartbeats 4000000 in
theorem wJ7_fill_53178_5 {G : zG} {d : Nat} {M : zM} {Q : zV → zM → Prop} {n : Nat} (hn : 11 ≤ n) (hW : zW G) {r0 x1 x2 x3 : Int} {nr0 : Nat} (hr0 : zsh r0.toNat = (100, nr0)) (hbr0 : 3 ≤ r0 ∧ r0 ≤ 11)
    (h : ((x3 ≤ x2 → Q (9, 0) M) ∧ (x2 < x3 → (0 ≤ x2 ∧ x2 < (nr0 : Int)) ∧ (-2147483648 ≤ x2 + 1 ∧ x2 + 1 ≤ 2147483647) ∧ Yw n G d mJ7_fill_53178 5 [(2, r0), (0, x1), (0, (x2 + 1)), (0, x3)] [] (zset M r0 x2 x1) Q))) :
    Yw n G d mJ7_fill_53178 5 [(2, r0), (0, x1), (0, x2), (0, x3)] [] M Q := by
  refine z_iloadn dJ7_fill_53178_5 rfl ?_
  refine z_iloadn dJ7_fill_53178_6 rfl ?_
  refine z_icmpge (tgt := 20) dJ7_fill_53178_7 rfl (fun q => ?_) (fun q => ?_)
  · replace h := h.1 q
    exact z_return dJ7_fill_53178_20 rfl rfl h
  · replace h := h.2 q
    refine z_aloadn dJ7_fill_53178_10 rfl (Or.inl rfl) ?_
    refine z_iloadn dJ7_fill_53178_11 rfl ?_
    refine z_iloadn dJ7_fill_53178_12 rfl ?_
    obtain ⟨q1, h⟩ := h
    refine w_iast hn hW hbr0 dJ7_fill_53178_13 hr0 q1 ?_
    obtain ⟨q2, h⟩ := h
    refine y_iinc (ls' := [(2, r0), (0, x1), (0, (x2 + 1)), (0, x3)]) dJ7_fill_53178_14 rfl rfl q2 rfl ?_
    refine z_goto (tgt := 5) dJ7_fill_53178_17 rfl ?_
    exact h
set_option maxRecDepth 20000 in
set_option maxHeartbeats 4000000 in
theorem wX10_closeTable_0 {G : zG} {d : Nat} {M : zM} {Q : zV → zM → Prop} {n : Nat} (hn : 11 ≤ n) (hW : zW G) {r0 x1 : Int} {nr0 : Nat} (hr0 : zsh r0.toNat = (100, nr0)) (hbr0 : 3 ≤ r0 ∧ r0 ≤ 11)
    (h : (nr0 ≠ 0) ∧ (-2147483648 ≤ x1 * x1 ∧ x1 * x1 ≤ 2147483647) ∧ (((x1 * x1) ≤ (nr0 : Int) → Yw n G d mX10_closeTable 11 [(2, r0), (0, x1), (0, 0), (9, 0), (9, 0), (9, 0), (9, 0), (9, 0)] [] M Q) ∧ ((nr0 : Int) < (x1 * x1) → Q (9, 0) M))) :
    Yw n G d mX10_closeTable 0 [(2, r0), (0, x1), (9, 0), (9, 0), (9, 0), (9, 0), (9, 0), (9, 0)] [] M Q := by
  refine z_aloadn dX10_closeTable_0 rfl (Or.inl rfl) ?_
  obtain ⟨q1, h⟩ := h
  refine w_alen (x := (nr0 : Int)) hn hbr0 dX10_closeTable_1 hr0 (by decide) q1 rfl ?_
  refine z_iloadn dX10_closeTable_2 rfl ?_
  refine z_iloadn dX10_closeTable_3 rfl ?_
  obtain ⟨q2, h⟩ := h
  refine z_imul dX10_closeTable_4 q2 ?_
  refine z_icmpge (tgt := 9) dX10_closeTable_5 rfl (fun q => ?_) (fun q => ?_)
  · replace h := h.1 q
    refine z_iconst dX10_closeTable_9 ki_0 ?_
    refine y_istoren (ls' := [(2, r0), (0, x1), (0, 0), (9, 0), (9, 0), (9, 0), (9, 0), (9, 0)]) dX10_closeTable_10 rfl rfl ?_
    exact h
  · replace h := h.2 q
    exact z_return dX10_closeTable_8 rfl rfl h
set_option maxRecDepth 20000 in
set_option maxHeartbeats 4000000 in
theorem wX10_closeTable_11 {G : zG} {d : Nat} {M : zM} {Q : zV → zM → Prop} {n : Nat} (hn : 11 ≤ n) (hW : zW G) {r0 x1 x2 : Int} {nr0 : Nat} (hr0 : zsh r0.toNat = (100, nr0)) (hbr0 : 3 ≤ r0 ∧ r0 ≤ 11)
    (h : ((x1 ≤ x2 → Yw n G d mX10_closeTable 32 [(2, r0), (0, x1), (0, 0), (9, 0), (9, 0), (9, 0), (9, 0), (9, 0)] [] M Q) ∧ (x2 < x1 → (-2147483648 ≤ x2 * x1 ∧ x2 * x1 ≤ 2147483647) ∧ (-2147483648 ≤ (x2 * x1) + x2 ∧ (x2 * x1) + x2 ≤ 2147483647) ∧ (0 ≤ ((x2 * x1) + x2) ∧ ((x2 * x1) + x2) < (nr0 : Int)) ∧ (-2147483648 ≤ x2 + 1 ∧ x2 + 1 ≤ 2147483647) ∧ Yw n G d mX10_closeTable 11 [(2, r0), (0, x1), (0, (x2 + 1)), (9, 0), (9, 0), (9, 0), (9, 0), (9, 0)] [] (zset M r0 ((x2 * x1) + x2) 0) Q))) :
    Yw n G d mX10_closeTable 11 [(2, r0), (0, x1), (0, x2), (9, 0), (9, 0), (9, 0), (9, 0), (9, 0)] [] M Q := by
  refine z_iloadn dX10_closeTable_11 rfl ?_
  refine z_iloadn dX10_closeTable_12 rfl ?_
  refine z_icmpge (tgt := 30) dX10_closeTable_13 rfl (fun q => ?_) (fun q => ?_)
  · replace h := h.1 q
    refine z_iconst dX10_closeTable_30 ki_0 ?_
    refine y_istoren (ls' := [(2, r0), (0, x1), (0, 0), (9, 0), (9, 0), (9, 0), (9, 0), (9, 0)]) dX10_closeTable_31 rfl rfl ?_
    exact h
  · replace h := h.2 q
    refine z_aloadn dX10_closeTable_16 rfl (Or.inl rfl) ?_
    refine z_iloadn dX10_closeTable_17 rfl ?_
    refine z_iloadn dX10_closeTable_18 rfl ?_
    obtain ⟨q1, h⟩ := h
    refine z_imul dX10_closeTable_19 q1 ?_
    refine z_iloadn dX10_closeTable_20 rfl ?_
    obtain ⟨q2, h⟩ := h
    refine z_iadd dX10_closeTable_21 q2 ?_
    refine z_iconst dX10_closeTable_22 ki_0 ?_
    obtain ⟨q3, h⟩ := h
    refine w_iast hn hW hbr0 dX10_closeTable_23 hr0 q3 ?_
    obtain ⟨q4, h⟩ := h
    refine y_iinc (ls' := [(2, r0), (0, x1), (0, (x2 + 1)), (9, 0), (9, 0), (9, 0), (9, 0), (9, 0)]) dX10_closeTable_24 rfl rfl q4 rfl ?_
    refine z_goto (tgt := 11) dX10_closeTable_27 rfl ?_
    exact h
set_option maxRecDepth 20000 in
set_option maxHeartbeats 4000000 in
theorem wX10_closeTable_32 {G : zG} {d : Nat} {M : zM} {Q : zV → zM → Prop} {n : Nat} (hn : 11 ≤ n) (hW : zW G) {r0 x1 x2 : Int} {nr0 : Nat} (hr0 : zsh r0.toNat = (100, nr0)) (hbr0 : 3 ≤ r0 ∧ r0 ≤ 11)
    (h : ((x1 ≤ x2 → Q (9, 0) M) ∧ (x2 < x1 → Yw n G d mX10_closeTable 39 [(2, r0), (0, x1), (0, x2), (0, 0), (9, 0), (9, 0), (9, 0), (9, 0)] [] M Q))) :
    Yw n G d mX10_closeTable 32 [(2, r0), (0, x1), (0, x2), (9, 0), (9, 0), (9, 0), (9, 0), (9, 0)] [] M Q := by
  refine z_iloadn dX10_closeTable_32 rfl ?_
  refine z_iloadn dX10_closeTable_33 rfl ?_
  refine z_icmpge (tgt := 141) dX10_closeTable_34 rfl (fun q => ?_) (fun q => ?_)
  · replace h := h.1 q
    exact z_return dX10_closeTable_141 rfl rfl h
  · replace h := h.2 q
    refine z_iconst dX10_closeTable_37 ki_0 ?_
    refine y_istoren (ls' := [(2, r0), (0, x1), (0, x2), (0, 0), (9, 0), (9, 0), (9, 0), (9, 0)]) dX10_closeTable_38 rfl rfl ?_
    exact h
set_option maxRecDepth 20000 in
set_option maxHeartbeats 4000000 in
theorem wX10_closeTable_39 {G : zG} {d : Nat} {M : zM} {Q : zV → zM → Prop} {n : Nat} (hn : 11 ≤ n) (hW : zW G) {r0 x1 x2 x3 : Int} {nr0 : Nat} (hr0 : zsh r0.toNat = (100, nr0)) (hbr0 : 3 ≤ r0 ∧ r0 ≤ 11)
    (h : ((x1 ≤ x3 → (-2147483648 ≤ x2 + 1 ∧ x2 + 1 ≤ 2147483647) ∧ Yw n G d mX10_closeTable 32 [(2, r0), (0, x1), (0, (x2 + 1)), (9, 0), (9, 0), (9, 0), (9, 0), (9, 0)] [] M Q) ∧ (x3 < x1 → Yw n G d mX10_closeTable 47 [(2, r0), (0, x1), (0, x2), (0, x3), (0, 0), (9, 0), (9, 0), (9, 0)] [] M Q))) :
    Yw n G d mX10_closeTable 39 [(2, r0), (0, x1), (0, x2), (0, x3), (9, 0), (9, 0), (9, 0), (9, 0)] [] M Q := by
  refine z_iloadn dX10_closeTable_39 rfl ?_
  refine z_iloadn dX10_closeTable_40 rfl ?_
  refine z_icmpge (tgt := 135) dX10_closeTable_41 rfl (fun q => ?_) (fun q => ?_)
  · replace h := h.1 q
    obtain ⟨q1, h⟩ := h
    refine y_iinc (ls' := [(2, r0), (0, x1), (0, (x2 + 1)), (0, x3), (9, 0), (9, 0), (9, 0), (9, 0)]) dX10_closeTable_135 rfl rfl q1 rfl ?_
    refine z_goto (tgt := 32) dX10_closeTable_138 rfl ?_
    refine z_sub (ls' := [(2, r0), (0, x1), (0, (x2 + 1)), (9, 0), (9, 0), (9, 0), (9, 0), (9, 0)]) ⟨Or.inl rfl, Or.inl rfl, Or.inl rfl, Or.inr rfl, Or.inl rfl, Or.inl rfl, Or.inl rfl, Or.inl rfl, trivial⟩ ?_
    exact h
  · replace h := h.2 q
    refine z_iconst dX10_closeTable_44 ki_0 ?_
    refine y_istore (ls' := [(2, r0), (0, x1), (0, x2), (0, x3), (0, 0), (9, 0), (9, 0), (9, 0)]) dX10_closeTable_45 rfl rfl ?_
    exact h
set_option maxRecDepth 20000 in
set_option maxHeartbeats 4000000 in
theorem wX10_closeTable_47 {G : zG} {d : Nat} {M : zM} {Q : zV → zM → Prop} {n : Nat} (hn : 11 ≤ n) (hW : zW G) {r0 x1 x2 x3 x4 : Int} {nr0 : Nat} (hr0 : zsh r0.toNat = (100, nr0)) (hbr0 : 3 ≤ r0 ∧ r0 ≤ 11)
    (h : ((x1 ≤ x4 → (-2147483648 ≤ x3 + 1 ∧ x3 + 1 ≤ 2147483647) ∧ Yw n G d mX10_closeTable 39 [(2, r0), (0, x1), (0, x2), (0, (x3 + 1)), (9, 0), (9, 0), (9, 0), (9, 0)] [] M Q) ∧ (x4 < x1 → (-2147483648 ≤ x3 * x1 ∧ x3 * x1 ≤ 2147483647) ∧ (-2147483648 ≤ (x3 * x1) + x2 ∧ (x3 * x1) + x2 ≤ 2147483647) ∧ (0 ≤ ((x3 * x1) + x2) ∧ ((x3 * x1) + x2) < (nr0 : Int)) ∧ (-2147483648 ≤ x2 * x1 ∧ x2 * x1 ≤ 2147483647) ∧ (-2147483648 ≤ (x2 * x1) + x4 ∧ (x2 * x1) + x4 ≤ 2147483647) ∧ (0 ≤ ((x2 * x1) + x4) ∧ ((x2 * x1) + x4) < (nr0 : Int)) ∧ (-2147483648 ≤ x3 * x1 ∧ x3 * x1 ≤ 2147483647) ∧ (-2147483648 ≤ (x3 * x1) + x4 ∧ (x3 * x1) + x4 ≤ 2147483647) ∧ (0 ≤ ((x3 * x1) + x4) ∧ ((x3 * x1) + x4) < (nr0 : Int)) ∧ (((M r0 ((x3 * x1) + x2)) = (-1) → (-2147483648 ≤ x4 + 1 ∧ x4 + 1 ≤ 2147483647) ∧ Yw n G d mX10_closeTable 47 [(2, r0), (0, x1), (0, x2), (0, x3), (0, (x4 + 1)), (9, 0), (9, 0), (9, 0)] [] M Q) ∧ (¬ (M r0 ((x3 * x1) + x2)) = (-1) → (((M r0 ((x2 * x1) + x4)) = (-1) → (-2147483648 ≤ x4 + 1 ∧ x4 + 1 ≤ 2147483647) ∧ Yw n G d mX10_closeTable 47 [(2, r0), (0, x1), (0, x2), (0, x3), (0, (x4 + 1)), (9, 0), (9, 0), (9, 0)] [] M Q) ∧ (¬ (M r0 ((x2 * x1) + x4)) = (-1) → (((M r0 ((x3 * x1) + x4)) = (-1) → (-2147483648 ≤ x3 * x1 ∧ x3 * x1 ≤ 2147483647) ∧ (-2147483648 ≤ (x3 * x1) + x4 ∧ (x3 * x1) + x4 ≤ 2147483647) ∧ (-2147483648 ≤ (M r0 ((x3 * x1) + x2)) + (M r0 ((x2 * x1) + x4)) ∧ (M r0 ((x3 * x1) + x2)) + (M r0 ((x2 * x1) + x4)) ≤ 2147483647) ∧ (0 ≤ ((x3 * x1) + x4) ∧ ((x3 * x1) + x4) < (nr0 : Int)) ∧ (-2147483648 ≤ x4 + 1 ∧ x4 + 1 ≤ 2147483647) ∧ Yw n G d mX10_closeTable 47 [(2, r0), (0, x1), (0, x2), (0, x3), (0, (x4 + 1)), (9, 0), (9, 0), (9, 0)] [] (zset M r0 ((x3 * x1) + x4) ((M r0 ((x3 * x1) + x2)) + (M r0 ((x2 * x1) + x4)))) Q) ∧ (¬ (M r0 ((x3 * x1) + x4)) = (-1) → (-2147483648 ≤ (M r0 ((x3 * x1) + x2)) + (M r0 ((x2 * x1) + x4)) ∧ (M r0 ((x3 * x1) + x2)) + (M r0 ((x2 * x1) + x4)) ≤ 2147483647) ∧ (((M r0 ((x3 * x1) + x4)) ≤ ((M r0 ((x3 * x1) + x2)) + (M r0 ((x2 * x1) + x4))) → (-2147483648 ≤ x4 + 1 ∧ x4 + 1 ≤ 2147483647) ∧ Yw n G d mX10_closeTable 47 [(2, r0), (0, x1), (0, x2), (0, x3), (0, (x4 + 1)), (9, 0), (9, 0), (9, 0)] [] M Q) ∧ (((M r0 ((x3 * x1) + x2)) + (M r0 ((x2 * x1) + x4))) < (M r0 ((x3 * x1) + x4)) → (-2147483648 ≤ x3 * x1 ∧ x3 * x1 ≤ 2147483647) ∧ (-2147483648 ≤ (x3 * x1) + x4 ∧ (x3 * x1) + x4 ≤ 2147483647) ∧ (-2147483648 ≤ (M r0 ((x3 * x1) + x2)) + (M r0 ((x2 * x1) + x4)) ∧ (M r0 ((x3 * x1) + x2)) + (M r0 ((x2 * x1) + x4)) ≤ 2147483647) ∧ (0 ≤ ((x3 * x1) + x4) ∧ ((x3 * x1) + x4) < (nr0 : Int)) ∧ (-2147483648 ≤ x4 + 1 ∧ x4 + 1 ≤ 2147483647) ∧ Yw n G d mX10_closeTable 47 [(2, r0), (0, x1), (0, x2), (0, x3), (0, (x4 + 1)), (9, 0), (9, 0), (9, 0)] [] (zset M r0 ((x3 * x1) + x4) ((M r0 ((x3 * x1) + x2)) + (M r0 ((x2 * x1) + x4)))) Q))))))))))) :
    Yw n G d mX10_closeTable 47 [(2, r0), (0, x1), (0, x2), (0, x3), (0, x4), (9, 0), (9, 0), (9, 0)] [] M Q := by
  refine z_iload dX10_closeTable_47 rfl ?_
  refine z_iloadn dX10_closeTable_49 rfl ?_
  refine z_icmpge (tgt := 129) dX10_closeTable_50 rfl (fun q => ?_) (fun q => ?_)
  · replace h := h.1 q
    obtain ⟨q1, h⟩ := h
    refine y_iinc (ls' := [(2, r0), (0, x1), (0, x2), (0, (x3 + 1)), (0, x4), (9, 0), (9, 0), (9, 0)]) dX10_closeTable_129 rfl rfl q1 rfl ?_
    refine z_goto (tgt := 39) dX10_closeTable_132 rfl ?_
    refine z_sub (ls' := [(2, r0), (0, x1), (0, x2), (0, (x3 + 1)), (9, 0), (9, 0), (9, 0), (9, 0)]) ⟨Or.inl rfl, Or.inl rfl, Or.inl rfl, Or.inl rfl, Or.inr rfl, Or.inl rfl, Or.inl rfl, Or.inl rfl, trivial⟩ ?_
    exact h
  · replace h := h.2 q
    refine z_aloadn dX10_closeTable_53 rfl (Or.inl rfl) ?_
    refine z_iloadn dX10_closeTable_54 rfl ?_
    refine z_iloadn dX10_closeTable_55 rfl ?_
    obtain ⟨q2, h⟩ := h
    refine z_imul dX10_closeTable_56 q2 ?_
    refine z_iloadn dX10_closeTable_57 rfl ?_
    obtain ⟨q3, h⟩ := h
    refine z_iadd dX10_closeTable_58 q3 ?_
    obtain ⟨q4, h⟩ := h
    refine w_iald (x := (M r0 ((x3 * x1) + x2))) hn hbr0 dX10_closeTable_59 hr0 q4 rfl ?_
    refine y_istore (ls' := [(2, r0), (0, x1), (0, x2), (0, x3), (0, x4), (0, (M r0 ((x3 * x1) + x2))), (9, 0), (9, 0)]) dX10_closeTable_60 rfl rfl ?_
    refine z_aloadn dX10_closeTable_62 rfl (Or.inl rfl) ?_
    refine z_iloadn dX10_closeTable_63 rfl ?_
    refine z_iloadn dX10_closeTable_64 rfl ?_
    obtain ⟨q5, h⟩ := h
    refine z_imul dX10_closeTable_65 q5 ?_
    refine z_iload dX10_closeTable_66 rfl ?_
    obtain ⟨q6, h⟩ := h
    refine z_iadd dX10_closeTable_68 q6 ?_
    obtain ⟨q7, h⟩ := h
    refine w_iald (x := (M r0 ((x2 * x1) + x4))) hn hbr0 dX10_closeTable_69 hr0 q7 rfl ?_
    refine y_istore (ls' := [(2, r0), (0, x1), (0, x2), (0, x3), (0, x4), (0, (M r0 ((x3 * x1) + x2))), (0, (M r0 ((x2 * x1) + x4))), (9, 0)]) dX10_closeTable_70 rfl rfl ?_
    refine z_aloadn dX10_closeTable_72 rfl (Or.inl rfl) ?_
    refine z_iloadn dX10_closeTable_73 rfl ?_
    refine z_iloadn dX10_closeTable_74 rfl ?_
    obtain ⟨q8, h⟩ := h
    refine z_imul dX10_closeTable_75 q8 ?_
    refine z_iload dX10_closeTable_76 rfl ?_
    obtain ⟨q9, h⟩ := h
    refine z_iadd dX10_closeTable_78 q9 ?_
    obtain ⟨q10, h⟩ := h
    refine w_iald (x := (M r0 ((x3 * x1) + x4))) hn hbr0 dX10_closeTable_79 hr0 q10 rfl ?_
    refine y_istore (ls' := [(2, r0), (0, x1), (0, x2), (0, x3), (0, x4), (0, (M r0 ((x3 * x1) + x2))), (0, (M r0 ((x2 * x1) + x4))), (0, (M r0 ((x3 * x1) + x4)))]) dX10_closeTable_80 rfl rfl ?_
    refine z_iload dX10_closeTable_82 rfl ?_
    refine z_iconst dX10_closeTable_84 ki_m1 ?_
    refine z_icmpeq (tgt := 123) dX10_closeTable_85 rfl (fun q => ?_) (fun q => ?_)
    · replace h := h.1 q
      obtain ⟨q11, h⟩ := h
      refine y_iinc (ls' := [(2, r0), (0, x1), (0, x2), (0, x3), (0, (x4 + 1)), (0, (M r0 ((x3 * x1) + x2))), (0, (M r0 ((x2 * x1) + x4))), (0, (M r0 ((x3 * x1) + x4)))]) dX10_closeTable_123 rfl rfl q11 rfl ?_
      refine z_goto (tgt := 47) dX10_closeTable_126 rfl ?_
      refine z_sub (ls' := [(2, r0), (0, x1), (0, x2), (0, x3), (0, (x4 + 1)), (9, 0), (9, 0), (9, 0)]) ⟨Or.inl rfl, Or.inl rfl, Or.inl rfl, Or.inl rfl, Or.inl rfl, Or.inr rfl, Or.inr rfl, Or.inr rfl, trivial⟩ ?_
      exact h
    · replace h := h.2 q
      refine z_iload dX10_closeTable_88 rfl ?_
      refine z_iconst dX10_closeTable_90 ki_m1 ?_
      refine z_icmpeq (tgt := 123) dX10_closeTable_91 rfl (fun q => ?_) (fun q => ?_)
      · replace h := h.1 q
        obtain ⟨q12, h⟩ := h
        refine y_iinc (ls' := [(2, r0), (0, x1), (0, x2), (0, x3), (0, (x4 + 1)), (0, (M r0 ((x3 * x1) + x2))), (0, (M r0 ((x2 * x1) + x4))), (0, (M r0 ((x3 * x1) + x4)))]) dX10_closeTable_123 rfl rfl q12 rfl ?_
        refine z_goto (tgt := 47) dX10_closeTable_126 rfl ?_
        refine z_sub (ls' := [(2, r0), (0, x1), (0, x2), (0, x3), (0, (x4 + 1)), (9, 0), (9, 0), (9, 0)]) ⟨Or.inl rfl, Or.inl rfl, Or.inl rfl, Or.inl rfl, Or.inl rfl, Or.inr rfl, Or.inr rfl, Or.inr rfl, trivial⟩ ?_
        exact h
      · replace h := h.2 q
        refine z_iload dX10_closeTable_94 rfl ?_
        refine z_iconst dX10_closeTable_96 ki_m1 ?_
        refine z_icmpeq (tgt := 110) dX10_closeTable_97 rfl (fun q => ?_) (fun q => ?_)
        · replace h := h.1 q
          refine z_aloadn dX10_closeTable_110 rfl (Or.inl rfl) ?_
          refine z_iloadn dX10_closeTable_111 rfl ?_
          refine z_iloadn dX10_closeTable_112 rfl ?_
          obtain ⟨q13, h⟩ := h
          refine z_imul dX10_closeTable_113 q13 ?_
          refine z_iload dX10_closeTable_114 rfl ?_
          obtain ⟨q14, h⟩ := h
          refine z_iadd dX10_closeTable_116 q14 ?_
          refine z_iload dX10_closeTable_117 rfl ?_
          refine z_iload dX10_closeTable_119 rfl ?_
          obtain ⟨q15, h⟩ := h
          refine z_iadd dX10_closeTable_121 q15 ?_
          obtain ⟨q16, h⟩ := h
          refine w_iast hn hW hbr0 dX10_closeTable_122 hr0 q16 ?_
          obtain ⟨q17, h⟩ := h
          refine y_iinc (ls' := [(2, r0), (0, x1), (0, x2), (0, x3), (0, (x4 + 1)), (0, (M r0 ((x3 * x1) + x2))), (0, (M r0 ((x2 * x1) + x4))), (0, (M r0 ((x3 * x1) + x4)))]) dX10_closeTable_123 rfl rfl q17 rfl ?_
          refine z_goto (tgt := 47) dX10_closeTable_126 rfl ?_
          refine z_sub (ls' := [(2, r0), (0, x1), (0, x2), (0, x3), (0, (x4 + 1)), (9, 0), (9, 0), (9, 0)]) ⟨Or.inl rfl, Or.inl rfl, Or.inl rfl, Or.inl rfl, Or.inl rfl, Or.inr rfl, Or.inr rfl, Or.inr rfl, trivial⟩ ?_
          exact h
        · replace h := h.2 q
          refine z_iload dX10_closeTable_100 rfl ?_
          refine z_iload dX10_closeTable_102 rfl ?_
          obtain ⟨q18, h⟩ := h
          refine z_iadd dX10_closeTable_104 q18 ?_
          refine z_iload dX10_closeTable_105 rfl ?_
          refine z_icmpge (tgt := 123) dX10_closeTable_107 rfl (fun q => ?_) (fun q => ?_)
          · replace h := h.1 q
            obtain ⟨q19, h⟩ := h
            refine y_iinc (ls' := [(2, r0), (0, x1), (0, x2), (0, x3), (0, (x4 + 1)), (0, (M r0 ((x3 * x1) + x2))), (0, (M r0 ((x2 * x1) + x4))), (0, (M r0 ((x3 * x1) + x4)))]) dX10_closeTable_123 rfl rfl q19 rfl ?_
            refine z_goto (tgt := 47) dX10_closeTable_126 rfl ?_
            refine z_sub (ls' := [(2, r0), (0, x1), (0, x2), (0, x3), (0, (x4 + 1)), (9, 0), (9, 0), (9, 0)]) ⟨Or.inl rfl, Or.inl rfl, Or.inl rfl, Or.inl rfl, Or.inl rfl, Or.inr rfl, Or.inr rfl, Or.inr rfl, trivial⟩ ?_
            exact h
          · replace h := h.2 q
            refine z_aloadn dX10_closeTable_110 rfl (Or.inl rfl) ?_
            refine z_iloadn dX10_closeTable_111 rfl ?_
            refine z_iloadn dX10_closeTable_112 rfl ?_
            obtain ⟨q20, h⟩ := h
            refine z_imul dX10_closeTable_113 q20 ?_
            refine z_iload dX10_closeTable_114 rfl ?_
            obtain ⟨q21, h⟩ := h
            refine z_iadd dX10_closeTable_116 q21 ?_
            refine z_iload dX10_closeTable_117 rfl ?_
            refine z_iload dX10_closeTable_119 rfl ?_
            obtain ⟨q22, h⟩ := h
            refine z_iadd dX10_closeTable_121 q22 ?_
            obtain ⟨q23, h⟩ := h
            refine w_iast hn hW hbr0 dX10_closeTable_122 hr0 q23 ?_
            obtain ⟨q24, h⟩ := h
            refine y_iinc (ls' := [(2, r0), (0, x1), (0, x2), (0, x3), (0, (x4 + 1)), (0, (M r0 ((x3 * x1) + x2))), (0, (M r0 ((x2 * x1) + x4))), (0, (M r0 ((x3 * x1) + x4)))]) dX10_closeTable_123 rfl rfl q24 rfl ?_
            refine z_goto (tgt := 47) dX10_closeTable_126 rfl ?_
            refine z_sub (ls' := [(2, r0), (0, x1), (0, x2), (0, x3), (0, (x4 + 1)), (9, 0), (9, 0), (9, 0)]) ⟨Or.inl rfl, Or.inl rfl, Or.inl rfl, Or.inl rfl, Or.inl rfl, Or.inr rfl, Or.inr rfl, Or.inr rfl, trivial⟩ ?_
            exact h
theorem sw_within {G : zG} {d n : Nat} {M : zM} {Q : zV → zM → Prop} (hn : 11 ≤ n) (hW : zW G) {x0 x1 x2 : Int} (h1 : x1 ≤ x0 ∧ x0 ≤ x2 → Q (0, 1) M) (h0 : ¬ (x1 ≤ x0 ∧ x0 ≤ x2) → Q (0, 0) M) : Yw n G d mX11_within 0 [(0, x0), (0, x1), (0, x2)] [] M Q :=
  wX11_within_0 hn hW ⟨fun q => h0 (by omega), fun q => ⟨fun q2 => h0 (by omega), fun q2 => h1 ⟨q, q2⟩⟩⟩
set_option maxRecDepth 20000 in
set_option maxHeartbeats 4000000 in
theorem wX10_joinParent_0 {G : zG} {d : Nat} {M : zM} {Q : zV → zM → Prop} {n : Nat} (hn : 11 ≤ n) (hW : zW G) {x1 x2 : Int}
    (h : (-2147483648 ≤ (M 2 4) - 1 ∧ (M 2 4) - 1 ≤ 2147483647) ∧ ((0 ≤ x2 ∧ x2 ≤ ((M 2 4) - 1) → (-2147483648 ≤ x1 * 8 ∧ x1 * 8 ≤ 2147483647) ∧ (-2147483648 ≤ (x1 * 8) + x2 ∧ (x1 * 8) + x2 ≤ 2147483647) ∧ (0 ≤ ((x1 * 8) + x2) ∧ ((x1 * 8) + x2) < 64) ∧ (-2147483648 ≤ x2 * 8 ∧ x2 * 8 ≤ 2147483647) ∧ (-2147483648 ≤ (x2 * 8) + x1 ∧ (x2 * 8) + x1 ≤ 2147483647) ∧ (0 ≤ ((x2 * 8) + x1) ∧ ((x2 * 8) + x1) < 64) ∧ (0 ≤ x2 ∧ x2 < 8) ∧ (-2147483648 ≤ (M 10 x2) + 1 ∧ (M 10 x2) + 1 ≤ 2147483647) ∧ (0 ≤ x2 ∧ x2 < 8) ∧ Q (9, 0) (zset (zset (zset M 8 ((x1 * 8) + x2) 1) 8 ((x2 * 8) + x1) 1) 10 x2 ((M 10 x2) + 1))) ∧ (¬ (0 ≤ x2 ∧ x2 ≤ ((M 2 4) - 1)) → Q (9, 0) M))) :
    Yw n G (d + 1) mX10_joinParent 0 [(2, 2), (0, x1), (0, x2)] [] M Q := by
  refine z_iloadn dX10_joinParent_0 rfl ?_
  refine z_iconst dX10_joinParent_1 ki_0 ?_
  refine z_aloadn dX10_joinParent_2 rfl (Or.inl rfl) ?_
  refine w_getf (x := (M 2 4)) hn (by decide) dX10_joinParent_3 fX10_49 sh2 (by decide) rfl rfl ?_
  refine z_iconst dX10_joinParent_6 ki_1 ?_
  obtain ⟨q1, h⟩ := h
  refine z_isub dX10_joinParent_7 q1 ?_
  refine w_cs (mt2 := mX11_within) (en := [(0, x2), (0, 0), (0, ((M 2 4) - 1))]) (st := []) (as := [(0, x2), (0, 0), (0, ((M 2 4) - 1))]) dX10_joinParent_8 lX10_45 kX11_within tX11_within rfl (Nat.le_of_ble_eq_true rfl) (Nat.le_of_ble_eq_true rfl) rfl (sw_within hn hW (fun q => ?_) (fun q => ?_))
  · replace h := h.1 q
    show Yw n G (d + 1) mX10_joinParent 11 [(2, 2), (0, x1), (0, x2)] [(0, 1)] M Q
    refine z_ifeq (tgt := 48) dX10_joinParent_11 rfl (fun q => absurd q (by decide)) (fun _ => ?_)
    refine z_aloadn dX10_joinParent_14 rfl (Or.inl rfl) ?_
    refine w_getr (v := 8) hn hW (by decide) dX10_joinParent_15 fX10_27 sh2 (by decide) rfl (by decide +kernel) (by decide) ?_
    refine z_iloadn dX10_joinParent_18 rfl ?_
    refine z_bipush dX10_joinParent_19 kb_8 ?_
    obtain ⟨q2, h⟩ := h
    refine z_imul dX10_joinParent_21 q2 ?_
    refine z_iloadn dX10_joinParent_22 rfl ?_
    obtain ⟨q3, h⟩ := h
    refine z_iadd dX10_joinParent_23 q3 ?_
    refine z_iconst dX10_joinParent_24 ki_1 ?_
    obtain ⟨q4, h⟩ := h
    refine w_iast hn hW (by decide) dX10_joinParent_25 sh8 q4 ?_
    refine z_aloadn dX10_joinParent_26 rfl (Or.inl rfl) ?_
    refine w_getr (v := 8) hn hW (by decide) dX10_joinParent_27 fX10_27 sh2 (by decide) rfl (by decide +kernel) (by decide) ?_
    refine z_iloadn dX10_joinParent_30 rfl ?_
    refine z_bipush dX10_joinParent_31 kb_8 ?_
    obtain ⟨q5, h⟩ := h
    refine z_imul dX10_joinParent_33 q5 ?_
    refine z_iloadn dX10_joinParent_34 rfl ?_
    obtain ⟨q6, h⟩ := h
    refine z_iadd dX10_joinParent_35 q6 ?_
    refine z_iconst dX10_joinParent_36 ki_1 ?_
    obtain ⟨q7, h⟩ := h
    refine w_iast hn hW (by decide) dX10_joinParent_37 sh8 q7 ?_
    refine z_aloadn dX10_joinParent_38 rfl (Or.inl rfl) ?_
    refine w_getr (v := 10) hn hW (by decide) dX10_joinParent_39 fX10_33 sh2 (by decide) rfl (by decide +kernel) (by decide) ?_
    refine z_iloadn dX10_joinParent_42 rfl ?_
    refine z_dup2 dX10_joinParent_43 (show (0 : Nat) ≠ 1 by decide) (show (2 : Nat) ≠ 1 by decide) ?_
    obtain ⟨q8, h⟩ := h
    refine w_iald (x := (M 10 x2)) hn (by decide) dX10_joinParent_44 sh10 q8 (((zset_ne (fun q => absurd q.1 (by decide))).trans (zset_ne (fun q => absurd q.1 (by decide))))) ?_
    refine z_iconst dX10_joinParent_45 ki_1 ?_
    obtain ⟨q9, h⟩ := h
    refine z_iadd dX10_joinParent_46 q9 ?_
    obtain ⟨q10, h⟩ := h
    refine w_iast hn hW (by decide) dX10_joinParent_47 sh10 q10 ?_
    exact z_return dX10_joinParent_48 rfl rfl h
  · replace h := h.2 q
    show Yw n G (d + 1) mX10_joinParent 11 [(2, 2), (0, x1), (0, x2)] [(0, 0)] M Q
    refine z_ifeq (tgt := 48) dX10_joinParent_11 rfl (fun _ => ?_) (fun q => absurd q (by decide))
    exact z_return dX10_joinParent_48 rfl rfl h
set_option maxRecDepth 20000 in
set_option maxHeartbeats 4000000 in
theorem wX10_measureKin_0 {G : zG} {d : Nat} {M : zM} {Q : zV → zM → Prop} {n : Nat} (hn : 11 ≤ n) (hW : zW G)
    (h : Yw n G d mJ7_fill_53178 0 [(2, 8), (0, (-1)), (9, 0), (9, 0)] [] M (fun r M' => Yw n G (d + 1) mX10_measureKin 8 [(2, 2), (9, 0)] (zpush r []) M' Q)) :
    Yw n G (d + 1) mX10_measureKin 0 [(2, 2), (9, 0)] [] M Q := by
  refine z_aloadn dX10_measureKin_0 rfl (Or.inl rfl) ?_
  refine w_getr (v := 8) hn hW (by decide) dX10_measureKin_1 fX10_27 sh2 (by decide) rfl (by decide +kernel) (by decide) ?_
  refine z_iconst dX10_measureKin_4 ki_m1 ?_
  refine w_cs (mt2 := mJ7_fill_53178) (en := [(2, 8), (0, (-1)), (9, 0), (9, 0)]) (st := []) (as := [(2, 8), (0, (-1))]) dX10_measureKin_5 lX10_53 kJ7_fill_53178 tJ7_fill_53178 rfl (Nat.le_of_ble_eq_true rfl) (Nat.le_of_ble_eq_true rfl) rfl ?_
  exact h
set_option maxRecDepth 20000 in
set_option maxHeartbeats 4000000 in
theorem wX10_measureKin_18 {G : zG} {d : Nat} {M : zM} {Q : zV → zM → Prop} {n : Nat} (hn : 11 ≤ n) (hW : zW G) {x1 : Int}
    (h : (((M 2 4) ≤ x1 → Yw n G d mX10_closeTable 0 [(2, 8), (0, 8), (9, 0), (9, 0), (9, 0), (9, 0), (9, 0), (9, 0)] [] M (fun r M' => Yw n G (d + 1) mX10_measureKin 63 [(2, 2), (0, x1)] (zpush r []) M' Q)) ∧ (x1 < (M 2 4) → (0 ≤ x1 ∧ x1 < 8) ∧ Yw n G d mX10_joinParent 0 [(2, 2), (0, x1), (0, (M 5 x1))] [] M (fun r M' => Yw n G (d + 1) mX10_measureKin 37 [(2, 2), (0, x1)] (zpush r []) M' Q)))) :
    Yw n G (d + 1) mX10_measureKin 18 [(2, 2), (0, x1)] [] M Q := by
  refine z_iloadn dX10_measureKin_18 rfl ?_
  refine z_aloadn dX10_measureKin_19 rfl (Or.inl rfl) ?_
  refine w_getf (x := (M 2 4)) hn (by decide) dX10_measureKin_20 fX10_49 sh2 (by decide) rfl rfl ?_
  refine z_icmpge (tgt := 54) dX10_measureKin_23 rfl (fun q => ?_) (fun q => ?_)
  · replace h := h.1 q
    refine z_aloadn dX10_measureKin_54 rfl (Or.inl rfl) ?_
    refine w_getr (v := 8) hn hW (by decide) dX10_measureKin_55 fX10_27 sh2 (by decide) rfl (by decide +kernel) (by decide) ?_
    refine z_bipush dX10_measureKin_58 kb_8 ?_
    refine w_cs (mt2 := mX10_closeTable) (en := [(2, 8), (0, 8), (9, 0), (9, 0), (9, 0), (9, 0), (9, 0), (9, 0)]) (st := []) (as := [(2, 8), (0, 8)]) dX10_measureKin_60 lX10_63 kX10_closeTable tX10_closeTable rfl (Nat.le_of_ble_eq_true rfl) (Nat.le_of_ble_eq_true rfl) rfl ?_
    exact h
  · replace h := h.2 q
    refine z_aloadn dX10_measureKin_26 rfl (Or.inl rfl) ?_
    refine z_iloadn dX10_measureKin_27 rfl ?_
    refine z_aloadn dX10_measureKin_28 rfl (Or.inl rfl) ?_
    refine w_getr (v := 5) hn hW (by decide) dX10_measureKin_29 fX10_18 sh2 (by decide) rfl (by decide +kernel) (by decide) ?_
    refine z_iloadn dX10_measureKin_32 rfl ?_
    obtain ⟨q1, h⟩ := h
    refine w_iald (x := (M 5 x1)) hn (by decide) dX10_measureKin_33 sh5 q1 rfl ?_
    refine w_cv (mt2 := mX10_joinParent) (en := [(2, 2), (0, x1), (0, (M 5 x1))]) (st := []) (as := [(0, x1), (0, (M 5 x1))]) hn (by decide) dX10_measureKin_34 lX10_59 kX10_joinParent iX10_joinParent eX10_joinParent rfl sh2 (by decide +kernel) (Nat.le_of_ble_eq_true rfl) (Nat.le_of_ble_eq_true rfl) rfl ?_
    exact h
set_option maxRecDepth 20000 in
set_option maxHeartbeats 4000000 in
theorem wX10_measureKin_8 {G : zG} {d : Nat} {M : zM} {Q : zV → zM → Prop} {n : Nat} (hn : 11 ≤ n) (hW : zW G)
    (h : Yw n G d mJ7_fill_53178 0 [(2, 10), (0, 0), (9, 0), (9, 0)] [] M (fun r M' => Yw n G (d + 1) mX10_measureKin 16 [(2, 2), (9, 0)] (zpush r []) M' Q)) :
    Yw n G (d + 1) mX10_measureKin 8 [(2, 2), (9, 0)] [] M Q := by
  refine z_aloadn dX10_measureKin_8 rfl (Or.inl rfl) ?_
  refine w_getr (v := 10) hn hW (by decide) dX10_measureKin_9 fX10_33 sh2 (by decide) rfl (by decide +kernel) (by decide) ?_
  refine z_iconst dX10_measureKin_12 ki_0 ?_
  refine w_cs (mt2 := mJ7_fill_53178) (en := [(2, 10), (0, 0), (9, 0), (9, 0)]) (st := []) (as := [(2, 10), (0, 0)]) dX10_measureKin_13 lX10_53 kJ7_fill_53178 tJ7_fill_53178 rfl (Nat.le_of_ble_eq_true rfl) (Nat.le_of_ble_eq_true rfl) rfl ?_
  exact h
set_option maxRecDepth 20000 in
set_option maxHeartbeats 4000000 in
theorem wX10_measureKin_63 {G : zG} {d : Nat} {M : zM} {Q : zV → zM → Prop} {n : Nat} (hn : 11 ≤ n) (hW : zW G) {x1 : Int}
    (h : (-2147483648 ≤ (M 2 10) + 1 ∧ (M 2 10) + 1 ≤ 2147483647) ∧ Q (9, 0) (zset M 2 10 ((M 2 10) + 1))) :
    Yw n G (d + 1) mX10_measureKin 63 [(2, 2), (0, x1)] [] M Q := by
  refine z_aloadn dX10_measureKin_63 rfl (Or.inl rfl) ?_
  refine z_dup dX10_measureKin_64 (show (2 : Nat) ≠ 1 by decide) ?_
  refine w_getf (x := (M 2 10)) hn (by decide) dX10_measureKin_65 fX10_66 sh2 (by decide) rfl rfl ?_
  refine z_iconst dX10_measureKin_68 ki_1 ?_
  obtain ⟨q1, h⟩ := h
  refine z_iadd dX10_measureKin_69 q1 ?_
  refine w_putf (M' := zset M 2 10 ((M 2 10) + 1)) hn hW (by decide) dX10_measureKin_70 fX10_66 sh2 (by decide) ⟨rfl, rfl⟩ p10_10 (fun q => absurd q (by decide)) (by decide) rfl ?_
  exact z_return dX10_measureKin_73 rfl rfl h
set_option maxRecDepth 20000 in
set_option maxHeartbeats 4000000 in
theorem wX10_measureKin_37 {G : zG} {d : Nat} {M : zM} {Q : zV → zM → Prop} {n : Nat} (hn : 11 ≤ n) (hW : zW G) {x1 : Int}
    (h : (0 ≤ x1 ∧ x1 < 8) ∧ Yw n G d mX10_joinParent 0 [(2, 2), (0, x1), (0, (M 6 x1))] [] M (fun r M' => Yw n G (d + 1) mX10_measureKin 48 [(2, 2), (0, x1)] (zpush r []) M' Q)) :
    Yw n G (d + 1) mX10_measureKin 37 [(2, 2), (0, x1)] [] M Q := by
  refine z_aloadn dX10_measureKin_37 rfl (Or.inl rfl) ?_
  refine z_iloadn dX10_measureKin_38 rfl ?_
  refine z_aloadn dX10_measureKin_39 rfl (Or.inl rfl) ?_
  refine w_getr (v := 6) hn hW (by decide) dX10_measureKin_40 fX10_21 sh2 (by decide) rfl (by decide +kernel) (by decide) ?_
  refine z_iloadn dX10_measureKin_43 rfl ?_
  obtain ⟨q1, h⟩ := h
  refine w_iald (x := (M 6 x1)) hn (by decide) dX10_measureKin_44 sh6 q1 rfl ?_
  refine w_cv (mt2 := mX10_joinParent) (en := [(2, 2), (0, x1), (0, (M 6 x1))]) (st := []) (as := [(0, x1), (0, (M 6 x1))]) hn (by decide) dX10_measureKin_45 lX10_59 kX10_joinParent iX10_joinParent eX10_joinParent rfl sh2 (by decide +kernel) (Nat.le_of_ble_eq_true rfl) (Nat.le_of_ble_eq_true rfl) rfl ?_
  exact h
set_option maxRecDepth 20000 in
set_option maxHeartbeats 4000000 in
theorem wX10_measureKin_16 {G : zG} {d : Nat} {M : zM} {Q : zV → zM → Prop} {n : Nat} (hn : 11 ≤ n) (hW : zW G)
    (h : Yw n G (d + 1) mX10_measureKin 18 [(2, 2), (0, 0)] [] M Q) :
    Yw n G (d + 1) mX10_measureKin 16 [(2, 2), (9, 0)] [] M Q := by
  refine z_iconst dX10_measureKin_16 ki_0 ?_
  refine y_istoren (ls' := [(2, 2), (0, 0)]) dX10_measureKin_17 rfl rfl ?_
  exact h
set_option maxRecDepth 20000 in
set_option maxHeartbeats 4000000 in
theorem wX10_measureKin_48 {G : zG} {d : Nat} {M : zM} {Q : zV → zM → Prop} {n : Nat} (hn : 11 ≤ n) (hW : zW G) {x1 : Int}
    (h : (-2147483648 ≤ x1 + 1 ∧ x1 + 1 ≤ 2147483647) ∧ Yw n G (d + 1) mX10_measureKin 18 [(2, 2), (0, (x1 + 1))] [] M Q) :
    Yw n G (d + 1) mX10_measureKin 48 [(2, 2), (0, x1)] [] M Q := by
  obtain ⟨q1, h⟩ := h
  refine y_iinc (ls' := [(2, 2), (0, (x1 + 1))]) dX10_measureKin_48 rfl rfl q1 rfl ?_
  refine z_goto (tgt := 18) dX10_measureKin_51 rfl ?_
  exact h
set_option maxRecDepth 20000 in
set_option maxHeartbeats 4000000 in
theorem wX10_measureWays_0 {G : zG} {d : Nat} {M : zM} {Q : zV → zM → Prop} {n : Nat} (hn : 11 ≤ n) (hW : zW G)
    (h : Yw n G (d + 1) mX10_measureWays 2 [(2, 2), (0, 0)] [] M Q) :
    Yw n G (d + 1) mX10_measureWays 0 [(2, 2), (9, 0)] [] M Q := by
  refine z_iconst dX10_measureWays_0 ki_0 ?_
  refine y_istoren (ls' := [(2, 2), (0, 0)]) dX10_measureWays_1 rfl rfl ?_
  exact h
set_option maxRecDepth 20000 in
set_option maxHeartbeats 4000000 in
theorem wX10_measureWays_2 {G : zG} {d : Nat} {M : zM} {Q : zV → zM → Prop} {n : Nat} (hn : 11 ≤ n) (hW : zW G) {x1 : Int}
    (h : ((36 ≤ x1 → Yw n G d mX10_closeTable 0 [(2, 9), (0, 6), (9, 0), (9, 0), (9, 0), (9, 0), (9, 0), (9, 0)] [] M (fun r M' => Yw n G (d + 1) mX10_measureWays 48 [(2, 2), (0, x1)] (zpush r []) M' Q)) ∧ (x1 < 36 → (0 ≤ x1 ∧ x1 < 36) ∧ (((M 7 x1) ≤ 0 → (0 ≤ x1 ∧ x1 < 36) ∧ (-2147483648 ≤ x1 + 1 ∧ x1 + 1 ≤ 2147483647) ∧ Yw n G (d + 1) mX10_measureWays 2 [(2, 2), (0, (x1 + 1))] [] (zset M 9 x1 (-1)) Q) ∧ (0 < (M 7 x1) → (0 ≤ x1 ∧ x1 < 36) ∧ (0 ≤ x1 ∧ x1 < 36) ∧ (-2147483648 ≤ x1 + 1 ∧ x1 + 1 ≤ 2147483647) ∧ Yw n G (d + 1) mX10_measureWays 2 [(2, 2), (0, (x1 + 1))] [] (zset M 9 x1 (M 7 x1)) Q))))) :
    Yw n G (d + 1) mX10_measureWays 2 [(2, 2), (0, x1)] [] M Q := by
  refine z_iloadn dX10_measureWays_2 rfl ?_
  refine z_bipush dX10_measureWays_3 kb_36 ?_
  refine z_icmpge (tgt := 39) dX10_measureWays_5 rfl (fun q => ?_) (fun q => ?_)
  · replace h := h.1 q
    refine z_aloadn dX10_measureWays_39 rfl (Or.inl rfl) ?_
    refine w_getr (v := 9) hn hW (by decide) dX10_measureWays_40 fX10_30 sh2 (by decide) rfl (by decide +kernel) (by decide) ?_
    refine z_bipush dX10_measureWays_43 kb_6 ?_
    refine w_cs (mt2 := mX10_closeTable) (en := [(2, 9), (0, 6), (9, 0), (9, 0), (9, 0), (9, 0), (9, 0), (9, 0)]) (st := []) (as := [(2, 9), (0, 6)]) dX10_measureWays_45 lX10_63 kX10_closeTable tX10_closeTable rfl (Nat.le_of_ble_eq_true rfl) (Nat.le_of_ble_eq_true rfl) rfl ?_
    exact h
  · replace h := h.2 q
    refine z_aloadn dX10_measureWays_8 rfl (Or.inl rfl) ?_
    refine w_getr (v := 9) hn hW (by decide) dX10_measureWays_9 fX10_30 sh2 (by decide) rfl (by decide +kernel) (by decide) ?_
    refine z_iloadn dX10_measureWays_12 rfl ?_
    refine z_aloadn dX10_measureWays_13 rfl (Or.inl rfl) ?_
    refine w_getr (v := 7) hn hW (by decide) dX10_measureWays_14 fX10_24 sh2 (by decide) rfl (by decide +kernel) (by decide) ?_
    refine z_iloadn dX10_measureWays_17 rfl ?_
    obtain ⟨q1, h⟩ := h
    refine w_iald (x := (M 7 x1)) hn (by decide) dX10_measureWays_18 sh7 q1 rfl ?_
    refine z_ifle (tgt := 31) dX10_measureWays_19 rfl (fun q => ?_) (fun q => ?_)
    · replace h := h.1 q
      refine z_iconst dX10_measureWays_31 ki_m1 ?_
      obtain ⟨q2, h⟩ := h
      refine w_iast hn hW (by decide) dX10_measureWays_32 sh9 q2 ?_
      obtain ⟨q3, h⟩ := h
      refine y_iinc (ls' := [(2, 2), (0, (x1 + 1))]) dX10_measureWays_33 rfl rfl q3 rfl ?_
      refine z_goto (tgt := 2) dX10_measureWays_36 rfl ?_
      exact h
    · replace h := h.2 q
      refine z_aloadn dX10_measureWays_22 rfl (Or.inl rfl) ?_
      refine w_getr (v := 7) hn hW (by decide) dX10_measureWays_23 fX10_24 sh2 (by decide) rfl (by decide +kernel) (by decide) ?_
      refine z_iloadn dX10_measureWays_26 rfl ?_
      obtain ⟨q4, h⟩ := h
      refine w_iald (x := (M 7 x1)) hn (by decide) dX10_measureWays_27 sh7 q4 rfl ?_
      refine z_goto (tgt := 32) dX10_measureWays_28 rfl ?_
      obtain ⟨q5, h⟩ := h
      refine w_iast hn hW (by decide) dX10_measureWays_32 sh9 q5 ?_
      obtain ⟨q6, h⟩ := h
      refine y_iinc (ls' := [(2, 2), (0, (x1 + 1))]) dX10_measureWays_33 rfl rfl q6 rfl ?_
      refine z_goto (tgt := 2) dX10_measureWays_36 rfl ?_
      exact h
set_option maxRecDepth 20000 in
set_option maxHeartbeats 4000000 in
theorem wX10_measureWays_48 {G : zG} {d : Nat} {M : zM} {Q : zV → zM → Prop} {n : Nat} (hn : 11 ≤ n) (hW : zW G) {x1 : Int}
    (h : (-2147483648 ≤ (M 2 10) + 1 ∧ (M 2 10) + 1 ≤ 2147483647) ∧ Q (9, 0) (zset M 2 10 ((M 2 10) + 1))) :
    Yw n G (d + 1) mX10_measureWays 48 [(2, 2), (0, x1)] [] M Q := by
  refine z_aloadn dX10_measureWays_48 rfl (Or.inl rfl) ?_
  refine z_dup dX10_measureWays_49 (show (2 : Nat) ≠ 1 by decide) ?_
  refine w_getf (x := (M 2 10)) hn (by decide) dX10_measureWays_50 fX10_66 sh2 (by decide) rfl rfl ?_
  refine z_iconst dX10_measureWays_53 ki_1 ?_
  obtain ⟨q1, h⟩ := h
  refine z_iadd dX10_measureWays_54 q1 ?_
  refine w_putf (M' := zset M 2 10 ((M 2 10) + 1)) hn hW (by decide) dX10_measureWays_55 fX10_66 sh2 (by decide) ⟨rfl, rfl⟩ p10_10 (fun q => absurd q (by decide)) (by decide) rfl ?_
  exact z_return dX10_measureWays_58 rfl rfl h
