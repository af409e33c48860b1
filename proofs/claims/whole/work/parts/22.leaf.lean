set_option maxRecDepth 20000 in
set_option maxHeartbeats 4000000 in
theorem bX11_within_0 {G : zG} {d : Nat} {M : zM} {Q : zV → zM → Prop} (hG : zP G) {x0 x1 x2 : Int}
    (h : ((x0 < x1 → Q (0, 0) M) ∧ (x1 ≤ x0 → ((x2 < x0 → Q (0, 0) M) ∧ (x0 ≤ x2 → Q (0, 1) M))))) :
    Y G d mX11_within 0 [(0, x0), (0, x1), (0, x2)] [] M Q := by
  refine z_iloadn dX11_within_0 rfl ?_
  refine z_iloadn dX11_within_1 rfl ?_
  refine z_icmplt (tgt := 14) dX11_within_2 rfl (fun q => ?_) (fun q => ?_)
  · replace h := h.1 q
    refine z_iconst dX11_within_14 ki_0 ?_
    exact z_ireturn dX11_within_15 (Or.inr ⟨rfl, ⟨by decide, by decide⟩⟩) rfl h
  · replace h := h.2 q
    refine z_iloadn dX11_within_5 rfl ?_
    refine z_iloadn dX11_within_6 rfl ?_
    refine z_icmpgt (tgt := 14) dX11_within_7 rfl (fun q => ?_) (fun q => ?_)
    · replace h := h.1 q
      refine z_iconst dX11_within_14 ki_0 ?_
      exact z_ireturn dX11_within_15 (Or.inr ⟨rfl, ⟨by decide, by decide⟩⟩) rfl h
    · replace h := h.2 q
      refine z_iconst dX11_within_10 ki_1 ?_
      refine z_goto (tgt := 15) dX11_within_11 rfl ?_
      exact z_ireturn dX11_within_15 (Or.inr ⟨rfl, ⟨by decide, by decide⟩⟩) rfl h
set_option maxRecDepth 20000 in
set_option maxHeartbeats 4000000 in
theorem bX12_isIn_0 {G : zG} {d : Nat} {M : zM} {Q : zV → zM → Prop} (hG : zP G) {x0 x1 x2 : Int}
    (h : ((x0 < x1 → Q (0, 0) M) ∧ (x1 ≤ x0 → ((x2 < x0 → Q (0, 0) M) ∧ (x0 ≤ x2 → Q (0, 1) M))))) :
    Y G d mX12_isIn 0 [(0, x0), (0, x1), (0, x2)] [] M Q := by
  refine z_iloadn dX12_isIn_0 rfl ?_
  refine z_iloadn dX12_isIn_1 rfl ?_
  refine z_icmplt (tgt := 14) dX12_isIn_2 rfl (fun q => ?_) (fun q => ?_)
  · replace h := h.1 q
    refine z_iconst dX12_isIn_14 ki_0 ?_
    exact z_ireturn dX12_isIn_15 (Or.inr ⟨rfl, ⟨by decide, by decide⟩⟩) rfl h
  · replace h := h.2 q
    refine z_iloadn dX12_isIn_5 rfl ?_
    refine z_iloadn dX12_isIn_6 rfl ?_
    refine z_icmpgt (tgt := 14) dX12_isIn_7 rfl (fun q => ?_) (fun q => ?_)
    · replace h := h.1 q
      refine z_iconst dX12_isIn_14 ki_0 ?_
      exact z_ireturn dX12_isIn_15 (Or.inr ⟨rfl, ⟨by decide, by decide⟩⟩) rfl h
    · replace h := h.2 q
      refine z_iconst dX12_isIn_10 ki_1 ?_
      refine z_goto (tgt := 15) dX12_isIn_11 rfl ?_
      exact z_ireturn dX12_isIn_15 (Or.inr ⟨rfl, ⟨by decide, by decide⟩⟩) rfl h
set_option maxRecDepth 20000 in
set_option maxHeartbeats 4000000 in
theorem bX12_has_0 {G : zG} {d : Nat} {M : zM} {Q : zV → zM → Prop} (hG : zP G) {x0 x1 : Int}
    (h : ((¬ (zand (zshr x0 x1) 1) = 1 → Q (0, 0) M) ∧ ((zand (zshr x0 x1) 1) = 1 → Q (0, 1) M))) :
    Y G d mX12_has 0 [(0, x0), (0, x1)] [] M Q := by
  refine z_iloadn dX12_has_0 rfl ?_
  refine z_iloadn dX12_has_1 rfl ?_
  refine z_ishr dX12_has_2 ?_
  refine z_iconst dX12_has_3 ki_1 ?_
  refine z_iand dX12_has_4 ?_
  refine z_iconst dX12_has_5 ki_1 ?_
  refine z_icmpne (tgt := 13) dX12_has_6 rfl (fun q => ?_) (fun q => ?_)
  · replace h := h.1 q
    refine z_iconst dX12_has_13 ki_0 ?_
    exact z_ireturn dX12_has_14 (Or.inr ⟨rfl, ⟨by decide, by decide⟩⟩) rfl h
  · replace h := h.2 q
    refine z_iconst dX12_has_9 ki_1 ?_
    refine z_goto (tgt := 14) dX12_has_10 rfl ?_
    exact z_ireturn dX12_has_14 (Or.inr ⟨rfl, ⟨by decide, by decide⟩⟩) rfl h
set_option maxRecDepth 20000 in
set_option maxHeartbeats 4000000 in
theorem bX8_isDigit_0 {G : zG} {d : Nat} {M : zM} {Q : zV → zM → Prop} (hG : zP G) {x0 : Int}
    (h : ((x0 < 48 → Q (0, 0) M) ∧ (48 ≤ x0 → ((57 < x0 → Q (0, 0) M) ∧ (x0 ≤ 57 → Q (0, 1) M))))) :
    Y G d mX8_isDigit 0 [(0, x0)] [] M Q := by
  refine z_iloadn dX8_isDigit_0 rfl ?_
  refine z_bipush dX8_isDigit_1 kb_48 ?_
  refine z_icmplt (tgt := 16) dX8_isDigit_3 rfl (fun q => ?_) (fun q => ?_)
  · replace h := h.1 q
    refine z_iconst dX8_isDigit_16 ki_0 ?_
    exact z_ireturn dX8_isDigit_17 (Or.inr ⟨rfl, ⟨by decide, by decide⟩⟩) rfl h
  · replace h := h.2 q
    refine z_iloadn dX8_isDigit_6 rfl ?_
    refine z_bipush dX8_isDigit_7 kb_57 ?_
    refine z_icmpgt (tgt := 16) dX8_isDigit_9 rfl (fun q => ?_) (fun q => ?_)
    · replace h := h.1 q
      refine z_iconst dX8_isDigit_16 ki_0 ?_
      exact z_ireturn dX8_isDigit_17 (Or.inr ⟨rfl, ⟨by decide, by decide⟩⟩) rfl h
    · replace h := h.2 q
      refine z_iconst dX8_isDigit_12 ki_1 ?_
      refine z_goto (tgt := 17) dX8_isDigit_13 rfl ?_
      exact z_ireturn dX8_isDigit_17 (Or.inr ⟨rfl, ⟨by decide, by decide⟩⟩) rfl h
set_option maxRecDepth 20000 in
set_option maxHeartbeats 4000000 in
theorem bX8_isLetter_0 {G : zG} {d : Nat} {M : zM} {Q : zV → zM → Prop} (hG : zP G) {x0 : Int}
    (h : ((x0 < 97 → ((x0 < 65 → Q (0, 0) M) ∧ (65 ≤ x0 → ((90 < x0 → Q (0, 0) M) ∧ (x0 ≤ 90 → Q (0, 1) M))))) ∧ (97 ≤ x0 → ((x0 ≤ 122 → Q (0, 1) M) ∧ (122 < x0 → ((x0 < 65 → Q (0, 0) M) ∧ (65 ≤ x0 → ((90 < x0 → Q (0, 0) M) ∧ (x0 ≤ 90 → Q (0, 1) M))))))))) :
    Y G d mX8_isLetter 0 [(0, x0)] [] M Q := by
  refine z_iloadn dX8_isLetter_0 rfl ?_
  refine z_bipush dX8_isLetter_1 kb_97 ?_
  refine z_icmplt (tgt := 12) dX8_isLetter_3 rfl (fun q => ?_) (fun q => ?_)
  · replace h := h.1 q
    refine z_iloadn dX8_isLetter_12 rfl ?_
    refine z_bipush dX8_isLetter_13 kb_65 ?_
    refine z_icmplt (tgt := 28) dX8_isLetter_15 rfl (fun q => ?_) (fun q => ?_)
    · replace h := h.1 q
      refine z_iconst dX8_isLetter_28 ki_0 ?_
      exact z_ireturn dX8_isLetter_29 (Or.inr ⟨rfl, ⟨by decide, by decide⟩⟩) rfl h
    · replace h := h.2 q
      refine z_iloadn dX8_isLetter_18 rfl ?_
      refine z_bipush dX8_isLetter_19 kb_90 ?_
      refine z_icmpgt (tgt := 28) dX8_isLetter_21 rfl (fun q => ?_) (fun q => ?_)
      · replace h := h.1 q
        refine z_iconst dX8_isLetter_28 ki_0 ?_
        exact z_ireturn dX8_isLetter_29 (Or.inr ⟨rfl, ⟨by decide, by decide⟩⟩) rfl h
      · replace h := h.2 q
        refine z_iconst dX8_isLetter_24 ki_1 ?_
        refine z_goto (tgt := 29) dX8_isLetter_25 rfl ?_
        exact z_ireturn dX8_isLetter_29 (Or.inr ⟨rfl, ⟨by decide, by decide⟩⟩) rfl h
  · replace h := h.2 q
    refine z_iloadn dX8_isLetter_6 rfl ?_
    refine z_bipush dX8_isLetter_7 kb_122 ?_
    refine z_icmple (tgt := 24) dX8_isLetter_9 rfl (fun q => ?_) (fun q => ?_)
    · replace h := h.1 q
      refine z_iconst dX8_isLetter_24 ki_1 ?_
      refine z_goto (tgt := 29) dX8_isLetter_25 rfl ?_
      exact z_ireturn dX8_isLetter_29 (Or.inr ⟨rfl, ⟨by decide, by decide⟩⟩) rfl h
    · replace h := h.2 q
      refine z_iloadn dX8_isLetter_12 rfl ?_
      refine z_bipush dX8_isLetter_13 kb_65 ?_
      refine z_icmplt (tgt := 28) dX8_isLetter_15 rfl (fun q => ?_) (fun q => ?_)
      · replace h := h.1 q
        refine z_iconst dX8_isLetter_28 ki_0 ?_
        exact z_ireturn dX8_isLetter_29 (Or.inr ⟨rfl, ⟨by decide, by decide⟩⟩) rfl h
      · replace h := h.2 q
        refine z_iloadn dX8_isLetter_18 rfl ?_
        refine z_bipush dX8_isLetter_19 kb_90 ?_
        refine z_icmpgt (tgt := 28) dX8_isLetter_21 rfl (fun q => ?_) (fun q => ?_)
        · replace h := h.1 q
          refine z_iconst dX8_isLetter_28 ki_0 ?_
          exact z_ireturn dX8_isLetter_29 (Or.inr ⟨rfl, ⟨by decide, by decide⟩⟩) rfl h
        · replace h := h.2 q
          refine z_iconst dX8_isLetter_24 ki_1 ?_
          refine z_goto (tgt := 29) dX8_isLetter_25 rfl ?_
          exact z_ireturn dX8_isLetter_29 (Or.inr ⟨rfl, ⟨by decide, by decide⟩⟩) rfl h
set_option maxRecDepth 20000 in
set_option maxHeartbeats 4000000 in
theorem bX12_isLetterByte_0 {G : zG} {d : Nat} {M : zM} {Q : zV → zM → Prop} (hG : zP G) {x0 : Int}
    (h : ((x0 < 97 → ((x0 < 65 → Q (0, 0) M) ∧ (65 ≤ x0 → ((90 < x0 → Q (0, 0) M) ∧ (x0 ≤ 90 → Q (0, 1) M))))) ∧ (97 ≤ x0 → ((x0 ≤ 122 → Q (0, 1) M) ∧ (122 < x0 → ((x0 < 65 → Q (0, 0) M) ∧ (65 ≤ x0 → ((90 < x0 → Q (0, 0) M) ∧ (x0 ≤ 90 → Q (0, 1) M))))))))) :
    Y G d mX12_isLetterByte 0 [(0, x0)] [] M Q := by
  refine z_iloadn dX12_isLetterByte_0 rfl ?_
  refine z_bipush dX12_isLetterByte_1 kb_97 ?_
  refine z_icmplt (tgt := 12) dX12_isLetterByte_3 rfl (fun q => ?_) (fun q => ?_)
  · replace h := h.1 q
    refine z_iloadn dX12_isLetterByte_12 rfl ?_
    refine z_bipush dX12_isLetterByte_13 kb_65 ?_
    refine z_icmplt (tgt := 28) dX12_isLetterByte_15 rfl (fun q => ?_) (fun q => ?_)
    · replace h := h.1 q
      refine z_iconst dX12_isLetterByte_28 ki_0 ?_
      exact z_ireturn dX12_isLetterByte_29 (Or.inr ⟨rfl, ⟨by decide, by decide⟩⟩) rfl h
    · replace h := h.2 q
      refine z_iloadn dX12_isLetterByte_18 rfl ?_
      refine z_bipush dX12_isLetterByte_19 kb_90 ?_
      refine z_icmpgt (tgt := 28) dX12_isLetterByte_21 rfl (fun q => ?_) (fun q => ?_)
      · replace h := h.1 q
        refine z_iconst dX12_isLetterByte_28 ki_0 ?_
        exact z_ireturn dX12_isLetterByte_29 (Or.inr ⟨rfl, ⟨by decide, by decide⟩⟩) rfl h
      · replace h := h.2 q
        refine z_iconst dX12_isLetterByte_24 ki_1 ?_
        refine z_goto (tgt := 29) dX12_isLetterByte_25 rfl ?_
        exact z_ireturn dX12_isLetterByte_29 (Or.inr ⟨rfl, ⟨by decide, by decide⟩⟩) rfl h
  · replace h := h.2 q
    refine z_iloadn dX12_isLetterByte_6 rfl ?_
    refine z_bipush dX12_isLetterByte_7 kb_122 ?_
    refine z_icmple (tgt := 24) dX12_isLetterByte_9 rfl (fun q => ?_) (fun q => ?_)
    · replace h := h.1 q
      refine z_iconst dX12_isLetterByte_24 ki_1 ?_
      refine z_goto (tgt := 29) dX12_isLetterByte_25 rfl ?_
      exact z_ireturn dX12_isLetterByte_29 (Or.inr ⟨rfl, ⟨by decide, by decide⟩⟩) rfl h
    · replace h := h.2 q
      refine z_iloadn dX12_isLetterByte_12 rfl ?_
      refine z_bipush dX12_isLetterByte_13 kb_65 ?_
      refine z_icmplt (tgt := 28) dX12_isLetterByte_15 rfl (fun q => ?_) (fun q => ?_)
      · replace h := h.1 q
        refine z_iconst dX12_isLetterByte_28 ki_0 ?_
        exact z_ireturn dX12_isLetterByte_29 (Or.inr ⟨rfl, ⟨by decide, by decide⟩⟩) rfl h
      · replace h := h.2 q
        refine z_iloadn dX12_isLetterByte_18 rfl ?_
        refine z_bipush dX12_isLetterByte_19 kb_90 ?_
        refine z_icmpgt (tgt := 28) dX12_isLetterByte_21 rfl (fun q => ?_) (fun q => ?_)
        · replace h := h.1 q
          refine z_iconst dX12_isLetterByte_28 ki_0 ?_
          exact z_ireturn dX12_isLetterByte_29 (Or.inr ⟨rfl, ⟨by decide, by decide⟩⟩) rfl h
        · replace h := h.2 q
          refine z_iconst dX12_isLetterByte_24 ki_1 ?_
          refine z_goto (tgt := 29) dX12_isLetterByte_25 rfl ?_
          exact z_ireturn dX12_isLetterByte_29 (Or.inr ⟨rfl, ⟨by decide, by decide⟩⟩) rfl h
set_option maxRecDepth 20000 in
set_option maxHeartbeats 4000000 in
theorem bX12_isFigure_0 {G : zG} {d : Nat} {M : zM} {Q : zV → zM → Prop} (hG : zP G) {x0 : Int}
    (h : ((x0 < 48 → Q (0, 0) M) ∧ (48 ≤ x0 → ((57 < x0 → Q (0, 0) M) ∧ (x0 ≤ 57 → Q (0, 1) M))))) :
    Y G d mX12_isFigure 0 [(0, x0)] [] M Q := by
  refine z_iloadn dX12_isFigure_0 rfl ?_
  refine z_bipush dX12_isFigure_1 kb_48 ?_
  refine z_icmplt (tgt := 16) dX12_isFigure_3 rfl (fun q => ?_) (fun q => ?_)
  · replace h := h.1 q
    refine z_iconst dX12_isFigure_16 ki_0 ?_
    exact z_ireturn dX12_isFigure_17 (Or.inr ⟨rfl, ⟨by decide, by decide⟩⟩) rfl h
  · replace h := h.2 q
    refine z_iloadn dX12_isFigure_6 rfl ?_
    refine z_bipush dX12_isFigure_7 kb_57 ?_
    refine z_icmpgt (tgt := 16) dX12_isFigure_9 rfl (fun q => ?_) (fun q => ?_)
    · replace h := h.1 q
      refine z_iconst dX12_isFigure_16 ki_0 ?_
      exact z_ireturn dX12_isFigure_17 (Or.inr ⟨rfl, ⟨by decide, by decide⟩⟩) rfl h
    · replace h := h.2 q
      refine z_iconst dX12_isFigure_12 ki_1 ?_
      refine z_goto (tgt := 17) dX12_isFigure_13 rfl ?_
      exact z_ireturn dX12_isFigure_17 (Or.inr ⟨rfl, ⟨by decide, by decide⟩⟩) rfl h
set_option maxRecDepth 20000 in
set_option maxHeartbeats 4000000 in
theorem bX9_placeOf_0 {G : zG} {d : Nat} {M : zM} {Q : zV → zM → Prop} (hG : zP G) {x0 x1 x2 : Int}
    (h : (-2147483648 ≤ x0 * 5 ∧ x0 * 5 ≤ 2147483647) ∧ (-2147483648 ≤ (x0 * 5) + x1 ∧ (x0 * 5) + x1 ≤ 2147483647) ∧ (-2147483648 ≤ ((x0 * 5) + x1) - 1 ∧ ((x0 * 5) + x1) - 1 ≤ 2147483647) ∧ (-2147483648 ≤ (((x0 * 5) + x1) - 1) * 1001 ∧ (((x0 * 5) + x1) - 1) * 1001 ≤ 2147483647) ∧ (-2147483648 ≤ ((((x0 * 5) + x1) - 1) * 1001) + x2 ∧ ((((x0 * 5) + x1) - 1) * 1001) + x2 ≤ 2147483647) ∧ (-2147483648 ≤ (((((x0 * 5) + x1) - 1) * 1001) + x2) + 500 ∧ (((((x0 * 5) + x1) - 1) * 1001) + x2) + 500 ≤ 2147483647) ∧ Q (0, ((((((x0 * 5) + x1) - 1) * 1001) + x2) + 500)) M) :
    Y G d mX9_placeOf 0 [(0, x0), (0, x1), (0, x2)] [] M Q := by
  refine z_iloadn dX9_placeOf_0 rfl ?_
  refine z_iconst dX9_placeOf_1 ki_5 ?_
  obtain ⟨q1, h⟩ := h
  refine z_imul dX9_placeOf_2 q1 ?_
  refine z_iloadn dX9_placeOf_3 rfl ?_
  obtain ⟨q2, h⟩ := h
  refine z_iadd dX9_placeOf_4 q2 ?_
  refine z_iconst dX9_placeOf_5 ki_1 ?_
  obtain ⟨q3, h⟩ := h
  refine z_isub dX9_placeOf_6 q3 ?_
  refine z_sipush dX9_placeOf_7 ks_1001 ?_
  obtain ⟨q4, h⟩ := h
  refine z_imul dX9_placeOf_10 q4 ?_
  refine z_iloadn dX9_placeOf_11 rfl ?_
  obtain ⟨q5, h⟩ := h
  refine z_iadd dX9_placeOf_12 q5 ?_
  refine z_sipush dX9_placeOf_13 ks_500 ?_
  obtain ⟨q6, h⟩ := h
  refine z_iadd dX9_placeOf_16 q6 ?_
  exact z_ireturn dX9_placeOf_17 (Or.inl rfl) rfl h
set_option maxRecDepth 20000 in
set_option maxHeartbeats 4000000 in
theorem bX12_cell_0 {G : zG} {d : Nat} {M : zM} {Q : zV → zM → Prop} (hG : zP G) {x0 x1 : Int}
    (h : (-2147483648 ≤ 1001 * x0 ∧ 1001 * x0 ≤ 2147483647) ∧ (-2147483648 ≤ (1001 * x0) + x1 ∧ (1001 * x0) + x1 ≤ 2147483647) ∧ (-2147483648 ≤ ((1001 * x0) + x1) + 500 ∧ ((1001 * x0) + x1) + 500 ≤ 2147483647) ∧ Q (0, (((1001 * x0) + x1) + 500)) M) :
    Y G d mX12_cell 0 [(0, x0), (0, x1)] [] M Q := by
  refine z_sipush dX12_cell_0 ks_1001 ?_
  refine z_iloadn dX12_cell_3 rfl ?_
  obtain ⟨q1, h⟩ := h
  refine z_imul dX12_cell_4 q1 ?_
  refine z_iloadn dX12_cell_5 rfl ?_
  obtain ⟨q2, h⟩ := h
  refine z_iadd dX12_cell_6 q2 ?_
  refine z_sipush dX12_cell_7 ks_500 ?_
  obtain ⟨q3, h⟩ := h
  refine z_iadd dX12_cell_10 q3 ?_
  exact z_ireturn dX12_cell_11 (Or.inl rfl) rfl h
set_option maxRecDepth 20000 in
set_option maxHeartbeats 4000000 in
theorem bX12_known_0 {G : zG} {d : Nat} {M : zM} {Q : zV → zM → Prop} (hG : zP G) {x0 : Int}
    (h : ((x0 < 100000 → Q (0, x0) M) ∧ (100000 ≤ x0 → Q (0, (-1)) M))) :
    Y G d mX12_known 0 [(0, x0)] [] M Q := by
  refine z_iloadn dX12_known_0 rfl ?_
  refine z_ldc (k := 100000) (v := 100000) dX12_known_1 ⟨by decide, ⟨by decide, by decide⟩⟩ qX12_141 ?_
  refine z_icmplt (tgt := 10) dX12_known_3 rfl (fun q => ?_) (fun q => ?_)
  · replace h := h.1 q
    refine z_iloadn dX12_known_10 rfl ?_
    exact z_ireturn dX12_known_11 (Or.inl rfl) rfl h
  · replace h := h.2 q
    refine z_iconst dX12_known_6 ki_m1 ?_
    refine z_goto (tgt := 11) dX12_known_7 rfl ?_
    exact z_ireturn dX12_known_11 (Or.inl rfl) rfl h
set_option maxRecDepth 20000 in
set_option maxHeartbeats 4000000 in
theorem bX11_clamped_0 {G : zG} {d : Nat} {M : zM} {Q : zV → zM → Prop} (hG : zP G) {x0 : Int}
    (h : (((zlcmp x0 1000000) ≤ 0 → ((0 ≤ (zlcmp x0 (-1000000)) → Q (0, (zw x0)) M) ∧ ((zlcmp x0 (-1000000)) < 0 → Q (0, (-1000000)) M))) ∧ (0 < (zlcmp x0 1000000) → Q (0, 1000000) M))) :
    Y G d mX11_clamped 0 [(1, x0), (9, 0)] [] M Q := by
  refine z_lloadn dX11_clamped_0 rfl ?_
  refine z_ldc2 (k := 1000000) (v := 1000000) dX11_clamped_1 ⟨by decide, ⟨by decide, by decide⟩⟩ qlX11_392 ?_
  refine z_lcmp dX11_clamped_4 ?_
  refine z_ifle (tgt := 11) dX11_clamped_5 rfl (fun q => ?_) (fun q => ?_)
  · replace h := h.1 q
    refine z_lloadn dX11_clamped_11 rfl ?_
    refine z_ldc2 (k := (-1000000)) (v := (-1000000)) dX11_clamped_12 ⟨by decide, ⟨by decide, by decide⟩⟩ qlX11_394 ?_
    refine z_lcmp dX11_clamped_15 ?_
    refine z_ifge (tgt := 24) dX11_clamped_16 rfl (fun q => ?_) (fun q => ?_)
    · replace h := h.1 q
      refine z_lloadn dX11_clamped_24 rfl ?_
      refine z_l2i dX11_clamped_25 ?_
      exact z_ireturn dX11_clamped_26 (Or.inl rfl) rfl h
    · replace h := h.2 q
      refine z_ldc (k := (-1000000)) (v := (-1000000)) dX11_clamped_19 ⟨by decide, ⟨by decide, by decide⟩⟩ qX11_213 ?_
      refine z_goto (tgt := 26) dX11_clamped_21 rfl ?_
      exact z_ireturn dX11_clamped_26 (Or.inl rfl) rfl h
  · replace h := h.2 q
    refine z_ldc (k := 1000000) (v := 1000000) dX11_clamped_8 ⟨by decide, ⟨by decide, by decide⟩⟩ qX11_214 ?_
    exact z_ireturn dX11_clamped_10 (Or.inl rfl) rfl h
set_option maxRecDepth 20000 in
set_option maxHeartbeats 4000000 in
theorem bX12_held_0 {G : zG} {d : Nat} {M : zM} {Q : zV → zM → Prop} (hG : zP G) {x0 : Int}
    (h : (((zlcmp x0 1000000) ≤ 0 → ((0 ≤ (zlcmp x0 (-1000000)) → Q (1, x0) M) ∧ ((zlcmp x0 (-1000000)) < 0 → Q (1, (-1000000)) M))) ∧ (0 < (zlcmp x0 1000000) → Q (1, 1000000) M))) :
    Y G d mX12_held 0 [(1, x0), (9, 0)] [] M Q := by
  refine z_lloadn dX12_held_0 rfl ?_
  refine z_ldc2 (k := 1000000) (v := 1000000) dX12_held_1 ⟨by decide, ⟨by decide, by decide⟩⟩ qlX12_122 ?_
  refine z_lcmp dX12_held_4 ?_
  refine z_ifle (tgt := 14) dX12_held_5 rfl (fun q => ?_) (fun q => ?_)
  · replace h := h.1 q
    refine z_lloadn dX12_held_14 rfl ?_
    refine z_ldc2 (k := (-1000000)) (v := (-1000000)) dX12_held_15 ⟨by decide, ⟨by decide, by decide⟩⟩ qlX12_124 ?_
    refine z_lcmp dX12_held_18 ?_
    refine z_ifge (tgt := 28) dX12_held_19 rfl (fun q => ?_) (fun q => ?_)
    · replace h := h.1 q
      refine z_lloadn dX12_held_28 rfl ?_
      exact z_lreturn dX12_held_29 rfl rfl h
    · replace h := h.2 q
      refine z_ldc2 (k := (-1000000)) (v := (-1000000)) dX12_held_22 ⟨by decide, ⟨by decide, by decide⟩⟩ qlX12_124 ?_
      refine z_goto (tgt := 29) dX12_held_25 rfl ?_
      exact z_lreturn dX12_held_29 rfl rfl h
  · replace h := h.2 q
    refine z_ldc2 (k := 1000000) (v := 1000000) dX12_held_8 ⟨by decide, ⟨by decide, by decide⟩⟩ qlX12_122 ?_
    refine z_goto (tgt := 29) dX12_held_11 rfl ?_
    exact z_lreturn dX12_held_29 rfl rfl h
set_option maxRecDepth 20000 in
set_option maxHeartbeats 4000000 in
theorem bX12_two_0 {G : zG} {d : Nat} {M : zM} {Q : zV → zM → Prop} (hG : zP G) {x0 x1 x2 : Int}
    (h : ((¬ x0 = 0 → ((¬ x0 = 1 → (-2147483648 ≤ x1 * x2 ∧ x1 * x2 ≤ 2147483647) ∧ Q (0, (x1 * x2)) M) ∧ (x0 = 1 → (-2147483648 ≤ x1 - x2 ∧ x1 - x2 ≤ 2147483647) ∧ Q (0, (x1 - x2)) M))) ∧ (x0 = 0 → (-2147483648 ≤ x1 + x2 ∧ x1 + x2 ≤ 2147483647) ∧ Q (0, (x1 + x2)) M))) :
    Y G d mX12_two 0 [(0, x0), (0, x1), (0, x2)] [] M Q := by
  refine z_iloadn dX12_two_0 rfl ?_
  refine z_ifne (tgt := 10) dX12_two_1 rfl (fun q => ?_) (fun q => ?_)
  · replace h := h.1 q
    refine z_iloadn dX12_two_10 rfl ?_
    refine z_iconst dX12_two_11 ki_1 ?_
    refine z_icmpne (tgt := 21) dX12_two_12 rfl (fun q => ?_) (fun q => ?_)
    · replace h := h.1 q
      refine z_iloadn dX12_two_21 rfl ?_
      refine z_iloadn dX12_two_22 rfl ?_
      obtain ⟨q1, h⟩ := h
      refine z_imul dX12_two_23 q1 ?_
      exact z_ireturn dX12_two_24 (Or.inl rfl) rfl h
    · replace h := h.2 q
      refine z_iloadn dX12_two_15 rfl ?_
      refine z_iloadn dX12_two_16 rfl ?_
      obtain ⟨q2, h⟩ := h
      refine z_isub dX12_two_17 q2 ?_
      refine z_goto (tgt := 24) dX12_two_18 rfl ?_
      exact z_ireturn dX12_two_24 (Or.inl rfl) rfl h
  · replace h := h.2 q
    refine z_iloadn dX12_two_4 rfl ?_
    refine z_iloadn dX12_two_5 rfl ?_
    obtain ⟨q3, h⟩ := h
    refine z_iadd dX12_two_6 q3 ?_
    refine z_goto (tgt := 24) dX12_two_7 rfl ?_
    exact z_ireturn dX12_two_24 (Or.inl rfl) rfl h
set_option maxRecDepth 20000 in
set_option maxHeartbeats 4000000 in
theorem bX12_w3_0 {G : zG} {d : Nat} {M : zM} {Q : zV → zM → Prop} (hG : zP G) {x0 x1 x2 : Int}
    (h : Q (1, (zlor (zlor (zlshl x0 16) (zshl x1 8)) x2)) M) :
    Y G d mX12_w3 0 [(0, x0), (0, x1), (0, x2)] [] M Q := by
  refine z_iloadn dX12_w3_0 rfl ?_
  refine z_i2l dX12_w3_1 ?_
  refine z_bipush dX12_w3_2 kb_16 ?_
  refine z_lshl dX12_w3_4 ?_
  refine z_iloadn dX12_w3_5 rfl ?_
  refine z_bipush dX12_w3_6 kb_8 ?_
  refine z_ishl dX12_w3_8 ?_
  refine z_i2l dX12_w3_9 ?_
  refine z_lor dX12_w3_10 ?_
  refine z_iloadn dX12_w3_11 rfl ?_
  refine z_i2l dX12_w3_12 ?_
  refine z_lor dX12_w3_13 ?_
  exact z_lreturn dX12_w3_14 rfl rfl h
set_option maxRecDepth 20000 in
set_option maxHeartbeats 4000000 in
theorem bX10_holds_0 {G : zG} {d : Nat} {M : zM} {Q : zV → zM → Prop} (hG : zP G) {x0 x1 x2 : Int}
    (h : (((x0 = 0) → ((x2 ≤ x1 → Q (0, 0) M) ∧ (x1 < x2 → Q (0, 1) M))) ∧ ((x0 = 1) → ((x2 < x1 → Q (0, 0) M) ∧ (x1 ≤ x2 → Q (0, 1) M))) ∧ ((x0 = 2) → ((x1 ≤ x2 → Q (0, 0) M) ∧ (x2 < x1 → Q (0, 1) M))) ∧ ((x0 = 3) → ((x1 < x2 → Q (0, 0) M) ∧ (x2 ≤ x1 → Q (0, 1) M))) ∧ ((x0 = 4) → ((¬ x1 = x2 → Q (0, 0) M) ∧ (x1 = x2 → Q (0, 1) M))) ∧ ((x0 < 0 ∨ 4 < x0) → ((x1 = x2 → Q (0, 0) M) ∧ (¬ x1 = x2 → Q (0, 1) M))))) :
    Y G d mX10_holds 0 [(0, x0), (0, x1), (0, x2)] [] M Q := by
  refine z_iloadn dX10_holds_0 rfl ?_
  rcases (show x0 < 0 ∨ 4 < x0 ∨ x0 = 0 ∨ x0 = 1 ∨ x0 = 2 ∨ x0 = 3 ∨ x0 = 4 by omega) with q | q | q | q | q | q | q
  · replace h := h.2.2.2.2.2 (Or.inl q)
    refine z_tswOut (tgt := 91) dX10_holds_1 (Or.inl q) rfl ?_
    refine z_iloadn dX10_holds_91 rfl ?_
    refine z_iloadn dX10_holds_92 rfl ?_
    refine z_icmpeq (tgt := 100) dX10_holds_93 rfl (fun q => ?_) (fun q => ?_)
    · replace h := h.1 q
      refine z_iconst dX10_holds_100 ki_0 ?_
      exact z_ireturn dX10_holds_101 (Or.inr ⟨rfl, ⟨by decide, by decide⟩⟩) rfl h
    · replace h := h.2 q
      refine z_iconst dX10_holds_96 ki_1 ?_
      refine z_goto (tgt := 101) dX10_holds_97 rfl ?_
      exact z_ireturn dX10_holds_101 (Or.inr ⟨rfl, ⟨by decide, by decide⟩⟩) rfl h
  · replace h := h.2.2.2.2.2 (Or.inr q)
    refine z_tswOut (tgt := 91) dX10_holds_1 (Or.inr q) rfl ?_
    refine z_iloadn dX10_holds_91 rfl ?_
    refine z_iloadn dX10_holds_92 rfl ?_
    refine z_icmpeq (tgt := 100) dX10_holds_93 rfl (fun q => ?_) (fun q => ?_)
    · replace h := h.1 q
      refine z_iconst dX10_holds_100 ki_0 ?_
      exact z_ireturn dX10_holds_101 (Or.inr ⟨rfl, ⟨by decide, by decide⟩⟩) rfl h
    · replace h := h.2 q
      refine z_iconst dX10_holds_96 ki_1 ?_
      refine z_goto (tgt := 101) dX10_holds_97 rfl ?_
      exact z_ireturn dX10_holds_101 (Or.inr ⟨rfl, ⟨by decide, by decide⟩⟩) rfl h
  · replace h := h.1 q
    refine y_tsw (tgt := 36) (k := 0) dX10_holds_1 q (by decide) rfl rfl ?_
    refine z_iloadn dX10_holds_36 rfl ?_
    refine z_iloadn dX10_holds_37 rfl ?_
    refine z_icmpge (tgt := 45) dX10_holds_38 rfl (fun q => ?_) (fun q => ?_)
    · replace h := h.1 q
      refine z_iconst dX10_holds_45 ki_0 ?_
      exact z_ireturn dX10_holds_46 (Or.inr ⟨rfl, ⟨by decide, by decide⟩⟩) rfl h
    · replace h := h.2 q
      refine z_iconst dX10_holds_41 ki_1 ?_
      refine z_goto (tgt := 46) dX10_holds_42 rfl ?_
      exact z_ireturn dX10_holds_46 (Or.inr ⟨rfl, ⟨by decide, by decide⟩⟩) rfl h
  · replace h := h.2.1 q
    refine y_tsw (tgt := 47) (k := 1) dX10_holds_1 q (by decide) rfl rfl ?_
    refine z_iloadn dX10_holds_47 rfl ?_
    refine z_iloadn dX10_holds_48 rfl ?_
    refine z_icmpgt (tgt := 56) dX10_holds_49 rfl (fun q => ?_) (fun q => ?_)
    · replace h := h.1 q
      refine z_iconst dX10_holds_56 ki_0 ?_
      exact z_ireturn dX10_holds_57 (Or.inr ⟨rfl, ⟨by decide, by decide⟩⟩) rfl h
    · replace h := h.2 q
      refine z_iconst dX10_holds_52 ki_1 ?_
      refine z_goto (tgt := 57) dX10_holds_53 rfl ?_
      exact z_ireturn dX10_holds_57 (Or.inr ⟨rfl, ⟨by decide, by decide⟩⟩) rfl h
  · replace h := h.2.2.1 q
    refine y_tsw (tgt := 58) (k := 2) dX10_holds_1 q (by decide) rfl rfl ?_
    refine z_iloadn dX10_holds_58 rfl ?_
    refine z_iloadn dX10_holds_59 rfl ?_
    refine z_icmple (tgt := 67) dX10_holds_60 rfl (fun q => ?_) (fun q => ?_)
    · replace h := h.1 q
      refine z_iconst dX10_holds_67 ki_0 ?_
      exact z_ireturn dX10_holds_68 (Or.inr ⟨rfl, ⟨by decide, by decide⟩⟩) rfl h
    · replace h := h.2 q
      refine z_iconst dX10_holds_63 ki_1 ?_
      refine z_goto (tgt := 68) dX10_holds_64 rfl ?_
      exact z_ireturn dX10_holds_68 (Or.inr ⟨rfl, ⟨by decide, by decide⟩⟩) rfl h
  · replace h := h.2.2.2.1 q
    refine y_tsw (tgt := 69) (k := 3) dX10_holds_1 q (by decide) rfl rfl ?_
    refine z_iloadn dX10_holds_69 rfl ?_
    refine z_iloadn dX10_holds_70 rfl ?_
    refine z_icmplt (tgt := 78) dX10_holds_71 rfl (fun q => ?_) (fun q => ?_)
    · replace h := h.1 q
      refine z_iconst dX10_holds_78 ki_0 ?_
      exact z_ireturn dX10_holds_79 (Or.inr ⟨rfl, ⟨by decide, by decide⟩⟩) rfl h
    · replace h := h.2 q
      refine z_iconst dX10_holds_74 ki_1 ?_
      refine z_goto (tgt := 79) dX10_holds_75 rfl ?_
      exact z_ireturn dX10_holds_79 (Or.inr ⟨rfl, ⟨by decide, by decide⟩⟩) rfl h
  · replace h := h.2.2.2.2.1 q
    refine y_tsw (tgt := 80) (k := 4) dX10_holds_1 q (by decide) rfl rfl ?_
    refine z_iloadn dX10_holds_80 rfl ?_
    refine z_iloadn dX10_holds_81 rfl ?_
    refine z_icmpne (tgt := 89) dX10_holds_82 rfl (fun q => ?_) (fun q => ?_)
    · replace h := h.1 q
      refine z_iconst dX10_holds_89 ki_0 ?_
      exact z_ireturn dX10_holds_90 (Or.inr ⟨rfl, ⟨by decide, by decide⟩⟩) rfl h
    · replace h := h.2 q
      refine z_iconst dX10_holds_85 ki_1 ?_
      refine z_goto (tgt := 90) dX10_holds_86 rfl ?_
      exact z_ireturn dX10_holds_90 (Or.inr ⟨rfl, ⟨by decide, by decide⟩⟩) rfl h
set_option maxRecDepth 20000 in
set_option maxHeartbeats 4000000 in
theorem bX12_isSo_0 {G : zG} {d : Nat} {M : zM} {Q : zV → zM → Prop} (hG : zP G) {x0 x1 x3 : Int}
    (h : (((x0 = 0) → ((0 ≤ (zlcmp x1 x3) → Q (0, 0) M) ∧ ((zlcmp x1 x3) < 0 → Q (0, 1) M))) ∧ ((x0 = 1) → ((0 < (zlcmp x1 x3) → Q (0, 0) M) ∧ ((zlcmp x1 x3) ≤ 0 → Q (0, 1) M))) ∧ ((x0 = 2) → (((zlcmp x1 x3) ≤ 0 → Q (0, 0) M) ∧ (0 < (zlcmp x1 x3) → Q (0, 1) M))) ∧ ((x0 = 3) → (((zlcmp x1 x3) < 0 → Q (0, 0) M) ∧ (0 ≤ (zlcmp x1 x3) → Q (0, 1) M))) ∧ ((x0 = 4) → ((¬ (zlcmp x1 x3) = 0 → Q (0, 0) M) ∧ ((zlcmp x1 x3) = 0 → Q (0, 1) M))) ∧ ((x0 < 0 ∨ 4 < x0) → (((zlcmp x1 x3) = 0 → Q (0, 0) M) ∧ (¬ (zlcmp x1 x3) = 0 → Q (0, 1) M))))) :
    Y G d mX12_isSo 0 [(0, x0), (1, x1), (9, 0), (1, x3), (9, 0)] [] M Q := by
  refine z_iloadn dX12_isSo_0 rfl ?_
  rcases (show x0 < 0 ∨ 4 < x0 ∨ x0 = 0 ∨ x0 = 1 ∨ x0 = 2 ∨ x0 = 3 ∨ x0 = 4 by omega) with q | q | q | q | q | q | q
  · replace h := h.2.2.2.2.2 (Or.inl q)
    refine z_tswOut (tgt := 96) dX12_isSo_1 (Or.inl q) rfl ?_
    refine z_lloadn dX12_isSo_96 rfl ?_
    refine z_lloadn dX12_isSo_97 rfl ?_
    refine z_lcmp dX12_isSo_98 ?_
    refine z_ifeq (tgt := 106) dX12_isSo_99 rfl (fun q => ?_) (fun q => ?_)
    · replace h := h.1 q
      refine z_iconst dX12_isSo_106 ki_0 ?_
      exact z_ireturn dX12_isSo_107 (Or.inr ⟨rfl, ⟨by decide, by decide⟩⟩) rfl h
    · replace h := h.2 q
      refine z_iconst dX12_isSo_102 ki_1 ?_
      refine z_goto (tgt := 107) dX12_isSo_103 rfl ?_
      exact z_ireturn dX12_isSo_107 (Or.inr ⟨rfl, ⟨by decide, by decide⟩⟩) rfl h
  · replace h := h.2.2.2.2.2 (Or.inr q)
    refine z_tswOut (tgt := 96) dX12_isSo_1 (Or.inr q) rfl ?_
    refine z_lloadn dX12_isSo_96 rfl ?_
    refine z_lloadn dX12_isSo_97 rfl ?_
    refine z_lcmp dX12_isSo_98 ?_
    refine z_ifeq (tgt := 106) dX12_isSo_99 rfl (fun q => ?_) (fun q => ?_)
    · replace h := h.1 q
      refine z_iconst dX12_isSo_106 ki_0 ?_
      exact z_ireturn dX12_isSo_107 (Or.inr ⟨rfl, ⟨by decide, by decide⟩⟩) rfl h
    · replace h := h.2 q
      refine z_iconst dX12_isSo_102 ki_1 ?_
      refine z_goto (tgt := 107) dX12_isSo_103 rfl ?_
      exact z_ireturn dX12_isSo_107 (Or.inr ⟨rfl, ⟨by decide, by decide⟩⟩) rfl h
  · replace h := h.1 q
    refine y_tsw (tgt := 36) (k := 0) dX12_isSo_1 q (by decide) rfl rfl ?_
    refine z_lloadn dX12_isSo_36 rfl ?_
    refine z_lloadn dX12_isSo_37 rfl ?_
    refine z_lcmp dX12_isSo_38 ?_
    refine z_ifge (tgt := 46) dX12_isSo_39 rfl (fun q => ?_) (fun q => ?_)
    · replace h := h.1 q
      refine z_iconst dX12_isSo_46 ki_0 ?_
      exact z_ireturn dX12_isSo_47 (Or.inr ⟨rfl, ⟨by decide, by decide⟩⟩) rfl h
    · replace h := h.2 q
      refine z_iconst dX12_isSo_42 ki_1 ?_
      refine z_goto (tgt := 47) dX12_isSo_43 rfl ?_
      exact z_ireturn dX12_isSo_47 (Or.inr ⟨rfl, ⟨by decide, by decide⟩⟩) rfl h
  · replace h := h.2.1 q
    refine y_tsw (tgt := 48) (k := 1) dX12_isSo_1 q (by decide) rfl rfl ?_
    refine z_lloadn dX12_isSo_48 rfl ?_
    refine z_lloadn dX12_isSo_49 rfl ?_
    refine z_lcmp dX12_isSo_50 ?_
    refine z_ifgt (tgt := 58) dX12_isSo_51 rfl (fun q => ?_) (fun q => ?_)
    · replace h := h.1 q
      refine z_iconst dX12_isSo_58 ki_0 ?_
      exact z_ireturn dX12_isSo_59 (Or.inr ⟨rfl, ⟨by decide, by decide⟩⟩) rfl h
    · replace h := h.2 q
      refine z_iconst dX12_isSo_54 ki_1 ?_
      refine z_goto (tgt := 59) dX12_isSo_55 rfl ?_
      exact z_ireturn dX12_isSo_59 (Or.inr ⟨rfl, ⟨by decide, by decide⟩⟩) rfl h
  · replace h := h.2.2.1 q
    refine y_tsw (tgt := 60) (k := 2) dX12_isSo_1 q (by decide) rfl rfl ?_
    refine z_lloadn dX12_isSo_60 rfl ?_
    refine z_lloadn dX12_isSo_61 rfl ?_
    refine z_lcmp dX12_isSo_62 ?_
    refine z_ifle (tgt := 70) dX12_isSo_63 rfl (fun q => ?_) (fun q => ?_)
    · replace h := h.1 q
      refine z_iconst dX12_isSo_70 ki_0 ?_
      exact z_ireturn dX12_isSo_71 (Or.inr ⟨rfl, ⟨by decide, by decide⟩⟩) rfl h
    · replace h := h.2 q
      refine z_iconst dX12_isSo_66 ki_1 ?_
      refine z_goto (tgt := 71) dX12_isSo_67 rfl ?_
      exact z_ireturn dX12_isSo_71 (Or.inr ⟨rfl, ⟨by decide, by decide⟩⟩) rfl h
  · replace h := h.2.2.2.1 q
    refine y_tsw (tgt := 72) (k := 3) dX12_isSo_1 q (by decide) rfl rfl ?_
    refine z_lloadn dX12_isSo_72 rfl ?_
    refine z_lloadn dX12_isSo_73 rfl ?_
    refine z_lcmp dX12_isSo_74 ?_
    refine z_iflt (tgt := 82) dX12_isSo_75 rfl (fun q => ?_) (fun q => ?_)
    · replace h := h.1 q
      refine z_iconst dX12_isSo_82 ki_0 ?_
      exact z_ireturn dX12_isSo_83 (Or.inr ⟨rfl, ⟨by decide, by decide⟩⟩) rfl h
    · replace h := h.2 q
      refine z_iconst dX12_isSo_78 ki_1 ?_
      refine z_goto (tgt := 83) dX12_isSo_79 rfl ?_
      exact z_ireturn dX12_isSo_83 (Or.inr ⟨rfl, ⟨by decide, by decide⟩⟩) rfl h
  · replace h := h.2.2.2.2.1 q
    refine y_tsw (tgt := 84) (k := 4) dX12_isSo_1 q (by decide) rfl rfl ?_
    refine z_lloadn dX12_isSo_84 rfl ?_
    refine z_lloadn dX12_isSo_85 rfl ?_
    refine z_lcmp dX12_isSo_86 ?_
    refine z_ifne (tgt := 94) dX12_isSo_87 rfl (fun q => ?_) (fun q => ?_)
    · replace h := h.1 q
      refine z_iconst dX12_isSo_94 ki_0 ?_
      exact z_ireturn dX12_isSo_95 (Or.inr ⟨rfl, ⟨by decide, by decide⟩⟩) rfl h
    · replace h := h.2 q
      refine z_iconst dX12_isSo_90 ki_1 ?_
      refine z_goto (tgt := 95) dX12_isSo_91 rfl ?_
      exact z_ireturn dX12_isSo_95 (Or.inr ⟨rfl, ⟨by decide, by decide⟩⟩) rfl h
set_option maxRecDepth 20000 in
set_option maxHeartbeats 4000000 in
theorem bX12_isWord_0 {G : zG} {d : Nat} {M : zM} {Q : zV → zM → Prop} (hG : zP G) {x1 : Int}
    (h : ((¬ (M 234 10) = 2 → Q (0, 0) M) ∧ ((M 234 10) = 2 → ((¬ (zlcmp (M 234 12) x1) = 0 → Q (0, 0) M) ∧ ((zlcmp (M 234 12) x1) = 0 → Q (0, 1) M))))) :
    Y G d mX12_isWord 0 [(2, 234), (1, x1), (9, 0)] [] M Q := by
  refine z_aloadn dX12_isWord_0 rfl (Or.inl rfl) ?_
  refine y_getf (x := (M 234 10)) dX12_isWord_1 fX12_169 sh234 (by decide) rfl rfl ?_
  refine z_iconst dX12_isWord_4 ki_2 ?_
  refine z_icmpne (tgt := 21) dX12_isWord_5 rfl (fun q => ?_) (fun q => ?_)
  · replace h := h.1 q
    refine z_iconst dX12_isWord_21 ki_0 ?_
    exact z_ireturn dX12_isWord_22 (Or.inr ⟨rfl, ⟨by decide, by decide⟩⟩) rfl h
  · replace h := h.2 q
    refine z_aloadn dX12_isWord_8 rfl (Or.inl rfl) ?_
    refine y_getf (x := (M 234 12)) dX12_isWord_9 fX12_182 sh234 (by decide) rfl rfl ?_
    refine z_lloadn dX12_isWord_12 rfl ?_
    refine z_lcmp dX12_isWord_13 ?_
    refine z_ifne (tgt := 21) dX12_isWord_14 rfl (fun q => ?_) (fun q => ?_)
    · replace h := h.1 q
      refine z_iconst dX12_isWord_21 ki_0 ?_
      exact z_ireturn dX12_isWord_22 (Or.inr ⟨rfl, ⟨by decide, by decide⟩⟩) rfl h
    · replace h := h.2 q
      refine z_iconst dX12_isWord_17 ki_1 ?_
      refine z_goto (tgt := 22) dX12_isWord_18 rfl ?_
      exact z_ireturn dX12_isWord_22 (Or.inr ⟨rfl, ⟨by decide, by decide⟩⟩) rfl h
set_option maxRecDepth 20000 in
set_option maxHeartbeats 4000000 in
theorem bX1_kindOf_0 {G : zG} {d : Nat} {M : zM} {Q : zV → zM → Prop} (hG : zP G) {o x1 : Int} (ho : zND o)
    (h : ((x1 < 0 → Q (0, (-1)) M) ∧ (0 ≤ x1 → (((M o 8) ≤ x1 → Q (0, (-1)) M) ∧ (x1 < (M o 8) → (0 ≤ x1 ∧ x1 < 300) ∧ Q (0, (M (o + 1) x1)) M))))) :
    Y G d mX1_kindOf 0 [(2, o), (0, x1)] [] M Q := by
  refine z_iloadn dX1_kindOf_0 rfl ?_
  refine z_iflt (tgt := 21) dX1_kindOf_1 rfl (fun q => ?_) (fun q => ?_)
  · replace h := h.1 q
    refine z_iconst dX1_kindOf_21 ki_m1 ?_
    exact z_ireturn dX1_kindOf_22 (Or.inl rfl) rfl h
  · replace h := h.2 q
    refine z_iloadn dX1_kindOf_4 rfl ?_
    refine z_aloadn dX1_kindOf_5 rfl (Or.inl rfl) ?_
    refine y_getf (x := (M o 8)) dX1_kindOf_6 fX1_36 (nd_0 ho) (by decide) rfl rfl ?_
    refine z_icmpge (tgt := 21) dX1_kindOf_9 rfl (fun q => ?_) (fun q => ?_)
    · replace h := h.1 q
      refine z_iconst dX1_kindOf_21 ki_m1 ?_
      exact z_ireturn dX1_kindOf_22 (Or.inl rfl) rfl h
    · replace h := h.2 q
      refine z_aloadn dX1_kindOf_12 rfl (Or.inl rfl) ?_
      refine y_getr (v := (o + 1)) hG dX1_kindOf_13 fX1_9 (nd_0 ho) (by decide) rfl (nd_x0 ho) (nd_ne ho 1 (by decide)) ?_
      refine z_iloadn dX1_kindOf_16 rfl ?_
      obtain ⟨q1, h⟩ := h
      refine y_iald (x := (M (o + 1) x1)) dX1_kindOf_17 (nd_1 ho) q1 rfl ?_
      refine z_goto (tgt := 22) dX1_kindOf_18 rfl ?_
      exact z_ireturn dX1_kindOf_22 (Or.inl rfl) rfl h
set_option maxRecDepth 20000 in
set_option maxHeartbeats 4000000 in
theorem bX1_valueOf_0 {G : zG} {d : Nat} {M : zM} {Q : zV → zM → Prop} (hG : zP G) {o x1 : Int} (ho : zND o)
    (h : ((x1 < 0 → Q (0, 0) M) ∧ (0 ≤ x1 → (((M o 8) ≤ x1 → Q (0, 0) M) ∧ (x1 < (M o 8) → (0 ≤ x1 ∧ x1 < 300) ∧ Q (0, (M (o + 2) x1)) M))))) :
    Y G d mX1_valueOf 0 [(2, o), (0, x1)] [] M Q := by
  refine z_iloadn dX1_valueOf_0 rfl ?_
  refine z_iflt (tgt := 21) dX1_valueOf_1 rfl (fun q => ?_) (fun q => ?_)
  · replace h := h.1 q
    refine z_iconst dX1_valueOf_21 ki_0 ?_
    exact z_ireturn dX1_valueOf_22 (Or.inl rfl) rfl h
  · replace h := h.2 q
    refine z_iloadn dX1_valueOf_4 rfl ?_
    refine z_aloadn dX1_valueOf_5 rfl (Or.inl rfl) ?_
    refine y_getf (x := (M o 8)) dX1_valueOf_6 fX1_36 (nd_0 ho) (by decide) rfl rfl ?_
    refine z_icmpge (tgt := 21) dX1_valueOf_9 rfl (fun q => ?_) (fun q => ?_)
    · replace h := h.1 q
      refine z_iconst dX1_valueOf_21 ki_0 ?_
      exact z_ireturn dX1_valueOf_22 (Or.inl rfl) rfl h
    · replace h := h.2 q
      refine z_aloadn dX1_valueOf_12 rfl (Or.inl rfl) ?_
      refine y_getr (v := (o + 2)) hG dX1_valueOf_13 fX1_15 (nd_0 ho) (by decide) rfl (nd_x1 ho) (nd_ne ho 2 (by decide)) ?_
      refine z_iloadn dX1_valueOf_16 rfl ?_
      obtain ⟨q1, h⟩ := h
      refine y_iald (x := (M (o + 2) x1)) dX1_valueOf_17 (nd_2 ho) q1 rfl ?_
      refine z_goto (tgt := 22) dX1_valueOf_18 rfl ?_
      exact z_ireturn dX1_valueOf_22 (Or.inl rfl) rfl h
set_option maxRecDepth 20000 in
set_option maxHeartbeats 4000000 in
theorem bX1_signOf_0 {G : zG} {d : Nat} {M : zM} {Q : zV → zM → Prop} (hG : zP G) {o x1 : Int} (ho : zND o)
    (h : ((x1 < 0 → Q (0, 1) M) ∧ (0 ≤ x1 → (((M o 8) ≤ x1 → Q (0, 1) M) ∧ (x1 < (M o 8) → (0 ≤ x1 ∧ x1 < 300) ∧ Q (0, (M (o + 3) x1)) M))))) :
    Y G d mX1_signOf 0 [(2, o), (0, x1)] [] M Q := by
  refine z_iloadn dX1_signOf_0 rfl ?_
  refine z_iflt (tgt := 21) dX1_signOf_1 rfl (fun q => ?_) (fun q => ?_)
  · replace h := h.1 q
    refine z_iconst dX1_signOf_21 ki_1 ?_
    exact z_ireturn dX1_signOf_22 (Or.inl rfl) rfl h
  · replace h := h.2 q
    refine z_iloadn dX1_signOf_4 rfl ?_
    refine z_aloadn dX1_signOf_5 rfl (Or.inl rfl) ?_
    refine y_getf (x := (M o 8)) dX1_signOf_6 fX1_36 (nd_0 ho) (by decide) rfl rfl ?_
    refine z_icmpge (tgt := 21) dX1_signOf_9 rfl (fun q => ?_) (fun q => ?_)
    · replace h := h.1 q
      refine z_iconst dX1_signOf_21 ki_1 ?_
      exact z_ireturn dX1_signOf_22 (Or.inl rfl) rfl h
    · replace h := h.2 q
      refine z_aloadn dX1_signOf_12 rfl (Or.inl rfl) ?_
      refine y_getr (v := (o + 3)) hG dX1_signOf_13 fX1_18 (nd_0 ho) (by decide) rfl (nd_x2 ho) (nd_ne ho 3 (by decide)) ?_
      refine z_iloadn dX1_signOf_16 rfl ?_
      obtain ⟨q1, h⟩ := h
      refine y_iald (x := (M (o + 3) x1)) dX1_signOf_17 (nd_3 ho) q1 rfl ?_
      refine z_goto (tgt := 22) dX1_signOf_18 rfl ?_
      exact z_ireturn dX1_signOf_22 (Or.inl rfl) rfl h
set_option maxRecDepth 20000 in
set_option maxHeartbeats 4000000 in
theorem bX1_partsOf_0 {G : zG} {d : Nat} {M : zM} {Q : zV → zM → Prop} (hG : zP G) {o x1 : Int} (ho : zND o)
    (h : ((x1 < 0 → Q (0, 0) M) ∧ (0 ≤ x1 → (((M o 8) ≤ x1 → Q (0, 0) M) ∧ (x1 < (M o 8) → (0 ≤ x1 ∧ x1 < 300) ∧ Q (0, (M (o + 4) x1)) M))))) :
    Y G d mX1_partsOf 0 [(2, o), (0, x1)] [] M Q := by
  refine z_iloadn dX1_partsOf_0 rfl ?_
  refine z_iflt (tgt := 21) dX1_partsOf_1 rfl (fun q => ?_) (fun q => ?_)
  · replace h := h.1 q
    refine z_iconst dX1_partsOf_21 ki_0 ?_
    exact z_ireturn dX1_partsOf_22 (Or.inl rfl) rfl h
  · replace h := h.2 q
    refine z_iloadn dX1_partsOf_4 rfl ?_
    refine z_aloadn dX1_partsOf_5 rfl (Or.inl rfl) ?_
    refine y_getf (x := (M o 8)) dX1_partsOf_6 fX1_36 (nd_0 ho) (by decide) rfl rfl ?_
    refine z_icmpge (tgt := 21) dX1_partsOf_9 rfl (fun q => ?_) (fun q => ?_)
    · replace h := h.1 q
      refine z_iconst dX1_partsOf_21 ki_0 ?_
      exact z_ireturn dX1_partsOf_22 (Or.inl rfl) rfl h
    · replace h := h.2 q
      refine z_aloadn dX1_partsOf_12 rfl (Or.inl rfl) ?_
      refine y_getr (v := (o + 4)) hG dX1_partsOf_13 fX1_21 (nd_0 ho) (by decide) rfl (nd_x3 ho) (nd_ne ho 4 (by decide)) ?_
      refine z_iloadn dX1_partsOf_16 rfl ?_
      obtain ⟨q1, h⟩ := h
      refine y_iald (x := (M (o + 4) x1)) dX1_partsOf_17 (nd_4 ho) q1 rfl ?_
      refine z_goto (tgt := 22) dX1_partsOf_18 rfl ?_
      exact z_ireturn dX1_partsOf_22 (Or.inl rfl) rfl h
set_option maxRecDepth 20000 in
set_option maxHeartbeats 4000000 in
theorem bX1_firstOf_0 {G : zG} {d : Nat} {M : zM} {Q : zV → zM → Prop} (hG : zP G) {o x1 : Int} (ho : zND o)
    (h : ((x1 < 0 → Q (0, (-1)) M) ∧ (0 ≤ x1 → (((M o 8) ≤ x1 → Q (0, (-1)) M) ∧ (x1 < (M o 8) → (0 ≤ x1 ∧ x1 < 300) ∧ Q (0, (M (o + 5) x1)) M))))) :
    Y G d mX1_firstOf 0 [(2, o), (0, x1)] [] M Q := by
  refine z_iloadn dX1_firstOf_0 rfl ?_
  refine z_iflt (tgt := 21) dX1_firstOf_1 rfl (fun q => ?_) (fun q => ?_)
  · replace h := h.1 q
    refine z_iconst dX1_firstOf_21 ki_m1 ?_
    exact z_ireturn dX1_firstOf_22 (Or.inl rfl) rfl h
  · replace h := h.2 q
    refine z_iloadn dX1_firstOf_4 rfl ?_
    refine z_aloadn dX1_firstOf_5 rfl (Or.inl rfl) ?_
    refine y_getf (x := (M o 8)) dX1_firstOf_6 fX1_36 (nd_0 ho) (by decide) rfl rfl ?_
    refine z_icmpge (tgt := 21) dX1_firstOf_9 rfl (fun q => ?_) (fun q => ?_)
    · replace h := h.1 q
      refine z_iconst dX1_firstOf_21 ki_m1 ?_
      exact z_ireturn dX1_firstOf_22 (Or.inl rfl) rfl h
    · replace h := h.2 q
      refine z_aloadn dX1_firstOf_12 rfl (Or.inl rfl) ?_
      refine y_getr (v := (o + 5)) hG dX1_firstOf_13 fX1_24 (nd_0 ho) (by decide) rfl (nd_x4 ho) (nd_ne ho 5 (by decide)) ?_
      refine z_iloadn dX1_firstOf_16 rfl ?_
      obtain ⟨q1, h⟩ := h
      refine y_iald (x := (M (o + 5) x1)) dX1_firstOf_17 (nd_5 ho) q1 rfl ?_
      refine z_goto (tgt := 22) dX1_firstOf_18 rfl ?_
      exact z_ireturn dX1_firstOf_22 (Or.inl rfl) rfl h
set_option maxRecDepth 20000 in
set_option maxHeartbeats 4000000 in
theorem bX1_behind_0 {G : zG} {d : Nat} {M : zM} {Q : zV → zM → Prop} (hG : zP G) {o x1 : Int} (ho : zND o)
    (h : ((x1 < 0 → Q (0, (-1)) M) ∧ (0 ≤ x1 → (((M o 8) ≤ x1 → Q (0, (-1)) M) ∧ (x1 < (M o 8) → (0 ≤ x1 ∧ x1 < 300) ∧ Q (0, (M (o + 7) x1)) M))))) :
    Y G d mX1_behind 0 [(2, o), (0, x1)] [] M Q := by
  refine z_iloadn dX1_behind_0 rfl ?_
  refine z_iflt (tgt := 21) dX1_behind_1 rfl (fun q => ?_) (fun q => ?_)
  · replace h := h.1 q
    refine z_iconst dX1_behind_21 ki_m1 ?_
    exact z_ireturn dX1_behind_22 (Or.inl rfl) rfl h
  · replace h := h.2 q
    refine z_iloadn dX1_behind_4 rfl ?_
    refine z_aloadn dX1_behind_5 rfl (Or.inl rfl) ?_
    refine y_getf (x := (M o 8)) dX1_behind_6 fX1_36 (nd_0 ho) (by decide) rfl rfl ?_
    refine z_icmpge (tgt := 21) dX1_behind_9 rfl (fun q => ?_) (fun q => ?_)
    · replace h := h.1 q
      refine z_iconst dX1_behind_21 ki_m1 ?_
      exact z_ireturn dX1_behind_22 (Or.inl rfl) rfl h
    · replace h := h.2 q
      refine z_aloadn dX1_behind_12 rfl (Or.inl rfl) ?_
      refine y_getr (v := (o + 7)) hG dX1_behind_13 fX1_30 (nd_0 ho) (by decide) rfl (nd_x6 ho) (nd_ne ho 7 (by decide)) ?_
      refine z_iloadn dX1_behind_16 rfl ?_
      obtain ⟨q1, h⟩ := h
      refine y_iald (x := (M (o + 7) x1)) dX1_behind_17 (nd_7 ho) q1 rfl ?_
      refine z_goto (tgt := 22) dX1_behind_18 rfl ?_
      exact z_ireturn dX1_behind_22 (Or.inl rfl) rfl h
set_option maxRecDepth 20000 in
set_option maxHeartbeats 4000000 in
theorem bX8_byteAt_0 {G : zG} {d : Nat} {M : zM} {Q : zV → zM → Prop} (hG : zP G) {x1 : Int}
    (h : ((x1 < 0 → Q (0, (-1)) M) ∧ (0 ≤ x1 → (((M 13 1) ≤ x1 → Q (0, (-1)) M) ∧ (x1 < (M 13 1) → ((300 ≤ x1 → Q (0, (-1)) M) ∧ (x1 < 300 → (0 ≤ x1 ∧ x1 < 300) ∧ Q (0, (M 14 x1)) M))))))) :
    Y G d mX8_byteAt 0 [(2, 13), (0, x1)] [] M Q := by
  refine z_iloadn dX8_byteAt_0 rfl ?_
  refine z_iflt (tgt := 28) dX8_byteAt_1 rfl (fun q => ?_) (fun q => ?_)
  · replace h := h.1 q
    refine z_iconst dX8_byteAt_28 ki_m1 ?_
    exact z_ireturn dX8_byteAt_29 (Or.inl rfl) rfl h
  · replace h := h.2 q
    refine z_iloadn dX8_byteAt_4 rfl ?_
    refine z_aloadn dX8_byteAt_5 rfl (Or.inl rfl) ?_
    refine y_getf (x := (M 13 1)) dX8_byteAt_6 fX8_24 sh13 (by decide) rfl rfl ?_
    refine z_icmpge (tgt := 28) dX8_byteAt_9 rfl (fun q => ?_) (fun q => ?_)
    · replace h := h.1 q
      refine z_iconst dX8_byteAt_28 ki_m1 ?_
      exact z_ireturn dX8_byteAt_29 (Or.inl rfl) rfl h
    · replace h := h.2 q
      refine z_iloadn dX8_byteAt_12 rfl ?_
      refine z_sipush dX8_byteAt_13 ks_300 ?_
      refine z_icmpge (tgt := 28) dX8_byteAt_16 rfl (fun q => ?_) (fun q => ?_)
      · replace h := h.1 q
        refine z_iconst dX8_byteAt_28 ki_m1 ?_
        exact z_ireturn dX8_byteAt_29 (Or.inl rfl) rfl h
      · replace h := h.2 q
        refine z_aloadn dX8_byteAt_19 rfl (Or.inl rfl) ?_
        refine y_getr (v := 14) hG dX8_byteAt_20 fX8_9 sh13 (by decide) rfl (by decide +kernel) (by decide) ?_
        refine z_iloadn dX8_byteAt_23 rfl ?_
        obtain ⟨q1, h⟩ := h
        refine y_iald (x := (M 14 x1)) dX8_byteAt_24 sh14 q1 rfl ?_
        refine z_goto (tgt := 29) dX8_byteAt_25 rfl ?_
        exact z_ireturn dX8_byteAt_29 (Or.inl rfl) rfl h
set_option maxRecDepth 20000 in
set_option maxHeartbeats 4000000 in
theorem bX12_byteAt_0 {G : zG} {d : Nat} {M : zM} {Q : zV → zM → Prop} (hG : zP G) {x1 : Int}
    (h : (((M 234 5) ≤ x1 → Q (0, (-1)) M) ∧ (x1 < (M 234 5) → (0 ≤ x1 ∧ x1 < 300) ∧ Q (0, (M 239 x1)) M))) :
    Y G d mX12_byteAt 0 [(2, 234), (0, x1)] [] M Q := by
  refine z_iloadn dX12_byteAt_0 rfl ?_
  refine z_aloadn dX12_byteAt_1 rfl (Or.inl rfl) ?_
  refine y_getf (x := (M 234 5)) dX12_byteAt_2 fX12_153 sh234 (by decide) rfl rfl ?_
  refine z_icmpge (tgt := 17) dX12_byteAt_5 rfl (fun q => ?_) (fun q => ?_)
  · replace h := h.1 q
    refine z_iconst dX12_byteAt_17 ki_m1 ?_
    exact z_ireturn dX12_byteAt_18 (Or.inl rfl) rfl h
  · replace h := h.2 q
    refine z_aloadn dX12_byteAt_8 rfl (Or.inl rfl) ?_
    refine y_getr (v := 239) hG dX12_byteAt_9 fX12_22 sh234 (by decide) rfl (by decide +kernel) (by decide) ?_
    refine z_iloadn dX12_byteAt_12 rfl ?_
    obtain ⟨q1, h⟩ := h
    refine y_iald (x := (M 239 x1)) dX12_byteAt_13 sh239 q1 rfl ?_
    refine z_goto (tgt := 18) dX12_byteAt_14 rfl ?_
    exact z_ireturn dX12_byteAt_18 (Or.inl rfl) rfl h
set_option maxRecDepth 20000 in
set_option maxHeartbeats 4000000 in
theorem bJ6_compare_7cf53_0 {G : zG} {d : Nat} {M : zM} {Q : zV → zM → Prop} (hG : zP G) {x0 x1 : Int}
    (h : ((x1 ≤ x0 → ((¬ x0 = x1 → Q (0, 1) M) ∧ (x0 = x1 → Q (0, 0) M))) ∧ (x0 < x1 → Q (0, (-1)) M))) :
    Y G d mJ6_compare_7cf53 0 [(0, x0), (0, x1)] [] M Q := by
  refine z_iloadn dJ6_compare_7cf53_0 rfl ?_
  refine z_iloadn dJ6_compare_7cf53_1 rfl ?_
  refine z_icmpge (tgt := 9) dJ6_compare_7cf53_2 rfl (fun q => ?_) (fun q => ?_)
  · replace h := h.1 q
    refine z_iloadn dJ6_compare_7cf53_9 rfl ?_
    refine z_iloadn dJ6_compare_7cf53_10 rfl ?_
    refine z_icmpne (tgt := 18) dJ6_compare_7cf53_11 rfl (fun q => ?_) (fun q => ?_)
    · replace h := h.1 q
      refine z_iconst dJ6_compare_7cf53_18 ki_1 ?_
      exact z_ireturn dJ6_compare_7cf53_19 (Or.inl rfl) rfl h
    · replace h := h.2 q
      refine z_iconst dJ6_compare_7cf53_14 ki_0 ?_
      refine z_goto (tgt := 19) dJ6_compare_7cf53_15 rfl ?_
      exact z_ireturn dJ6_compare_7cf53_19 (Or.inl rfl) rfl h
  · replace h := h.2 q
    refine z_iconst dJ6_compare_7cf53_5 ki_m1 ?_
    refine z_goto (tgt := 19) dJ6_compare_7cf53_6 rfl ?_
    exact z_ireturn dJ6_compare_7cf53_19 (Or.inl rfl) rfl h
set_option maxRecDepth 20000 in
set_option maxHeartbeats 4000000 in
theorem bJ6_bitCount_0f7a4_0 {G : zG} {d : Nat} {M : zM} {Q : zV → zM → Prop} (hG : zP G) {x0 : Int}
    (h : (-2147483648 ≤ x0 - (zand (zushr x0 1) 1431655765) ∧ x0 - (zand (zushr x0 1) 1431655765) ≤ 2147483647) ∧ (-2147483648 ≤ (zand (x0 - (zand (zushr x0 1) 1431655765)) 858993459) + (zand (zushr (x0 - (zand (zushr x0 1) 1431655765)) 2) 858993459) ∧ (zand (x0 - (zand (zushr x0 1) 1431655765)) 858993459) + (zand (zushr (x0 - (zand (zushr x0 1) 1431655765)) 2) 858993459) ≤ 2147483647) ∧ (-2147483648 ≤ ((zand (x0 - (zand (zushr x0 1) 1431655765)) 858993459) + (zand (zushr (x0 - (zand (zushr x0 1) 1431655765)) 2) 858993459)) + (zushr ((zand (x0 - (zand (zushr x0 1) 1431655765)) 858993459) + (zand (zushr (x0 - (zand (zushr x0 1) 1431655765)) 2) 858993459)) 4) ∧ ((zand (x0 - (zand (zushr x0 1) 1431655765)) 858993459) + (zand (zushr (x0 - (zand (zushr x0 1) 1431655765)) 2) 858993459)) + (zushr ((zand (x0 - (zand (zushr x0 1) 1431655765)) 858993459) + (zand (zushr (x0 - (zand (zushr x0 1) 1431655765)) 2) 858993459)) 4) ≤ 2147483647) ∧ (-2147483648 ≤ (zand (((zand (x0 - (zand (zushr x0 1) 1431655765)) 858993459) + (zand (zushr (x0 - (zand (zushr x0 1) 1431655765)) 2) 858993459)) + (zushr ((zand (x0 - (zand (zushr x0 1) 1431655765)) 858993459) + (zand (zushr (x0 - (zand (zushr x0 1) 1431655765)) 2) 858993459)) 4)) 252645135) + (zushr (zand (((zand (x0 - (zand (zushr x0 1) 1431655765)) 858993459) + (zand (zushr (x0 - (zand (zushr x0 1) 1431655765)) 2) 858993459)) + (zushr ((zand (x0 - (zand (zushr x0 1) 1431655765)) 858993459) + (zand (zushr (x0 - (zand (zushr x0 1) 1431655765)) 2) 858993459)) 4)) 252645135) 8) ∧ (zand (((zand (x0 - (zand (zushr x0 1) 1431655765)) 858993459) + (zand (zushr (x0 - (zand (zushr x0 1) 1431655765)) 2) 858993459)) + (zushr ((zand (x0 - (zand (zushr x0 1) 1431655765)) 858993459) + (zand (zushr (x0 - (zand (zushr x0 1) 1431655765)) 2) 858993459)) 4)) 252645135) + (zushr (zand (((zand (x0 - (zand (zushr x0 1) 1431655765)) 858993459) + (zand (zushr (x0 - (zand (zushr x0 1) 1431655765)) 2) 858993459)) + (zushr ((zand (x0 - (zand (zushr x0 1) 1431655765)) 858993459) + (zand (zushr (x0 - (zand (zushr x0 1) 1431655765)) 2) 858993459)) 4)) 252645135) 8) ≤ 2147483647) ∧ (-2147483648 ≤ ((zand (((zand (x0 - (zand (zushr x0 1) 1431655765)) 858993459) + (zand (zushr (x0 - (zand (zushr x0 1) 1431655765)) 2) 858993459)) + (zushr ((zand (x0 - (zand (zushr x0 1) 1431655765)) 858993459) + (zand (zushr (x0 - (zand (zushr x0 1) 1431655765)) 2) 858993459)) 4)) 252645135) + (zushr (zand (((zand (x0 - (zand (zushr x0 1) 1431655765)) 858993459) + (zand (zushr (x0 - (zand (zushr x0 1) 1431655765)) 2) 858993459)) + (zushr ((zand (x0 - (zand (zushr x0 1) 1431655765)) 858993459) + (zand (zushr (x0 - (zand (zushr x0 1) 1431655765)) 2) 858993459)) 4)) 252645135) 8)) + (zushr ((zand (((zand (x0 - (zand (zushr x0 1) 1431655765)) 858993459) + (zand (zushr (x0 - (zand (zushr x0 1) 1431655765)) 2) 858993459)) + (zushr ((zand (x0 - (zand (zushr x0 1) 1431655765)) 858993459) + (zand (zushr (x0 - (zand (zushr x0 1) 1431655765)) 2) 858993459)) 4)) 252645135) + (zushr (zand (((zand (x0 - (zand (zushr x0 1) 1431655765)) 858993459) + (zand (zushr (x0 - (zand (zushr x0 1) 1431655765)) 2) 858993459)) + (zushr ((zand (x0 - (zand (zushr x0 1) 1431655765)) 858993459) + (zand (zushr (x0 - (zand (zushr x0 1) 1431655765)) 2) 858993459)) 4)) 252645135) 8)) 16) ∧ ((zand (((zand (x0 - (zand (zushr x0 1) 1431655765)) 858993459) + (zand (zushr (x0 - (zand (zushr x0 1) 1431655765)) 2) 858993459)) + (zushr ((zand (x0 - (zand (zushr x0 1) 1431655765)) 858993459) + (zand (zushr (x0 - (zand (zushr x0 1) 1431655765)) 2) 858993459)) 4)) 252645135) + (zushr (zand (((zand (x0 - (zand (zushr x0 1) 1431655765)) 858993459) + (zand (zushr (x0 - (zand (zushr x0 1) 1431655765)) 2) 858993459)) + (zushr ((zand (x0 - (zand (zushr x0 1) 1431655765)) 858993459) + (zand (zushr (x0 - (zand (zushr x0 1) 1431655765)) 2) 858993459)) 4)) 252645135) 8)) + (zushr ((zand (((zand (x0 - (zand (zushr x0 1) 1431655765)) 858993459) + (zand (zushr (x0 - (zand (zushr x0 1) 1431655765)) 2) 858993459)) + (zushr ((zand (x0 - (zand (zushr x0 1) 1431655765)) 858993459) + (zand (zushr (x0 - (zand (zushr x0 1) 1431655765)) 2) 858993459)) 4)) 252645135) + (zushr (zand (((zand (x0 - (zand (zushr x0 1) 1431655765)) 858993459) + (zand (zushr (x0 - (zand (zushr x0 1) 1431655765)) 2) 858993459)) + (zushr ((zand (x0 - (zand (zushr x0 1) 1431655765)) 858993459) + (zand (zushr (x0 - (zand (zushr x0 1) 1431655765)) 2) 858993459)) 4)) 252645135) 8)) 16) ≤ 2147483647) ∧ Q (0, (zand (((zand (((zand (x0 - (zand (zushr x0 1) 1431655765)) 858993459) + (zand (zushr (x0 - (zand (zushr x0 1) 1431655765)) 2) 858993459)) + (zushr ((zand (x0 - (zand (zushr x0 1) 1431655765)) 858993459) + (zand (zushr (x0 - (zand (zushr x0 1) 1431655765)) 2) 858993459)) 4)) 252645135) + (zushr (zand (((zand (x0 - (zand (zushr x0 1) 1431655765)) 858993459) + (zand (zushr (x0 - (zand (zushr x0 1) 1431655765)) 2) 858993459)) + (zushr ((zand (x0 - (zand (zushr x0 1) 1431655765)) 858993459) + (zand (zushr (x0 - (zand (zushr x0 1) 1431655765)) 2) 858993459)) 4)) 252645135) 8)) + (zushr ((zand (((zand (x0 - (zand (zushr x0 1) 1431655765)) 858993459) + (zand (zushr (x0 - (zand (zushr x0 1) 1431655765)) 2) 858993459)) + (zushr ((zand (x0 - (zand (zushr x0 1) 1431655765)) 858993459) + (zand (zushr (x0 - (zand (zushr x0 1) 1431655765)) 2) 858993459)) 4)) 252645135) + (zushr (zand (((zand (x0 - (zand (zushr x0 1) 1431655765)) 858993459) + (zand (zushr (x0 - (zand (zushr x0 1) 1431655765)) 2) 858993459)) + (zushr ((zand (x0 - (zand (zushr x0 1) 1431655765)) 858993459) + (zand (zushr (x0 - (zand (zushr x0 1) 1431655765)) 2) 858993459)) 4)) 252645135) 8)) 16)) 63)) M) :
    Y G d mJ6_bitCount_0f7a4 0 [(0, x0)] [] M Q := by
  refine z_iloadn dJ6_bitCount_0f7a4_0 rfl ?_
  refine z_iloadn dJ6_bitCount_0f7a4_1 rfl ?_
  refine z_iconst dJ6_bitCount_0f7a4_2 ki_1 ?_
  refine z_iushr dJ6_bitCount_0f7a4_3 ?_
  refine z_ldcw (k := 1431655765) (v := 1431655765) dJ6_bitCount_0f7a4_4 ⟨by decide, ⟨by decide, by decide⟩⟩ qJ6_265 ?_
  refine z_iand dJ6_bitCount_0f7a4_7 ?_
  obtain ⟨q1, h⟩ := h
  refine z_isub dJ6_bitCount_0f7a4_8 q1 ?_
  refine y_istoren (ls' := [(0, (x0 - (zand (zushr x0 1) 1431655765)))]) dJ6_bitCount_0f7a4_9 rfl rfl ?_
  refine z_iloadn dJ6_bitCount_0f7a4_10 rfl ?_
  refine z_ldcw (k := 858993459) (v := 858993459) dJ6_bitCount_0f7a4_11 ⟨by decide, ⟨by decide, by decide⟩⟩ qJ6_266 ?_
  refine z_iand dJ6_bitCount_0f7a4_14 ?_
  refine z_iloadn dJ6_bitCount_0f7a4_15 rfl ?_
  refine z_iconst dJ6_bitCount_0f7a4_16 ki_2 ?_
  refine z_iushr dJ6_bitCount_0f7a4_17 ?_
  refine z_ldcw (k := 858993459) (v := 858993459) dJ6_bitCount_0f7a4_18 ⟨by decide, ⟨by decide, by decide⟩⟩ qJ6_266 ?_
  refine z_iand dJ6_bitCount_0f7a4_21 ?_
  obtain ⟨q2, h⟩ := h
  refine z_iadd dJ6_bitCount_0f7a4_22 q2 ?_
  refine y_istoren (ls' := [(0, ((zand (x0 - (zand (zushr x0 1) 1431655765)) 858993459) + (zand (zushr (x0 - (zand (zushr x0 1) 1431655765)) 2) 858993459)))]) dJ6_bitCount_0f7a4_23 rfl rfl ?_
  refine z_iloadn dJ6_bitCount_0f7a4_24 rfl ?_
  refine z_iloadn dJ6_bitCount_0f7a4_25 rfl ?_
  refine z_iconst dJ6_bitCount_0f7a4_26 ki_4 ?_
  refine z_iushr dJ6_bitCount_0f7a4_27 ?_
  obtain ⟨q3, h⟩ := h
  refine z_iadd dJ6_bitCount_0f7a4_28 q3 ?_
  refine z_ldcw (k := 252645135) (v := 252645135) dJ6_bitCount_0f7a4_29 ⟨by decide, ⟨by decide, by decide⟩⟩ qJ6_267 ?_
  refine z_iand dJ6_bitCount_0f7a4_32 ?_
  refine y_istoren (ls' := [(0, (zand (((zand (x0 - (zand (zushr x0 1) 1431655765)) 858993459) + (zand (zushr (x0 - (zand (zushr x0 1) 1431655765)) 2) 858993459)) + (zushr ((zand (x0 - (zand (zushr x0 1) 1431655765)) 858993459) + (zand (zushr (x0 - (zand (zushr x0 1) 1431655765)) 2) 858993459)) 4)) 252645135))]) dJ6_bitCount_0f7a4_33 rfl rfl ?_
  refine z_iloadn dJ6_bitCount_0f7a4_34 rfl ?_
  refine z_iloadn dJ6_bitCount_0f7a4_35 rfl ?_
  refine z_bipush dJ6_bitCount_0f7a4_36 kb_8 ?_
  refine z_iushr dJ6_bitCount_0f7a4_38 ?_
  obtain ⟨q4, h⟩ := h
  refine z_iadd dJ6_bitCount_0f7a4_39 q4 ?_
  refine y_istoren (ls' := [(0, ((zand (((zand (x0 - (zand (zushr x0 1) 1431655765)) 858993459) + (zand (zushr (x0 - (zand (zushr x0 1) 1431655765)) 2) 858993459)) + (zushr ((zand (x0 - (zand (zushr x0 1) 1431655765)) 858993459) + (zand (zushr (x0 - (zand (zushr x0 1) 1431655765)) 2) 858993459)) 4)) 252645135) + (zushr (zand (((zand (x0 - (zand (zushr x0 1) 1431655765)) 858993459) + (zand (zushr (x0 - (zand (zushr x0 1) 1431655765)) 2) 858993459)) + (zushr ((zand (x0 - (zand (zushr x0 1) 1431655765)) 858993459) + (zand (zushr (x0 - (zand (zushr x0 1) 1431655765)) 2) 858993459)) 4)) 252645135) 8)))]) dJ6_bitCount_0f7a4_40 rfl rfl ?_
  refine z_iloadn dJ6_bitCount_0f7a4_41 rfl ?_
  refine z_iloadn dJ6_bitCount_0f7a4_42 rfl ?_
  refine z_bipush dJ6_bitCount_0f7a4_43 kb_16 ?_
  refine z_iushr dJ6_bitCount_0f7a4_45 ?_
  obtain ⟨q5, h⟩ := h
  refine z_iadd dJ6_bitCount_0f7a4_46 q5 ?_
  refine y_istoren (ls' := [(0, (((zand (((zand (x0 - (zand (zushr x0 1) 1431655765)) 858993459) + (zand (zushr (x0 - (zand (zushr x0 1) 1431655765)) 2) 858993459)) + (zushr ((zand (x0 - (zand (zushr x0 1) 1431655765)) 858993459) + (zand (zushr (x0 - (zand (zushr x0 1) 1431655765)) 2) 858993459)) 4)) 252645135) + (zushr (zand (((zand (x0 - (zand (zushr x0 1) 1431655765)) 858993459) + (zand (zushr (x0 - (zand (zushr x0 1) 1431655765)) 2) 858993459)) + (zushr ((zand (x0 - (zand (zushr x0 1) 1431655765)) 858993459) + (zand (zushr (x0 - (zand (zushr x0 1) 1431655765)) 2) 858993459)) 4)) 252645135) 8)) + (zushr ((zand (((zand (x0 - (zand (zushr x0 1) 1431655765)) 858993459) + (zand (zushr (x0 - (zand (zushr x0 1) 1431655765)) 2) 858993459)) + (zushr ((zand (x0 - (zand (zushr x0 1) 1431655765)) 858993459) + (zand (zushr (x0 - (zand (zushr x0 1) 1431655765)) 2) 858993459)) 4)) 252645135) + (zushr (zand (((zand (x0 - (zand (zushr x0 1) 1431655765)) 858993459) + (zand (zushr (x0 - (zand (zushr x0 1) 1431655765)) 2) 858993459)) + (zushr ((zand (x0 - (zand (zushr x0 1) 1431655765)) 858993459) + (zand (zushr (x0 - (zand (zushr x0 1) 1431655765)) 2) 858993459)) 4)) 252645135) 8)) 16)))]) dJ6_bitCount_0f7a4_47 rfl rfl ?_
  refine z_iloadn dJ6_bitCount_0f7a4_48 rfl ?_
  refine z_bipush dJ6_bitCount_0f7a4_49 kb_63 ?_
  refine z_iand dJ6_bitCount_0f7a4_51 ?_
  exact z_ireturn dJ6_bitCount_0f7a4_52 (Or.inl rfl) rfl h
set_option maxRecDepth 20000 in
set_option maxHeartbeats 4000000 in
theorem bJ7_fill_53178_0 {G : zG} {d : Nat} {M : zM} {Q : zV → zM → Prop} (hG : zP G) {r0 x1 : Int} {nr0 : Nat} (hr0 : zsh r0.toNat = (100, nr0))
    (h : (nr0 ≠ 0) ∧ Y G d mJ7_fill_53178 5 [(2, r0), (0, x1), (0, 0), (0, (nr0 : Int))] [] M Q) :
    Y G d mJ7_fill_53178 0 [(2, r0), (0, x1), (9, 0), (9, 0)] [] M Q := by
  refine z_iconst dJ7_fill_53178_0 ki_0 ?_
  refine y_istoren (ls' := [(2, r0), (0, x1), (0, 0), (9, 0)]) dJ7_fill_53178_1 rfl rfl ?_
  refine z_aloadn dJ7_fill_53178_2 rfl (Or.inl rfl) ?_
  obtain ⟨q1, h⟩ := h
  refine y_alen (x := (nr0 : Int)) dJ7_fill_53178_3 hr0 (by decide) q1 rfl ?_
  refine y_istoren (ls' := [(2, r0), (0, x1), (0, 0), (0, (nr0 : Int))]) dJ7_fill_53178_4 rfl rfl ?_
  exact h
set_option maxRecDepth 20000 in
set_option maxHeartbeats 4000000 in
theorem bJ7_fill_53178_5 {G : zG} {d : Nat} {M : zM} {Q : zV → zM → Prop} (hG : zP G) {r0 x1 x2 x3 : Int} {nr0 : Nat} (hr0 : zsh r0.toNat = (100, nr0))
    (h : ((x3 ≤ x2 → Q (9, 0) M) ∧ (x2 < x3 → (0 ≤ x2 ∧ x2 < (nr0 : Int)) ∧ (-2147483648 ≤ x2 + 1 ∧ x2 + 1 ≤ 2147483647) ∧ Y G d mJ7_fill_53178 5 [(2, r0), (0, x1), (0, (x2 + 1)), (0, x3)] [] (zset M r0 x2 x1) Q))) :
    Y G d mJ7_fill_53178 5 [(2, r0), (0, x1), (0, x2), (0, x3)] [] M Q := by
  refine z_iloadn dJ7_fill_53178_5 rfl ?_
  refine z_iloadn dJ7_fill_53178_6 rfl ?_
  refine z_icmpge (tgt := 20) dJ7_fill_53178_7 rfl (fun q => ?_) (fun q => ?_)
  · replace h := h.1 q
    exact z_return dJ7_fill_53178_20 rfl rfl h
  · replace h := h.2 q
    refine z_aloadn dJ7_fill_53178_10 rfl (Or.inl rfl) ?_
    refine z_iloadn dJ7_fill_53178_11 rfl ?_
    refine z_iloadn dJ7_fill_53178_12 rfl ?_
    obtain ⟨q1, h⟩ := h
    refine y_iast hG dJ7_fill_53178_13 hr0 q1 ?_
    obtain ⟨q2, h⟩ := h
    refine y_iinc (ls' := [(2, r0), (0, x1), (0, (x2 + 1)), (0, x3)]) dJ7_fill_53178_14 rfl rfl q2 rfl ?_
    refine z_goto (tgt := 5) dJ7_fill_53178_17 rfl ?_
    exact h
set_option maxRecDepth 20000 in
set_option maxHeartbeats 4000000 in
theorem bX12_pupilOf_0 {G : zG} {d : Nat} {M : zM} {Q : zV → zM → Prop} (hG : zP G) {x1 x2 : Int}
    (h : (-2147483648 ≤ 5 * x1 ∧ 5 * x1 ≤ 2147483647) ∧ (-2147483648 ≤ 74 + (5 * x1) ∧ 74 + (5 * x1) ≤ 2147483647) ∧ (-2147483648 ≤ (74 + (5 * x1)) + x2 ∧ (74 + (5 * x1)) + x2 ≤ 2147483647) ∧ (0 ≤ ((74 + (5 * x1)) + x2) ∧ ((74 + (5 * x1)) + x2) < 156) ∧ Q (0, (M 235 ((74 + (5 * x1)) + x2))) M) :
    Y G d mX12_pupilOf 0 [(2, 234), (0, x1), (0, x2)] [] M Q := by
  refine z_aloadn dX12_pupilOf_0 rfl (Or.inl rfl) ?_
  refine y_getr (v := 235) hG dX12_pupilOf_1 fX12_7 sh234 (by decide) rfl (by decide +kernel) (by decide) ?_
  refine z_bipush dX12_pupilOf_4 kb_74 ?_
  refine z_iconst dX12_pupilOf_6 ki_5 ?_
  refine z_iloadn dX12_pupilOf_7 rfl ?_
  obtain ⟨q1, h⟩ := h
  refine z_imul dX12_pupilOf_8 q1 ?_
  obtain ⟨q2, h⟩ := h
  refine z_iadd dX12_pupilOf_9 q2 ?_
  refine z_iloadn dX12_pupilOf_10 rfl ?_
  obtain ⟨q3, h⟩ := h
  refine z_iadd dX12_pupilOf_11 q3 ?_
  obtain ⟨q4, h⟩ := h
  refine y_iald (x := (M 235 ((74 + (5 * x1)) + x2))) dX12_pupilOf_12 sh235 q4 rfl ?_
  exact z_ireturn dX12_pupilOf_13 (Or.inl rfl) rfl h
set_option maxRecDepth 20000 in
set_option maxHeartbeats 4000000 in
theorem bX12_isChild_0 {G : zG} {d : Nat} {M : zM} {Q : zV → zM → Prop} (hG : zP G) {x1 x2 : Int}
    (h : (-2147483648 ≤ 3 * x1 ∧ 3 * x1 ≤ 2147483647) ∧ (-2147483648 ≤ 14 + (3 * x1) ∧ 14 + (3 * x1) ≤ 2147483647) ∧ (-2147483648 ≤ (14 + (3 * x1)) + 1 ∧ (14 + (3 * x1)) + 1 ≤ 2147483647) ∧ (0 ≤ ((14 + (3 * x1)) + 1) ∧ ((14 + (3 * x1)) + 1) < 156) ∧ (((M 235 ((14 + (3 * x1)) + 1)) = x2 → Q (0, 1) M) ∧ (¬ (M 235 ((14 + (3 * x1)) + 1)) = x2 → (-2147483648 ≤ 3 * x1 ∧ 3 * x1 ≤ 2147483647) ∧ (-2147483648 ≤ 14 + (3 * x1) ∧ 14 + (3 * x1) ≤ 2147483647) ∧ (-2147483648 ≤ (14 + (3 * x1)) + 2 ∧ (14 + (3 * x1)) + 2 ≤ 2147483647) ∧ (0 ≤ ((14 + (3 * x1)) + 2) ∧ ((14 + (3 * x1)) + 2) < 156) ∧ ((¬ (M 235 ((14 + (3 * x1)) + 2)) = x2 → Q (0, 0) M) ∧ ((M 235 ((14 + (3 * x1)) + 2)) = x2 → Q (0, 1) M))))) :
    Y G d mX12_isChild 0 [(2, 234), (0, x1), (0, x2)] [] M Q := by
  refine z_aloadn dX12_isChild_0 rfl (Or.inl rfl) ?_
  refine y_getr (v := 235) hG dX12_isChild_1 fX12_7 sh234 (by decide) rfl (by decide +kernel) (by decide) ?_
  refine z_bipush dX12_isChild_4 kb_14 ?_
  refine z_iconst dX12_isChild_6 ki_3 ?_
  refine z_iloadn dX12_isChild_7 rfl ?_
  obtain ⟨q1, h⟩ := h
  refine z_imul dX12_isChild_8 q1 ?_
  obtain ⟨q2, h⟩ := h
  refine z_iadd dX12_isChild_9 q2 ?_
  refine z_iconst dX12_isChild_10 ki_1 ?_
  obtain ⟨q3, h⟩ := h
  refine z_iadd dX12_isChild_11 q3 ?_
  obtain ⟨q4, h⟩ := h
  refine y_iald (x := (M 235 ((14 + (3 * x1)) + 1))) dX12_isChild_12 sh235 q4 rfl ?_
  refine z_iloadn dX12_isChild_13 rfl ?_
  refine z_icmpeq (tgt := 34) dX12_isChild_14 rfl (fun q => ?_) (fun q => ?_)
  · replace h := h.1 q
    refine z_iconst dX12_isChild_34 ki_1 ?_
    refine z_goto (tgt := 39) dX12_isChild_35 rfl ?_
    exact z_ireturn dX12_isChild_39 (Or.inr ⟨rfl, ⟨by decide, by decide⟩⟩) rfl h
  · replace h := h.2 q
    refine z_aloadn dX12_isChild_17 rfl (Or.inl rfl) ?_
    refine y_getr (v := 235) hG dX12_isChild_18 fX12_7 sh234 (by decide) rfl (by decide +kernel) (by decide) ?_
    refine z_bipush dX12_isChild_21 kb_14 ?_
    refine z_iconst dX12_isChild_23 ki_3 ?_
    refine z_iloadn dX12_isChild_24 rfl ?_
    obtain ⟨q5, h⟩ := h
    refine z_imul dX12_isChild_25 q5 ?_
    obtain ⟨q6, h⟩ := h
    refine z_iadd dX12_isChild_26 q6 ?_
    refine z_iconst dX12_isChild_27 ki_2 ?_
    obtain ⟨q7, h⟩ := h
    refine z_iadd dX12_isChild_28 q7 ?_
    obtain ⟨q8, h⟩ := h
    refine y_iald (x := (M 235 ((14 + (3 * x1)) + 2))) dX12_isChild_29 sh235 q8 rfl ?_
    refine z_iloadn dX12_isChild_30 rfl ?_
    refine z_icmpne (tgt := 38) dX12_isChild_31 rfl (fun q => ?_) (fun q => ?_)
    · replace h := h.1 q
      refine z_iconst dX12_isChild_38 ki_0 ?_
      exact z_ireturn dX12_isChild_39 (Or.inr ⟨rfl, ⟨by decide, by decide⟩⟩) rfl h
    · replace h := h.2 q
      refine z_iconst dX12_isChild_34 ki_1 ?_
      refine z_goto (tgt := 39) dX12_isChild_35 rfl ?_
      exact z_ireturn dX12_isChild_39 (Or.inr ⟨rfl, ⟨by decide, by decide⟩⟩) rfl h
set_option maxRecDepth 20000 in
set_option maxHeartbeats 4000000 in
theorem bX12_isNumber_0 {G : zG} {d : Nat} {M : zM} {Q : zV → zM → Prop} (hG : zP G) {x1 : Int}
    (h : (0 ≤ x1 ∧ x1 < 600) ∧ ((¬ (M 251 x1) = 0 → Q (0, 0) M) ∧ ((M 251 x1) = 0 → Q (0, 1) M))) :
    Y G d mX12_isNumber 0 [(2, 234), (0, x1)] [] M Q := by
  refine z_aloadn dX12_isNumber_0 rfl (Or.inl rfl) ?_
  refine y_getr (v := 251) hG dX12_isNumber_1 fX12_66 sh234 (by decide) rfl (by decide +kernel) (by decide) ?_
  refine z_iloadn dX12_isNumber_4 rfl ?_
  obtain ⟨q1, h⟩ := h
  refine y_iald (x := (M 251 x1)) dX12_isNumber_5 sh251 q1 rfl ?_
  refine z_ifne (tgt := 13) dX12_isNumber_6 rfl (fun q => ?_) (fun q => ?_)
  · replace h := h.1 q
    refine z_iconst dX12_isNumber_13 ki_0 ?_
    exact z_ireturn dX12_isNumber_14 (Or.inr ⟨rfl, ⟨by decide, by decide⟩⟩) rfl h
  · replace h := h.2 q
    refine z_iconst dX12_isNumber_9 ki_1 ?_
    refine z_goto (tgt := 14) dX12_isNumber_10 rfl ?_
    exact z_ireturn dX12_isNumber_14 (Or.inr ⟨rfl, ⟨by decide, by decide⟩⟩) rfl h
set_option maxRecDepth 20000 in
set_option maxHeartbeats 4000000 in
theorem bX10_resultOf_0 {G : zG} {d : Nat} {M : zM} {Q : zV → zM → Prop} (hG : zP G) {x1 x2 : Int}
    (h : ((x1 < 0 → Q (0, 0) M) ∧ (0 ≤ x1 → ((x2 ≤ x1 → Q (0, 0) M) ∧ (x1 < x2 → ((300 ≤ x1 → Q (0, 0) M) ∧ (x1 < 300 → (0 ≤ x1 ∧ x1 < 300) ∧ Q (0, (M 11 x1)) M))))))) :
    Y G d mX10_resultOf 0 [(2, 2), (0, x1), (0, x2)] [] M Q := by
  refine z_iloadn dX10_resultOf_0 rfl ?_
  refine z_iflt (tgt := 27) dX10_resultOf_1 rfl (fun q => ?_) (fun q => ?_)
  · replace h := h.1 q
    refine z_iconst dX10_resultOf_27 ki_0 ?_
    exact z_ireturn dX10_resultOf_28 (Or.inl rfl) rfl h
  · replace h := h.2 q
    refine z_iloadn dX10_resultOf_4 rfl ?_
    refine z_iloadn dX10_resultOf_5 rfl ?_
    refine z_icmpge (tgt := 27) dX10_resultOf_6 rfl (fun q => ?_) (fun q => ?_)
    · replace h := h.1 q
      refine z_iconst dX10_resultOf_27 ki_0 ?_
      exact z_ireturn dX10_resultOf_28 (Or.inl rfl) rfl h
    · replace h := h.2 q
      refine z_iloadn dX10_resultOf_9 rfl ?_
      refine z_aloadn dX10_resultOf_10 rfl (Or.inl rfl) ?_
      refine y_getr (v := 11) hG dX10_resultOf_11 fX10_36 sh2 (by decide) rfl (by decide +kernel) (by decide) ?_
      refine y_alen (x := 300) dX10_resultOf_14 sh11 (by decide) (by decide) rfl ?_
      refine z_icmpge (tgt := 27) dX10_resultOf_15 rfl (fun q => ?_) (fun q => ?_)
      · replace h := h.1 q
        refine z_iconst dX10_resultOf_27 ki_0 ?_
        exact z_ireturn dX10_resultOf_28 (Or.inl rfl) rfl h
      · replace h := h.2 q
        refine z_aloadn dX10_resultOf_18 rfl (Or.inl rfl) ?_
        refine y_getr (v := 11) hG dX10_resultOf_19 fX10_36 sh2 (by decide) rfl (by decide +kernel) (by decide) ?_
        refine z_iloadn dX10_resultOf_22 rfl ?_
        obtain ⟨q1, h⟩ := h
        refine y_iald (x := (M 11 x1)) dX10_resultOf_23 sh11 q1 rfl ?_
        refine z_goto (tgt := 28) dX10_resultOf_24 rfl ?_
        exact z_ireturn dX10_resultOf_28 (Or.inl rfl) rfl h
set_option maxRecDepth 20000 in
set_option maxHeartbeats 4000000 in
theorem bX3_areAlike_0 {G : zG} {d : Nat} {M : zM} {Q : zV → zM → Prop} (hG : zP G) {x1 x2 : Int}
    (h : (0 ≤ x1 ∧ x1 < 12) ∧ (0 ≤ x2 ∧ x2 < 12) ∧ ((¬ (M 30 x1) = (M 30 x2) → Q (0, 0) M) ∧ ((M 30 x1) = (M 30 x2) → Q (0, 1) M))) :
    Y G d mX3_areAlike 0 [(2, 19), (0, x1), (0, x2)] [] M Q := by
  refine z_aloadn dX3_areAlike_0 rfl (Or.inl rfl) ?_
  refine y_getr (v := 30) hG dX3_areAlike_1 fX3_45 sh19 (by decide) rfl (by decide +kernel) (by decide) ?_
  refine z_iloadn dX3_areAlike_4 rfl ?_
  obtain ⟨q1, h⟩ := h
  refine y_iald (x := (M 30 x1)) dX3_areAlike_5 sh30 q1 rfl ?_
  refine z_aloadn dX3_areAlike_6 rfl (Or.inl rfl) ?_
  refine y_getr (v := 30) hG dX3_areAlike_7 fX3_45 sh19 (by decide) rfl (by decide +kernel) (by decide) ?_
  refine z_iloadn dX3_areAlike_10 rfl ?_
  obtain ⟨q2, h⟩ := h
  refine y_iald (x := (M 30 x2)) dX3_areAlike_11 sh30 q2 rfl ?_
  refine z_icmpne (tgt := 19) dX3_areAlike_12 rfl (fun q => ?_) (fun q => ?_)
  · replace h := h.1 q
    refine z_iconst dX3_areAlike_19 ki_0 ?_
    exact z_ireturn dX3_areAlike_20 (Or.inr ⟨rfl, ⟨by decide, by decide⟩⟩) rfl h
  · replace h := h.2 q
    refine z_iconst dX3_areAlike_15 ki_1 ?_
    refine z_goto (tgt := 20) dX3_areAlike_16 rfl ?_
    exact z_ireturn dX3_areAlike_20 (Or.inr ⟨rfl, ⟨by decide, by decide⟩⟩) rfl h
set_option maxRecDepth 20000 in
set_option maxHeartbeats 4000000 in
theorem bX1_setValue_0 {G : zG} {d : Nat} {M : zM} {Q : zV → zM → Prop} (hG : zP G) {o x1 x2 : Int} (ho : zND o)
    (h : ((x1 < 0 → Q (9, 0) M) ∧ (0 ≤ x1 → (((M o 8) ≤ x1 → Q (9, 0) M) ∧ (x1 < (M o 8) → (0 ≤ x1 ∧ x1 < 300) ∧ Q (9, 0) (zset M (o + 2) x1 x2)))))) :
    Y G d mX1_setValue 0 [(2, o), (0, x1), (0, x2)] [] M Q := by
  refine z_iloadn dX1_setValue_0 rfl ?_
  refine z_iflt (tgt := 19) dX1_setValue_1 rfl (fun q => ?_) (fun q => ?_)
  · replace h := h.1 q
    exact z_return dX1_setValue_19 rfl rfl h
  · replace h := h.2 q
    refine z_iloadn dX1_setValue_4 rfl ?_
    refine z_aloadn dX1_setValue_5 rfl (Or.inl rfl) ?_
    refine y_getf (x := (M o 8)) dX1_setValue_6 fX1_36 (nd_0 ho) (by decide) rfl rfl ?_
    refine z_icmpge (tgt := 19) dX1_setValue_9 rfl (fun q => ?_) (fun q => ?_)
    · replace h := h.1 q
      exact z_return dX1_setValue_19 rfl rfl h
    · replace h := h.2 q
      refine z_aloadn dX1_setValue_12 rfl (Or.inl rfl) ?_
      refine y_getr (v := (o + 2)) hG dX1_setValue_13 fX1_15 (nd_0 ho) (by decide) rfl (nd_x1 ho) (nd_ne ho 2 (by decide)) ?_
      refine z_iloadn dX1_setValue_16 rfl ?_
      refine z_iloadn dX1_setValue_17 rfl ?_
      obtain ⟨q1, h⟩ := h
      refine y_iast hG dX1_setValue_18 (nd_2 ho) q1 ?_
      exact z_return dX1_setValue_19 rfl rfl h
set_option maxRecDepth 20000 in
set_option maxHeartbeats 4000000 in
theorem bX1_dropParts_0 {G : zG} {d : Nat} {M : zM} {Q : zV → zM → Prop} (hG : zP G) {o x1 : Int} (ho : zND o)
    (h : ((x1 < 0 → Q (9, 0) M) ∧ (0 ≤ x1 → (((M o 8) ≤ x1 → Q (9, 0) M) ∧ (x1 < (M o 8) → (0 ≤ x1 ∧ x1 < 300) ∧ (0 ≤ x1 ∧ x1 < 300) ∧ (0 ≤ x1 ∧ x1 < 300) ∧ Q (9, 0) (zset (zset (zset M (o + 4) x1 0) (o + 5) x1 (-1)) (o + 6) x1 (-1))))))) :
    Y G d mX1_dropParts 0 [(2, o), (0, x1)] [] M Q := by
  refine z_iloadn dX1_dropParts_0 rfl ?_
  refine z_iflt (tgt := 33) dX1_dropParts_1 rfl (fun q => ?_) (fun q => ?_)
  · replace h := h.1 q
    exact z_return dX1_dropParts_33 rfl rfl h
  · replace h := h.2 q
    refine z_iloadn dX1_dropParts_4 rfl ?_
    refine z_aloadn dX1_dropParts_5 rfl (Or.inl rfl) ?_
    refine y_getf (x := (M o 8)) dX1_dropParts_6 fX1_36 (nd_0 ho) (by decide) rfl rfl ?_
    refine z_icmpge (tgt := 33) dX1_dropParts_9 rfl (fun q => ?_) (fun q => ?_)
    · replace h := h.1 q
      exact z_return dX1_dropParts_33 rfl rfl h
    · replace h := h.2 q
      refine z_aloadn dX1_dropParts_12 rfl (Or.inl rfl) ?_
      refine y_getr (v := (o + 4)) hG dX1_dropParts_13 fX1_21 (nd_0 ho) (by decide) rfl (nd_x3 ho) (nd_ne ho 4 (by decide)) ?_
      refine z_iloadn dX1_dropParts_16 rfl ?_
      refine z_iconst dX1_dropParts_17 ki_0 ?_
      obtain ⟨q1, h⟩ := h
      refine y_iast hG dX1_dropParts_18 (nd_4 ho) q1 ?_
      refine z_aloadn dX1_dropParts_19 rfl (Or.inl rfl) ?_
      refine y_getr (v := (o + 5)) hG dX1_dropParts_20 fX1_24 (nd_0 ho) (by decide) rfl (nd_x4 ho) (nd_ne ho 5 (by decide)) ?_
      refine z_iloadn dX1_dropParts_23 rfl ?_
      refine z_iconst dX1_dropParts_24 ki_m1 ?_
      obtain ⟨q2, h⟩ := h
      refine y_iast hG dX1_dropParts_25 (nd_5 ho) q2 ?_
      refine z_aloadn dX1_dropParts_26 rfl (Or.inl rfl) ?_
      refine y_getr (v := (o + 6)) hG dX1_dropParts_27 fX1_27 (nd_0 ho) (by decide) rfl (nd_x5 ho) (nd_ne ho 6 (by decide)) ?_
      refine z_iloadn dX1_dropParts_30 rfl ?_
      refine z_iconst dX1_dropParts_31 ki_m1 ?_
      obtain ⟨q3, h⟩ := h
      refine y_iast hG dX1_dropParts_32 (nd_6 ho) q3 ?_
      exact z_return dX1_dropParts_33 rfl rfl h
set_option maxRecDepth 20000 in
set_option maxHeartbeats 4000000 in
theorem bX1_become_0 {G : zG} {d : Nat} {M : zM} {Q : zV → zM → Prop} (hG : zP G) {o x1 x2 x3 : Int} (ho : zND o)
    (h : ((x1 < 0 → Q (9, 0) M) ∧ (0 ≤ x1 → (((M o 8) ≤ x1 → Q (9, 0) M) ∧ (x1 < (M o 8) → (0 ≤ x1 ∧ x1 < 300) ∧ (0 ≤ x1 ∧ x1 < 300) ∧ (0 ≤ x1 ∧ x1 < 300) ∧ (0 ≤ x1 ∧ x1 < 300) ∧ (0 ≤ x1 ∧ x1 < 300) ∧ Q (9, 0) (zset (zset (zset (zset (zset M (o + 1) x1 x2) (o + 2) x1 x3) (o + 4) x1 0) (o + 5) x1 (-1)) (o + 6) x1 (-1))))))) :
    Y G d mX1_become 0 [(2, o), (0, x1), (0, x2), (0, x3)] [] M Q := by
  refine z_iloadn dX1_become_0 rfl ?_
  refine z_iflt (tgt := 47) dX1_become_1 rfl (fun q => ?_) (fun q => ?_)
  · replace h := h.1 q
    exact z_return dX1_become_47 rfl rfl h
  · replace h := h.2 q
    refine z_iloadn dX1_become_4 rfl ?_
    refine z_aloadn dX1_become_5 rfl (Or.inl rfl) ?_
    refine y_getf (x := (M o 8)) dX1_become_6 fX1_36 (nd_0 ho) (by decide) rfl rfl ?_
    refine z_icmpge (tgt := 47) dX1_become_9 rfl (fun q => ?_) (fun q => ?_)
    · replace h := h.1 q
      exact z_return dX1_become_47 rfl rfl h
    · replace h := h.2 q
      refine z_aloadn dX1_become_12 rfl (Or.inl rfl) ?_
      refine y_getr (v := (o + 1)) hG dX1_become_13 fX1_9 (nd_0 ho) (by decide) rfl (nd_x0 ho) (nd_ne ho 1 (by decide)) ?_
      refine z_iloadn dX1_become_16 rfl ?_
      refine z_iloadn dX1_become_17 rfl ?_
      obtain ⟨q1, h⟩ := h
      refine y_iast hG dX1_become_18 (nd_1 ho) q1 ?_
      refine z_aloadn dX1_become_19 rfl (Or.inl rfl) ?_
      refine y_getr (v := (o + 2)) hG dX1_become_20 fX1_15 (nd_0 ho) (by decide) rfl (nd_x1 ho) (nd_ne ho 2 (by decide)) ?_
      refine z_iloadn dX1_become_23 rfl ?_
      refine z_iloadn dX1_become_24 rfl ?_
      obtain ⟨q2, h⟩ := h
      refine y_iast hG dX1_become_25 (nd_2 ho) q2 ?_
      refine z_aloadn dX1_become_26 rfl (Or.inl rfl) ?_
      refine y_getr (v := (o + 4)) hG dX1_become_27 fX1_21 (nd_0 ho) (by decide) rfl (nd_x3 ho) (nd_ne ho 4 (by decide)) ?_
      refine z_iloadn dX1_become_30 rfl ?_
      refine z_iconst dX1_become_31 ki_0 ?_
      obtain ⟨q3, h⟩ := h
      refine y_iast hG dX1_become_32 (nd_4 ho) q3 ?_
      refine z_aloadn dX1_become_33 rfl (Or.inl rfl) ?_
      refine y_getr (v := (o + 5)) hG dX1_become_34 fX1_24 (nd_0 ho) (by decide) rfl (nd_x4 ho) (nd_ne ho 5 (by decide)) ?_
      refine z_iloadn dX1_become_37 rfl ?_
      refine z_iconst dX1_become_38 ki_m1 ?_
      obtain ⟨q4, h⟩ := h
      refine y_iast hG dX1_become_39 (nd_5 ho) q4 ?_
      refine z_aloadn dX1_become_40 rfl (Or.inl rfl) ?_
      refine y_getr (v := (o + 6)) hG dX1_become_41 fX1_27 (nd_0 ho) (by decide) rfl (nd_x5 ho) (nd_ne ho 6 (by decide)) ?_
      refine z_iloadn dX1_become_44 rfl ?_
      refine z_iconst dX1_become_45 ki_m1 ?_
      obtain ⟨q5, h⟩ := h
      refine y_iast hG dX1_become_46 (nd_6 ho) q5 ?_
      exact z_return dX1_become_47 rfl rfl h
set_option maxRecDepth 20000 in
set_option maxHeartbeats 4000000 in
theorem bX1_link_0 {G : zG} {d : Nat} {M : zM} {Q : zV → zM → Prop} (hG : zP G) {o x1 x2 x3 : Int} (ho : zND o)
    (h : ((x1 < 0 → Q (9, 0) M) ∧ (0 ≤ x1 → (((M o 8) ≤ x1 → Q (9, 0) M) ∧ (x1 < (M o 8) → ((x2 < 0 → Q (9, 0) M) ∧ (0 ≤ x2 → (((M o 8) ≤ x2 → Q (9, 0) M) ∧ (x2 < (M o 8) → (0 ≤ x1 ∧ x1 < 300) ∧ (0 ≤ x2 ∧ x2 < 300) ∧ Q (9, 0) (zset (zset M (o + 7) x1 x2) (o + 3) x2 x3)))))))))) :
    Y G d mX1_link 0 [(2, o), (0, x1), (0, x2), (0, x3)] [] M Q := by
  refine z_iloadn dX1_link_0 rfl ?_
  refine z_iflt (tgt := 38) dX1_link_1 rfl (fun q => ?_) (fun q => ?_)
  · replace h := h.1 q
    exact z_return dX1_link_38 rfl rfl h
  · replace h := h.2 q
    refine z_iloadn dX1_link_4 rfl ?_
    refine z_aloadn dX1_link_5 rfl (Or.inl rfl) ?_
    refine y_getf (x := (M o 8)) dX1_link_6 fX1_36 (nd_0 ho) (by decide) rfl rfl ?_
    refine z_icmpge (tgt := 38) dX1_link_9 rfl (fun q => ?_) (fun q => ?_)
    · replace h := h.1 q
      exact z_return dX1_link_38 rfl rfl h
    · replace h := h.2 q
      refine z_iloadn dX1_link_12 rfl ?_
      refine z_iflt (tgt := 38) dX1_link_13 rfl (fun q => ?_) (fun q => ?_)
      · replace h := h.1 q
        exact z_return dX1_link_38 rfl rfl h
      · replace h := h.2 q
        refine z_iloadn dX1_link_16 rfl ?_
        refine z_aloadn dX1_link_17 rfl (Or.inl rfl) ?_
        refine y_getf (x := (M o 8)) dX1_link_18 fX1_36 (nd_0 ho) (by decide) rfl rfl ?_
        refine z_icmpge (tgt := 38) dX1_link_21 rfl (fun q => ?_) (fun q => ?_)
        · replace h := h.1 q
          exact z_return dX1_link_38 rfl rfl h
        · replace h := h.2 q
          refine z_aloadn dX1_link_24 rfl (Or.inl rfl) ?_
          refine y_getr (v := (o + 7)) hG dX1_link_25 fX1_30 (nd_0 ho) (by decide) rfl (nd_x6 ho) (nd_ne ho 7 (by decide)) ?_
          refine z_iloadn dX1_link_28 rfl ?_
          refine z_iloadn dX1_link_29 rfl ?_
          obtain ⟨q1, h⟩ := h
          refine y_iast hG dX1_link_30 (nd_7 ho) q1 ?_
          refine z_aloadn dX1_link_31 rfl (Or.inl rfl) ?_
          refine y_getr (v := (o + 3)) hG dX1_link_32 fX1_18 (nd_0 ho) (by decide) rfl (nd_x2 ho) (nd_ne ho 3 (by decide)) ?_
          refine z_iloadn dX1_link_35 rfl ?_
          refine z_iloadn dX1_link_36 rfl ?_
          obtain ⟨q2, h⟩ := h
          refine y_iast hG dX1_link_37 (nd_3 ho) q2 ?_
          exact z_return dX1_link_38 rfl rfl h
set_option maxRecDepth 20000 in
set_option maxHeartbeats 4000000 in
theorem bX1_make_0 {G : zG} {d : Nat} {M : zM} {Q : zV → zM → Prop} (hG : zP G) {o x1 x2 : Int} (ho : zND o)
    (h : (((M o 8) < 300 → (0 ≤ (M o 8) ∧ (M o 8) < 300) ∧ (0 ≤ (M o 8) ∧ (M o 8) < 300) ∧ (0 ≤ (M o 8) ∧ (M o 8) < 300) ∧ (0 ≤ (M o 8) ∧ (M o 8) < 300) ∧ (0 ≤ (M o 8) ∧ (M o 8) < 300) ∧ (0 ≤ (M o 8) ∧ (M o 8) < 300) ∧ (0 ≤ (M o 8) ∧ (M o 8) < 300) ∧ (-2147483648 ≤ (M o 8) + 1 ∧ (M o 8) + 1 ≤ 2147483647) ∧ (-2147483648 ≤ ((M o 8) + 1) - 1 ∧ ((M o 8) + 1) - 1 ≤ 2147483647) ∧ Q (0, (((M o 8) + 1) - 1)) (zset (zset (zset (zset (zset (zset (zset (zset M (o + 1) (M o 8) x1) (o + 2) (M o 8) x2) (o + 3) (M o 8) 1) (o + 4) (M o 8) 0) (o + 5) (M o 8) (-1)) (o + 6) (M o 8) (-1)) (o + 7) (M o 8) (-1)) o 8 ((M o 8) + 1))) ∧ (300 ≤ (M o 8) → Q (0, (-1)) M))) :
    Y G d mX1_make 0 [(2, o), (0, x1), (0, x2)] [] M Q := by
  refine z_aloadn dX1_make_0 rfl (Or.inl rfl) ?_
  refine y_getf (x := (M o 8)) dX1_make_1 fX1_36 (nd_0 ho) (by decide) rfl rfl ?_
  refine z_sipush dX1_make_4 ks_300 ?_
  refine z_icmplt (tgt := 12) dX1_make_7 rfl (fun q => ?_) (fun q => ?_)
  · replace h := h.1 q
    refine z_aloadn dX1_make_12 rfl (Or.inl rfl) ?_
    refine y_getr (v := (o + 1)) hG dX1_make_13 fX1_9 (nd_0 ho) (by decide) rfl (nd_x0 ho) (nd_ne ho 1 (by decide)) ?_
    refine z_aloadn dX1_make_16 rfl (Or.inl rfl) ?_
    refine y_getf (x := (M o 8)) dX1_make_17 fX1_36 (nd_0 ho) (by decide) rfl rfl ?_
    refine z_iloadn dX1_make_20 rfl ?_
    obtain ⟨q1, h⟩ := h
    refine y_iast hG dX1_make_21 (nd_1 ho) q1 ?_
    refine z_aloadn dX1_make_22 rfl (Or.inl rfl) ?_
    refine y_getr (v := (o + 2)) hG dX1_make_23 fX1_15 (nd_0 ho) (by decide) rfl (nd_x1 ho) (nd_ne ho 2 (by decide)) ?_
    refine z_aloadn dX1_make_26 rfl (Or.inl rfl) ?_
    refine y_getf (x := (M o 8)) dX1_make_27 fX1_36 (nd_0 ho) (by decide) rfl (zset_ne (fun q => absurd q.1 (by omega))) ?_
    refine z_iloadn dX1_make_30 rfl ?_
    obtain ⟨q2, h⟩ := h
    refine y_iast hG dX1_make_31 (nd_2 ho) q2 ?_
    refine z_aloadn dX1_make_32 rfl (Or.inl rfl) ?_
    refine y_getr (v := (o + 3)) hG dX1_make_33 fX1_18 (nd_0 ho) (by decide) rfl (nd_x2 ho) (nd_ne ho 3 (by decide)) ?_
    refine z_aloadn dX1_make_36 rfl (Or.inl rfl) ?_
    refine y_getf (x := (M o 8)) dX1_make_37 fX1_36 (nd_0 ho) (by decide) rfl (((zset_ne (fun q => absurd q.1 (by omega))).trans (zset_ne (fun q => absurd q.1 (by omega))))) ?_
    refine z_iconst dX1_make_40 ki_1 ?_
    obtain ⟨q3, h⟩ := h
    refine y_iast hG dX1_make_41 (nd_3 ho) q3 ?_
    refine z_aloadn dX1_make_42 rfl (Or.inl rfl) ?_
    refine y_getr (v := (o + 4)) hG dX1_make_43 fX1_21 (nd_0 ho) (by decide) rfl (nd_x3 ho) (nd_ne ho 4 (by decide)) ?_
    refine z_aloadn dX1_make_46 rfl (Or.inl rfl) ?_
    refine y_getf (x := (M o 8)) dX1_make_47 fX1_36 (nd_0 ho) (by decide) rfl (((zset_ne (fun q => absurd q.1 (by omega))).trans (((zset_ne (fun q => absurd q.1 (by omega))).trans (zset_ne (fun q => absurd q.1 (by omega))))))) ?_
    refine z_iconst dX1_make_50 ki_0 ?_
    obtain ⟨q4, h⟩ := h
    refine y_iast hG dX1_make_51 (nd_4 ho) q4 ?_
    refine z_aloadn dX1_make_52 rfl (Or.inl rfl) ?_
    refine y_getr (v := (o + 5)) hG dX1_make_53 fX1_24 (nd_0 ho) (by decide) rfl (nd_x4 ho) (nd_ne ho 5 (by decide)) ?_
    refine z_aloadn dX1_make_56 rfl (Or.inl rfl) ?_
    refine y_getf (x := (M o 8)) dX1_make_57 fX1_36 (nd_0 ho) (by decide) rfl (((zset_ne (fun q => absurd q.1 (by omega))).trans (((zset_ne (fun q => absurd q.1 (by omega))).trans (((zset_ne (fun q => absurd q.1 (by omega))).trans (zset_ne (fun q => absurd q.1 (by omega))))))))) ?_
    refine z_iconst dX1_make_60 ki_m1 ?_
    obtain ⟨q5, h⟩ := h
    refine y_iast hG dX1_make_61 (nd_5 ho) q5 ?_
    refine z_aloadn dX1_make_62 rfl (Or.inl rfl) ?_
    refine y_getr (v := (o + 6)) hG dX1_make_63 fX1_27 (nd_0 ho) (by decide) rfl (nd_x5 ho) (nd_ne ho 6 (by decide)) ?_
    refine z_aloadn dX1_make_66 rfl (Or.inl rfl) ?_
    refine y_getf (x := (M o 8)) dX1_make_67 fX1_36 (nd_0 ho) (by decide) rfl (((zset_ne (fun q => absurd q.1 (by omega))).trans (((zset_ne (fun q => absurd q.1 (by omega))).trans (((zset_ne (fun q => absurd q.1 (by omega))).trans (((zset_ne (fun q => absurd q.1 (by omega))).trans (zset_ne (fun q => absurd q.1 (by omega))))))))))) ?_
    refine z_iconst dX1_make_70 ki_m1 ?_
    obtain ⟨q6, h⟩ := h
    refine y_iast hG dX1_make_71 (nd_6 ho) q6 ?_
    refine z_aloadn dX1_make_72 rfl (Or.inl rfl) ?_
    refine y_getr (v := (o + 7)) hG dX1_make_73 fX1_30 (nd_0 ho) (by decide) rfl (nd_x6 ho) (nd_ne ho 7 (by decide)) ?_
    refine z_aloadn dX1_make_76 rfl (Or.inl rfl) ?_
    refine y_getf (x := (M o 8)) dX1_make_77 fX1_36 (nd_0 ho) (by decide) rfl (((zset_ne (fun q => absurd q.1 (by omega))).trans (((zset_ne (fun q => absurd q.1 (by omega))).trans (((zset_ne (fun q => absurd q.1 (by omega))).trans (((zset_ne (fun q => absurd q.1 (by omega))).trans (((zset_ne (fun q => absurd q.1 (by omega))).trans (zset_ne (fun q => absurd q.1 (by omega))))))))))))) ?_
    refine z_iconst dX1_make_80 ki_m1 ?_
    obtain ⟨q7, h⟩ := h
    refine y_iast hG dX1_make_81 (nd_7 ho) q7 ?_
    refine z_aloadn dX1_make_82 rfl (Or.inl rfl) ?_
    refine z_dup dX1_make_83 (show (2 : Nat) ≠ 1 by decide) ?_
    refine y_getf (x := (M o 8)) dX1_make_84 fX1_36 (nd_0 ho) (by decide) rfl (((zset_ne (fun q => absurd q.1 (by omega))).trans (((zset_ne (fun q => absurd q.1 (by omega))).trans (((zset_ne (fun q => absurd q.1 (by omega))).trans (((zset_ne (fun q => absurd q.1 (by omega))).trans (((zset_ne (fun q => absurd q.1 (by omega))).trans (((zset_ne (fun q => absurd q.1 (by omega))).trans (zset_ne (fun q => absurd q.1 (by omega))))))))))))))) ?_
    refine z_iconst dX1_make_87 ki_1 ?_
    obtain ⟨q8, h⟩ := h
    refine z_iadd dX1_make_88 q8 ?_
    refine y_putf (M' := zset (zset (zset (zset (zset (zset (zset (zset M (o + 1) (M o 8) x1) (o + 2) (M o 8) x2) (o + 3) (M o 8) 1) (o + 4) (M o 8) 0) (o + 5) (M o 8) (-1)) (o + 6) (M o 8) (-1)) (o + 7) (M o 8) (-1)) o 8 ((M o 8) + 1)) hG dX1_make_89 fX1_36 (nd_0 ho) (by decide) ⟨rfl, rfl⟩ p1_8 (fun q => absurd q (by decide)) (by decide) rfl ?_
    refine z_aloadn dX1_make_92 rfl (Or.inl rfl) ?_
    refine y_getf (x := ((M o 8) + 1)) dX1_make_93 fX1_36 (nd_0 ho) (by decide) rfl zset_same ?_
    refine z_iconst dX1_make_96 ki_1 ?_
    obtain ⟨q9, h⟩ := h
    refine z_isub dX1_make_97 q9 ?_
    exact z_ireturn dX1_make_98 (Or.inl rfl) rfl h
  · replace h := h.2 q
    refine z_iconst dX1_make_10 ki_m1 ?_
    exact z_ireturn dX1_make_11 (Or.inl rfl) rfl h
set_option maxRecDepth 20000 in
set_option maxHeartbeats 4000000 in
theorem bX12_startSum_0 {G : zG} {d : Nat} {M : zM} {Q : zV → zM → Prop} (hG : zP G)
    (h : (0 ≤ (M 234 22) ∧ (M 234 22) < 10) ∧ (0 ≤ (M 234 22) ∧ (M 234 22) < 10) ∧ (0 ≤ (M 234 22) ∧ (M 234 22) < 10) ∧ Q (9, 0) (zset (zset (zset M 243 (M 234 22) 0) 244 (M 234 22) 0) 245 (M 234 22) 0)) :
    Y G d mX12_startSum 0 [(2, 234)] [] M Q := by
  refine z_aloadn dX12_startSum_0 rfl (Or.inl rfl) ?_
  refine y_getr (v := 243) hG dX12_startSum_1 fX12_41 sh234 (by decide) rfl (by decide +kernel) (by decide) ?_
  refine z_aloadn dX12_startSum_4 rfl (Or.inl rfl) ?_
  refine y_getf (x := (M 234 22)) dX12_startSum_5 fX12_209 sh234 (by decide) rfl rfl ?_
  refine z_iconst dX12_startSum_8 ki_0 ?_
  obtain ⟨q1, h⟩ := h
  refine y_iast hG dX12_startSum_9 sh243 q1 ?_
  refine z_aloadn dX12_startSum_10 rfl (Or.inl rfl) ?_
  refine y_getr (v := 244) hG dX12_startSum_11 fX12_44 sh234 (by decide) rfl (by decide +kernel) (by decide) ?_
  refine z_aloadn dX12_startSum_14 rfl (Or.inl rfl) ?_
  refine y_getf (x := (M 234 22)) dX12_startSum_15 fX12_209 sh234 (by decide) rfl (zset_ne (fun q => absurd q.1 (by decide))) ?_
  refine z_iconst dX12_startSum_18 ki_0 ?_
  obtain ⟨q2, h⟩ := h
  refine y_iast hG dX12_startSum_19 sh244 q2 ?_
  refine z_aloadn dX12_startSum_20 rfl (Or.inl rfl) ?_
  refine y_getr (v := 245) hG dX12_startSum_21 fX12_47 sh234 (by decide) rfl (by decide +kernel) (by decide) ?_
  refine z_aloadn dX12_startSum_24 rfl (Or.inl rfl) ?_
  refine y_getf (x := (M 234 22)) dX12_startSum_25 fX12_209 sh234 (by decide) rfl (((zset_ne (fun q => absurd q.1 (by decide))).trans (zset_ne (fun q => absurd q.1 (by decide))))) ?_
  refine z_iconst dX12_startSum_28 ki_0 ?_
  obtain ⟨q3, h⟩ := h
  refine y_iast hG dX12_startSum_29 sh245 q3 ?_
  exact z_return dX12_startSum_30 rfl rfl h
set_option maxRecDepth 20000 in
set_option maxHeartbeats 4000000 in
theorem bX8_addToken_0 {G : zG} {d : Nat} {M : zM} {Q : zV → zM → Prop} (hG : zP G) {x1 x2 x3 : Int}
    (h : ((301 ≤ (M 13 5) → Q (9, 0) M) ∧ ((M 13 5) < 301 → (0 ≤ (M 13 5) ∧ (M 13 5) < 301) ∧ (0 ≤ (M 13 5) ∧ (M 13 5) < 301) ∧ (0 ≤ (M 13 5) ∧ (M 13 5) < 301) ∧ (-2147483648 ≤ (M 13 5) + 1 ∧ (M 13 5) + 1 ≤ 2147483647) ∧ Q (9, 0) (zset (zset (zset (zset M 15 (M 13 5) x1) 16 (M 13 5) x2) 17 (M 13 5) x3) 13 5 ((M 13 5) + 1))))) :
    Y G d mX8_addToken 0 [(2, 13), (0, x1), (0, x2), (0, x3)] [] M Q := by
  refine z_aloadn dX8_addToken_0 rfl (Or.inl rfl) ?_
  refine y_getf (x := (M 13 5)) dX8_addToken_1 fX8_28 sh13 (by decide) rfl rfl ?_
  refine z_aloadn dX8_addToken_4 rfl (Or.inl rfl) ?_
  refine y_getr (v := 15) hG dX8_addToken_5 fX8_15 sh13 (by decide) rfl (by decide +kernel) (by decide) ?_
  refine y_alen (x := 301) dX8_addToken_8 sh15 (by decide) (by decide) rfl ?_
  refine z_icmpge (tgt := 52) dX8_addToken_9 rfl (fun q => ?_) (fun q => ?_)
  · replace h := h.1 q
    exact z_return dX8_addToken_52 rfl rfl h
  · replace h := h.2 q
    refine z_aloadn dX8_addToken_12 rfl (Or.inl rfl) ?_
    refine y_getr (v := 15) hG dX8_addToken_13 fX8_15 sh13 (by decide) rfl (by decide +kernel) (by decide) ?_
    refine z_aloadn dX8_addToken_16 rfl (Or.inl rfl) ?_
    refine y_getf (x := (M 13 5)) dX8_addToken_17 fX8_28 sh13 (by decide) rfl rfl ?_
    refine z_iloadn dX8_addToken_20 rfl ?_
    obtain ⟨q1, h⟩ := h
    refine y_iast hG dX8_addToken_21 sh15 q1 ?_
    refine z_aloadn dX8_addToken_22 rfl (Or.inl rfl) ?_
    refine y_getr (v := 16) hG dX8_addToken_23 fX8_18 sh13 (by decide) rfl (by decide +kernel) (by decide) ?_
    refine z_aloadn dX8_addToken_26 rfl (Or.inl rfl) ?_
    refine y_getf (x := (M 13 5)) dX8_addToken_27 fX8_28 sh13 (by decide) rfl (zset_ne (fun q => absurd q.1 (by decide))) ?_
    refine z_iloadn dX8_addToken_30 rfl ?_
    obtain ⟨q2, h⟩ := h
    refine y_iast hG dX8_addToken_31 sh16 q2 ?_
    refine z_aloadn dX8_addToken_32 rfl (Or.inl rfl) ?_
    refine y_getr (v := 17) hG dX8_addToken_33 fX8_21 sh13 (by decide) rfl (by decide +kernel) (by decide) ?_
    refine z_aloadn dX8_addToken_36 rfl (Or.inl rfl) ?_
    refine y_getf (x := (M 13 5)) dX8_addToken_37 fX8_28 sh13 (by decide) rfl (((zset_ne (fun q => absurd q.1 (by decide))).trans (zset_ne (fun q => absurd q.1 (by decide))))) ?_
    refine z_iloadn dX8_addToken_40 rfl ?_
    obtain ⟨q3, h⟩ := h
    refine y_iast hG dX8_addToken_41 sh17 q3 ?_
    refine z_aloadn dX8_addToken_42 rfl (Or.inl rfl) ?_
    refine z_dup dX8_addToken_43 (show (2 : Nat) ≠ 1 by decide) ?_
    refine y_getf (x := (M 13 5)) dX8_addToken_44 fX8_28 sh13 (by decide) rfl (((zset_ne (fun q => absurd q.1 (by decide))).trans (((zset_ne (fun q => absurd q.1 (by decide))).trans (zset_ne (fun q => absurd q.1 (by decide))))))) ?_
    refine z_iconst dX8_addToken_47 ki_1 ?_
    obtain ⟨q4, h⟩ := h
    refine z_iadd dX8_addToken_48 q4 ?_
    refine y_putf (M' := zset (zset (zset (zset M 15 (M 13 5) x1) 16 (M 13 5) x2) 17 (M 13 5) x3) 13 5 ((M 13 5) + 1)) hG dX8_addToken_49 fX8_28 sh13 (by decide) ⟨rfl, rfl⟩ p8_5 (fun q => absurd q (by decide)) (by decide) rfl ?_
    exact z_return dX8_addToken_52 rfl rfl h
set_option maxRecDepth 20000 in
set_option maxHeartbeats 4000000 in
theorem bX8_advance_0 {G : zG} {d : Nat} {M : zM} {Q : zV → zM → Prop} (hG : zP G)
    (h : (-2147483648 ≤ (M 13 6) + 1 ∧ (M 13 6) + 1 ≤ 2147483647) ∧ (((M 13 5) ≤ ((M 13 6) + 1) → Q (9, 0) M) ∧ (((M 13 6) + 1) < (M 13 5) → (-2147483648 ≤ (M 13 6) + 1 ∧ (M 13 6) + 1 ≤ 2147483647) ∧ (0 ≤ ((M 13 6) + 1) ∧ ((M 13 6) + 1) < 301) ∧ (0 ≤ ((M 13 6) + 1) ∧ ((M 13 6) + 1) < 301) ∧ (0 ≤ ((M 13 6) + 1) ∧ ((M 13 6) + 1) < 301) ∧ Q (9, 0) (zset (zset (zset (zset M 13 6 ((M 13 6) + 1)) 13 7 (M 15 ((M 13 6) + 1))) 13 8 (M 16 ((M 13 6) + 1))) 13 9 (M 17 ((M 13 6) + 1)))))) :
    Y G d mX8_advance 0 [(2, 13)] [] M Q := by
  refine z_aloadn dX8_advance_0 rfl (Or.inl rfl) ?_
  refine y_getf (x := (M 13 6)) dX8_advance_1 fX8_42 sh13 (by decide) rfl rfl ?_
  refine z_iconst dX8_advance_4 ki_1 ?_
  obtain ⟨q1, h⟩ := h
  refine z_iadd dX8_advance_5 q1 ?_
  refine z_aloadn dX8_advance_6 rfl (Or.inl rfl) ?_
  refine y_getf (x := (M 13 5)) dX8_advance_7 fX8_28 sh13 (by decide) rfl rfl ?_
  refine z_icmpge (tgt := 62) dX8_advance_10 rfl (fun q => ?_) (fun q => ?_)
  · replace h := h.1 q
    exact z_return dX8_advance_62 rfl rfl h
  · replace h := h.2 q
    refine z_aloadn dX8_advance_13 rfl (Or.inl rfl) ?_
    refine z_dup dX8_advance_14 (show (2 : Nat) ≠ 1 by decide) ?_
    refine y_getf (x := (M 13 6)) dX8_advance_15 fX8_42 sh13 (by decide) rfl rfl ?_
    refine z_iconst dX8_advance_18 ki_1 ?_
    obtain ⟨q2, h⟩ := h
    refine z_iadd dX8_advance_19 q2 ?_
    refine y_putf (M' := zset M 13 6 ((M 13 6) + 1)) hG dX8_advance_20 fX8_42 sh13 (by decide) ⟨rfl, rfl⟩ p8_6 (fun q => absurd q (by decide)) (by decide) rfl ?_
    refine z_aloadn dX8_advance_23 rfl (Or.inl rfl) ?_
    refine z_aloadn dX8_advance_24 rfl (Or.inl rfl) ?_
    refine y_getr (v := 15) hG dX8_advance_25 fX8_15 sh13 (by decide) rfl (by decide +kernel) (by decide) ?_
    refine z_aloadn dX8_advance_28 rfl (Or.inl rfl) ?_
    refine y_getf (x := ((M 13 6) + 1)) dX8_advance_29 fX8_42 sh13 (by decide) rfl zset_same ?_
    obtain ⟨q3, h⟩ := h
    refine y_iald (x := (M 15 ((M 13 6) + 1))) dX8_advance_32 sh15 q3 (zset_ne (fun q => absurd q.1 (by decide))) ?_
    refine y_putf (M' := zset (zset M 13 6 ((M 13 6) + 1)) 13 7 (M 15 ((M 13 6) + 1))) hG dX8_advance_33 fX8_48 sh13 (by decide) ⟨rfl, rfl⟩ p8_7 (fun q => absurd q (by decide)) (by decide) rfl ?_
    refine z_aloadn dX8_advance_36 rfl (Or.inl rfl) ?_
    refine z_aloadn dX8_advance_37 rfl (Or.inl rfl) ?_
    refine y_getr (v := 16) hG dX8_advance_38 fX8_18 sh13 (by decide) rfl (by decide +kernel) (by decide) ?_
    refine z_aloadn dX8_advance_41 rfl (Or.inl rfl) ?_
    refine y_getf (x := ((M 13 6) + 1)) dX8_advance_42 fX8_42 sh13 (by decide) rfl ((zset_ne (fun q => absurd q.2 (by decide))).trans zset_same) ?_
    obtain ⟨q4, h⟩ := h
    refine y_iald (x := (M 16 ((M 13 6) + 1))) dX8_advance_45 sh16 q4 (((zset_ne (fun q => absurd q.1 (by decide))).trans (zset_ne (fun q => absurd q.1 (by decide))))) ?_
    refine y_putf (M' := zset (zset (zset M 13 6 ((M 13 6) + 1)) 13 7 (M 15 ((M 13 6) + 1))) 13 8 (M 16 ((M 13 6) + 1))) hG dX8_advance_46 fX8_51 sh13 (by decide) ⟨rfl, rfl⟩ p8_8 (fun q => absurd q (by decide)) (by decide) rfl ?_
    refine z_aloadn dX8_advance_49 rfl (Or.inl rfl) ?_
    refine z_aloadn dX8_advance_50 rfl (Or.inl rfl) ?_
    refine y_getr (v := 17) hG dX8_advance_51 fX8_21 sh13 (by decide) rfl (by decide +kernel) (by decide) ?_
    refine z_aloadn dX8_advance_54 rfl (Or.inl rfl) ?_
    refine y_getf (x := ((M 13 6) + 1)) dX8_advance_55 fX8_42 sh13 (by decide) rfl ((zset_ne (fun q => absurd q.2 (by decide))).trans ((zset_ne (fun q => absurd q.2 (by decide))).trans zset_same)) ?_
    obtain ⟨q5, h⟩ := h
    refine y_iald (x := (M 17 ((M 13 6) + 1))) dX8_advance_58 sh17 q5 (((zset_ne (fun q => absurd q.1 (by decide))).trans (((zset_ne (fun q => absurd q.1 (by decide))).trans (zset_ne (fun q => absurd q.1 (by decide))))))) ?_
    refine y_putf (M' := zset (zset (zset (zset M 13 6 ((M 13 6) + 1)) 13 7 (M 15 ((M 13 6) + 1))) 13 8 (M 16 ((M 13 6) + 1))) 13 9 (M 17 ((M 13 6) + 1))) hG dX8_advance_59 fX8_54 sh13 (by decide) ⟨rfl, rfl⟩ p8_9 (fun q => absurd q (by decide)) (by decide) rfl ?_
    exact z_return dX8_advance_62 rfl rfl h
set_option maxRecDepth 20000 in
set_option maxHeartbeats 4000000 in
theorem bX7_give_0 {G : zG} {d : Nat} {M : zM} {Q : zV → zM → Prop} (hG : zP G) {o x1 : Int} (ho : zSC o)
    (h : ((24 ≤ (M o 3) → Q (9, 0) M) ∧ ((M o 3) < 24 → ((6 ≤ (M o 2) → Q (9, 0) M) ∧ ((M o 2) < 6 → (-2147483648 ≤ (M o 3) * 6 ∧ (M o 3) * 6 ≤ 2147483647) ∧ (-2147483648 ≤ ((M o 3) * 6) + (M o 2) ∧ ((M o 3) * 6) + (M o 2) ≤ 2147483647) ∧ (0 ≤ (((M o 3) * 6) + (M o 2)) ∧ (((M o 3) * 6) + (M o 2)) < 144) ∧ (-2147483648 ≤ (M o 2) + 1 ∧ (M o 2) + 1 ≤ 2147483647) ∧ Q (9, 0) (zset (zset M (o + 2) (((M o 3) * 6) + (M o 2)) x1) o 2 ((M o 2) + 1))))))) :
    Y G d mX7_give 0 [(2, o), (0, x1)] [] M Q := by
  refine z_aloadn dX7_give_0 rfl (Or.inl rfl) ?_
  refine y_getf (x := (M o 3)) dX7_give_1 fX7_25 (sc_0 ho) (by decide) rfl rfl ?_
  refine z_bipush dX7_give_4 kb_24 ?_
  refine z_icmpge (tgt := 46) dX7_give_6 rfl (fun q => ?_) (fun q => ?_)
  · replace h := h.1 q
    exact z_return dX7_give_46 rfl rfl h
  · replace h := h.2 q
    refine z_aloadn dX7_give_9 rfl (Or.inl rfl) ?_
    refine y_getf (x := (M o 2)) dX7_give_10 fX7_29 (sc_0 ho) (by decide) rfl rfl ?_
    refine z_bipush dX7_give_13 kb_6 ?_
    refine z_icmpge (tgt := 46) dX7_give_15 rfl (fun q => ?_) (fun q => ?_)
    · replace h := h.1 q
      exact z_return dX7_give_46 rfl rfl h
    · replace h := h.2 q
      refine z_aloadn dX7_give_18 rfl (Or.inl rfl) ?_
      refine y_getr (v := (o + 2)) hG dX7_give_19 fX7_15 (sc_0 ho) (by decide) rfl (sc_x1 ho) (sc_ne ho 2 (by decide)) ?_
      refine z_aloadn dX7_give_22 rfl (Or.inl rfl) ?_
      refine y_getf (x := (M o 3)) dX7_give_23 fX7_25 (sc_0 ho) (by decide) rfl rfl ?_
      refine z_bipush dX7_give_26 kb_6 ?_
      obtain ⟨q1, h⟩ := h
      refine z_imul dX7_give_28 q1 ?_
      refine z_aloadn dX7_give_29 rfl (Or.inl rfl) ?_
      refine y_getf (x := (M o 2)) dX7_give_30 fX7_29 (sc_0 ho) (by decide) rfl rfl ?_
      obtain ⟨q2, h⟩ := h
      refine z_iadd dX7_give_33 q2 ?_
      refine z_iloadn dX7_give_34 rfl ?_
      obtain ⟨q3, h⟩ := h
      refine y_iast hG dX7_give_35 (sc_2 ho) q3 ?_
      refine z_aloadn dX7_give_36 rfl (Or.inl rfl) ?_
      refine z_dup dX7_give_37 (show (2 : Nat) ≠ 1 by decide) ?_
      refine y_getf (x := (M o 2)) dX7_give_38 fX7_29 (sc_0 ho) (by decide) rfl (zset_ne (fun q => absurd q.1 (by omega))) ?_
      refine z_iconst dX7_give_41 ki_1 ?_
      obtain ⟨q4, h⟩ := h
      refine z_iadd dX7_give_42 q4 ?_
      refine y_putf (M' := zset (zset M (o + 2) (((M o 3) * 6) + (M o 2)) x1) o 2 ((M o 2) + 1)) hG dX7_give_43 fX7_29 (sc_0 ho) (by decide) ⟨rfl, rfl⟩ p7_2 (fun q => absurd q (by decide)) (by decide) rfl ?_
      exact z_return dX7_give_46 rfl rfl h
