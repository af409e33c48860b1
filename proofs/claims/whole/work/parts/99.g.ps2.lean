section PS2
variable {G : zG} {d : Nat} {M : zM} {Q : zV → zM → Prop} {B : Int → Int} {n : Int}
theorem lx_ge : ∀ (r : Nat) (i : Int), i ≤ lx_sk B r i ∧ i ≤ lx_dg B r i ∧ i ≤ lx_lt B r i
  | 0, i => ⟨Int.le_refl _, Int.le_refl _, Int.le_refl _⟩
  | r + 1, i => by
    have ih := lx_ge r (i + 1)
    show i ≤ (if B i = 32 ∨ B i = 10 then lx_sk B r (i + 1) else i) ∧ i ≤ (if lx_d (B i) then lx_dg B r (i + 1) else i) ∧ i ≤ (if lx_l (B i) then lx_lt B r (i + 1) else i)
    refine ⟨?_, ?_, ?_⟩ <;> split <;> omega
theorem lx_e_ge {j : Int} : j ≤ lx_e B j := by
  have g := lx_ge (B := B) (301 - j).toNat j
  unfold lx_e lx_D lx_L
  repeat' split
  all_goals omega
theorem lx_p_0 : ∀ k : Nat, 0 ≤ lx_p B k
  | 0 => Int.le_refl 0
  | k + 1 => by
    have ih := lx_p_0 k
    have g := (lx_ge (B := B) (301 - lx_p B k).toNat (lx_p B k)).1
    have e := lx_e_ge (B := B) (j := lx_S B (lx_p B k))
    show 0 ≤ lx_e B (lx_S B (lx_p B k))
    unfold lx_S at *
    omega
/-- the model looks at the k-th token -/
def ps_T (B : Int → Int) (X : zM) (k : Nat) : Prop := X 234 8 = lx_p B (k + 1) ∧ X 234 9 = lx_j B k ∧ X 234 10 = lx_t B (lx_j B k) ∧ (lx_t B (lx_j B k) = 1 → X 234 11 = lx_mv B (301 - lx_j B k).toNat (lx_j B k) 0) ∧ (lx_t B (lx_j B k) = 2 → X 234 12 = lx_mw B (301 - lx_j B k).toNat (lx_j B k) 0)
/-- both sides' tape: m tokens, and the end -/
def ps_E (B : Int → Int) (n : Int) (m : Nat) : Prop := lx_B B n ∧ m ≤ 300 ∧ (∀ k : Nat, k < m → 0 ≤ B (lx_j B k) ∧ lx_p B (k + 1) ≤ n) ∧ B (lx_j B m) = -1
theorem m_tok (hG : zP G) {m k : Nat} (hE : ps_E B n m) (hM : lx_M B n M) (hk : k < m) (hT : M 234 8 = lx_p B (k + 1)) (h : ∀ X, zfr [(234, 8, 13)] M X → lx_M B n X → ps_T B X (k + 1) → Q (9, 0) X) : Y G (d + 1) mX12_nextToken 0 [(2, 234), (9, 0)] [] M Q := by
  have n3 := hE.1.1
  have q := hE.2.2.1 k hk
  have p0 := lx_p_0 (B := B) (k + 1)
  exact m_ntok hG hE.1 hM hT ⟨p0, by omega⟩ (fun X f1 m1 q8 q9 q10 q11 q12 => h X f1 m1 ⟨q8, q9, q10, q11, q12⟩)
theorem m_tok0 (hG : zP G) {m : Nat} (hE : ps_E B n m) (hM : lx_M B n M) (hT : M 234 8 = 0) (h : ∀ X, zfr [(234, 8, 13)] M X → lx_M B n X → ps_T B X 0 → Q (9, 0) X) : Y G (d + 1) mX12_nextToken 0 [(2, 234), (9, 0)] [] M Q :=
  m_ntok hG hE.1 hM hT (by decide) (fun X f1 m1 q8 q9 q10 q11 q12 => h X f1 m1 ⟨q8, q9, q10, q11, q12⟩)
/-! what a token is on both sides -/
theorem ps_s {X : zM} {k : Nat} (hT : ps_T B X k) (st : Int × Int) (h : st ∈ lx_sn) : X 234 10 = st.2 ↔ lx_c B (lx_j B k) = st.1 := by
  rw [hT.2.2.1]; exact (lx_sign st h).symm
theorem ps_0 {X : zM} {k : Nat} (hT : ps_T B X k) : X 234 10 = 0 ↔ lx_c B (lx_j B k) = 0 := by
  rw [hT.2.2.1]; exact lx_end.symm
theorem ps_1 {X : zM} {k : Nat} (hT : ps_T B X k) : X 234 10 = 1 ↔ lx_c B (lx_j B k) = 2 := by
  rw [hT.2.2.1]; exact lx_num.symm
theorem lx_mv_0 : ∀ (r : Nat) (i w : Int), 0 ≤ w → 0 ≤ lx_mv B r i w
  | 0, i, w, h => h
  | r + 1, i, w, h => by
    show 0 ≤ if lx_d (B i) then lx_mv B r (i + 1) (if w ≤ 99999 then 10 * w + B i - 48 else w) else w
    by_cases c : lx_d (B i)
    · rw [if_pos c]
      refine lx_mv_0 r (i + 1) _ ?_
      split <;> omega
    · rw [if_neg c]; exact h
/-- a number, as both sides have it -/
theorem ps_v {X : zM} {k : Nat} (hT : ps_T B X k) (h : X 234 10 = 1) : 0 ≤ X 234 11 ∧ lx_v B (lx_j B k) = min (X 234 11) 32768 := by
  have t1 : lx_t B (lx_j B k) = 1 := by rw [← hT.2.2.1]; exact h
  have e := hT.2.2.2.1 t1
  have dd : lx_d (B (lx_j B k)) := by
    by_cases c : lx_d (B (lx_j B k))
    · exact c
    · exfalso
      revert t1
      unfold lx_t
      rw [if_neg c]
      repeat' split
      all_goals omega
  have ev : lx_v B (lx_j B k) = lx_cv B (301 - lx_j B k).toNat (lx_j B k) 0 := by unfold lx_v; rw [if_pos dd]
  rw [e, ev]
  exact ⟨lx_mv_0 _ _ 0 (Int.le_refl 0), lx_val _ _ 0 0 (Int.le_refl 0) (by decide)⟩
theorem ps_w {X : zM} {k : Nat} (hT : ps_T B X k) {c : Int} (hc : 20 ≤ c ∧ c ≤ 47) : (X 234 10 = 2 ∧ X 234 12 = lx_cd c) ↔ lx_c B (lx_j B k) = c := by
  rw [lx_word hc, hT.2.2.1]
  exact ⟨fun q => ⟨q.1, by rw [← hT.2.2.2.2 q.1]; exact q.2⟩, fun q => ⟨q.1, by rw [hT.2.2.2.2 q.1]; exact q.2⟩⟩
/-- the model asks for a word -/
theorem m_word (hG : zP G) {k : Nat} {c w : Int} (hT : ps_T B M k) (hc : 20 ≤ c ∧ c ≤ 47) (hw : w = lx_cd c) (h1 : lx_c B (lx_j B k) = c → Q (0, 1) M) (h0 : lx_c B (lx_j B k) ≠ c → Q (0, 0) M) : Y G d mX12_isWord 0 [(2, 234), (1, w), (9, 0)] [] M Q := by
  have q := ps_w hT hc
  refine bX12_isWord_0 hG ⟨fun z => h0 (fun y => z (q.mpr y).1), fun z => ⟨fun z2 => h0 (fun y => z2 ?_), fun z2 => h1 (q.mp ⟨z, ?_⟩)⟩⟩
  · rw [zlcmp_eq, hw]; exact (q.mpr y).2
  · rw [zlcmp_eq, hw] at z2; exact z2
/-- the thing at hand -/
theorem m_thing (hG : zP G) {k : Nat} (hT : ps_T B M k) (h1 : (44 ≤ lx_c B (lx_j B k) ∧ lx_c B (lx_j B k) ≤ 47) → Q (0, lx_c B (lx_j B k) - 44) M) (h0 : ¬ (44 ≤ lx_c B (lx_j B k) ∧ lx_c B (lx_j B k) ≤ 47) → Q (0, -1) M) : Y G d mX12_thingAt 0 [(2, 234)] [] M Q := by
  have cd : lx_cd 44 = 112 ∧ lx_cd 45 = 113 ∧ lx_cd 46 = 114 ∧ lx_cd 47 = 115 := by decide +kernel
  have a4 := ps_w hT (c := 44) (by decide)
  have a5 := ps_w hT (c := 45) (by decide)
  have a6 := ps_w hT (c := 46) (by decide)
  have a7 := ps_w hT (c := 47) (by decide)
  rw [cd.1] at a4
  rw [cd.2.1] at a5
  rw [cd.2.2.1] at a6
  rw [cd.2.2.2] at a7
  have no : ¬ (M 234 10 = 2 ∧ 112 ≤ M 234 12 ∧ M 234 12 ≤ 115) → ¬ (44 ≤ lx_c B (lx_j B k) ∧ lx_c B (lx_j B k) ≤ 47) := fun z y => z (by
    have hc : lx_c B (lx_j B k) = 44 ∨ lx_c B (lx_j B k) = 45 ∨ lx_c B (lx_j B k) = 46 ∨ lx_c B (lx_j B k) = 47 := by omega
    rcases hc with e | e | e | e
    · have := a4.mpr e; omega
    · have := a5.mpr e; omega
    · have := a6.mpr e; omega
    · have := a7.mpr e; omega)
  refine bX12_thingAt_0 hG ?_
  rw [zlcmp_lt, zlcmp_ge, zlcmp_gt, zlcmp_le]
  refine ⟨fun z => h0 (no (fun y => z y.1)), fun z => ⟨fun z1 => h0 (no (fun y => by omega)), fun z1 => ⟨fun z2 => h0 (no (fun y => by omega)), fun z2 => ?_⟩⟩⟩
  have ew : zw (M 234 12) = M 234 12 := z_ti ⟨by omega, by omega⟩
  rw [ew]
  have hc : lx_c B (lx_j B k) = M 234 12 - 68 := by
    have h4 : M 234 12 = 112 ∨ M 234 12 = 113 ∨ M 234 12 = 114 ∨ M 234 12 = 115 := by omega
    rcases h4 with e | e | e | e
    · have := a4.mp ⟨z, e⟩; omega
    · have := a5.mp ⟨z, e⟩; omega
    · have := a6.mp ⟨z, e⟩; omega
    · have := a7.mp ⟨z, e⟩; omega
  have q := h1 (by omega)
  rw [hc, show M 234 12 - 68 - 44 = M 234 12 - 112 by omega] at q
  exact ⟨by omega, q⟩
end PS2
