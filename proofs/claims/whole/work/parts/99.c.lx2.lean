section LX2
variable {G : zG} {d : Nat} {M : zM} {Q : zV → zM → Prop}
abbrev lx_d (c : Int) : Prop := 48 ≤ c ∧ c ≤ 57
abbrev lx_l (c : Int) : Prop := (97 ≤ c ∧ c ≤ 122) ∨ (65 ≤ c ∧ c ≤ 90)
section PU
variable (B : Int → Int)
def lx_sk : Nat → Int → Int
  | 0, i => i
  | r + 1, i => if B i = 32 ∨ B i = 10 then lx_sk r (i + 1) else i
def lx_dg : Nat → Int → Int
  | 0, i => i
  | r + 1, i => if lx_d (B i) then lx_dg r (i + 1) else i
def lx_lt : Nat → Int → Int
  | 0, i => i
  | r + 1, i => if lx_l (B i) then lx_lt r (i + 1) else i
def lx_cv : Nat → Int → Int → Int
  | 0, _, v => v
  | r + 1, i, v => if lx_d (B i) then lx_cv r (i + 1) (min (v * 10 + B i - 48) 32768) else v
def lx_mv : Nat → Int → Int → Int
  | 0, _, v => v
  | r + 1, i, v => if lx_d (B i) then lx_mv r (i + 1) (if v ≤ 99999 then 10 * v + B i - 48 else v) else v
def lx_mw : Nat → Int → Int → Int
  | 0, _, w => w
  | r + 1, i, w => if lx_l (B i) then lx_mw r (i + 1) (if w < 281474976710656 then 256 * w + B i else 1152921504606846976) else w
def lx_S (i : Int) : Int := lx_sk B (301 - i).toNat i
def lx_D (i : Int) : Int := lx_dg B (301 - i).toNat i
def lx_L (i : Int) : Int := lx_lt B (301 - i).toNat i
abbrev lx_2 (j : Int) : Prop := (B j = 60 ∨ B j = 62) ∧ B (j + 1) = 61
/-- the end of the token at j -/
def lx_e (j : Int) : Int := if B j < 0 then j else if lx_d (B j) then lx_D B j else if lx_l (B j) then lx_L B j else if lx_2 B j then j + 2 else j + 1
abbrev lx_sg (c : Int) : Prop := c = 35 ∨ c = 40 ∨ c = 41 ∨ c = 42 ∨ c = 43 ∨ c = 44 ∨ c = 45 ∨ c = 58 ∨ c = 59 ∨ c = 60 ∨ c = 61 ∨ c = 62 ∨ c = 63
/-- the model's token at j -/
def lx_t (j : Int) : Int := if B j < 0 then 0 else if lx_d (B j) then 1 else if lx_l (B j) then 2 else if lx_2 B j then (if B j = 60 then 4 else 5) else if lx_sg (B j) then B j else 3
end PU
def lx_B (B : Int → Int) (n : Int) : Prop := (0 ≤ n ∧ n ≤ 300) ∧ (∀ i, i < 0 ∨ n ≤ i → B i = -1) ∧ ∀ i, 0 ≤ i → i < n → 0 ≤ B i ∧ B i ≤ 255
def lx_M (B : Int → Int) (n : Int) (X : zM) : Prop := X 234 5 = n ∧ ∀ i, 0 ≤ i → i < n → X 239 i = B i
theorem lx_b {B : Int → Int} {n i : Int} (h : lx_B B n) : -1 ≤ B i ∧ B i ≤ 255 ∧ (0 ≤ B i → 0 ≤ i ∧ i < n) := by
  by_cases c : i < 0 ∨ n ≤ i
  · have := h.2.1 i c; omega
  · have := h.2.2 i (by omega) (by omega); omega
theorem lx_zb {B : Int → Int} {n k : Int} {X : zM} (hB : lx_B B n) (h : lx_M B n X) (k0 : 0 ≤ k) : zbm X k = B k := by
  unfold zbm
  rw [h.1]
  by_cases c : k < n
  · rw [if_pos c]; exact h.2 k k0 c
  · rw [if_neg c, hB.2.1 k (by omega)]
theorem lx_Ms {B : Int → Int} {n i v : Int} {X : zM} (h : lx_M B n X) (hi : i ≠ 5) : lx_M B n (zset X 234 i v) :=
  ⟨by rw [zset_ne (fun z => hi z.2.symm)]; exact h.1, fun k k0 k1 => by rw [zset_off (by decide)]; exact h.2 k k0 k1⟩
theorem lx_l_zlet {c : Int} : zlet c ↔ lx_l c := Iff.rfl
section NT
variable {B : Int → Int} {n : Int}
theorem lx_84 (hG : zP G) (hB : lx_B B n) {N : zM} {j x1 : Int} (h : ∀ X, zfr [(234, 8, 13)] N X → lx_M B n X → X 234 8 = lx_D B j → X 234 9 = j → X 234 10 = 1 → X 234 11 = lx_mv B (301 - j).toNat j 0 → Q (9, 0) X) (hj : 0 ≤ j ∧ j ≤ 300) : ∀ (r : Nat) (i v : Int) (X : zM), i + r = 301 → 0 ≤ i → lx_dg B r i = lx_D B j → lx_mv B r i v = lx_mv B (301 - j).toNat j 0 → zfr [(234, 8, 13)] N X → lx_M B n X → X 234 8 = i → X 234 9 = j → X 234 10 = 1 → X 234 11 = v → (0 ≤ v ∧ v ≤ 1000000) → Y G (d + 1) mX12_nextToken 85 [(2, 234), (0, x1)] [] X Q := fun r => by
  induction r with
  | zero =>
    intro i v X hi i0 e1 e2 hf hM p8 p9 p10 p11 hv
    have b := hB.2.1 i (by have := hB.1; omega)
    refine bX12_nextToken_85 hG ?_
    rw [p8, p11, lx_zb hB hM i0, hM.1, b]
    exact ⟨⟨i0, hB.1.2⟩, fun z => absurd z (by decide), fun _ => h X hf hM (p8.trans e1) p9 p10 (p11.trans e2)⟩
  | succ r ih =>
    intro i v X hi i0 e1 e2 hf hM p8 p9 p10 p11 hv
    refine bX12_nextToken_85 hG ?_
    rw [p8, p11, lx_zb hB hM i0, hM.1]
    have s1 : lx_dg B (r + 1) i = if lx_d (B i) then lx_dg B r (i + 1) else i := rfl
    have s2 : lx_mv B (r + 1) i v = if lx_d (B i) then lx_mv B r (i + 1) (if v ≤ 99999 then 10 * v + B i - 48 else v) else v := rfl
    rw [s1] at e1
    rw [s2] at e2
    refine ⟨⟨i0, hB.1.2⟩, fun c => ?_, fun c => ?_⟩
    · rw [if_pos c] at e1 e2
      have nx : ∀ w, lx_mv B r (i + 1) w = lx_mv B (301 - j).toNat j 0 → 0 ≤ w ∧ w ≤ 1000000 → Y G (d + 1) mX12_nextToken 85 [(2, 234), (0, x1)] [] (zset (zset X 234 11 w) 234 8 (i + 1)) Q := fun w ew hw => ih (i + 1) w _ (by omega) (by omega) e1 ew (zfr_set (zfr_set hf (zhit_at 0 rfl (by decide))) (zhit_at 0 rfl (by decide))) (lx_Ms (lx_Ms hM (by decide)) (by decide)) zset_same (by rw [zr_set (by decide), zr_set (by decide)]; exact p9) (by rw [zr_set (by decide), zr_set (by decide)]; exact p10) (by rw [zr_set (by decide)]; exact zset_same) hw
      refine ⟨fun c2 => ⟨by omega, ⟨i0, hB.1.2⟩, by omega, by omega, by omega, ?_⟩, fun c2 => ⟨by omega, ?_⟩⟩
      · rw [if_pos c2] at e2
        exact nx _ e2 (by omega)
      · rw [if_neg (by omega)] at e2
        exact nx _ e2 (by omega)
    · rw [if_neg c] at e1 e2
      exact h X hf hM (p8.trans e1) p9 p10 (p11.trans e2)
theorem lx_168 (hG : zP G) (hB : lx_B B n) {N : zM} {j x1 : Int} (h : ∀ X, zfr [(234, 8, 13)] N X → lx_M B n X → X 234 8 = lx_L B j → X 234 9 = j → X 234 10 = 2 → X 234 12 = lx_mw B (301 - j).toNat j 0 → Q (9, 0) X) (hj : 0 ≤ j ∧ j ≤ 300) : ∀ (r : Nat) (i v : Int) (X : zM), i + r = 301 → 0 ≤ i → lx_lt B r i = lx_L B j → lx_mw B r i v = lx_mw B (301 - j).toNat j 0 → zfr [(234, 8, 13)] N X → lx_M B n X → X 234 8 = i → X 234 9 = j → X 234 10 = 2 → X 234 12 = v → (0 ≤ v ∧ v ≤ 1152921504606846976) → Y G (d + 1) mX12_nextToken 168 [(2, 234), (0, x1)] [] X Q := fun r => by
  induction r with
  | zero =>
    intro i v X hi i0 e1 e2 hf hM p8 p9 p10 p11 hv
    have b := hB.2.1 i (by have := hB.1; omega)
    refine bX12_nextToken_168 hG ?_
    rw [p8, p11, lx_zb hB hM i0, hM.1, b]
    exact ⟨⟨i0, hB.1.2⟩, fun z => absurd z (by unfold zlet; decide), fun _ => h X hf hM (p8.trans e1) p9 p10 (p11.trans e2)⟩
  | succ r ih =>
    intro i v X hi i0 e1 e2 hf hM p8 p9 p10 p11 hv
    refine bX12_nextToken_168 hG ?_
    rw [p8, p11, lx_zb hB hM i0, hM.1]
    have s1 : lx_lt B (r + 1) i = if lx_l (B i) then lx_lt B r (i + 1) else i := rfl
    have s2 : lx_mw B (r + 1) i v = if lx_l (B i) then lx_mw B r (i + 1) (if v < 281474976710656 then 256 * v + B i else 1152921504606846976) else v := rfl
    rw [s1] at e1
    rw [s2] at e2
    have bb := lx_b (i := i) hB
    have i301 : i ≤ 300 := by omega
    obtain ⟨w, hw⟩ := Int.eq_ofNat_of_zero_le hv.1
    have sh : zlcmp (zlshr v 48) 0 = 0 ↔ v < 281474976710656 := by
      rw [zlcmp_eq, hw, zlshr_n (by omega)]
      omega
    refine ⟨⟨i0, hB.1.2⟩, fun c => ?_, fun c => ?_⟩
    · have c' : lx_l (B i) := c
      have cp : 0 ≤ B i := by omega
      rw [if_pos c'] at e1 e2
      have nx : ∀ w, lx_mw B r (i + 1) w = lx_mw B (301 - j).toNat j 0 → 0 ≤ w ∧ w ≤ 1152921504606846976 → Y G (d + 1) mX12_nextToken 168 [(2, 234), (0, x1)] [] (zset (zset X 234 12 w) 234 8 (i + 1)) Q := fun w ew hw => ih (i + 1) w _ (by omega) (by omega) e1 ew (zfr_set (zfr_set hf (zhit_at 0 rfl (by decide))) (zhit_at 0 rfl (by decide))) (lx_Ms (lx_Ms hM (by decide)) (by decide)) zset_same (by rw [zr_set (by decide), zr_set (by decide)]; exact p9) (by rw [zr_set (by decide), zr_set (by decide)]; exact p10) (by rw [zr_set (by decide)]; exact zset_same) hw
      rw [sh]
      refine ⟨fun c2 => ⟨⟨i0, hB.1.2⟩, by omega, ?_⟩, fun c2 => ⟨by omega, ?_⟩⟩
      · rw [if_pos c2] at e2
        obtain ⟨b, hb⟩ := Int.eq_ofNat_of_zero_le cp
        have e : zlor (zlshl v 8) (B i) = 256 * v + B i := by
          rw [hw, hb, zlshl_n (by omega), zlor_n (by omega) (by omega), show w * 256 = 2 ^ 8 * w by omega, ← Nat.two_pow_add_eq_or_of_lt (show b < 2 ^ 8 by omega)]
          omega
        rw [e]
        exact nx _ e2 (by omega)
      · rw [if_neg c2] at e2
        exact nx _ e2 (by decide)
    · have c' : ¬ lx_l (B i) := c
      rw [if_neg c'] at e1 e2
      exact h X hf hM (p8.trans e1) p9 p10 (p11.trans e2)
theorem m_ntok (hG : zP G) (hB : lx_B B n) (hM : lx_M B n M) {a : Int} (ha : M 234 8 = a) (a0 : 0 ≤ a ∧ a ≤ 301) (h : ∀ X, zfr [(234, 8, 13)] M X → lx_M B n X → X 234 8 = lx_e B (lx_S B a) → X 234 9 = lx_S B a → X 234 10 = lx_t B (lx_S B a) → (lx_t B (lx_S B a) = 1 → X 234 11 = lx_mv B (301 - lx_S B a).toNat (lx_S B a) 0) → (lx_t B (lx_S B a) = 2 → X 234 12 = lx_mw B (301 - lx_S B a).toNat (lx_S B a) 0) → Q (9, 0) X) : Y G (d + 1) mX12_nextToken 0 [(2, 234), (9, 0)] [] M Q := by
  generalize hj : lx_S B a = j at h
  have lp : ∀ (r : Nat) (i : Int) (X : zM), i + r = 301 → 0 ≤ i → lx_sk B r i = j → zfr [(234, 8, 13)] M X → lx_M B n X → X 234 8 = i → Y G (d + 1) mX12_nextToken 0 [(2, 234), (9, 0)] [] X Q := fun r => by
    induction r with
    | zero =>
      intro i X hi i0 e hf hX p8
      have b := hB.2.1 i (by have := hB.1; omega)
      have e' : i = j := e
      have tt : lx_t B j = 0 := by unfold lx_t; rw [← e', if_pos (by omega)]
      have ee : lx_e B j = j := by unfold lx_e; rw [← e', if_pos (by omega)]
      have hX9 : lx_M B n (zset X 234 9 i) := lx_Ms hX (by decide)
      refine bX12_nextToken_0 hG ?_
      rw [p8, lx_zb hB hX i0, lx_zb hB hX9 i0, hX.1, hX9.1, b]
      refine ⟨⟨i0, hB.1.2⟩, fun z => absurd z (by decide), fun _ => ⟨⟨i0, hB.1.2⟩, fun _ => ⟨⟨i0, hB.1.2⟩, fun z => absurd z (by decide), fun _ => ?_⟩, fun z => absurd z (by decide)⟩⟩
      rw [tt, ee] at h
      exact h _ (zfr_set (zfr_set hf (zhit_at 0 rfl (by decide))) (zhit_at 0 rfl (by decide))) (lx_Ms hX9 (by decide)) (by rw [zr_set (by decide), zr_set (by decide), p8]; exact e') (by rw [zr_set (by decide), zset_same]; exact e') zset_same (fun z => absurd z (by decide)) (fun z => absurd z (by decide))
    | succ r ih =>
      intro i X hi i0 e hf hX p8
      have s : lx_sk B (r + 1) i = if B i = 32 ∨ B i = 10 then lx_sk B r (i + 1) else i := rfl
      rw [s] at e
      have hX9 : lx_M B n (zset X 234 9 i) := lx_Ms hX (by decide)
      have nx : (B i = 32 ∨ B i = 10) → Y G (d + 1) mX12_nextToken 0 [(2, 234), (9, 0)] [] (zset X 234 8 (i + 1)) Q := fun c => by
        rw [if_pos c] at e
        exact ih (i + 1) _ (by omega) (by omega) e (zfr_set hf (zhit_at 0 rfl (by decide))) (lx_Ms hX (by decide)) zset_same
      refine bX12_nextToken_0 hG ?_
      rw [p8, lx_zb hB hX i0, lx_zb hB hX9 i0, hX.1, hX9.1]
      refine ⟨⟨i0, hB.1.2⟩, fun c => ⟨by omega, nx (Or.inl c)⟩, fun c => ⟨⟨i0, hB.1.2⟩, fun c2 => ⟨⟨i0, hB.1.2⟩, fun c3 => ⟨fun c4 => ?_, fun c4 => ⟨fun c5 => ?_, fun c5 => ?_⟩⟩, fun c3 => ?_⟩, fun c2 => ⟨by omega, nx (Or.inr c2)⟩⟩⟩
      all_goals rw [if_neg (fun z => by rcases z with z | z; exact c z; exact c2 z)] at e
      all_goals subst e
      all_goals have fr9 : ∀ v, zfr [(234, 8, 13)] M (zset X 234 9 v) := fun v => zfr_set hf (zhit_at 0 rfl (by decide))
      all_goals have p89 : ∀ v, zset X 234 9 v 234 8 = i := fun v => by rw [zr_set (by decide)]; exact p8
      · have tt : lx_t B i = 1 := by unfold lx_t; rw [if_neg (by omega), if_pos c4]
        have ee : lx_e B i = lx_D B i := by unfold lx_e; rw [if_neg (by omega), if_pos c4]
        rw [tt, ee] at h
        refine lx_84 hG hB (N := M) (j := i) (fun X' f' m' q8 q9 q10 q11 => h X' f' m' q8 q9 q10 (fun _ => q11) (fun z => absurd z (by decide))) ⟨i0, by omega⟩ (301 - i).toNat i 0 _ (by omega) i0 rfl rfl (zfr_set (zfr_set (fr9 i) (zhit_at 0 rfl (by decide))) (zhit_at 0 rfl (by decide))) (lx_Ms (lx_Ms hX9 (by decide)) (by decide)) (by rw [zr_set (by decide), zr_set (by decide)]; exact p89 i) (by rw [zr_set (by decide), zr_set (by decide)]; exact zset_same) (by rw [zr_set (by decide)]; exact zset_same) zset_same (by decide)
      · have c5' : lx_l (B i) := c5
        have tt : lx_t B i = 2 := by unfold lx_t; rw [if_neg (by omega), if_neg c4, if_pos c5']
        have ee : lx_e B i = lx_L B i := by unfold lx_e; rw [if_neg (by omega), if_neg c4, if_pos c5']
        rw [tt, ee] at h
        refine lx_168 hG hB (N := M) (j := i) (fun X' f' m' q8 q9 q10 q11 => h X' f' m' q8 q9 q10 (fun z => absurd z (by decide)) (fun _ => q11)) ⟨i0, by omega⟩ (301 - i).toNat i 0 _ (by omega) i0 rfl rfl (zfr_set (zfr_set (fr9 i) (zhit_at 0 rfl (by decide))) (zhit_at 0 rfl (by decide))) (lx_Ms (lx_Ms hX9 (by decide)) (by decide)) (by rw [zr_set (by decide), zr_set (by decide)]; exact p89 i) (by rw [zr_set (by decide), zr_set (by decide)]; exact zset_same) (by rw [zr_set (by decide)]; exact zset_same) zset_same (by decide)
      · have b2 := lx_b (i := i) hB
        have c5' : ¬ lx_l (B i) := c5
        have fin : ∀ t k : Int, lx_t B i = t → lx_e B i = k → t ≠ 1 → t ≠ 2 → ∀ X', zfr [(234, 8, 13)] M X' → lx_M B n X' → X' 234 8 = k → X' 234 9 = i → X' 234 10 = t → Q (9, 0) X' := fun t k et ek t1 t2 X' f' m' q8 q9 q10 => h X' f' m' (q8.trans ek.symm) q9 (q10.trans et.symm) (fun z => absurd (et.symm.trans z) t1) (fun z => absurd (et.symm.trans z) t2)
        have e8 : zset X 234 9 i 234 8 = i := p89 i
        have m8 : ∀ t, lx_M B n (zset (zset (zset X 234 9 i) 234 10 t) 234 8 (i + 1)) := fun t => lx_Ms (lx_Ms hX9 (by decide)) (by decide)
        have one : ∀ t : Int, lx_t B i = t → t ≠ 1 → t ≠ 2 → ¬ lx_2 B i → Q (9, 0) (zset (zset (zset X 234 9 i) 234 10 t) 234 8 (i + 1)) := fun t et t1 t2 n2 => fin t (i + 1) et (by unfold lx_e; rw [if_neg (by omega), if_neg c4, if_neg c5', if_neg n2]) t1 t2 _ (zfr_set (zfr_set (fr9 i) (zhit_at 0 rfl (by decide))) (zhit_at 0 rfl (by decide))) (m8 t) zset_same (by rw [zr_set (by decide), zr_set (by decide)]; exact zset_same) (by rw [zr_set (by decide)]; exact zset_same)
        have two : ∀ t u : Int, lx_t B i = u → u ≠ 1 → u ≠ 2 → lx_2 B i → Q (9, 0) (zset (zset (zset (zset (zset X 234 9 i) 234 10 t) 234 8 (i + 1)) 234 10 u) 234 8 (i + 1 + 1)) := fun t u et t1 t2 n2 => fin u (i + 1 + 1) et (by unfold lx_e; rw [if_neg (by omega), if_neg c4, if_neg c5', if_pos n2]; omega) t1 t2 _ (zfr_set (zfr_set (zfr_set (zfr_set (fr9 i) (zhit_at 0 rfl (by decide))) (zhit_at 0 rfl (by decide))) (zhit_at 0 rfl (by decide))) (zhit_at 0 rfl (by decide))) (lx_Ms (lx_Ms (m8 t) (by decide)) (by decide)) zset_same (by rw [zr_set (by decide), zr_set (by decide), zr_set (by decide), zr_set (by decide)]; exact zset_same) (by rw [zr_set (by decide)]; exact zset_same)
        have t2v : lx_2 B i → lx_t B i = if B i = 60 then 4 else 5 := fun n2 => by unfold lx_t; rw [if_neg (by omega), if_neg c4, if_neg c5', if_pos n2]
        have t1v : ¬ lx_2 B i → lx_t B i = if lx_sg (B i) then B i else 3 := fun n2 => by unfold lx_t; rw [if_neg (by omega), if_neg c4, if_neg c5', if_neg n2]
        have zb1 : ∀ t, zbm (zset (zset (zset X 234 9 i) 234 10 t) 234 8 (i + 1)) (i + 1) = B (i + 1) := fun t => lx_zb hB (m8 t) (by omega)
        have z5 : ∀ t, zset (zset (zset X 234 9 i) 234 10 t) 234 8 (i + 1) 234 5 = n := fun t => (m8 t).1
        refine bX12_isSign_0 hG ⟨fun c6 => bX12_nextToken_239 hG ?_, fun c6 => bX12_nextToken_239 hG ?_⟩
        · have sg : lx_sg (B i) := c6
          have sg2 : B i ≠ 1 ∧ B i ≠ 2 := by omega
          rw [e8, zb1, z5, zb1, z5]
          refine ⟨fun z => absurd z (by decide), fun _ => ⟨by omega, fun c60 => ⟨⟨by omega, hB.1.2⟩, fun n61 => ?_, fun y61 => ⟨fun z => absurd c60 z, fun _ => ⟨by omega, ?_⟩⟩⟩, fun n60 => ⟨fun n62 => ?_, fun c62 => ⟨⟨by omega, hB.1.2⟩, fun n61 => ?_, fun y61 => ⟨fun _ => ⟨by omega, ?_⟩, fun z => absurd z n60⟩⟩⟩⟩⟩
          · exact one (B i) (by rw [t1v (fun w => n61 w.2), if_pos sg]) sg2.1 sg2.2 (fun w => n61 w.2)
          · exact two (B i) 4 (by rw [t2v ⟨Or.inl c60, y61⟩, if_pos c60]) (by decide) (by decide) ⟨Or.inl c60, y61⟩
          · have n2 : ¬ lx_2 B i := fun w => by rcases w.1 with y | y; exact n60 y; exact n62 y
            exact one (B i) (by rw [t1v n2, if_pos sg]) sg2.1 sg2.2 n2
          · exact one (B i) (by rw [t1v (fun w => n61 w.2), if_pos sg]) sg2.1 sg2.2 (fun w => n61 w.2)
          · exact two (B i) 5 (by rw [t2v ⟨Or.inr c62, y61⟩, if_neg n60]) (by decide) (by decide) ⟨Or.inr c62, y61⟩
        · have n2 : ¬ lx_2 B i := fun w => by rcases w.1 with y | y <;> omega
          have ns : ¬ lx_sg (B i) := fun w => by unfold lx_sg at w; omega
          rw [e8]
          exact ⟨fun _ => ⟨by omega, fun z => absurd z (by omega), fun _ => ⟨fun _ => one 3 (by rw [t1v n2, if_neg ns]) (by decide) (by decide) n2, fun z => absurd z (by omega)⟩⟩, fun z => absurd rfl z⟩
      · have tt : lx_t B i = 0 := by unfold lx_t; rw [if_pos c3]
        have ee : lx_e B i = i := by unfold lx_e; rw [if_pos c3]
        rw [tt, ee] at h
        exact h _ (zfr_set (fr9 i) (zhit_at 0 rfl (by decide))) (lx_Ms hX9 (by decide)) (by rw [zr_set (by decide)]; exact p89 i) (by rw [zr_set (by decide)]; exact zset_same) zset_same (fun z => absurd z (by decide)) (fun z => absurd z (by decide))
  exact lp (301 - a).toNat a M (by omega) a0.1 hj zfr_rfl hM ha
end NT
end LX2
