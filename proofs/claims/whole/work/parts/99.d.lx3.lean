section LX3
variable {G : zG} {d : Nat} {M : zM} {Q : zV → zM → Prop}
def lx_ws : List (List Int) := [[97, 115, 107], [108, 101, 116], [98, 111, 114, 110], [112, 97, 116, 104], [115, 97, 121], [112, 117, 112, 105, 108], [97, 110, 115, 119, 101, 114], [97, 115, 107, 115], [109, 111, 114, 110, 105, 110, 103], [98, 101], [111, 102], [97, 110, 100], [116, 111], [108, 111, 110, 103], [107, 110, 111, 119, 115], [100, 101, 101, 112], [97, 103, 101], [107, 105, 100, 115], [107, 105, 110], [119, 97, 121], [109, 111, 114, 101], [108, 101, 115, 115], [105, 102], [101, 110, 100], [112], [113], [114], [115]]
def lx_eq (B : Int → Int) : Int → List Int → Bool
  | _, [] => true
  | i, c :: l => decide (B i = c) && lx_eq B (i + 1) l
def lx_wi (B : Int → Int) (f L : Int) : List (List Int) → Int → Int
  | [], _ => 1
  | w :: l, k => if (w.length : Int) = L ∧ lx_eq B f w = true then k else lx_wi B f L l (k + 1)
def lx_si (c : Int) : Int := if c = 60 then 3 else if c = 62 then 4 else if c = 61 then 5 else if c = 35 then 6 else if c = 43 then 7 else if c = 45 then 8 else if c = 42 then 9 else if c = 40 then 10 else if c = 41 then 11 else if c = 44 then 12 else if c = 59 then 13 else if c = 63 then 14 else if c = 58 then 15 else 1
def lx_s2 (B : Int → Int) (j : Int) : Int := if lx_2 B j then (if B j = 60 then 16 else 17) else lx_si (B j)
/-- the class's token at j, and its value -/
def lx_c (B : Int → Int) (j : Int) : Int := if B j < 0 then 0 else if lx_d (B j) then 2 else if lx_l (B j) then lx_wi B j (lx_L B j - j) lx_ws 20 else lx_s2 B j
def lx_v (B : Int → Int) (j : Int) : Int := if lx_d (B j) then lx_cv B (301 - j).toNat j 0 else 0
def lx_p (B : Int → Int) : Nat → Int
  | 0 => 0
  | k + 1 => lx_e B (lx_S B (lx_p B k))
/-- where the k-th token begins -/
def lx_j (B : Int → Int) (k : Nat) : Int := lx_S B (lx_p B k)
def lx_C (B : Int → Int) (n : Int) (X : zM) : Prop := X 13 1 = n ∧ ∀ i, 0 ≤ i → i < n → X 14 i = B i
theorem lx_cb {B : Int → Int} {n k : Int} {X : zM} (hB : lx_B B n) (h : lx_C B n X) : zby X k = B k := by
  unfold zby
  rw [h.1]
  by_cases c : 0 ≤ k ∧ k < n ∧ k < 300
  · rw [if_pos c]; exact h.2 k c.1 c.2.1
  · rw [if_neg c, hB.2.1 k (by have := hB.1; omega)]
def lx_ad (M : zM) (s b v : Int) : zM := zset (zset (zset (zset M 15 (M 13 5) s) 16 (M 13 5) b) 17 (M 13 5) v) 13 5 (M 13 5 + 1)
/-- what is owed of the two methods that ask Strings -/
def lx_H (G : zG) : Prop := (∀ (d : Nat) (M : zM) (Q : zV → zM → Prop) (B : Int → Int) (n f b : Int), lx_B B n → lx_C B n M → 0 ≤ f → f < b → b ≤ n → Q (0, lx_wi B f (b - f) lx_ws 20) M → Y G (d + 20) mX8_sortOfLetters 0 [(2, 13), (0, f), (0, b), (9, 0), (9, 0), (9, 0), (9, 0)] [] M Q) ∧ (∀ (d : Nat) (M : zM) (Q : zV → zM → Prop) (B : Int → Int) (n f : Int), lx_B B n → lx_C B n M → 0 ≤ f → f < n → (0 ≤ M 13 5 ∧ M 13 5 < 301) → Q (0, if lx_2 B f then f + 2 else f + 1) (lx_ad M (lx_s2 B f) f 0) → Y G (d + 20) mX8_takeSign 0 [(2, 13), (0, f), (9, 0), (9, 0)] [] M Q)
section BD
variable {B : Int → Int} {n : Int}
theorem lx_dg_b (hB : lx_B B n) : ∀ (r : Nat) (i : Int), i ≤ n → i ≤ lx_dg B r i ∧ lx_dg B r i ≤ n
  | 0, i, h => ⟨Int.le_refl _, h⟩
  | r + 1, i, h => by
    have b := lx_b (i := i) hB
    show i ≤ (if lx_d (B i) then lx_dg B r (i + 1) else i) ∧ (if lx_d (B i) then lx_dg B r (i + 1) else i) ≤ n
    by_cases c : lx_d (B i)
    · rw [if_pos c]
      have := lx_dg_b hB r (i + 1) (by omega)
      omega
    · rw [if_neg c]; omega
theorem lx_lt_b (hB : lx_B B n) : ∀ (r : Nat) (i : Int), i ≤ n → i ≤ lx_lt B r i ∧ lx_lt B r i ≤ n
  | 0, i, h => ⟨Int.le_refl _, h⟩
  | r + 1, i, h => by
    have b := lx_b (i := i) hB
    show i ≤ (if lx_l (B i) then lx_lt B r (i + 1) else i) ∧ (if lx_l (B i) then lx_lt B r (i + 1) else i) ≤ n
    by_cases c : lx_l (B i)
    · rw [if_pos c]
      have := lx_lt_b hB r (i + 1) (by omega)
      omega
    · rw [if_neg c]; omega
theorem lx_D_b (hB : lx_B B n) {j : Int} (hj : 0 ≤ j ∧ j < n) (c : lx_d (B j)) : j < lx_D B j ∧ lx_D B j ≤ n := by
  have n3 := hB.1
  unfold lx_D
  rw [show (301 - j).toNat = (300 - j).toNat + 1 by omega]
  show j < (if lx_d (B j) then lx_dg B (300 - j).toNat (j + 1) else j) ∧ (if lx_d (B j) then lx_dg B (300 - j).toNat (j + 1) else j) ≤ n
  rw [if_pos c]
  have := lx_dg_b hB (300 - j).toNat (j + 1) (by omega)
  omega
theorem lx_L_b (hB : lx_B B n) {j : Int} (hj : 0 ≤ j ∧ j < n) (c : lx_l (B j)) : j < lx_L B j ∧ lx_L B j ≤ n := by
  have n3 := hB.1
  unfold lx_L
  rw [show (301 - j).toNat = (300 - j).toNat + 1 by omega]
  show j < (if lx_l (B j) then lx_lt B (300 - j).toNat (j + 1) else j) ∧ (if lx_l (B j) then lx_lt B (300 - j).toNat (j + 1) else j) ≤ n
  rw [if_pos c]
  have := lx_lt_b hB (300 - j).toNat (j + 1) (by omega)
  omega
theorem lx_e_b (hB : lx_B B n) {j : Int} (hj : 0 ≤ j ∧ j < n) : j < lx_e B j ∧ lx_e B j ≤ n := by
  have b := hB.2.2 j hj.1 hj.2
  unfold lx_e
  rw [if_neg (by omega)]
  by_cases c1 : lx_d (B j)
  · rw [if_pos c1]; exact lx_D_b hB hj c1
  · rw [if_neg c1]
    by_cases c2 : lx_l (B j)
    · rw [if_pos c2]; exact lx_L_b hB hj c2
    · rw [if_neg c2]
      by_cases c3 : lx_2 B j
      · rw [if_pos c3]
        have := lx_b (i := j + 1) hB
        have := c3.2
        omega
      · rw [if_neg c3]; omega
theorem lx_S_b {p : Int} (hp : 0 ≤ p ∧ p ≤ 300) (c : B p = 32 ∨ B p = 10) : lx_S B p = lx_S B (p + 1) := by
  unfold lx_S
  rw [show (301 - p).toNat = (301 - (p + 1)).toNat + 1 by omega]
  show (if B p = 32 ∨ B p = 10 then lx_sk B (301 - (p + 1)).toNat (p + 1) else p) = _
  rw [if_pos c]
theorem lx_S_n {p : Int} (hp : 0 ≤ p ∧ p ≤ 301) (c : ¬ (B p = 32 ∨ B p = 10)) : lx_S B p = p := by
  unfold lx_S
  by_cases z : p = 301
  · rw [z]; rfl
  · rw [show (301 - p).toNat = (300 - p).toNat + 1 by omega]
    show (if B p = 32 ∨ B p = 10 then lx_sk B (300 - p).toNat (p + 1) else p) = _
    rw [if_neg c]
end BD
section CT
variable {B : Int → Int} {n : Int}
def lx_fr : List (Int × Int × Int) := [(13, 5, 10), (15, 0, 1000000), (16, 0, 1000000), (17, 0, 1000000)]
theorem lx_adC {s b v : Int} (h : lx_C B n M) : lx_C B n (lx_ad M s b v) := by
  unfold lx_ad
  refine ⟨?_, fun i i0 i1 => ?_⟩
  · rw [zset_ne (by decide), zset_off (by decide), zset_off (by decide), zset_off (by decide)]; exact h.1
  · rw [zset_off (by decide), zset_off (by decide), zset_off (by decide), zset_off (by decide)]; exact h.2 i i0 i1
theorem s_token (hG : zP G) {s b v : Int} (h5 : 0 ≤ M 13 5 ∧ M 13 5 < 301) (h : Q (9, 0) (lx_ad M s b v)) : Y G d mX8_addToken 0 [(2, 13), (0, s), (0, b), (0, v)] [] M Q :=
  bX8_addToken_0 hG ⟨fun z => absurd z (by omega), fun _ => ⟨by omega, by omega, by omega, by omega, h⟩⟩
theorem s_number (hG : zP G) (hB : lx_B B n) (hC : lx_C B n M) {j : Int} (hj : 0 ≤ j ∧ j < n) (c : lx_d (B j)) (h5 : 0 ≤ M 13 5 ∧ M 13 5 < 301) (h : Q (0, lx_D B j) (lx_ad M 2 j (lx_cv B (301 - j).toNat j 0))) : Y G (d + 1) mX8_takeNumber 0 [(2, 13), (0, j), (9, 0), (9, 0)] [] M Q := by
  have n3 := hB.1
  have lp : ∀ (r : Nat) (i v : Int), i + r = 301 → 0 ≤ i → lx_dg B r i = lx_D B j → lx_cv B r i v = lx_cv B (301 - j).toNat j 0 → (0 ≤ v ∧ v ≤ 32768) → Y G (d + 1) mX8_takeNumber 4 [(2, 13), (0, j), (0, v), (0, i)] [] M Q := fun r => by
    induction r with
    | zero =>
      intro i v hi i0 e1 e2 hv
      refine bX8_takeNumber_4 hG ?_
      rw [hC.1]
      refine ⟨fun _ => s_token hG h5 (bX8_takeNumber_55 hG ?_), fun z => absurd z (by omega)⟩
      rw [← e1, ← e2] at h
      exact h
    | succ r ih =>
      intro i v hi i0 e1 e2 hv
      have s1 : lx_dg B (r + 1) i = if lx_d (B i) then lx_dg B r (i + 1) else i := rfl
      have s2 : lx_cv B (r + 1) i v = if lx_d (B i) then lx_cv B r (i + 1) (min (v * 10 + B i - 48) 32768) else v := rfl
      have fin : ¬ lx_d (B i) → Y G d mX8_addToken 0 [(2, 13), (0, 2), (0, j), (0, v)] [] M (fun r M' => Y G (d + 1) mX8_takeNumber 55 [(2, 13), (0, j), (0, v), (0, i)] (zpush r []) M' Q) := fun z => by
        rw [s1, if_neg z] at e1
        rw [s2, if_neg z] at e2
        rw [← e1, ← e2] at h
        exact s_token hG h5 (bX8_takeNumber_55 hG h)
      refine bX8_takeNumber_4 hG ?_
      rw [hC.1, lx_cb hB hC]
      refine ⟨fun z => fin (fun w => by have := hB.2.1 i (Or.inr z); omega), fun z => ⟨fun w => ⟨by omega, by omega, by omega, by omega, ?_⟩, fin⟩⟩
      rw [s1, if_pos w] at e1
      rw [s2, if_pos w] at e2
      exact ih (i + 1) _ (by omega) (by omega) e1 e2 (by omega)
  exact bX8_takeNumber_0 hG (lp (301 - j).toNat j 0 (by omega) hj.1 rfl rfl (by decide))
theorem s_letters (hG : zP G) (hH : lx_H G) (hB : lx_B B n) (hC : lx_C B n M) {j : Int} (hj : 0 ≤ j ∧ j < n) (c : lx_l (B j)) (h5 : 0 ≤ M 13 5 ∧ M 13 5 < 301) (h : Q (0, lx_L B j) (lx_ad M (lx_wi B j (lx_L B j - j) lx_ws 20) j 0)) : Y G (d + 21) mX8_takeLetters 0 [(2, 13), (0, j), (9, 0)] [] M Q := by
  have n3 := hB.1
  have lb := lx_L_b hB hj c
  have fin : Y G (d + 20) mX8_sortOfLetters 0 [(2, 13), (0, j), (0, lx_L B j), (9, 0), (9, 0), (9, 0), (9, 0)] [] M (fun r M' => Y G (d + 20 + 1) mX8_takeLetters 34 [(2, 13), (0, j), (0, lx_L B j)] (zpush r [(2, 13)]) M' Q) :=
    hH.1 d M _ B n j (lx_L B j) hB hC hj.1 lb.1 lb.2 (bX8_takeLetters_34 hG (s_token hG h5 (bX8_takeLetters_39 hG h)))
  have lp : ∀ (r : Nat) (i : Int), i + r = 301 → 0 ≤ i → lx_lt B r i = lx_L B j → Y G (d + 20 + 1) mX8_takeLetters 2 [(2, 13), (0, j), (0, i)] [] M Q := fun r => by
    induction r with
    | zero =>
      intro i hi i0 e1
      have e' : i = lx_L B j := e1
      omega
    | succ r ih =>
      intro i hi i0 e1
      have s1 : lx_lt B (r + 1) i = if lx_l (B i) then lx_lt B r (i + 1) else i := rfl
      refine bX8_takeLetters_2 hG ?_
      rw [hC.1, lx_cb hB hC]
      have no : ¬ lx_l (B i) → Y G (d + 20) mX8_sortOfLetters 0 [(2, 13), (0, j), (0, i), (9, 0), (9, 0), (9, 0), (9, 0)] [] M (fun r M' => Y G (d + 20 + 1) mX8_takeLetters 34 [(2, 13), (0, j), (0, i)] (zpush r [(2, 13)]) M' Q) := fun z => by
        rw [s1, if_neg z] at e1
        rw [e1]; exact fin
      refine ⟨fun z => no (fun w => by have := hB.2.1 i (Or.inr z); omega), fun z => ⟨fun w => ⟨by omega, ?_⟩, fun w => no w⟩⟩
      have w' : lx_l (B i) := w
      rw [s1, if_pos w'] at e1
      exact ih (i + 1) (by omega) (by omega) e1
  exact bX8_takeLetters_0 hG (lp (301 - j).toNat j (by omega) hj.1 rfl)
theorem s_tokat (hG : zP G) (hH : lx_H G) (hB : lx_B B n) (hC : lx_C B n M) {j : Int} (hj : 0 ≤ j ∧ j < n) (h5 : 0 ≤ M 13 5 ∧ M 13 5 < 301) (h : Q (0, lx_e B j) (lx_ad M (lx_c B j) j (lx_v B j))) : Y G (d + 22) mX8_takeToken 0 [(2, 13), (0, j), (9, 0)] [] M Q := by
  have b := hB.2.2 j hj.1 hj.2
  have bn : ¬ B j < 0 := by omega
  refine bX8_takeToken_0 hG ?_
  rw [lx_cb hB hC]
  refine ⟨fun c => ?_, fun c => ⟨fun c2 => ?_, fun c2 => ?_⟩⟩
  · have ee : lx_e B j = lx_D B j := by unfold lx_e; rw [if_neg bn, if_pos c]
    have ec : lx_c B j = 2 := by unfold lx_c; rw [if_neg bn, if_pos c]
    have ev : lx_v B j = lx_cv B (301 - j).toNat j 0 := by unfold lx_v; rw [if_pos c]
    rw [ee, ec, ev] at h
    exact s_number (d := d + 20) hG hB hC hj c h5 (bX8_takeToken_18 hG h)
  · have c2' : lx_l (B j) := c2
    have ee : lx_e B j = lx_L B j := by unfold lx_e; rw [if_neg bn, if_neg c, if_pos c2']
    have ec : lx_c B j = lx_wi B j (lx_L B j - j) lx_ws 20 := by unfold lx_c; rw [if_neg bn, if_neg c, if_pos c2']
    have ev : lx_v B j = 0 := by unfold lx_v; rw [if_neg c]
    rw [ee, ec, ev] at h
    exact s_letters (d := d) hG hH hB hC hj c2' h5 (bX8_takeToken_31 hG h)
  · have c2' : ¬ lx_l (B j) := c2
    have ee : lx_e B j = if lx_2 B j then j + 2 else j + 1 := by unfold lx_e; rw [if_neg bn, if_neg c, if_neg c2']
    have ec : lx_c B j = lx_s2 B j := by unfold lx_c; rw [if_neg bn, if_neg c, if_neg c2']
    have ev : lx_v B j = 0 := by unfold lx_v; rw [if_neg c]
    rw [ee, ec, ev] at h
    exact hH.2 (d + 1) M _ B n j hB hC hj.1 hj.2 h5 (bX8_takeToken_39 hG h)
/-- the tokens up to the k-th lie in the class's rows -/
def lx_T (B : Int → Int) (X : zM) (k : Nat) : Prop := ∀ i : Nat, i < k → X 15 (i : Int) = lx_c B (lx_j B i) ∧ X 16 (i : Int) = lx_j B i ∧ X 17 (i : Int) = lx_v B (lx_j B i)
theorem lx_T_s {X : zM} {k : Nat} (h : lx_T B X k) (h5 : X 13 5 = (k : Int)) : lx_T B (lx_ad X (lx_c B (lx_j B k)) (lx_j B k) (lx_v B (lx_j B k))) (k + 1) := fun i hi => by
  unfold lx_ad
  rw [h5]
  by_cases c : i = k
  · subst c
    refine ⟨?_, ?_, ?_⟩
    · rw [zset_off (by decide), zset_off (by decide), zset_off (by decide), zset_same]
    · rw [zset_off (by decide), zset_off (by decide), zset_same]
    · rw [zset_off (by decide), zset_same]
  · have := h i (by omega)
    refine ⟨?_, ?_, ?_⟩
    · rw [zset_off (by decide), zset_off (by decide), zset_off (by decide), zset_ne (by omega)]; exact this.1
    · rw [zset_off (by decide), zset_off (by decide), zset_ne (by omega)]; exact this.2.1
    · rw [zset_off (by decide), zset_ne (by omega)]; exact this.2.2
theorem lx_ad_f {N : zM} {s b v : Int} (h : zfr lx_fr N M) (h5 : 0 ≤ M 13 5 ∧ M 13 5 < 301) : zfr lx_fr N (lx_ad M s b v) :=
  zfr_set (zfr_set (zfr_set (zfr_set h (zhit_at 1 rfl (by omega))) (zhit_at 2 rfl (by omega))) (zhit_at 3 rfl (by omega))) (zhit_at 0 rfl (by decide))
/-- the class looks at the k-th of m + 1 tokens -/
def lx_A (B : Int → Int) (X : zM) (m k : Nat) : Prop := lx_T B X (m + 1) ∧ X 13 5 = (m : Int) + 1 ∧ X 13 6 = (k : Int) ∧ X 13 7 = lx_c B (lx_j B k) ∧ X 13 8 = lx_j B k ∧ X 13 9 = lx_v B (lx_j B k)
theorem s_adv (hG : zP G) {m k : Nat} (h3 : m ≤ 300) (hk : k < m) (hA : lx_A B M m k) (h : ∀ X, zfr [(13, 6, 10)] M X → lx_A B X m (k + 1) → Q (9, 0) X) : Y G d mX8_advance 0 [(2, 13)] [] M Q := by
  obtain ⟨a1, a2, a3, a4, a5, a6⟩ := hA
  have q := a1 (k + 1) (by omega)
  rw [show ((k + 1 : Nat) : Int) = (k : Int) + 1 by omega] at q
  refine bX8_advance_0 hG ?_
  rw [a3, a2, q.1, q.2.1, q.2.2]
  refine ⟨by omega, fun z => absurd z (by omega), fun _ => ⟨by omega, by omega, by omega, by omega, h _ (zfr_set (zfr_set (zfr_set (zfr_set zfr_rfl (zhit_at 0 rfl (by decide))) (zhit_at 0 rfl (by decide))) (zhit_at 0 rfl (by decide))) (zhit_at 0 rfl (by decide))) ⟨fun i hi => ?_, ?_, ?_, ?_, ?_, ?_⟩⟩⟩
  · rw [zset_off (by decide), zset_off (by decide), zset_off (by decide), zset_off (by decide), zset_off (by decide), zset_off (by decide), zset_off (by decide), zset_off (by decide), zset_off (by decide), zset_off (by decide), zset_off (by decide), zset_off (by decide)]
    exact a1 i hi
  · rw [zr_set (by decide), zr_set (by decide), zr_set (by decide), zr_set (by decide)]; exact a2
  · rw [zr_set (by decide), zr_set (by decide), zr_set (by decide), zset_same]; omega
  · rw [zr_set (by decide), zr_set (by decide), zset_same]
  · rw [zr_set (by decide), zset_same]
  · exact zset_same
theorem s_split (hG : zP G) (hH : lx_H G) (hB : lx_B B n) (hC : lx_C B n M) (h : ∀ (X : zM) (m : Nat), zfr lx_fr M X → m ≤ 300 → (∀ k : Nat, k < m → 0 ≤ B (lx_j B k) ∧ lx_p B (k + 1) ≤ n) → B (lx_j B m) = -1 → lx_A B X m 0 → Q (9, 0) X) : Y G (d + 30) mX8_split 0 [(2, 13), (9, 0), (9, 0), (9, 0)] [] M Q := by
  have n3 := hB.1
  have lp : ∀ (r : Nat) (p x : Int) (k : Nat) (X : zM), p + r = 301 → 0 ≤ p → p ≤ n → (0 ≤ x ∧ x ≤ p) → (k : Int) ≤ p → lx_S B p = lx_j B k → (∀ i : Nat, i < k → 0 ≤ B (lx_j B i) ∧ lx_p B (i + 1) ≤ n) → zfr lx_fr M X → lx_C B n X → lx_T B X k → X 13 5 = (k : Int) → Y G (d + 29 + 1) mX8_split 9 [(2, 13), (0, p), (0, x), (9, 0)] [] X Q := fun r => by
    induction r using Nat.strongRecOn with
    | ind r ih =>
      intro p x k X hr p0 pn hx kp hS hq hf hCX hT h5
      have fin : n ≤ p → Y G (d + 29) mX8_addToken 0 [(2, 13), (0, 0), (0, n), (0, 0)] [] X (fun r M' => Y G (d + 29 + 1) mX8_split 82 [(2, 13), (0, p), (0, x), (9, 0)] (zpush r []) M' Q) := fun c => by
        have pe : p = n := by omega
        have b1 : B p = -1 := hB.2.1 p (Or.inr c)
        have jn : lx_j B k = n := by rw [← hS, lx_S_n ⟨p0, by omega⟩ (by omega)]; exact pe
        have bj : B (lx_j B k) = -1 := by rw [jn, ← pe]; exact b1
        have ec : lx_c B (lx_j B k) = 0 := by unfold lx_c; rw [if_pos (by omega)]
        have ev : lx_v B (lx_j B k) = 0 := by unfold lx_v; rw [if_neg (by omega)]
        have hT' := lx_T_s hT h5
        have hf' := lx_ad_f (s := lx_c B (lx_j B k)) (b := lx_j B k) (v := lx_v B (lx_j B k)) hf (by omega)
        have h5' : lx_ad X (lx_c B (lx_j B k)) (lx_j B k) (lx_v B (lx_j B k)) 13 5 = (k : Int) + 1 := by unfold lx_ad; rw [h5]; exact zset_same
        refine s_token hG (by omega) (bX8_split_82 hG ?_)
        rw [ec, ev, jn] at hT' hf' h5'
        generalize lx_ad X 0 n 0 = X1 at hT' hf' h5'
        have q := hT' 0 (by omega)
        have z5 : zset X1 13 6 (-1) 13 5 = (k : Int) + 1 := by rw [zr_set (by decide)]; exact h5'
        refine bX8_advance_0 hG ?_
        rw [z5, show zset X1 13 6 (-1) 13 6 = -1 from zset_same, zset_off (show (15 : Int) ≠ 13 by decide), zset_off (show (16 : Int) ≠ 13 by decide), zset_off (show (17 : Int) ≠ 13 by decide)]
        refine ⟨by decide, fun z => absurd z (by omega), fun _ => ⟨by decide, by decide, by decide, by decide, bX8_split_91 hG (h _ k (zfr_set (zfr_set (zfr_set (zfr_set (zfr_set hf' (zhit_at 0 rfl (by decide))) (zhit_at 0 rfl (by decide))) (zhit_at 0 rfl (by decide))) (zhit_at 0 rfl (by decide))) (zhit_at 0 rfl (by decide))) (by omega) hq bj ⟨fun i hi => ?_, ?_, ?_, ?_, ?_, ?_⟩)⟩⟩
        · rw [zset_off (by decide), zset_off (by decide), zset_off (by decide), zset_off (by decide), zset_off (by decide), zset_off (by decide), zset_off (by decide), zset_off (by decide), zset_off (by decide), zset_off (by decide), zset_off (by decide), zset_off (by decide), zset_off (by decide), zset_off (by decide), zset_off (by decide)]
          exact hT' i hi
        · rw [zr_set (by decide), zr_set (by decide), zr_set (by decide), zr_set (by decide)]; exact z5
        · rw [zr_set (by decide), zr_set (by decide), zr_set (by decide), zset_same]; rfl
        · rw [zr_set (by decide), zr_set (by decide), zset_same]; exact q.1
        · rw [zr_set (by decide), zset_same]; exact q.2.1
        · rw [zset_same]; exact q.2.2
      refine bX8_split_9 hG ?_
      rw [hCX.1, lx_cb hB hCX]
      have bl : p < n → (B p = 32 ∨ B p = 10) → Y G (d + 29 + 1) mX8_split 9 [(2, 13), (0, p + 1), (0, x + 1), (9, 0)] [] X Q := fun c w => ih (r - 1) (by omega) (p + 1) (x + 1) k X (by omega) (by omega) (by omega) (by omega) (by omega) ((lx_S_b ⟨p0, by omega⟩ w).symm.trans hS) hq hf hCX hT h5
      refine ⟨fun z => fin (by omega), fun z => ⟨fun c => fin c, fun c => ⟨fun w => ⟨by omega, by omega, bl c (Or.inl w)⟩, fun w => ⟨fun w2 => ?_, fun w2 => ⟨by omega, by omega, bl c (Or.inr w2)⟩⟩⟩⟩⟩
      have pj : lx_j B k = p := by rw [← hS]; exact lx_S_n ⟨p0, by omega⟩ (fun y => by rcases y with y | y; exact w y; exact w2 y)
      have eb := lx_e_b hB (j := p) ⟨p0, c⟩
      have bp := hB.2.2 p p0 c
      refine s_tokat (d := d + 7) hG hH hB hCX ⟨p0, c⟩ (by omega) (bX8_split_65 hG ⟨by omega, ?_⟩)
      have pk : lx_p B (k + 1) = lx_e B p := by show lx_e B (lx_j B k) = _; rw [pj]
      have hT' := lx_T_s hT h5
      have hf' := lx_ad_f (s := lx_c B (lx_j B k)) (b := lx_j B k) (v := lx_v B (lx_j B k)) hf (by omega)
      rw [pj] at hT' hf'
      refine ih (301 - lx_e B p).toNat (by omega) (lx_e B p) (x + 1) (k + 1) _ (by omega) (by omega) (by omega) (by omega) (by omega) (by show lx_S B (lx_e B p) = lx_S B (lx_p B (k + 1)); rw [pk]) (fun i hi => ?_) hf' (lx_adC hCX) hT' (by unfold lx_ad; rw [h5]; exact zset_same)
      by_cases ci : i = k
      · rw [ci, pj, pk]; exact ⟨by omega, by omega⟩
      · exact hq i (by omega)
  refine bX8_split_0 hG (lp 301 0 0 0 _ (by decide) (by decide) (by omega) (by decide) (by decide) rfl (fun i hi => absurd hi (by omega)) (zfr_set zfr_rfl (zhit_at 0 rfl (by decide))) ⟨by rw [zr_set (by decide)]; exact hC.1, fun i i0 i1 => by rw [zset_off (by decide)]; exact hC.2 i i0 i1⟩ (fun i hi => absurd hi (by omega)) zset_same)
end CT
end LX3
