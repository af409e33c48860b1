section PG
variable {G : zG} {d : Nat} {M : zM} {Q : zV → zM → Prop}
theorem zstw {M : zM} {a b i v k l l' : Int} {f : Int → Int} (h : a ≠ b) : zset (zset (zset (zrow M a f) b k l) a i v) b k l' = zset (zrow M a (zup f i v)) b k l' := by
  funext x y
  simp only [zset_ap, zrow_ap, zup]
  by_cases c : x = b
  · have c2 : ¬ x = a := by omega
    simp only [if_pos c, if_neg c2]
    split
    · rfl
    · rfl
  · simp only [if_neg c]
    by_cases c2 : x = a
    · simp only [if_pos c2]
    · simp only [if_neg c2]
theorem zstw0 {M : zM} {a b k l : Int} (h : M b k = l) : M = zset (zrow M a (M a)) b k l := by
  rw [zrow_self]
  funext x y
  rw [zset_ap]
  split
  · rename_i c
    split
    · rename_i c2; rw [c, c2, h]
    · rfl
  · rfl
def zfw (f : Int → Int) (l x : Int) : Int → Int := zup (zup (zup (zup f l (zbk x 24)) (l + 1) (zbk x 16)) (l + 2) (zbk x 8)) (l + 3) (zbk x 0)
theorem zfw_eq {f g : Int → Int} {l x : Int} (h : ∀ k, 0 ≤ k → k < l → f k = g k ∧ 0 ≤ f k ∧ f k ≤ 255) : ∀ k, 0 ≤ k → k < l + 4 → zfw f l x k = zfw g l x k ∧ 0 ≤ zfw f l x k ∧ zfw f l x k ≤ 255 := by
  intro k k0 k1
  have b0 := zbk_r (zshr x 0)
  have b1 := zbk_r (zshr x 8)
  have b2 := zbk_r (zshr x 16)
  have b3 := zbk_r (zshr x 24)
  unfold zfw zup zbk
  by_cases c3 : k = l + 3
  · rw [if_pos c3, if_pos c3]; exact ⟨rfl, b0⟩
  rw [if_neg c3, if_neg c3]
  by_cases c2 : k = l + 2
  · rw [if_pos c2, if_pos c2]; exact ⟨rfl, b1⟩
  rw [if_neg c2, if_neg c2]
  by_cases c1 : k = l + 1
  · rw [if_pos c1, if_pos c1]; exact ⟨rfl, b2⟩
  rw [if_neg c1, if_neg c1]
  by_cases c0 : k = l
  · rw [if_pos c0, if_pos c0]; exact ⟨rfl, b3⟩
  rw [if_neg c0, if_neg c0]
  exact h k k0 (by omega)
theorem s_addWord (hG : zP G) {x l : Int} {f : Int → Int} (hl : 0 ≤ l ∧ l ≤ 296) (h : Q (9, 0) (zset (zrow M 14 (zfw f l x)) 13 1 (l + 4))) : Y G d mX8_addWord 0 [(2, 13), (0, x), (9, 0)] [] (zset (zrow M 14 f) 13 1 l) Q := by
  have e : ∀ g l, (zset (zrow M 14 g) 13 1 l) 13 1 = l := fun g l => zset_same
  refine bX8_addWord_0 hG (bX8_addWord_3 hG ⟨fun c => absurd c (by decide), fun _ => ?_⟩)
  rw [e]
  refine ⟨fun c => absurd c (by omega), fun _ => ⟨by omega, by omega, by decide, ?_⟩⟩
  rw [zstw (by decide), show (24 : Int) = ((24 : Nat) : Int) from rfl, zbk_u x (by decide)]
  refine bX8_addWord_3 hG ⟨fun c => absurd c (by decide), fun _ => ?_⟩
  rw [e]
  refine ⟨fun c => absurd c (by omega), fun _ => ⟨by omega, by omega, by decide, ?_⟩⟩
  rw [zstw (by decide), show ((24 : Nat) : Int) + -8 = ((16 : Nat) : Int) from rfl, zbk_u x (by decide)]
  refine bX8_addWord_3 hG ⟨fun c => absurd c (by decide), fun _ => ?_⟩
  rw [e]
  refine ⟨fun c => absurd c (by omega), fun _ => ⟨by omega, by omega, by decide, ?_⟩⟩
  rw [zstw (by decide), show ((16 : Nat) : Int) + -8 = ((8 : Nat) : Int) from rfl, zbk_u x (by decide)]
  refine bX8_addWord_3 hG ⟨fun c => absurd c (by decide), fun _ => ?_⟩
  rw [e]
  refine ⟨fun c => absurd c (by omega), fun _ => ⟨by omega, by omega, by decide, ?_⟩⟩
  rw [zstw (by decide), show ((8 : Nat) : Int) + -8 = ((0 : Nat) : Int) from rfl, zbk_u x (by decide)]
  refine bX8_addWord_3 hG ⟨fun _ => ?_, fun c => absurd c (by decide)⟩
  rw [show l + 1 + 1 + 1 + 1 = l + 4 by omega, show l + 1 + 1 + 1 = l + 3 by omega, show l + 1 + 1 = l + 2 by omega]
  exact h
theorem s_four (hG : zP G) {x l : Int} {f : Int → Int} (hl : 0 ≤ l ∧ l ≤ 296) (h : Q (9, 0) (zset (zrow M 239 (zfw f l x)) 234 5 (l + 4))) : Y G d mX12_four 0 [(2, 234), (0, x), (9, 0)] [] (zset (zrow M 239 f) 234 5 l) Q := by
  have e : ∀ g l, (zset (zrow M 239 g) 234 5 l) 234 5 = l := fun g l => zset_same
  refine bX12_four_0 hG (bX12_four_2 hG ⟨fun c => absurd c (by decide), fun _ => ?_⟩)
  rw [e]
  refine ⟨by decide, by omega, by omega, by decide, ?_⟩
  rw [zstw (by decide)]
  refine bX12_four_2 hG ⟨fun c => absurd c (by decide), fun _ => ?_⟩
  rw [e]
  refine ⟨by decide, by omega, by omega, by decide, ?_⟩
  rw [zstw (by decide)]
  refine bX12_four_2 hG ⟨fun c => absurd c (by decide), fun _ => ?_⟩
  rw [e]
  refine ⟨by decide, by omega, by omega, by decide, ?_⟩
  rw [zstw (by decide)]
  refine bX12_four_2 hG ⟨fun c => absurd c (by decide), fun _ => ?_⟩
  rw [e]
  refine ⟨by decide, by omega, by omega, by decide, ?_⟩
  rw [zstw (by decide)]
  refine bX12_four_2 hG ⟨fun _ => ?_, fun c => absurd c (by decide)⟩
  rw [show l + 1 + 1 + 1 + 1 = l + 4 by omega, show l + 1 + 1 + 1 = l + 3 by omega, show l + 1 + 1 = l + 2 by omega]
  exact h

theorem J_feed {M M2 : zM} (hJ : zJ M) (hf : zfr [(13, 1, 2), (14, 0, 1000000), (234, 5, 6), (239, 0, 1000000)] M M2) (j5 : zJ5 M2) : zJn M M2 := by
  exact ⟨⟨zsA_c (zfr_sm hf (by decide)) hJ.1, zsI_c (zfr_sm hf (by decide)) hJ.2.1, zJ1_c (zfr_sm hf (by decide)) hJ.2.2.1, zJ2_c (zfr_sm hf (by decide)) hJ.1.2.1.1.2 hJ.2.2.2.1, zJ3_c (zfr_sm hf (by decide)) hJ.2.2.2.2.1, zJ4_c (zfr_sm hf (by decide)) hJ.1.2.1.1.2 hJ.2.2.2.2.2.1, zJ10_c (zfr_sm hf (by decide)) hJ.2.2.2.2.2.2.1, j5, zJ6_c (zfr_sm hf (by decide)) hJ.2.2.2.2.2.2.2.2.1, zJ7_c (zfr_sm hf (by decide)) hJ.2.2.2.2.2.2.2.2.2.1, zJ8_c (zfr_sm hf (by decide)) hJ.1.1.2 hJ.2.2.2.2.2.2.2.2.2.2.1, zJ9_c (zfr_sm hf (by decide)) hJ.2.2.2.2.2.2.2.2.2.2.2.1, zJ11_c (zfr_sm hf (by decide)) hJ.1.2.2.1.1.2 hJ.2.2.2.2.2.2.2.2.2.2.2.2.1, zJ12_c (zfr_sm hf (by decide)) hJ.2.2.2.2.2.2.2.2.2.2.2.2.2.1, zJ13_c (zfr_sm hf (by decide)) (zA5 hJ.1) hJ.2.2.2.2.2.2.2.2.2.2.2.2.2.2.1, zJ14_c (zfr_sm hf (by decide)) (zA7 hJ.1) hJ.2.2.2.2.2.2.2.2.2.2.2.2.2.2.2.1, zJ15_c (zfr_sm hf (by decide)) (zA8 hJ.1) hJ.2.2.2.2.2.2.2.2.2.2.2.2.2.2.2.2.1, zJ18_c (zfr_sm hf (by decide)) ⟨zA5 hJ.2.1, zA7 hJ.2.1, zA8 hJ.2.1⟩ hJ.2.2.2.2.2.2.2.2.2.2.2.2.2.2.2.2.2.1, zJ19_c (zfr_sm hf (by decide)) ⟨hJ.2.1.2.1.1.2, hJ.2.1.2.2.1.1.2⟩ hJ.2.2.2.2.2.2.2.2.2.2.2.2.2.2.2.2.2.2.1, zJ16_c (zfr_sm hf (by decide)) hJ.1.1.2 hJ.2.2.2.2.2.2.2.2.2.2.2.2.2.2.2.2.2.2.2.1, zJ17_c (zfr_sm hf (by decide)) hJ.2.1.1.2 hJ.2.2.2.2.2.2.2.2.2.2.2.2.2.2.2.2.2.2.2.2.1, zJF_c (zfr_sm hf (by decide)) hJ.1 hJ.2.2.2.2.2.2.2.2.2.2.2.2.2.2.2.2.2.2.2.1 hJ.2.2.2.2.2.2.2.2.2.2.2.2.2.2.2.2.2.2.2.2.2.1, zJS_c (zfr_sm hf (by decide)) hJ.1.1.2 hJ.2.2.2.2.2.2.2.2.2.2.2.2.2.2.2.2.2.2.2.1 hJ.2.2.2.2.2.2.2.2.2.2.2.2.2.2.2.2.2.2.2.2.2.2.1, (by rw [hf 2 10 (by unfold zhw zhit; decide)]; exact hJ.2.2.2.2.2.2.2.2.2.2.2.2.2.2.2.2.2.2.2.2.2.2.2.1), zJC_c (zfr_sm hf (by decide)) hJ.2.2.2.2.2.2.2.2.2.2.2.2.2.2.2.2.2.2.2.2.2.2.2.2⟩, by rw [hf 2 10 (by unfold zhw zhit; decide)]; omega⟩

theorem pr_feed (hG : zP G) (hJ : zJ M) {x1 x2 x3 x4 x5 : Int} : zPr G d mX11_feed mX12_feed [(2, 1), (0, x1), (0, x2), (0, x3), (0, x4), (0, x5)] [(2, 234), (0, x1), (0, x2), (0, x3), (0, x4), (0, x5)] M := by
  obtain ⟨o1, o2, o3⟩ := hJ.2.2.2.2.2.2.2.1
  generalize hl : M 13 1 = l at o1 o2 o3
  refine bX11_feed_0 hG ?_
  rw [hl]
  refine ⟨by omega, fun c => ?_, fun c => ?_⟩
  · have e := zstw0 (M := M) (a := 14) hl
    rw [show Y G (d + 399) mX8_addWord 0 [(2, 13), (0, x1), (9, 0)] [] M = Y G (d + 399) mX8_addWord 0 [(2, 13), (0, x1), (9, 0)] [] (zset (zrow M 14 (M 14)) 13 1 l) by rw [← e]]
    refine s_addWord hG (by omega) (bX11_feed_32 hG ?_)
    refine s_addWord hG (by omega) (bX11_feed_43 hG ?_)
    refine s_addWord hG (by omega) (bX11_feed_54 hG ?_)
    refine s_addWord hG (by omega) (bX11_feed_66 hG ?_)
    refine s_addWord hG (by omega) (bX11_feed_78 hG ?_)
    rw [zset_same]
    generalize hM1 : zset (zrow M 14 (zfw (zfw (zfw (zfw (zfw (M 14) l x1) (l + 4) x2) (l + 4 + 4) x3) (l + 4 + 4 + 4) x4) (l + 4 + 4 + 4 + 4) x5)) 13 1 (l + 4 + 4 + 4 + 4 + 4) = M1
    have e5 : M1 234 5 = l := by rw [o1]; subst hM1; simp only [zset_ap, zrow_ap, Int.reduceEq, ↓reduceIte] <;> (repeat' split) <;> first | rfl | omega
    have e39 : M1 239 = M 239 := by subst hM1; funext i; simp only [zset_ap, zrow_ap, Int.reduceEq, ↓reduceIte] <;> (repeat' split) <;> first | rfl | omega
    refine bX12_feed_0 hG ?_
    rw [e5]
    refine ⟨by omega, fun c2 => ?_, fun c2 => absurd c2 (by omega)⟩
    have e := zstw0 (M := M1) (a := 239) e5
    rw [show Y G (d + 399) mX12_four 0 [(2, 234), (0, x1), (9, 0)] [] M1 = Y G (d + 399) mX12_four 0 [(2, 234), (0, x1), (9, 0)] [] (zset (zrow M1 239 (M1 239)) 234 5 l) by rw [← e]]
    refine s_four hG (by omega) (bX12_feed_20 hG ?_)
    refine s_four hG (by omega) (bX12_feed_25 hG ?_)
    refine s_four hG (by omega) (bX12_feed_30 hG ?_)
    refine s_four hG (by omega) (bX12_feed_36 hG ?_)
    refine s_four hG (by omega) (bX12_feed_42 hG ?_)
    rw [zset_same, e39]
    refine ⟨rfl, J_feed hJ ?_ ?_⟩
    · subst hM1
      exact zfr_set (zfr_row (zfr_set (zfr_row zfr_rfl 1 rfl) (zhit_at 0 rfl ⟨by decide, by decide⟩)) 3 rfl) (zhit_at 2 rfl ⟨by decide, by decide⟩)
    · have q := zfw_eq (x := x5) (zfw_eq (x := x4) (zfw_eq (x := x3) (zfw_eq (x := x2) (zfw_eq (x := x1) o3))))
      have w1 : ∀ f, zset (zrow M1 239 f) 234 5 (l + 4 + 4 + 4 + 4 + 4) 13 1 = l + 4 + 4 + 4 + 4 + 4 := fun f => by subst hM1; simp only [zset_ap, zrow_ap, Int.reduceEq, ↓reduceIte] <;> (repeat' split) <;> first | rfl | omega
      have w2 : ∀ f i, zset (zrow M1 239 f) 234 5 (l + 4 + 4 + 4 + 4 + 4) 14 i = zfw (zfw (zfw (zfw (zfw (M 14) l x1) (l + 4) x2) (l + 4 + 4) x3) (l + 4 + 4 + 4) x4) (l + 4 + 4 + 4 + 4) x5 i := fun f i => by subst hM1; simp only [zset_ap, zrow_ap, Int.reduceEq, ↓reduceIte] <;> (repeat' split) <;> first | rfl | omega
      have w3 : ∀ f i, zset (zrow M1 239 f) 234 5 (l + 4 + 4 + 4 + 4 + 4) 239 i = f i := fun f i => by simp only [zset_ap, zrow_ap, Int.reduceEq, ↓reduceIte] <;> (repeat' split) <;> first | rfl | omega
      unfold zJ5
      rw [w1, zset_same]
      refine ⟨rfl, by omega, fun k k0 k1 => ?_⟩
      rw [w2, w3]
      exact q k k0 k1
  · refine bX12_feed_0 hG ?_
    rw [← o1]
    exact ⟨by omega, fun c2 => absurd c2 (by omega), fun _ => ⟨rfl, zJ_rf hJ⟩⟩

end PG
