section PH
variable {G : zG} {d : Nat} {M : zM} {Q : zV → zM → Prop}
def zpa (f : Int → Int) (a : Int) (g : Int → Int) (n : Int) : Int → Int := fun k => if a ≤ k ∧ k < a + n then g (k - a) else f k
theorem zpa_up (f : Int → Int) (a : Int) (g : Int → Int) {n : Int} (h : 0 ≤ n) : zup (zpa f a g n) (a + n) (g n) = zpa f a g (n + 1) := by
  funext k
  unfold zup zpa
  by_cases h1 : k = a + n
  · subst h1; rw [if_pos rfl, if_pos (by omega), show a + n - a = n by omega]
  · rw [if_neg h1]
    by_cases h2 : a ≤ k ∧ k < a + n
    · rw [if_pos h2, if_pos (by omega)]
    · rw [if_neg h2, if_neg (by omega)]
theorem zup_eq {f : Int → Int} {i v k : Int} (h : k = i) : zup f i v k = v := if_pos h
theorem zpa_in {f : Int → Int} {a : Int} {g : Int → Int} {n k : Int} (h : a ≤ k ∧ k < a + n) : zpa f a g n k = g (k - a) := if_pos h
theorem zpa_out {f : Int → Int} {a : Int} {g : Int → Int} {n k : Int} (h : ¬ (a ≤ k ∧ k < a + n)) : zpa f a g n k = f k := if_neg h
theorem zpa_0 (f : Int → Int) (a : Int) (g : Int → Int) : zpa f a g 0 = f := by
  funext k; unfold zpa; rw [if_neg (by omega)]
theorem s_put (hG : zP G) {v a : Int} {f : Int → Int} (ha : 0 ≤ a ∧ a < 128) (h : Q (9, 0) (zset (zrow M 185 (zup f a v)) 184 1 (a + 1))) : Y G d mX5_put 0 [(2, 184), (0, v)] [] (zset (zrow M 185 f) 184 1 a) Q := by
  refine bX5_put_0 hG ?_
  rw [zset_same]
  refine ⟨fun c => absurd c (by omega), fun _ => ⟨by omega, by omega, ?_⟩⟩
  rw [zstw (by decide)]
  exact h
theorem s_pA2 (hG : zP G) {r a : Int} {n : Nat} {f : Int → Int} (hr : zsh r.toNat = (100, n)) (hn : n ≠ 0) (h1 : r ≠ 184 ∧ r ≠ 185) (ha : 0 ≤ a ∧ a + n ≤ 128) (h : Q (9, 0) (zset (zrow M 185 (zpa f a (M r) n)) 184 1 (a + n))) : ∀ (k : Nat) (i : Int), 0 ≤ i → i + k = n → Y G (d + 1) mX5_putAll 2 [(2, 184), (2, r), (0, i)] [] (zset (zrow M 185 (zpa f a (M r) i)) 184 1 (a + i)) Q
  | 0, i, i0, i1 => by
    have : i = (n : Int) := by omega
    subst this
    exact bX5_putAll_2 hG hr ⟨hn, fun _ => h, fun c => absurd c (by omega)⟩
  | k + 1, i, i0, i1 => by
    refine bX5_putAll_2 hG hr ⟨hn, fun c => absurd c (by omega), fun _ => ⟨by omega, ?_⟩⟩
    have e : zset (zrow M 185 (zpa f a (M r) i)) 184 1 (a + i) r i = M r i := by
      rw [zset_ap, if_neg h1.1, zrow_ap, if_neg h1.2]
    rw [e]
    refine s_put hG ⟨by omega, by omega⟩ (bX5_putAll_15 hG hr ⟨by omega, ?_⟩)
    rw [zpa_up _ _ _ i0, show a + i + 1 = a + (i + 1) by omega]
    exact s_pA2 hG hr hn h1 ha h k (i + 1) (by omega) (by omega)
theorem s_putAll (hG : zP G) {r a : Int} (n : Nat) {f : Int → Int} (hr : zsh r.toNat = (100, n)) (hn : n ≠ 0) (h1 : r ≠ 184 ∧ r ≠ 185) (ha : 0 ≤ a ∧ a + n ≤ 128) (h : Q (9, 0) (zset (zrow M 185 (zpa f a (M r) n)) 184 1 (a + n))) : Y G (d + 1) mX5_putAll 0 [(2, 184), (2, r), (9, 0)] [] (zset (zrow M 185 f) 184 1 a) Q := by
  refine bX5_putAll_0 hG hr ?_
  have := s_pA2 (d := d) hG hr hn h1 ha h n 0 (by omega) (by omega)
  rw [zpa_0, show a + 0 = a by omega] at this
  exact this
/-- what the class puts into its row -/
def zim (M : zM) (f : Int → Int) : Prop :=
  f 0 = M 1 3 ∧ (∀ t, 0 ≤ t → t < 4 → f (1 + t) = M 3 t) ∧ f 5 = M 2 4 ∧ (∀ k, 0 ≤ k → k < 36 → f (6 + k) = M 7 k) ∧ f 42 = M 19 8 ∧ f 43 = M 19 9 ∧ f 44 = M 157 5 ∧ f 45 = M 157 6 ∧ f 46 = M 157 9 ∧ (∀ i, 0 ≤ i → i < 6 → f (47 + i) = M 163 i ∧ f (53 + i) = M 164 i) ∧ f 59 = M 176 2 ∧ (∀ i, 0 ≤ i → i < 8 → f (60 + i) = M 177 i ∧ f (68 + i) = M 178 i) ∧ f 76 = M 176 7 ∧ (∀ i, 0 ≤ i → i < 12 → f (77 + i) = M 180 i ∧ f (89 + i) = M 181 i)

theorem s_cimage (hG : zP G) (h : ∀ f, zim M f → Q (0, M 157 9) (zset (zrow M 185 f) 184 1 101)) : Y G (d + 4) mX11_image 0 [(2, 1)] [] M Q := by
  have e0 : ∀ f a, zset (zrow M 185 f) 184 1 a 1 3 = M 1 3 := fun f a => by simp only [zset_ap, zrow_ap, Int.reduceEq, ↓reduceIte]
  have e1 : ∀ f a, zset (zrow M 185 f) 184 1 a 2 4 = M 2 4 := fun f a => by simp only [zset_ap, zrow_ap, Int.reduceEq, ↓reduceIte]
  have e2 : ∀ f a, zset (zrow M 185 f) 184 1 a 19 8 = M 19 8 := fun f a => by simp only [zset_ap, zrow_ap, Int.reduceEq, ↓reduceIte]
  have e3 : ∀ f a, zset (zrow M 185 f) 184 1 a 19 9 = M 19 9 := fun f a => by simp only [zset_ap, zrow_ap, Int.reduceEq, ↓reduceIte]
  have e4 : ∀ f a, zset (zrow M 185 f) 184 1 a 157 5 = M 157 5 := fun f a => by simp only [zset_ap, zrow_ap, Int.reduceEq, ↓reduceIte]
  have e5 : ∀ f a, zset (zrow M 185 f) 184 1 a 157 6 = M 157 6 := fun f a => by simp only [zset_ap, zrow_ap, Int.reduceEq, ↓reduceIte]
  have e6 : ∀ f a, zset (zrow M 185 f) 184 1 a 157 9 = M 157 9 := fun f a => by simp only [zset_ap, zrow_ap, Int.reduceEq, ↓reduceIte]
  have e7 : ∀ f a, zset (zrow M 185 f) 184 1 a 176 2 = M 176 2 := fun f a => by simp only [zset_ap, zrow_ap, Int.reduceEq, ↓reduceIte]
  have e8 : ∀ f a, zset (zrow M 185 f) 184 1 a 176 7 = M 176 7 := fun f a => by simp only [zset_ap, zrow_ap, Int.reduceEq, ↓reduceIte]
  refine bX11_image_0 hG (bX11_saveAll_0 hG (bX5_rewind_0 hG (bX11_saveAll_7 hG ?_)))
  rw [show zset M 184 1 0 = zset (zrow M 185 (M 185)) 184 1 0 by rw [zrow_self]]
  rw [e0]
  refine s_put hG (by decide) (bX11_saveAll_18 hG ?_)
  refine bX10_save_0 hG ?_
  refine s_putAll hG 4 (by decide +kernel) (by decide) (by decide) (by decide) (bX10_save_8 hG ?_)
  rw [e1]
  refine s_put hG (by decide) (bX10_save_16 hG ?_)
  refine s_putAll hG 36 (by decide +kernel) (by decide) (by decide) (by decide) (bX10_save_24 hG ?_)
  refine bX11_saveAll_29 hG ?_
  refine bX3_save_0 hG ?_
  rw [e2]
  refine s_put hG (by decide) (bX3_save_8 hG ?_)
  rw [e3]
  refine s_put hG (by decide) (bX3_save_16 hG ?_)
  refine bX11_saveAll_40 hG ?_
  refine bX6_save_0 hG ?_
  rw [e4]
  refine s_put hG (by decide) (bX6_save_8 hG ?_)
  rw [e5]
  refine s_put hG (by decide) (bX6_save_16 hG ?_)
  rw [e6]
  refine s_put hG (by decide) (bX6_save_24 hG ?_)
  refine s_putAll hG 6 (by decide +kernel) (by decide) (by decide) (by decide) (bX6_save_32 hG ?_)
  refine s_putAll hG 6 (by decide +kernel) (by decide) (by decide) (by decide) (bX6_save_40 hG ?_)
  refine bX11_saveAll_51 hG ?_
  refine bX0_save_0 hG ?_
  rw [e7]
  refine s_put hG (by decide) (bX0_save_8 hG ?_)
  refine s_putAll hG 8 (by decide +kernel) (by decide) (by decide) (by decide) (bX0_save_16 hG ?_)
  refine s_putAll hG 8 (by decide +kernel) (by decide) (by decide) (by decide) (bX0_save_24 hG ?_)
  rw [e8]
  refine s_put hG (by decide) (bX0_save_32 hG ?_)
  refine s_putAll hG 12 (by decide +kernel) (by decide) (by decide) (by decide) (bX0_save_40 hG ?_)
  refine s_putAll hG 12 (by decide +kernel) (by decide) (by decide) (by decide) (bX0_save_48 hG ?_)
  refine bX11_saveAll_62 hG ?_
  refine bX11_image_4 hG ?_
  rw [e6]
  refine h _ ?_
  refine ⟨?_, fun t t0 t1 => ?_, ?_, fun t t0 t1 => ?_, ?_, ?_, ?_, ?_, ?_, fun t t0 t1 => ⟨?_, ?_⟩, ?_, fun t t0 t1 => ⟨?_, ?_⟩, ?_, fun t t0 t1 => ⟨?_, ?_⟩⟩
  all_goals
    repeat (first | rw [zup_ne (by omega)] | rw [zpa_out (by omega)])
    first | exact zup_eq (by omega) | (rw [zpa_in (by omega)]; congr 1; omega)

theorem s_copy2 (hG : zP G) {r0 r1 : Int} {n0 n1 : Nat} (h0 : zsh r0.toNat = (100, n0)) (h1 : zsh r1.toNat = (100, n1)) (hn : 156 ≤ n0 ∧ 156 ≤ n1) (hne : r0 ≠ r1) (h : ∀ g, (∀ k, 0 ≤ k → k < 156 → g k = M r0 k) → Q (9, 0) (zrow M r1 g)) : ∀ (k : Nat) (i : Int) (g : Int → Int), 0 ≤ i → i + k = 156 → (∀ k, 0 ≤ k → k < i → g k = M r0 k) → Y G d mX12_copy 2 [(2, r0), (2, r1), (0, i)] [] (zrow M r1 g) Q
  | 0, i, g, i0, i1, hg => by
    have : i = 156 := by omega
    subst this
    exact bX12_copy_2 hG h0 h1 ⟨fun _ => h g hg, fun c => absurd c (by omega)⟩
  | k + 1, i, g, i0, i1, hg => by
    refine bX12_copy_2 hG h0 h1 ⟨fun c => absurd c (by omega), fun _ => ⟨by omega, by omega, by omega, ?_⟩⟩
    rw [zrow_off hne, zset_row]
    refine s_copy2 hG h0 h1 hn hne h k (i + 1) _ (by omega) (by omega) (fun q q0 q1 => ?_)
    by_cases c : q = i
    · rw [c, zup_at]
    · rw [zup_ne c]; exact hg q q0 (by omega)
theorem s_copy (hG : zP G) {r0 r1 : Int} {n0 n1 : Nat} (h0 : zsh r0.toNat = (100, n0)) (h1 : zsh r1.toNat = (100, n1)) (hn : 156 ≤ n0 ∧ 156 ≤ n1) (hne : r0 ≠ r1) (h : ∀ g, (∀ k, 0 ≤ k → k < 156 → g k = M r0 k) → Q (9, 0) (zrow M r1 g)) : Y G d mX12_copy 0 [(2, r0), (2, r1), (9, 0)] [] M Q := by
  refine bX12_copy_0 hG h0 h1 ?_
  rw [show M = zrow M r1 (M r1) from zrow_self.symm]
  exact s_copy2 hG h0 h1 hn hne h 156 0 _ (by omega) (by omega) (fun k a b => by omega)

theorem J_image {M M2 : zM} (hJ : zJ M) (hf : zfr [(184, 1, 2), (185, 0, 1000000), (236, 0, 1000000)] M M2) (f : ∀ i, 0 ≤ i → i < 156 → M2 236 i = M 235 i) (fa : ∀ i, M2 235 i = M 235 i) (j18 : zJ18 M2) : zJn M M2 := by
  have hI : zVA (M2 236) := zVA_ext hJ.1 (fun i hi => f i (by omega) (by omega))
  have h19 : zJ19 M2 := by
    have := hJ.1.2.1.1
    have := hJ.1.2.2.1.1
    unfold zJ19
    rw [f 0 (by decide) (by decide), f 1 (by decide) (by decide), f 2 (by decide) (by decide), f 6 (by decide) (by decide), fa, fa, fa, fa]
    exact ⟨by omega, fun k h1 h2 => by rw [f _ (by omega) (by omega), fa], fun k h1 h2 => by rw [f _ (by omega) (by omega), fa]⟩
  have h17 : zJ17 M2 := fun q q0 q1 => by
    have n0 := hJ.1.1
    have n0' : M 235 0 ≤ 12 := n0.2
    rw [f 0 (by decide) (by decide)] at q1
    obtain ⟨t, t0, t1, t2, t3⟩ := (hJ.2.2.2.2.2.2.2.2.2.2.2.2.2.2.2.2.2.2.2.1 q q0 q1).1
    rw [f 6 (by decide) (by decide), zfr_sm (S := [(20, 0, 12)]) hf (by decide) 20 q (zhit_at 0 rfl ⟨q0, by omega⟩), t3]; omega
  exact ⟨⟨zsA_c (zfr_sm hf (by decide)) hJ.1, hI, zJ1_c (zfr_sm hf (by decide)) hJ.2.2.1, zJ2_c (zfr_sm hf (by decide)) hJ.1.2.1.1.2 hJ.2.2.2.1, zJ3_c (zfr_sm hf (by decide)) hJ.2.2.2.2.1, zJ4_c (zfr_sm hf (by decide)) hJ.1.2.1.1.2 hJ.2.2.2.2.2.1, zJ10_c (zfr_sm hf (by decide)) hJ.2.2.2.2.2.2.1, zJ5_c (zfr_sm hf (by decide)) hJ.2.2.2.2.2.2.2.1, zJ6_c (zfr_sm hf (by decide)) hJ.2.2.2.2.2.2.2.2.1, zJ7_c (zfr_sm hf (by decide)) hJ.2.2.2.2.2.2.2.2.2.1, zJ8_c (zfr_sm hf (by decide)) hJ.1.1.2 hJ.2.2.2.2.2.2.2.2.2.2.1, zJ9_c (zfr_sm hf (by decide)) hJ.2.2.2.2.2.2.2.2.2.2.2.1, zJ11_c (zfr_sm hf (by decide)) hJ.1.2.2.1.1.2 hJ.2.2.2.2.2.2.2.2.2.2.2.2.1, zJ12_c (zfr_sm hf (by decide)) hJ.2.2.2.2.2.2.2.2.2.2.2.2.2.1, zJ13_c (zfr_sm hf (by decide)) (zA5 hJ.1) hJ.2.2.2.2.2.2.2.2.2.2.2.2.2.2.1, zJ14_c (zfr_sm hf (by decide)) (zA7 hJ.1) hJ.2.2.2.2.2.2.2.2.2.2.2.2.2.2.2.1, zJ15_c (zfr_sm hf (by decide)) (zA8 hJ.1) hJ.2.2.2.2.2.2.2.2.2.2.2.2.2.2.2.2.1, j18, h19, zJ16_c (zfr_sm hf (by decide)) hJ.1.1.2 hJ.2.2.2.2.2.2.2.2.2.2.2.2.2.2.2.2.2.2.2.1, h17, zJF_c (zfr_sm hf (by decide)) hJ.1 hJ.2.2.2.2.2.2.2.2.2.2.2.2.2.2.2.2.2.2.2.1 hJ.2.2.2.2.2.2.2.2.2.2.2.2.2.2.2.2.2.2.2.2.2.1, zJS_c (zfr_sm hf (by decide)) hJ.1.1.2 hJ.2.2.2.2.2.2.2.2.2.2.2.2.2.2.2.2.2.2.2.1 hJ.2.2.2.2.2.2.2.2.2.2.2.2.2.2.2.2.2.2.2.2.2.2.1, (by rw [hf 2 10 (by unfold zhw zhit; decide)]; exact hJ.2.2.2.2.2.2.2.2.2.2.2.2.2.2.2.2.2.2.2.2.2.2.2.1), zJC_c (zfr_sm hf (by decide)) hJ.2.2.2.2.2.2.2.2.2.2.2.2.2.2.2.2.2.2.2.2.2.2.2.2⟩, by rw [hf 2 10 (by unfold zhw zhit; decide)]; omega⟩

theorem pr_image (hG : zP G) (hJ : zJ M) : zPr G d mX11_image mX12_image [(2, 1)] [(2, 234)] M := by
  refine s_cimage hG (fun f hf => ?_)
  generalize hM1 : zset (zrow M 185 f) 184 1 101 = M1
  refine bX12_image_0 hG (s_copy hG (n0 := 156) (n1 := 156) (by decide +kernel) (by decide +kernel) (by decide) (by decide) (fun g hg => ?_))
  have e35 : M1 235 = M 235 := by subst hM1; funext i; simp only [zset_ap, zrow_ap, Int.reduceEq, ↓reduceIte] <;> (repeat' split) <;> first | rfl | omega
  have e85 : M1 185 = f := by subst hM1; funext i; simp only [zset_ap, zrow_ap, Int.reduceEq, ↓reduceIte] <;> (repeat' split) <;> first | rfl | omega
  rw [e35] at hg
  refine bX12_image_11 hG ⟨?_, J_image hJ ?_ (fun i i0 i1 => ?_) (fun i => ?_) ?_⟩
  · rw [zrow_off (by decide), e35, (hJ.2.2.2.2.2.2.2.2.2.2.2.2.2.2.1).1]
  · subst hM1
    exact zfr_row (zfr_set (zfr_row zfr_rfl 1 rfl) (zhit_at 0 rfl ⟨by decide, by decide⟩)) 2 rfl
  · rw [zrow_at]; exact hg i i0 i1
  · rw [zrow_off (by decide), e35]
  · have w : zrow M1 236 g 185 = f := by rw [zrow_off (by decide), e85]
    obtain ⟨f0, f1, f2, f3, f4, f5, f6, f7, f8, f9, f10, f11, f12, f13⟩ := hf
    have a1 := (hJ.2.2.2.1).1
    have a8 := (hJ.2.2.2.2.2.2.2.2.2.2.1).1
    have a11 := (hJ.2.2.2.2.2.2.2.2.2.2.2.2.1).1
    have a13 := hJ.2.2.2.2.2.2.2.2.2.2.2.2.2.2.1
    have a14 := hJ.2.2.2.2.2.2.2.2.2.2.2.2.2.2.2.1
    have a15 := hJ.2.2.2.2.2.2.2.2.2.2.2.2.2.2.2.2.1
    have b5 := zA5 hJ.1
    have b7 := zA7 hJ.1
    have b8 := zA8 hJ.1
    unfold zJ18
    rw [w, zrow_row, hg 6 (by decide) (by decide), hg 1 (by decide) (by decide), hg 0 (by decide) (by decide), hg 4 (by decide) (by decide), hg 2 (by decide) (by decide), hg 3 (by decide) (by decide), hg 5 (by decide) (by decide), hg 7 (by decide) (by decide), hg 8 (by decide) (by decide), f0, f2, f4, f5, f6, f7, f8, f10, f12]
    refine ⟨hJ.2.2.2.2.2.2.2.2.2.1, fun t t0 t1 => ?_, a1, fun t t0 t1 => ?_, a8, hJ.2.2.2.2.2.2.2.2.2.2.2.1, a11, hJ.2.2.2.2.2.2.2.2.2.2.2.2.2.1, a13.1, fun t t0 t1 => ?_, a14.1, fun t t0 t1 => ?_, a15.1, fun t t0 t1 => ?_⟩
    · rw [f1 t t0 t1, hg _ (by omega) (by omega)]; exact hJ.2.2.1 t t0 t1
    · rw [f3 t t0 t1, hg _ (by omega) (by omega)]; exact hJ.2.2.2.2.1 t t0 t1
    · rw [(f9 t t0 (by omega)).1, (f9 t t0 (by omega)).2, hg _ (by omega) (by omega), hg _ (by omega) (by omega)]; exact a13.2 t t0 t1
    · rw [(f11 t t0 (by omega)).1, (f11 t t0 (by omega)).2, hg _ (by omega) (by omega), hg _ (by omega) (by omega)]; exact a14.2 t t0 t1
    · rw [(f13 t t0 (by omega)).1, (f13 t t0 (by omega)).2, hg _ (by omega) (by omega), hg _ (by omega) (by omega)]; exact a15.2 t t0 t1

end PH
