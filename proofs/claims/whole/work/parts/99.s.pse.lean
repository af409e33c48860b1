section PSE
variable {G : zG} {d : Nat} {M M0 : zM} {Q : zV → zM → Prop} {B : Int → Int} {n t f op : Int} {m k L : Nat} {st v : Int → Int} {lv dp wd gr : Int}
/-- a token that must stand here -/
theorem s_ex (hG : zP G) (hE : ps_E B n m) (ht : 0 ≤ t ∧ t < 4) (hk : k ≤ m) {x : Int} (hx : x ≠ 0) (h : ps_M B t f m M0 M k L st v lv dp wd gr) (h1 : lx_c B (lx_j B k) = x → k < m → ∀ M', ps_M B t f m M0 M' (k + 1) L st v lv dp wd gr → ps_old t f L M M' → Q (0, 1) M') (h0 : lx_c B (lx_j B k) ≠ x → ∀ M', zfr (ps_HF t) M0 M' → M' 12 2 = 1 → M' 12 3 = lx_j B k → Q (0, 0) M') : Y G (d + 1) mX4_expect 0 [(2, 12), (0, x)] [] M Q := by
  have a7 := h.1.2.2.2.1
  refine bX4_expect_0 hG ?_
  rw [a7]
  refine ⟨fun z => ?_, fun z => s_fa hG h (fun M' fF e2 e3 => bX4_expect_16 hG ⟨fun _ => h0 z M' fF e2 e3, fun w => absurd rfl w⟩)⟩
  have km := ps_lt hE hk (by omega)
  exact s_nx hG ht hE.2.1 km h (fun M' hM o => bX4_expect_33 hG (h1 z km M' hM o))
/-- one more is open -/
theorem s_en (hG : zP G) (hE : ps_E B n m) (ht : 0 ≤ t ∧ t < 4) (ho : 0 ≤ op ∧ op ≤ 8) (hk : k ≤ m) {x : Int} (hx : x ≠ 0) (h : ps_M B t f m M0 M k L st v lv dp wd gr) (h1 : lx_c B (lx_j B k) = x → op < 8 → k < m → ∀ M', ps_M B t f m M0 M' (k + 1) L st v lv (max dp (op + 1)) wd gr → ps_old t f L M M' → Q (0, 1) M') (h3 : lx_c B (lx_j B k) = x → op = 8 → ∀ M', zfr (ps_HF t) M0 M' → M' 12 2 = 3 → M' 12 3 = lx_j B k → Q (0, 0) M') (h0 : lx_c B (lx_j B k) ≠ x → ∀ M', zfr (ps_HF t) M0 M' → M' 12 2 = 1 → M' 12 3 = lx_j B k → Q (0, 0) M') : Y G (d + 2) mX4_enter 0 [(2, 12), (0, x), (0, op)] [] M Q := by
  have a7 := h.1.2.2.2.1
  have c5 := h.2.2.1.2.1
  have h2 : op < 8 → ps_M B t f m M0 (zset M 12 5 (max dp (op + 1))) k L st v lv (max dp (op + 1)) wd gr ∧ ps_old t f L M (zset M 12 5 (max dp (op + 1))) := fun o8 => s_fd ht h (by decide) (ps_iv_d h.2.2.1.2.2.2.2 (by omega))
  refine bX4_enter_0 hG ?_
  rw [a7, c5]
  refine ⟨fun z => ⟨by omega, ?_⟩, fun z => ⟨fun z8 => ⟨by omega, ?_⟩, fun z8 => ?_⟩⟩
  · refine bX4_expect_0 hG ⟨fun w => absurd (by rw [zset_off (by decide), a7] at w; exact w) z, fun _ => bX4_fail_0 hG (bX4_expect_16 hG ⟨fun _ => bX4_enter_51 hG ⟨by decide, h0 z _ (zfr_set (zfr_set (zfr_sub (zfr_set h.2.2.2.1 (zhit_at 8 rfl (by decide))) (fun y hy => List.mem_cons_of_mem _ hy)) (zhit_at 0 rfl (by decide))) (zhit_at 0 rfl (by decide))) ?_ ?_⟩, fun w => absurd rfl w⟩)⟩
    · rw [zr_set (by decide)]; exact zset_same
    · rw [zset_same, zset_off (by decide)]; exact h.1.2.2.2.2.1
  · exact s_ex (d := d) hG hE ht hk hx (h2 z8).1 (fun w km M' hM o => bX4_enter_51 hG ⟨by decide, h1 w z8 km M' hM (ps_old_tr (h2 z8).2 o (Nat.le_refl L))⟩) (fun w => absurd z w)
  · exact s_fa hG h (fun M' fF e2 e3 => bX4_enter_22 hG ⟨fun _ => h3 z (by omega) M' fF e2 e3, fun w => absurd rfl w⟩)
/-- a node that is being made: so many of its parts hang on it -/
def ps_I (B : Int → Int) (t f : Int) (m : Nat) (M0 M : zM) (k L : Nat) (st v : Int → Int) (lv dp wd gr s w c j : Int) : Prop := (lx_A B M m k ∧ (0 ≤ f ∧ M (189 + 12 * t) 8 = f + L + 1 ∧ f + L + 1 ≤ 300) ∧ (∀ i : Nat, i < L → ps_N (M (189 + 12 * t + 1)) (M (189 + 12 * t + 2)) (M (189 + 12 * t + 3)) (M (189 + 12 * t + 4)) (M (189 + 12 * t + 5)) (M (189 + 12 * t + 7)) st v f i) ∧ (M 12 4 = lv ∧ M 12 5 = dp ∧ M 12 6 = wd ∧ M 12 7 = gr ∧ ps_iv dp wd gr) ∧ zfr (ps_H t) M0 M) ∧ (M (189 + 12 * t + 1) (f + L) = s ∧ M (189 + 12 * t + 2) (f + L) = w ∧ M (189 + 12 * t + 3) (f + L) = 1 ∧ M (189 + 12 * t + 4) (f + L) = j) ∧ ((j = 0 ∧ M (189 + 12 * t + 6) (f + L) = -1) ∨ (1 ≤ j ∧ M (189 + 12 * t + 5) (f + L) = f + (zsp st v L).2 c ∧ M (189 + 12 * t + 6) (f + L) = f + (zsp st v L).2 (c + j - 1))) ∧ (∀ i, 0 ≤ i → i < j - 1 → M (189 + 12 * t + 7) (f + (zsp st v L).2 (c + i)) = f + (zsp st v L).2 (c + (i + 1))) ∧ (∀ i, 0 ≤ i → i < j → M (189 + 12 * t + 3) (f + (zsp st v L).2 (c + i)) = 1)
theorem s_mk0 (hG : zP G) (ht : 0 ≤ t ∧ t < 4) {s w c : Int} (hL : f + L < 300) (h : ps_M B t f m M0 M k L st v lv dp wd gr) (hh : ∀ M', ps_I B t f m M0 M' k L st v lv dp wd gr s w c 0 → ps_old t f L M M' → Q (0, f + L) M') : Y G d mX1_make 0 [(2, 189 + 12 * t), (0, s), (0, w)] [] M Q := by
  obtain ⟨hA, hR, ⟨c4, c5, c6, c7⟩, hF, _⟩ := h
  have e8 := hR.1.2
  have f0 := hR.1.1
  have b8 : 0 ≤ M (189 + 12 * t) 8 ∧ M (189 + 12 * t) 8 < 300 := by omega
  refine s_mk hG (zND_t ht) b8 ?_
  obtain ⟨v1, v2, v3, v4, v5, v6, v8⟩ := ps_mkv (M := M) (o := 189 + 12 * t) (s := s) (w := w)
  have vo : ∀ a x, ¬ (189 + 12 * t + 1 ≤ a ∧ a ≤ 189 + 12 * t + 7 ∧ x = M (189 + 12 * t) 8) → ¬ (a = 189 + 12 * t ∧ x = 8) → ps_mkm M (189 + 12 * t) s w a x = M a x := fun a x p q => ps_mko p q
  have mf := ps_mkF (t := t) (s := s) (w := w) hF rfl b8
  rw [e8] at v1 v2 v3 v4 v5 v6 v8 vo ⊢
  generalize ps_mkm M (189 + 12 * t) s w = X at v1 v2 v3 v4 v5 v6 v8 vo mf ⊢
  have old : ps_old t f L M X := fun a x a0 a1 x0 x1 => vo _ _ (by omega) (by omega)
  refine hh X ⟨⟨lx_A_c hA (fun i _ _ => vo _ _ (by omega) (by omega)) (fun i _ => ⟨vo _ _ (by omega) (by omega), vo _ _ (by omega) (by omega), vo _ _ (by omega) (by omega)⟩), ⟨f0, v8, by omega⟩, fun i hi => ?_, ⟨?_, ?_, ?_, ?_⟩, mf⟩, ⟨v1, v2, v3, v4⟩, Or.inl ⟨rfl, v6⟩, fun i i0 i1 => by omega, fun i i0 i1 => by omega⟩ old
  · exact ps_N_c (hR.2 i hi) (old 1 _ (by decide) (by decide) (by omega) (by omega)) (old 2 _ (by decide) (by decide) (by omega) (by omega)) (old 4 _ (by decide) (by decide) (by omega) (by omega)) (old 5 _ (by decide) (by decide) (by omega) (by omega)) (fun j j0 j1 => by
      have cc := ps_cd (ps_R_ok hR) hi ⟨j0, j1⟩
      exact ⟨old 7 _ (by decide) (by decide) (by omega) (by omega), old 3 _ (by decide) (by decide) (by omega) (by omega)⟩) (fun _ _ => ⟨rfl, rfl⟩)
  · rw [vo _ _ (by omega) (by omega)]; exact c4
  · rw [vo _ _ (by omega) (by omega)]; exact c5
  · rw [vo _ _ (by omega) (by omega)]; exact c6
  · rw [vo _ _ (by omega) (by omega)]; exact c7
/-- one part more hangs on it -/
theorem s_ap1 (hG : zP G) (ht : 0 ≤ t ∧ t < 4) {s w c j x y : Int} {L0 : Nat} (hx : x = f + L) (hj : 0 ≤ j ∧ j < 16) (hc : 0 ≤ c ∧ c + j < (zsp st v L).1) (hy : y = f + (zsp st v L).2 (c + j)) (hL0 : ∀ i, 0 ≤ i → i ≤ j → (L0 : Int) ≤ (zsp st v L).2 (c + i)) (hLL : L0 ≤ L) (h : ps_I B t f m M0 M k L st v lv dp wd gr s w c j) (hh : ∀ M', ps_I B t f m M0 M' k L st v lv dp wd gr s w c (j + 1) → ps_old t f L0 M M' → Q (9, 0) M') : Y G d mX1_append 0 [(2, 189 + 12 * t), (0, x), (0, y), (0, 1), (9, 0)] [] M Q := by
  subst hx
  obtain ⟨⟨hA, ⟨f0, e8, l3⟩, hN, ⟨c4, c5, c6, c7⟩, hF⟩, ⟨k1, k2, k3, k4⟩, kl, kn, ks⟩ := h
  have ok : ps_ok st v L := fun i hi => (hN i hi).2.2.2.1
  have zi := (zsp_in L ok).2
  have iy := zi (c + j) (by omega) hc.2
  have Ly := hL0 j hj.1 (Int.le_refl j)
  -- what both ways have in common
  have go : ∀ X : zM, (∀ a z, ¬ (a = 189 + 12 * t + 3 ∧ z = y) → ¬ (a = 189 + 12 * t + 7 ∧ (z = y ∨ (1 ≤ j ∧ z = f + (zsp st v L).2 (c + j - 1)))) → ¬ ((a = 189 + 12 * t + 4 ∨ a = 189 + 12 * t + 5 ∨ a = 189 + 12 * t + 6) ∧ z = f + L) → X a z = M a z) → X (189 + 12 * t + 3) y = 1 → X (189 + 12 * t + 4) (f + L) = j + 1 → X (189 + 12 * t + 5) (f + L) = f + (zsp st v L).2 c → X (189 + 12 * t + 6) (f + L) = y → (1 ≤ j → X (189 + 12 * t + 7) (f + (zsp st v L).2 (c + j - 1)) = y) → zfr (ps_H t) M0 X → Q (9, 0) X := fun X vo x3 x4 x5 x6 x7 xF => by
    have lo : ∀ a z, a < 189 + 12 * t → X a z = M a z := fun a z ha => vo a z (by omega) (by omega) (by omega)
    refine hh X ⟨⟨lx_A_c hA (fun i _ _ => lo _ _ (by omega)) (fun i _ => ⟨lo _ _ (by omega), lo _ _ (by omega), lo _ _ (by omega)⟩), ⟨f0, by rw [vo _ _ (by omega) (by omega) (by omega)]; exact e8, l3⟩, fun i hi => ?_, ⟨?_, ?_, ?_, ?_⟩, xF⟩, ⟨?_, ?_, ?_, x4⟩, Or.inr ⟨by omega, x5, ?_⟩, fun i i0 i1 => ?_, fun i i0 i1 => ?_⟩ (fun a z a0 a1 z0 z1 => ?_)
    · refine ps_N_c (hN i hi) (vo _ _ (by omega) (by omega) (by omega)) (vo _ _ (by omega) (by omega) (by omega)) (vo _ _ (by omega) (by omega) (by omega)) (vo _ _ (by omega) (by omega) (by omega)) (fun q q0 q1 => ?_) (fun _ _ => ⟨rfl, rfl⟩)
      have cc := ps_cd ok hi ⟨q0, q1⟩
      have oa := ps_off L ok i q (c + j) hi ⟨q0, q1⟩ (by omega) hc.2
      constructor
      · by_cases e : 1 ≤ j
        · have ob := ps_off L ok i q (c + j - 1) hi ⟨q0, q1⟩ (by omega) (by omega)
          exact vo _ _ (by omega) (by omega) (by omega)
        · exact vo _ _ (by omega) (by omega) (by omega)
      · exact vo _ _ (by omega) (by omega) (by omega)
    · rw [lo _ _ (by omega)]; exact c4
    · rw [lo _ _ (by omega)]; exact c5
    · rw [lo _ _ (by omega)]; exact c6
    · rw [lo _ _ (by omega)]; exact c7
    · rw [vo _ _ (by omega) (by omega) (by omega)]; exact k1
    · rw [vo _ _ (by omega) (by omega) (by omega)]; exact k2
    · rw [vo _ _ (by omega) (by omega) (by omega)]; exact k3
    · rw [x6, hy, show c + (j + 1) - 1 = c + j by omega]
    · by_cases e : i = j - 1
      · rw [e, show c + (j - 1) = c + j - 1 by omega, show c + (j - 1 + 1) = c + j by omega, x7 (by omega)]; exact hy
      · have m1 := ps_mo L ok (c + i) (c + j - 1) (by omega) (by omega) (by omega)
        have m2 := ps_mo L ok (c + i) (c + j) (by omega) (by omega) (by omega)
        rw [vo _ _ (by omega) (by omega) (by omega)]; exact kn i i0 (by omega)
    · by_cases e : i = j
      · rw [e, ← hy]; exact x3
      · have m2 := ps_mo L ok (c + i) (c + j) (by omega) (by omega) (by omega)
        rw [vo _ _ (by omega) (by omega) (by omega)]; exact ks i i0 (by omega)
    · by_cases e : 1 ≤ j
      · have Lp := hL0 (j - 1) (by omega) (by omega)
        rw [show c + (j - 1) = c + j - 1 by omega] at Lp
        exact vo _ _ (by omega) (by omega) (by omega)
      · exact vo _ _ (by omega) (by omega) (by omega)
  refine bX1_append_0 hG (zND_t ht) ?_
  rw [e8, k4]
  refine ⟨fun z => by omega, fun _ => ⟨fun z => by omega, fun _ => ⟨fun z => by omega, fun _ => ⟨fun _ => ⟨by omega, fun z => ?_, fun z => ⟨fun z2 => ?_, fun z2 => ?_⟩⟩, fun z => by omega⟩⟩⟩⟩
  · rcases kl with ⟨j0, _⟩ | ⟨j1, _, e6⟩
    · refine ⟨by omega, by omega, by omega, by omega, by omega, by omega, by omega, go _ (fun a q p1 p2 p3 => ?_) ?_ ?_ ?_ ?_ (fun e => by omega) ?_⟩
      · rw [zset_ne (fun w => p3 ⟨Or.inl w.1, w.2⟩), zset_ne (fun w => p1 w), zset_ne (fun w => p2 ⟨w.1, Or.inl w.2⟩), zset_ne (fun w => p3 ⟨Or.inr (Or.inr w.1), w.2⟩), zset_ne (fun w => p3 ⟨Or.inr (Or.inl w.1), w.2⟩)]
      · rw [zset_off (by omega), zset_same]
      · exact zset_same
      · rw [zset_off (by omega), zset_off (by omega), zset_off (by omega), zset_off (by omega), zset_same, hy, j0, Int.add_zero]
      · rw [zset_off (by omega), zset_off (by omega), zset_off (by omega), zset_same]
      · exact zfr_set (zfr_set (zfr_set (zfr_set (zfr_set hF (zhit_at 5 rfl (by omega))) (zhit_at 6 rfl (by omega))) (zhit_at 7 rfl (by omega))) (zhit_at 3 rfl (by omega))) (zhit_at 4 rfl (by omega))
    · have := zi (c + j - 1) (by omega) (by omega)
      omega
  · rcases kl with ⟨j0, e6⟩ | ⟨j1, _, e6⟩
    · omega
    · have := zi (c + j - 1) (by omega) (by omega)
      omega
  · rcases kl with ⟨j0, e6⟩ | ⟨j1, e5, e6⟩
    · omega
    · have il := zi (c + j - 1) (by omega) (by omega)
      have mo := ps_mo L ok (c + j - 1) (c + j) (by omega) (by omega) (by omega)
      rw [e6]
      refine ⟨by omega, by omega, by omega, by omega, by omega, by omega, by omega, go _ (fun a q p1 p2 p3 => ?_) ?_ ?_ ?_ ?_ (fun e => ?_) ?_⟩
      · rw [zset_ne (fun w => p3 ⟨Or.inl w.1, w.2⟩), zset_ne (fun w => p1 w), zset_ne (fun w => p2 ⟨w.1, Or.inl w.2⟩), zset_ne (fun w => p3 ⟨Or.inr (Or.inr w.1), w.2⟩), zset_ne (fun w => p2 ⟨w.1, Or.inr ⟨j1, w.2⟩⟩)]
      · rw [zset_off (by omega), zset_same]
      · exact zset_same
      · rw [zset_off (by omega), zset_off (by omega), zset_off (by omega), zset_off (by omega), zset_off (by omega)]; exact e5
      · rw [zset_off (by omega), zset_off (by omega), zset_off (by omega), zset_same]
      · rw [zset_off (by omega), zset_off (by omega), zset_ne (fun w => by omega), zset_off (by omega), zset_same]
      · exact zfr_set (zfr_set (zfr_set (zfr_set (zfr_set hF (zhit_at 7 rfl (by omega))) (zhit_at 6 rfl (by omega))) (zhit_at 7 rfl (by omega))) (zhit_at 3 rfl (by omega))) (zhit_at 4 rfl (by omega))
/-- all its parts hang on it -/
theorem s_fi {s w c j : Int} (hs : (4 ≤ s ∧ s ≤ 9 ∧ w = 0) ∨ (s = 10 ∧ 0 ≤ w ∧ w ≤ 5)) (hj : zpn s w = j) (j1 : 1 ≤ j) (hc : 0 ≤ c ∧ c + j = (zsp st v L).1) (h : ps_I B t f m M0 M k L st v lv dp wd gr s w c j) : ps_M B t f m M0 M k (L + 1) (zup st L s) (zup v L w) lv dp wd gr ∧ M (189 + 12 * t + 3) (f + L) = 1 := by
  obtain ⟨⟨hA, ⟨f0, e8, l3⟩, hN, hC, hF⟩, ⟨k1, k2, k3, k4⟩, kl, kn, ks⟩ := h
  have ec : ∀ i, zcd (zup st L s) (zup v L w) L i = (zsp st v L).2 (c + i) := fun i => by rw [ps_upcd, hj, show (zsp st v L).1 - j + i = c + i by omega]
  refine ⟨⟨hA, ⟨⟨f0, by rw [e8]; omega⟩, fun i hi => ?_⟩, hC, hF, by omega⟩, k3⟩
  by_cases e : i = L
  · rw [e]
    unfold ps_N zbs
    rw [ps_up, zup_at, zup_at, hj, k1, k2, k4, ec 0]
    refine ⟨by omega, rfl, rfl, by omega, fun z => by omega, fun z => by omega, fun z => ?_, fun z => by omega, fun z => by omega, fun _ => ?_, fun q q0 q1 => ?_, fun q q0 q1 => ?_, fun z => by omega⟩
    · exact ⟨rfl, by omega⟩
    · rcases kl with ⟨j0, _⟩ | ⟨_, e5, _⟩
      · omega
      · rw [Int.add_zero]; exact e5
    · rw [ec q, ec (q + 1)]; exact kn q q0 q1
    · rw [ec q, if_neg (fun z => by omega)]; exact ks q q0 q1
  · exact ps_N_c (hN i (by omega)) rfl rfl rfl rfl (fun _ _ _ => ⟨rfl, rfl⟩) (fun q hq => ⟨zup_ne (by omega), zup_ne (by omega)⟩)
end PSE
