section PSO
variable {G : zG} {d : Nat} {M M0 X0 X : zM} {Q : zV → zM → Prop} {B : Int → Int} {n t f c : Int} {m k : Nat} {T : Int → Int}
theorem zfr_cov {l l' : List (Int × Int × Int)} {M M' : zM} (h : zfr l M M') (hs : ∀ x ∈ l, ∃ y ∈ l', y.1 = x.1 ∧ y.2.1 ≤ x.2.1 ∧ x.2.2 ≤ y.2.2) : zfr l' M M' := fun a i hn => h a i (fun q => hn (by
  rcases q with q | q | ⟨x, hx, e1, e2, e3⟩
  · exact Or.inl q
  · exact Or.inr (Or.inl q)
  · obtain ⟨y, hy, g1, g2, g3⟩ := hs x hx
    exact Or.inr (Or.inr ⟨y, hy, by rw [g1]; exact e1, by omega, by omega⟩)))
theorem zhv_out {st v : Int → Int} : ∀ (L : Nat) (i : Int), (i < 0 ∨ (L : Int) ≤ i) → zhv st v L i = 0
  | 0, i, _ => rfl
  | L + 1, i, h => by rw [zhv_ne (by omega)]; exact zhv_out L i (by omega)
/-- the class's rows, with the told row -/
def ps_gh (M : zM) (T : Int → Int) : zM := fun a i => if a = 240 then T i else M a i
theorem ps_gh_t {x : Int} : ps_gh M T 240 x = T x := if_pos rfl
theorem ps_gh_n {a x : Int} (h : a ≠ 240) : ps_gh M T a x = M a x := if_neg h
def ps_HH (t : Int) : List (Int × Int × Int) := [(189 + 12 * t, 8, 9), (189 + 12 * t + 1, 0, 1000000), (189 + 12 * t + 2, 0, 1000000), (189 + 12 * t + 3, 0, 1000000), (189 + 12 * t + 4, 0, 1000000), (189 + 12 * t + 5, 0, 1000000), (189 + 12 * t + 6, 0, 1000000), (189 + 12 * t + 7, 0, 1000000), (12, 4, 8), (13, 6, 10), (186 + 12 * t, 2, 4), (186 + 12 * t + 1, 0, 1000000), (186 + 12 * t + 2, 0, 1000000)]
def ps_HHF (t : Int) : List (Int × Int × Int) := (12, 2, 4) :: ps_HH t
/-- the class between two clauses -/
def ps_CS (B : Int → Int) (t : Int) (m : Nat) (M0 M : zM) (k : Nat) (c f : Int) (T : Int → Int) : Prop := lx_A B M m k ∧ (M (186 + 12 * t) 3 = c ∧ 0 ≤ c ∧ c ≤ 24) ∧ (M (189 + 12 * t) 8 = f ∧ 0 ≤ f ∧ f ≤ k) ∧ (∀ c', 0 ≤ c' → c' < c → zXc (ps_gh M T) t c') ∧ zfr (ps_HH t) M0 M
def ps_HB (t c : Int) : List (Int × Int × Int) := [(186 + 12 * t, 2, 3), (186 + 12 * t + 1, c, c + 1), (186 + 12 * t + 2, 6 * c, 6 * c + 6), (13, 6, 10)]
/-- a clause begins in the class -/
theorem s_bgc (hG : zP G) (ht : 0 ≤ t ∧ t < 4) (hc : 0 ≤ c ∧ c < 24) {x : Int} (h3 : M (186 + 12 * t) 3 = c) (hh : ∀ M', M' (187 + 12 * t) c = x → M' (186 + 12 * t) 2 = 0 → (∀ j, 0 ≤ j → j < 6 → M' (188 + 12 * t) (6 * c + j) = -1) → zfr (ps_HB t c) M M' → (∀ a i, a ≠ 186 + 12 * t → a ≠ 186 + 12 * t + 1 → a ≠ 186 + 12 * t + 2 → M' a i = M a i) → M' (186 + 12 * t) 3 = c → Q (9, 0) M') : Y G d mX7_beginClause 0 [(2, 186 + 12 * t), (0, x), (9, 0)] [] M Q := by
  have zs := zSC_t ht
  have lp : ∀ (r : Nat) (j : Int) (W : zM), 0 ≤ j → j + r = 6 → W (186 + 12 * t) 3 = c → W (187 + 12 * t) c = x → W (186 + 12 * t) 2 = 0 → (∀ i, 0 ≤ i → i < j → W (188 + 12 * t) (6 * c + i) = -1) → zfr (ps_HB t c) M W → (∀ a i, a ≠ 186 + 12 * t → a ≠ 186 + 12 * t + 1 → a ≠ 186 + 12 * t + 2 → W a i = M a i) → Y G d mX7_beginClause 26 [(2, 186 + 12 * t), (0, x), (0, j)] [] W Q := fun r => by
    induction r with
    | zero =>
      intro j W j0 jr w3 w7 w2 w8 wF wo
      exact bX7_beginClause_26 hG zs ⟨fun _ => hh W w7 w2 (fun i i0 i1 => w8 i i0 (by omega)) wF wo w3, fun z => by omega⟩
    | succ r ih =>
      intro j W j0 jr w3 w7 w2 w8 wF wo
      refine bX7_beginClause_26 hG zs ?_
      rw [w3]
      refine ⟨fun z => by omega, fun _ => ⟨by omega, by omega, by omega, by omega, ih (j + 1) _ (by omega) (by omega) ?_ ?_ ?_ (fun i i0 i1 => ?_) (zfr_set wF (zhit_at 2 rfl (by omega))) (fun a i a1 a2 a3 => ?_)⟩⟩
      · rw [zset_off (by omega)]; exact w3
      · rw [zset_off (by omega)]; exact w7
      · rw [zset_off (by omega)]; exact w2
      · by_cases e : i = j
        · rw [e, show (188 + 12 * t : Int) = 186 + 12 * t + 2 by omega, show 6 * c + j = c * 6 + j by omega, zset_same]
        · rw [zset_ne (by omega)]; exact w8 i i0 (by omega)
      · rw [zset_off a3]; exact wo a i a1 a2 a3
  refine bX7_beginClause_0 hG zs ?_
  rw [h3]
  refine ⟨fun z => by omega, fun _ => ⟨hc, lp 6 0 _ (by decide) (by decide) ?_ ?_ zset_same (fun i i0 i1 => by omega) (zfr_set (zfr_set zfr_rfl (zhit_at 1 rfl (by omega))) (zhit_at 0 rfl (by decide))) (fun a i a1 a2 a3 => ?_)⟩⟩
  · rw [zset_ne (by omega), zset_off (by omega)]; exact h3
  · rw [zset_off (by omega), show (187 + 12 * t : Int) = 186 + 12 * t + 1 by omega, zset_same]
  · rw [zset_off a1, zset_off a2]
/-- a token that must stand here, and nothing else is told -/
theorem s_exA (hG : zP G) (hE : ps_E B n m) (hk : k ≤ m) {x : Int} (hx : x ≠ 0) (hA : lx_A B M m k) (h1 : lx_c B (lx_j B k) = x → k < m → ∀ M', lx_A B M' m (k + 1) → zfr [(13, 6, 10)] M M' → Q (0, 1) M') (h0 : lx_c B (lx_j B k) ≠ x → ∀ M', zfr [(12, 2, 4)] M M' → M' 12 2 = 1 → M' 12 3 = lx_j B k → Q (0, 0) M') : Y G (d + 1) mX4_expect 0 [(2, 12), (0, x)] [] M Q := by
  have a7 := hA.2.2.2.1
  refine bX4_expect_0 hG ?_
  rw [a7]
  refine ⟨fun z => ?_, fun z => bX4_fail_0 hG (bX4_expect_16 hG ⟨fun _ => h0 z _ (zfr_set (zfr_set zfr_rfl (zhit_at 0 rfl (by decide))) (zhit_at 0 rfl (by decide))) ?_ ?_, fun w => absurd rfl w⟩)⟩
  · have km := ps_lt hE hk (by omega)
    exact s_adv hG hE.2.1 km hA (fun M' fX hX => bX4_expect_33 hG (h1 z km M' hX fX))
  · rw [zr_set (by decide)]; exact zset_same
  · rw [zset_same]; exact hA.2.2.2.2.1
theorem ps_cF {M1 M2 : zM} {l : List (Int × Int × Int)} (h1 : zfr (ps_HH t) M0 M1) (h2 : zfr l M1 M2) (hl : l = ps_HB t c ∨ l = ps_HI t c ∨ l = ps_H t ∨ l = [(13, 6, 10)] ∨ l = [(12, 4, 8)] ∨ l = [(186 + 12 * t, 3, 4)]) (hc : 0 ≤ c ∧ c < 24) : zfr (ps_HH t) M0 M2 := by
  have cov : ∀ (i : Nat) (x y : Int × Int × Int), (ps_HH t)[i]? = some y → y.1 = x.1 → y.2.1 ≤ x.2.1 → x.2.2 ≤ y.2.2 → ∃ y ∈ ps_HH t, y.1 = x.1 ∧ y.2.1 ≤ x.2.1 ∧ x.2.2 ≤ y.2.2 := fun i x y hi e1 e2 e3 => ⟨y, List.mem_of_getElem? hi, e1, e2, e3⟩
  refine zfr_trans h1 (zfr_cov h2 (fun x hx => ?_))
  rcases hl with e | e | e | e | e | e
  · rw [e] at hx
    unfold ps_HB at hx
    simp only [List.mem_cons, List.not_mem_nil, or_false] at hx
    rcases hx with g | g | g | g <;> subst g
    · exact cov 10 _ _ rfl rfl (by show (2 : Int) ≤ 2; omega) (by show (3 : Int) ≤ 4; omega)
    · exact cov 11 _ _ rfl rfl (by show (0 : Int) ≤ c; omega) (by show c + 1 ≤ 1000000; omega)
    · exact cov 12 _ _ rfl rfl (by show (0 : Int) ≤ 6 * c; omega) (by show 6 * c + 6 ≤ 1000000; omega)
    · exact cov 9 _ _ rfl rfl (by show (6 : Int) ≤ 6; omega) (by show (10 : Int) ≤ 10; omega)
  · rw [e] at hx
    unfold ps_HI at hx
    simp only [List.mem_cons, List.not_mem_nil, or_false] at hx
    rcases hx with g | g | g <;> subst g
    · exact cov 10 _ _ rfl rfl (by show (2 : Int) ≤ 2; omega) (by show (3 : Int) ≤ 4; omega)
    · exact cov 12 _ _ rfl rfl (by show (0 : Int) ≤ 6 * c; omega) (by show 6 * c + 6 ≤ 1000000; omega)
    · exact cov 9 _ _ rfl rfl (by show (6 : Int) ≤ 6; omega) (by show (10 : Int) ≤ 10; omega)
  · rw [e] at hx
    exact ⟨x, List.mem_of_mem_take (i := 10) (show x ∈ (ps_HH t).take 10 from hx), rfl, Int.le_refl _, Int.le_refl _⟩
  · rw [e, List.mem_singleton] at hx; subst hx
    exact cov 9 _ _ rfl rfl (by show (6 : Int) ≤ 6; omega) (by show (10 : Int) ≤ 10; omega)
  · rw [e, List.mem_singleton] at hx; subst hx
    exact cov 8 _ _ rfl rfl (by show (4 : Int) ≤ 4; omega) (by show (8 : Int) ≤ 8; omega)
  · rw [e, List.mem_singleton] at hx; subst hx
    exact cov 10 _ _ rfl rfl (by show (2 : Int) ≤ 3; omega) (by show (4 : Int) ≤ 4; omega)
theorem ps_cFF {M1 M2 : zM} {l : List (Int × Int × Int)} (h1 : zfr (ps_HH t) M0 M1) (h2 : zfr l M1 M2) (hl : l = ps_HF t ∨ l = ps_HIF t c ∨ l = [(12, 2, 4)]) (hc : 0 ≤ c ∧ c < 24) : zfr (ps_HHF t) M0 M2 := by
  have cov : ∀ (i : Nat) (x y : Int × Int × Int), (ps_HHF t)[i]? = some y → y.1 = x.1 → y.2.1 ≤ x.2.1 → x.2.2 ≤ y.2.2 → ∃ y ∈ ps_HHF t, y.1 = x.1 ∧ y.2.1 ≤ x.2.1 ∧ x.2.2 ≤ y.2.2 := fun i x y hi e1 e2 e3 => ⟨y, List.mem_of_getElem? hi, e1, e2, e3⟩
  refine zfr_trans (zfr_sub h1 (fun y hy => List.mem_cons_of_mem _ hy)) (zfr_cov h2 (fun x hx => ?_))
  rcases hl with e | e | e
  · rw [e] at hx
    exact ⟨x, List.mem_of_mem_take (i := 11) (show x ∈ (ps_HHF t).take 11 from hx), rfl, Int.le_refl _, Int.le_refl _⟩
  · rw [e] at hx
    unfold ps_HIF ps_HI at hx
    simp only [List.mem_cons, List.not_mem_nil, or_false] at hx
    rcases hx with g | g | g | g <;> subst g
    · exact cov 0 _ _ rfl rfl (by show (2 : Int) ≤ 2; omega) (by show (4 : Int) ≤ 4; omega)
    · exact cov 11 _ _ rfl rfl (by show (2 : Int) ≤ 2; omega) (by show (3 : Int) ≤ 4; omega)
    · exact cov 13 _ _ rfl rfl (by show (0 : Int) ≤ 6 * c; omega) (by show 6 * c + 6 ≤ 1000000; omega)
    · exact cov 10 _ _ rfl rfl (by show (6 : Int) ≤ 6; omega) (by show (10 : Int) ≤ 10; omega)
  · rw [e, List.mem_singleton] at hx; subst hx
    exact cov 0 _ _ rfl rfl (by show (2 : Int) ≤ 2; omega) (by show (4 : Int) ≤ 4; omega)
end PSO
