section PM7
variable {G : zG} {d : Nat} {M P : zM} {Q : zV → zM → Prop}
/-- the model plays a clause, from P to P' -/
def zmp (G : zG) (P P' : zM) (t x a : Int) : Prop := ∀ (d : Nat) (X : zM) (Q : zV → zM → Prop), zpq P X → (∀ X', zmq P' X' → zcz X X' → Q (0, a) X') → Y G (d + 13) mX12_isPlayed 0 [(2, 234), (0, t), (0, x)] [] X Q
theorem m_p0 (hG : zP G) {t x a : Int} {P' : zM} (hx : 0 ≤ x ∧ x + 12 ≤ 3556) (hs : P 240 x = 0) (hR : 0 ≤ a ∧ a ≤ 1) (h : zmr G P P' mX12_askMore [(2, 234), (0, t), (0, x), (9, 0), (9, 0), (9, 0)] a) : zmp G P P' t x a := fun d X Q hX hh => by
  have s4 := zmq_sm (S := [(240, 0, 3556)]) hX.1 (by decide) (by decide)
  have e4 : ∀ i, 0 ≤ i → i < 3556 → X 240 i = P 240 i := fun i i0 i1 => s4 _ _ (zhit_at 0 rfl ⟨i0, i1⟩)
  refine bX12_isPlayed_0 hG ?_
  rw [e4 x (by omega) (by omega), hs]
  refine ⟨by omega, fun _ => ?_, fun z => absurd z (by decide), fun z => absurd z (by decide), fun z => absurd z (by decide), fun z => absurd z (by decide), fun z => absurd z (by decide), fun z => absurd z (by decide), fun z => absurd z (by decide), fun z => absurd z (by decide)⟩
  exact h d X _ hX (fun X' z1 z2 => bX12_isPlayed_58 hG ⟨hR, hh X' z1 z2⟩)
theorem m_p1 (hG : zP G) {t x a : Int} {p : Int → Int} {P' : zM} (hx : 0 ≤ x ∧ x + 12 ≤ 3556) (hs : P 240 x = 1) (hp : ∀ j k, 0 ≤ j → j < 2 → k = j + 1 → P 240 (x + k) = p j) (hR : 0 ≤ a ∧ a ≤ 1) (h : zmr G P P' mX12_thing [(2, 234), (0, p 0), (0, p 1)] a) : zmp G P P' t x a := fun d X Q hX hh => by
  have s4 := zmq_sm (S := [(240, 0, 3556)]) hX.1 (by decide) (by decide)
  have e4 : ∀ i, 0 ≤ i → i < 3556 → X 240 i = P 240 i := fun i i0 i1 => s4 _ _ (zhit_at 0 rfl ⟨i0, i1⟩)
  refine bX12_isPlayed_0 hG ?_
  rw [e4 x (by omega) (by omega), hs]
  refine ⟨by omega, fun z => absurd z (by decide), fun _ => ⟨by omega, by omega, by omega, by omega, ?_⟩, fun z => absurd z (by decide), fun z => absurd z (by decide), fun z => absurd z (by decide), fun z => absurd z (by decide), fun z => absurd z (by decide), fun z => absurd z (by decide), fun z => absurd z (by decide)⟩
  rw [e4 (x + 1) (by omega) (by omega), hp 0 1 (by decide) (by decide) (by decide), e4 (x + 2) (by omega) (by omega), hp 1 2 (by decide) (by decide) (by decide)]
  exact h d X _ hX (fun X' z1 z2 => bX12_isPlayed_79 hG ⟨hR, hh X' z1 z2⟩)
theorem m_p2 (hG : zP G) {t x a : Int} {p : Int → Int} {P' : zM} (hx : 0 ≤ x ∧ x + 12 ≤ 3556) (hs : P 240 x = 2) (hp : ∀ j k, 0 ≤ j → j < 3 → k = j + 1 → P 240 (x + k) = p j) (h : zmr G P P' mX12_person [(2, 234), (0, p 0), (0, p 1), (0, p 2), (9, 0)] a) : zmp G P P' t x (if a < 0 then 0 else 1) := fun d X Q hX hh => by
  have s4 := zmq_sm (S := [(240, 0, 3556)]) hX.1 (by decide) (by decide)
  have e4 : ∀ i, 0 ≤ i → i < 3556 → X 240 i = P 240 i := fun i i0 i1 => s4 _ _ (zhit_at 0 rfl ⟨i0, i1⟩)
  refine bX12_isPlayed_0 hG ?_
  rw [e4 x (by omega) (by omega), hs]
  refine ⟨by omega, fun z => absurd z (by decide), fun z => absurd z (by decide), fun _ => ⟨by omega, by omega, by omega, by omega, by omega, by omega, ?_⟩, fun z => absurd z (by decide), fun z => absurd z (by decide), fun z => absurd z (by decide), fun z => absurd z (by decide), fun z => absurd z (by decide), fun z => absurd z (by decide)⟩
  rw [e4 (x + 1) (by omega) (by omega), hp 0 1 (by decide) (by decide) (by decide), e4 (x + 2) (by omega) (by omega), hp 1 2 (by decide) (by decide) (by decide), e4 (x + 3) (by omega) (by omega), hp 2 3 (by decide) (by decide) (by decide)]
  exact h d X _ hX (fun X' z1 z2 => bX12_isPlayed_108 hG ⟨fun w => by rw [if_pos w] at hh; exact hh X' z1 z2, fun w => by rw [if_neg (by omega)] at hh; exact hh X' z1 z2⟩)
theorem m_p3 (hG : zP G) {t x a : Int} {p : Int → Int} {P' : zM} (hx : 0 ≤ x ∧ x + 12 ≤ 3556) (hs : P 240 x = 3) (hp : ∀ j k, 0 ≤ j → j < 3 → k = j + 1 → P 240 (x + k) = p j) (hR : 0 ≤ a ∧ a ≤ 1) (h : zmr G P P' mX12_road [(2, 234), (0, p 0), (0, p 1), (0, p 2)] a) : zmp G P P' t x a := fun d X Q hX hh => by
  have s4 := zmq_sm (S := [(240, 0, 3556)]) hX.1 (by decide) (by decide)
  have e4 : ∀ i, 0 ≤ i → i < 3556 → X 240 i = P 240 i := fun i i0 i1 => s4 _ _ (zhit_at 0 rfl ⟨i0, i1⟩)
  refine bX12_isPlayed_0 hG ?_
  rw [e4 x (by omega) (by omega), hs]
  refine ⟨by omega, fun z => absurd z (by decide), fun z => absurd z (by decide), fun z => absurd z (by decide), fun _ => ⟨by omega, by omega, by omega, by omega, by omega, by omega, ?_⟩, fun z => absurd z (by decide), fun z => absurd z (by decide), fun z => absurd z (by decide), fun z => absurd z (by decide), fun z => absurd z (by decide)⟩
  rw [e4 (x + 1) (by omega) (by omega), hp 0 1 (by decide) (by decide) (by decide), e4 (x + 2) (by omega) (by omega), hp 1 2 (by decide) (by decide) (by decide), e4 (x + 3) (by omega) (by omega), hp 2 3 (by decide) (by decide) (by decide)]
  exact h d X _ hX (fun X' z1 z2 => bX12_isPlayed_145 hG ⟨hR, hh X' z1 z2⟩)
theorem m_p4 (hG : zP G) {t x a : Int} {p : Int → Int} {P' : zM} (hx : 0 ≤ x ∧ x + 12 ≤ 3556) (hs : P 240 x = 4) (hp : ∀ j k, 0 ≤ j → j < 1 → k = j + 1 → P 240 (x + k) = p j) (hR : 0 ≤ a ∧ a ≤ 1) (h : zmr G P P' mX12_equalities [(2, 234), (0, p 0)] a) : zmp G P P' t x a := fun d X Q hX hh => by
  have s4 := zmq_sm (S := [(240, 0, 3556)]) hX.1 (by decide) (by decide)
  have e4 : ∀ i, 0 ≤ i → i < 3556 → X 240 i = P 240 i := fun i i0 i1 => s4 _ _ (zhit_at 0 rfl ⟨i0, i1⟩)
  refine bX12_isPlayed_0 hG ?_
  rw [e4 x (by omega) (by omega), hs]
  refine ⟨by omega, fun z => absurd z (by decide), fun z => absurd z (by decide), fun z => absurd z (by decide), fun z => absurd z (by decide), fun _ => ⟨by omega, by omega, ?_⟩, fun z => absurd z (by decide), fun z => absurd z (by decide), fun z => absurd z (by decide), fun z => absurd z (by decide)⟩
  rw [e4 (x + 1) (by omega) (by omega), hp 0 1 (by decide) (by decide) (by decide)]
  exact h d X _ hX (fun X' z1 z2 => bX12_isPlayed_158 hG ⟨hR, hh X' z1 z2⟩)
theorem m_p5 (hG : zP G) {t x a : Int} {p : Int → Int} {P' : zM} (hx : 0 ≤ x ∧ x + 12 ≤ 3556) (hs : P 240 x = 5) (hp : ∀ j k, 0 ≤ j → j < 5 → k = j + 1 → P 240 (x + k) = p j) (h : zmr G P P' mX12_pupil [(2, 234), (0, p 0), (0, p 1), (0, p 2), (0, p 3), (0, p 4), (9, 0)] a) : zmp G P P' t x (if a < 0 then 0 else 1) := fun d X Q hX hh => by
  have s4 := zmq_sm (S := [(240, 0, 3556)]) hX.1 (by decide) (by decide)
  have e4 : ∀ i, 0 ≤ i → i < 3556 → X 240 i = P 240 i := fun i i0 i1 => s4 _ _ (zhit_at 0 rfl ⟨i0, i1⟩)
  refine bX12_isPlayed_0 hG ?_
  rw [e4 x (by omega) (by omega), hs]
  refine ⟨by omega, fun z => absurd z (by decide), fun z => absurd z (by decide), fun z => absurd z (by decide), fun z => absurd z (by decide), fun z => absurd z (by decide), fun _ => ⟨by omega, by omega, by omega, by omega, by omega, by omega, by omega, by omega, by omega, by omega, ?_⟩, fun z => absurd z (by decide), fun z => absurd z (by decide), fun z => absurd z (by decide)⟩
  rw [e4 (x + 1) (by omega) (by omega), hp 0 1 (by decide) (by decide) (by decide), e4 (x + 2) (by omega) (by omega), hp 1 2 (by decide) (by decide) (by decide), e4 (x + 3) (by omega) (by omega), hp 2 3 (by decide) (by decide) (by decide), e4 (x + 4) (by omega) (by omega), hp 3 4 (by decide) (by decide) (by decide), e4 (x + 5) (by omega) (by omega), hp 4 5 (by decide) (by decide) (by decide)]
  exact h d X _ hX (fun X' z1 z2 => bX12_isPlayed_203 hG ⟨fun w => by rw [if_pos w] at hh; exact hh X' z1 z2, fun w => by rw [if_neg (by omega)] at hh; exact hh X' z1 z2⟩)
theorem m_p6 (hG : zP G) {t x a : Int} {p : Int → Int} {P' : zM} (hx : 0 ≤ x ∧ x + 12 ≤ 3556) (hs : P 240 x = 6) (hp : ∀ j k, 0 ≤ j → j < 1 → k = j + 1 → P 240 (x + k) = p j) (hR : 0 ≤ a ∧ a ≤ 1) (h : zmr G P P' mX12_answer [(2, 234), (0, p 0)] a) : zmp G P P' t x a := fun d X Q hX hh => by
  have s4 := zmq_sm (S := [(240, 0, 3556)]) hX.1 (by decide) (by decide)
  have e4 : ∀ i, 0 ≤ i → i < 3556 → X 240 i = P 240 i := fun i i0 i1 => s4 _ _ (zhit_at 0 rfl ⟨i0, i1⟩)
  refine bX12_isPlayed_0 hG ?_
  rw [e4 x (by omega) (by omega), hs]
  refine ⟨by omega, fun z => absurd z (by decide), fun z => absurd z (by decide), fun z => absurd z (by decide), fun z => absurd z (by decide), fun z => absurd z (by decide), fun z => absurd z (by decide), fun _ => ⟨by omega, by omega, ?_⟩, fun z => absurd z (by decide), fun z => absurd z (by decide)⟩
  rw [e4 (x + 1) (by omega) (by omega), hp 0 1 (by decide) (by decide) (by decide)]
  exact h d X _ hX (fun X' z1 z2 => bX12_isPlayed_224 hG ⟨hR, hh X' z1 z2⟩)
theorem m_p7 (hG : zP G) {t x a : Int} {p : Int → Int} {P' : zM} (hx : 0 ≤ x ∧ x + 12 ≤ 3556) (hs : P 240 x = 7) (hp : ∀ j k, 0 ≤ j → j < 2 → k = j + 1 → P 240 (x + k) = p j) (h : zmr G P P' mX12_ask [(2, 234), (0, p 0), (0, p 1)] a) : zmp G P P' t x (if a < 0 then 0 else 1) := fun d X Q hX hh => by
  have s4 := zmq_sm (S := [(240, 0, 3556)]) hX.1 (by decide) (by decide)
  have e4 : ∀ i, 0 ≤ i → i < 3556 → X 240 i = P 240 i := fun i i0 i1 => s4 _ _ (zhit_at 0 rfl ⟨i0, i1⟩)
  refine bX12_isPlayed_0 hG ?_
  rw [e4 x (by omega) (by omega), hs]
  refine ⟨by omega, fun z => absurd z (by decide), fun z => absurd z (by decide), fun z => absurd z (by decide), fun z => absurd z (by decide), fun z => absurd z (by decide), fun z => absurd z (by decide), fun z => absurd z (by decide), fun _ => ⟨by omega, by omega, by omega, by omega, ?_⟩, fun z => absurd z (by decide)⟩
  rw [e4 (x + 1) (by omega) (by omega), hp 0 1 (by decide) (by decide) (by decide), e4 (x + 2) (by omega) (by omega), hp 1 2 (by decide) (by decide) (by decide)]
  exact h d X _ hX (fun X' z1 z2 => bX12_isPlayed_245 hG ⟨fun w => by rw [if_pos w] at hh; exact hh X' z1 z2, fun w => by rw [if_neg (by omega)] at hh; exact hh X' z1 z2⟩)
theorem m_p8 (hG : zP G) {t x a : Int} {P' : zM} (hx : 0 ≤ x ∧ x + 12 ≤ 3556) (hs : P 240 x = 8) (h : zmr G P P' mX12_morning [(2, 234), (0, -1), (9, 0), (9, 0), (9, 0), (9, 0)] a) : zmp G P P' t x (if a < 0 then 0 else 1) := fun d X Q hX hh => by
  have s4 := zmq_sm (S := [(240, 0, 3556)]) hX.1 (by decide) (by decide)
  have e4 : ∀ i, 0 ≤ i → i < 3556 → X 240 i = P 240 i := fun i i0 i1 => s4 _ _ (zhit_at 0 rfl ⟨i0, i1⟩)
  refine bX12_isPlayed_0 hG ?_
  rw [e4 x (by omega) (by omega), hs]
  refine ⟨by omega, fun z => absurd z (by decide), fun z => absurd z (by decide), fun z => absurd z (by decide), fun z => absurd z (by decide), fun z => absurd z (by decide), fun z => absurd z (by decide), fun z => absurd z (by decide), fun z => absurd z (by decide), fun _ => ?_⟩
  exact h d X _ hX (fun X' z1 z2 => bX12_isPlayed_259 hG ⟨fun w => by rw [if_pos w] at hh; exact hh X' z1 z2, fun w => by rw [if_neg (by omega)] at hh; exact hh X' z1 z2⟩)
theorem k_perf (hG : zP G) (hJ : zJ P) (hq : zcq P M) (hv : P 2 10 ≤ 1000000000) {t c : Int} (ht : 0 ≤ t ∧ t < P 235 6) (hc : 0 ≤ c ∧ c < P 240 (889 * t)) (hk : 7 ≤ P 240 (889 * t + 12 * c + 1) → zCk P M) (h : ∀ (M' P' : zM) (a : Int), (a = 0 ∨ a = 1) → zcm M M' → zcq P' M' → zJ P' → zpe P P' ∧ P' 2 10 ≤ P 2 10 + 1 → zmp G P P' t (889 * t + 1 + 12 * c) a → Q (0, a) M') : Y G (d + 8) mX11_perform 0 [(2, 1), (2, 186 + 12 * t), (0, c), (9, 0), (9, 0), (9, 0)] [] M Q := by
  have X4 := (zj_C hJ).2
  have t4 : t < 4 := by have := X4.1; omega
  have zs := zSC_t (t := t) ⟨ht.1, t4⟩
  obtain ⟨T1, T2⟩ := X4.2 t ht.1 ht.2
  obtain ⟨S1, S2, -, T4⟩ := T2 c hc.1 hc.2
  have hx : 0 ≤ 889 * t + 1 + 12 * c ∧ 889 * t + 1 + 12 * c + 12 ≤ 3556 := by omega
  have hsx : P 240 (889 * t + 1 + 12 * c) = P 240 (889 * t + 12 * c + 1) := by rw [show 889 * t + 1 + 12 * c = 889 * t + 12 * c + 1 by omega]
  have pa : ∀ (j : Int) (Q : zV → zM → Prop), 0 ≤ j → j ≤ 5 → Q (0, P (188 + 12 * t) (6 * c + j)) M → Y G (d + 7) mX7_partOf 0 [(2, 186 + 12 * t), (0, c), (0, j), (9, 0)] [] M Q := fun j Q j0 j5 hh => s_part (d := d + 6) hG ⟨ht.1, t4⟩ (by rw [hq _ (by omega)]; exact T1.1) hc T1.2.2 ⟨j0, j5⟩ (by rw [hq _ (by omega)]) hh
  refine bX11_perform_0 hG zs (pa 0 _ (by decide) (by decide) (bX11_perform_6 hG zs (pa 1 _ (by decide) (by decide) (bX11_perform_13 hG zs (pa 2 _ (by decide) (by decide) (bX11_perform_21 hG zs (s_sort (d := d + 6) (v := 20 + P 240 (889 * t + 12 * c + 1)) hG ⟨ht.1, t4⟩ (by rw [hq _ (by omega)]; exact T1.1) hc T1.2.2 (by rw [hq _ (by omega)]; exact S2) (bX11_perform_28 hG zs ⟨fun e => ?_, fun e => ?_, fun e => ?_, fun e => ?_, fun e => ?_, fun e => ?_, fun e => ?_, fun e => ?_, fun e => ?_⟩))))))))
  · have hs : P 240 (889 * t + 12 * c + 1) = 0 := by omega
    exact k_add (d := d + 5) hG hJ hq ht hc hs (fun M' P' a hR cm cq J' pe mr => bX11_perform_85 hG zs ⟨hR, h M' P' a (by have : 0 ≤ a ∧ a ≤ 1 := hR; omega) cm cq J' pe (m_p0 hG hx (by rw [hsx]; exact hs) hR mr)⟩)
  · have hs : P 240 (889 * t + 12 * c + 1) = 1 := by omega
    have hp : ∀ j k, 0 ≤ j → j < 2 → k = j + 1 → P 240 (889 * t + 1 + 12 * c + k) = P (188 + 12 * t) (6 * c + j) := fun j k j0 j1 hk => by
      rw [show 889 * t + 1 + 12 * c + k = 889 * t + 12 * c + 2 + j by omega]; exact (T4 j j0 (by rw [hs]; exact j1)).symm
    exact k_thing (d := d + 6) hG hJ hq (fun M' P' a hR cm cq J' pe mr => bX11_perform_93 hG zs ⟨hR, h M' P' a (by have : 0 ≤ a ∧ a ≤ 1 := hR; omega) cm cq J' pe (m_p1 hG hx (by rw [hsx]; exact hs) hp hR mr)⟩)
  · have hs : P 240 (889 * t + 12 * c + 1) = 2 := by omega
    have hp : ∀ j k, 0 ≤ j → j < 3 → k = j + 1 → P 240 (889 * t + 1 + 12 * c + k) = P (188 + 12 * t) (6 * c + j) := fun j k j0 j1 hk => by
      rw [show 889 * t + 1 + 12 * c + k = 889 * t + 12 * c + 2 + j by omega]; exact (T4 j j0 (by rw [hs]; exact j1)).symm
    exact k_person (d := d + 3) hG hJ hq hv (fun M' P' a hR cm cq J' pe mr => bX11_perform_103 hG zs ⟨fun z => h M' P' 0 (by decide) cm cq J' pe (by have w := m_p2 (t := t) (a := a) hG hx (by rw [hsx]; exact hs) hp mr; rw [if_pos (by have : -1 ≤ a := hR; omega)] at w; exact w), fun z => h M' P' 1 (by decide) cm cq J' pe (by have w := m_p2 (t := t) (a := a) hG hx (by rw [hsx]; exact hs) hp mr; rw [if_neg (by have : -1 ≤ a := hR; omega)] at w; exact w)⟩)
  · have hs : P 240 (889 * t + 12 * c + 1) = 3 := by omega
    have hp : ∀ j k, 0 ≤ j → j < 3 → k = j + 1 → P 240 (889 * t + 1 + 12 * c + k) = P (188 + 12 * t) (6 * c + j) := fun j k j0 j1 hk => by
      rw [show 889 * t + 1 + 12 * c + k = 889 * t + 12 * c + 2 + j by omega]; exact (T4 j j0 (by rw [hs]; exact j1)).symm
    exact k_road (d := d + 4) hG hJ hq hv (fun M' P' a hR cm cq J' pe mr => bX11_perform_122 hG zs ⟨hR, h M' P' a (by have : 0 ≤ a ∧ a ≤ 1 := hR; omega) cm cq J' pe (m_p3 hG hx (by rw [hsx]; exact hs) hp hR mr)⟩)
  · have hs : P 240 (889 * t + 12 * c + 1) = 4 := by omega
    have hp : ∀ j k, 0 ≤ j → j < 1 → k = j + 1 → P 240 (889 * t + 1 + 12 * c + k) = P (188 + 12 * t) (6 * c + j) := fun j k j0 j1 hk => by
      rw [show 889 * t + 1 + 12 * c + k = 889 * t + 12 * c + 2 + j by omega]; exact (T4 j j0 (by rw [hs]; exact j1)).symm
    exact k_equal (d := d + 5) hG hJ hq (fun M' P' a hR cm cq J' pe mr => bX11_perform_128 hG zs ⟨hR, h M' P' a (by have : 0 ≤ a ∧ a ≤ 1 := hR; omega) cm cq J' pe (m_p4 hG hx (by rw [hsx]; exact hs) hp hR mr)⟩)
  · have hs : P 240 (889 * t + 12 * c + 1) = 5 := by omega
    have hp : ∀ j k, 0 ≤ j → j < 5 → k = j + 1 → P 240 (889 * t + 1 + 12 * c + k) = P (188 + 12 * t) (6 * c + j) := fun j k j0 j1 hk => by
      rw [show 889 * t + 1 + 12 * c + k = 889 * t + 12 * c + 2 + j by omega]; exact (T4 j j0 (by rw [hs]; exact j1)).symm
    exact pa 3 _ (by decide) (by decide) (bX11_perform_141 hG zs (pa 4 _ (by decide) (by decide) (bX11_perform_147 hG zs (k_pupil (d := d + 4) hG hJ hq (fun M' P' a hR cm cq J' pe mr => bX11_perform_150 hG zs ⟨fun z => h M' P' 0 (by decide) cm cq J' pe (by have w := m_p5 (t := t) (a := a) hG hx (by rw [hsx]; exact hs) hp mr; rw [if_pos (by have : -1 ≤ a := hR; omega)] at w; exact w), fun z => h M' P' 1 (by decide) cm cq J' pe (by have w := m_p5 (t := t) (a := a) hG hx (by rw [hsx]; exact hs) hp mr; rw [if_neg (by have : -1 ≤ a := hR; omega)] at w; exact w)⟩)))))
  · have hs : P 240 (889 * t + 12 * c + 1) = 6 := by omega
    have hp : ∀ j k, 0 ≤ j → j < 1 → k = j + 1 → P 240 (889 * t + 1 + 12 * c + k) = P (188 + 12 * t) (6 * c + j) := fun j k j0 j1 hk => by
      rw [show 889 * t + 1 + 12 * c + k = 889 * t + 12 * c + 2 + j by omega]; exact (T4 j j0 (by rw [hs]; exact j1)).symm
    exact k_answer (d := d + 5) hG hJ hq (fun M' P' a hR cm cq J' pe mr => bX11_perform_165 hG zs ⟨hR, h M' P' a (by have : 0 ≤ a ∧ a ≤ 1 := hR; omega) cm cq J' pe (m_p6 hG hx (by rw [hsx]; exact hs) hp hR mr)⟩)
  · have hs : P 240 (889 * t + 12 * c + 1) = 7 := by omega
    have hp : ∀ j k, 0 ≤ j → j < 2 → k = j + 1 → P 240 (889 * t + 1 + 12 * c + k) = P (188 + 12 * t) (6 * c + j) := fun j k j0 j1 hk => by
      rw [show 889 * t + 1 + 12 * c + k = 889 * t + 12 * c + 2 + j by omega]; exact (T4 j j0 (by rw [hs]; exact j1)).symm
    exact k_askN (d := d + 4) hG (hk (by omega)) (fun M' P' a hR cm cq J' pe mr => bX11_perform_173 hG zs ⟨fun z => h M' P' 0 (by decide) cm cq J' pe (by have w := m_p7 (t := t) (a := a) hG hx (by rw [hsx]; exact hs) hp mr; rw [if_pos (by have : -1 ≤ a := hR; omega)] at w; exact w), fun z => h M' P' 1 (by decide) cm cq J' pe (by have w := m_p7 (t := t) (a := a) hG hx (by rw [hsx]; exact hs) hp mr; rw [if_neg (by have : -1 ≤ a := hR; omega)] at w; exact w)⟩)
  · have hs : P 240 (889 * t + 12 * c + 1) = 8 := by omega
    exact k_morn (d := d + 1) hG (hk (by omega)) (fun M' P' a hR cm cq J' pe mr => bX11_perform_195 hG zs ⟨fun z => h M' P' 0 (by decide) cm cq J' pe (by have w := m_p8 (t := t) (a := a) hG hx (by rw [hsx]; exact hs) mr; rw [if_pos z] at w; exact w), fun z => h M' P' 1 (by decide) cm cq J' pe (by have w := m_p8 (t := t) (a := a) hG hx (by rw [hsx]; exact hs) mr; rw [if_neg (by omega)] at w; exact w)⟩)
/-- the clauses played one after another -/
def zrn (G : zG) (t : Int) : Nat → Int → zM → Int → zM → Prop
  | 0, _, P, a, Pf => a = -1 ∧ Pf = P
  | r + 1, k, P, a, Pf => ∃ P' b, zJ P' ∧ zpe P P' ∧ zmp G P P' t (889 * t + 1 + 12 * k) b ∧ ((b = 0 ∧ a = k ∧ Pf = P') ∨ (b = 1 ∧ zrn G t r (k + 1) P' a Pf))
theorem zrn_pe {t : Int} : ∀ (r : Nat) (k : Int) (P : zM) (a : Int) (Pf : zM), zrn G t r k P a Pf → zpe P Pf
  | 0, k, P, a, Pf, h => by rw [h.2]; exact zpe_rf
  | r + 1, k, P, a, Pf, ⟨P', b, _, pe, _, h⟩ => by
    rcases h with ⟨_, _, e⟩ | ⟨_, e⟩
    · rw [e]; exact pe
    · exact zpe_tr pe (zrn_pe r (k + 1) P' a Pf e)
theorem zmp_st {P1 P' : zM} {t x a : Int} (r2 : ∀ a, 234 ≤ a → P1 a = P a) (h : zmp G P1 P' t x a) : zmp G P P' t x a := fun d X Q hX hh => h d X Q ⟨fun a i ha hn => by rw [r2 a ha]; exact hX.1 a i ha hn, hX.2⟩ hh
theorem k_play (hG : zP G) {t : Int} : ∀ (r : Nat) (k : Int) (P M : zM) (Q : zV → zM → Prop), zJ P → zcq P M → P 2 10 + r ≤ 1000000000 → (0 ≤ t ∧ t < P 235 6) → 0 ≤ k → k + r = P 240 (889 * t) → (∀ (M' Pf : zM) (a : Int), zcm M M' → zJ Pf → zcq Pf M' → Pf 2 10 ≤ P 2 10 + r → zrn G t r k P a Pf → Q (0, a) M') → Y G (d + 400) mX11_played 33 [(2, 1), (0, t), (2, 186 + 12 * t), (0, k)] [] M Q := fun r => by
  induction r with
  | zero =>
    intro k P M Q hJ hq hv ht k0 hk h
    have X4 := (zj_C hJ).2
    have t4 : t < 4 := by have := X4.1; omega
    obtain ⟨T1, T2⟩ := X4.2 t ht.1 ht.2
    refine bX11_played_33 hG ?_
    rw [hq _ (by omega), T1.1]
    exact ⟨zSC_t ⟨ht.1, t4⟩, fun _ => h M P (-1) zcm_rf hJ hq (by omega) ⟨rfl, rfl⟩, fun z => absurd z (by omega)⟩
  | succ r ih =>
    intro k P M Q hJ hq hv ht k0 hk h
    have X4 := (zj_C hJ).2
    have t4 : t < 4 := by have := X4.1; omega
    have zs := zSC_t (t := t) ⟨ht.1, t4⟩
    obtain ⟨T1, T2⟩ := X4.2 t ht.1 ht.2
    obtain ⟨S1, S2, -, T4⟩ := T2 k k0 (by omega)
    have so : ∀ Q : zV → zM → Prop, Q (0, 20 + P 240 (889 * t + 12 * k + 1)) M → Y G (d + 399) mX7_sortOf 0 [(2, 186 + 12 * t), (0, k)] [] M Q := fun Q hh => s_sort (d := d + 398) hG ⟨ht.1, t4⟩ (by rw [hq _ (by omega)]; exact T1.1) ⟨k0, by omega⟩ T1.2.2 (by rw [hq _ (by omega)]; exact S2) hh
    -- what comes of the clause
    have go : ∀ (P1 M1 : zM), zcm M M1 → zJ P1 → zcq P1 M1 → zpe P P1 → P1 2 10 = P 2 10 → (∀ a, 234 ≤ a → P1 a = P a) → (7 ≤ P1 240 (889 * t + 12 * k + 1) → zCk P1 M1) → Y G (d + 399) mX11_perform 0 [(2, 1), (2, 186 + 12 * t), (0, k), (9, 0), (9, 0), (9, 0)] [] M1 (fun r M' => Y G (d + 399 + 1) mX11_played 71 [(2, 1), (0, t), (2, 186 + 12 * t), (0, k)] (zpush r []) M' Q) := fun P1 M1 m1 J1 q1 pe1 v1 r2 hk1 => by
      refine k_perf (d := d + 391) hG J1 q1 (by omega) ⟨ht.1, by rw [pe1.1]; exact ht.2⟩ ⟨k0, by rw [pe1.2.1 _ (by omega) (by omega)]; omega⟩ hk1 (fun M' P' a ha cm cq J' pe mp => ?_)
      have mp' := zmp_st r2 mp
      have peP := zpe_tr pe1 pe.1
      refine bX11_played_71 hG ⟨fun z => ⟨by omega, ?_⟩, fun z => ?_⟩
      · refine ih (k + 1) P' M' Q J' cq (by omega) ⟨ht.1, by rw [peP.1]; exact ht.2⟩ (by omega) (by rw [peP.2.1 _ (by omega) (by omega)]; omega) (fun M2 Pf b c2 Jf qf vf hz => ?_)
        exact h M2 Pf b (zcm_tr (zcm_tr m1 cm) c2) Jf qf (by omega) ⟨P', a, J', peP, mp', Or.inr ⟨by omega, hz⟩⟩
      · exact h M' P' k (zcm_tr m1 cm) J' cq (by omega) ⟨P', a, J', peP, mp', Or.inl ⟨z, rfl, rfl⟩⟩
    have stk : Y G (d + 399) mX11_takeStock 0 [(2, 1)] [] M (fun r M' => Y G (d + 399 + 1) mX11_played 65 [(2, 1), (0, t), (2, 186 + 12 * t), (0, k)] (zpush r []) M' Q) :=
      k_stock (d := d + 189) hG hJ hq (fun M1 P1 m1 C1 pe1 v1 r2 => bX11_played_65 hG (go P1 M1 m1 C1.1 C1.2.1 pe1 v1 r2 (fun _ => C1)))
    refine bX11_played_33 hG ?_
    rw [hq _ (by omega), T1.1]
    refine ⟨zs, fun z => absurd z (by omega), fun _ => so _ (bX11_played_46 hG ⟨fun _ => stk, fun z7 => ⟨zs, so _ (bX11_played_56 hG ⟨fun z8 => ?_, fun _ => stk⟩)⟩⟩)⟩
    exact go P M zcm_rf hJ hq zpe_rf rfl (fun _ _ => rfl) (fun z => by omega)
theorem zwy_n {a i : Int} (i0 : 0 ≤ i) (i1 : i < 1000000) (ha : a ≤ 233) (h1 : a ≠ 11) (h2 : a ≠ 182) (h3 : a ≠ 179) (h4 : a ≠ 176) : ¬ zhw zwyF a i := by
  unfold zhw zhit zwyF zscr zaF
  simp
  omega
/-- the questions told so far: the class has told more -/
theorem zJ16_mix {Pf X : zM} (n12 : P 235 0 ≤ 12) (hJ : zJ Pf) (h1 : zmq P X) (h2 : zcz Pf X) (pe : zpe P Pf) : zJ16 X := fun q q0 q1 => by
  have e := zmq_235 h1
  rw [e 0 (by decide) (by decide)] at q1
  have s4 := zmq_sm (S := [(246, 0, 12), (247, 0, 2880)]) h1 (by decide) (by decide)
  have pq := pe.2.2.2 q q0 q1
  have jq := (zK_of hJ).2.2 q q0 (by have := pe.2.2.1; omega)
  obtain ⟨t, t0, t1, t2, t3⟩ := jq.1
  have r : ∀ a i, 0 ≤ i → i < 1000000 → a ≤ 233 → a ≠ 11 → a ≠ 182 → a ≠ 179 → a ≠ 176 → X a i = Pf a i := fun a i i0 i1 ha c1 c2 c3 c4 => h2 a i ha (zwy_n i0 i1 ha c1 c2 c3 c4)
  exact zQq_e (M := Pf) ⟨q0, by omega⟩ (r 20 q q0 (by omega) (by decide) (by decide) (by decide) (by decide) (by decide)) (r 21 q q0 (by omega) (by decide) (by decide) (by decide) (by decide) (by decide)) (r 22 q q0 (by omega) (by decide) (by decide) (by decide) (by decide) (by decide)) ((s4 246 q (zhit_at 0 rfl ⟨q0, by omega⟩)).trans pq.1.symm) (fun i i0 i1 => (s4 247 _ (zhit_at 1 rfl ⟨by omega, by omega⟩)).trans (pq.2 i i0 i1).symm) (r _ _ (by decide) (by decide) (by omega) (by omega) (by omega) (by omega) (by omega)) (fun i x hi _ x0 x1 => r _ _ x0 (by omega) (by omega) (by omega) (by omega) (by omega) (by omega)) (fun t a _ => by rw [e 6 (by decide) (by decide), ← pe.1]; exact a) jq
theorem m_playl (hG : zP G) {t : Int} {Pf : zM} (hJf : zJ Pf) (t4 : 0 ≤ t ∧ t < 4) {n : Int} (n24 : 0 ≤ n ∧ n ≤ 24) : ∀ (r : Nat) (k : Int) (P X : zM) (a : Int) (Q : zV → zM → Prop), zrn G t r k P a Pf → zJ P → zmq P X → zcz Pf X → 0 ≤ k → k + r = n → P 240 (889 * t) = n → (∀ X', zmq Pf X' → zcz Pf X' → Q (0, a) X') → Y G (d + 14) mX12_played 22 [(2, 234), (0, t), (0, k)] [] X Q := fun r => by
  induction r with
  | zero =>
    intro k P X a Q hz hJ hm hc k0 hk h0 h
    obtain ⟨ea, ef⟩ := hz
    have s4 := zmq_sm (S := [(240, 0, 3556)]) hm (by decide) (by decide)
    refine bX12_played_22 hG ?_
    rw [s4 240 (889 * t) (zhit_at 0 rfl ⟨by omega, by omega⟩), h0]
    refine ⟨by omega, by omega, fun _ => ?_, fun z => absurd z (by omega)⟩
    have q := h X (by rw [ef]; exact hm) hc
    rw [ea] at q
    exact q
  | succ r ih =>
    intro k P X a Q hz hJ hm hc k0 hk h0 h
    have pf := zrn_pe (r + 1) k P a Pf hz
    obtain ⟨P', b, J', pe, mp, hz⟩ := hz
    have s4 := zmq_sm (S := [(240, 0, 3556)]) hm (by decide) (by decide)
    refine bX12_played_22 hG ?_
    rw [s4 240 (889 * t) (zhit_at 0 rfl ⟨by omega, by omega⟩), h0]
    refine ⟨by omega, by omega, fun z => absurd z (by omega), fun _ => ⟨by omega, by omega, by omega, by omega, ?_⟩⟩
    refine mp d X _ ⟨hm, zJ16_mix hJ.1.1.2 hJf hm hc pf⟩ (fun X' z1 z2 => bX12_played_53 hG ⟨fun z => ⟨by omega, ?_⟩, fun z => ?_⟩)
    · rcases hz with ⟨e1, _, _⟩ | ⟨_, hz⟩
      · exact absurd e1 z
      · exact ih (k + 1) P' X' a Q hz J' z1 (zcz_tr hc z2) (by omega) (by omega) (by rw [pe.2.1 _ (by omega) (by omega)]; exact h0) h
    · rcases hz with ⟨_, e2, e3⟩ | ⟨e1, _⟩
      · have q := h X' (by rw [e3]; exact z1) (zcz_tr hc z2)
        rw [e2] at q
        exact q
      · omega
theorem pr_played (hG : zP G) (hJ : zJ M) (hv : M 2 10 ≤ 1000000) {x1 : Int} : zPr G d mX11_played mX12_played [(2, 1), (0, x1), (9, 0), (9, 0)] [(2, 234), (0, x1), (9, 0)] M := by
  have X4 := (zj_C hJ).2
  have n6 := hJ.1.2.2.2.2.2.2.1
  have e7 : M 1 3 = M 235 6 := zj_j7 hJ
  have n46 := X4.1
  unfold zV6 at n6
  refine bX11_played_0 hG ?_
  rw [e7]
  refine ⟨by omega, fun q => ⟨by omega, ?_⟩, fun q => bX12_played_0 hG ⟨by omega, fun z => absurd z q, fun _ => ⟨rfl, zJ_rf hJ⟩⟩⟩
  have ht : 0 ≤ x1 ∧ x1 < M 235 6 := by omega
  obtain ⟨T1, T2⟩ := X4.2 x1 ht.1 ht.2
  obtain ⟨r, hr⟩ := Int.eq_ofNat_of_zero_le T1.2.1
  refine k_play hG r 0 M M _ hJ zcq_rf (by omega) ht (by decide) (by omega) (fun M' Pf a cm Jf qf vf hz => ?_)
  have m6 : M' 235 6 = M 235 6 := cm 235 6 (by decide) (by decide) (by decide)
  refine bX12_played_0 hG ?_
  rw [m6]
  refine ⟨by omega, fun _ => ?_, fun z => absurd q z⟩
  refine m_playl (d := d + 386) hG Jf ⟨ht.1, by omega⟩ (n := M 240 (889 * x1)) ⟨by omega, by omega⟩ r 0 M M' a _ hz hJ (fun a i ha hn => cm a i ha (Int.not_lt.mp (fun z => hn (Or.inl z))) (Int.not_le.mp (fun z => hn (Or.inr (Or.inl z))))) (fun a i ha hn => by rw [qf a ha]) (by decide) (by omega) rfl (fun X' z1 z2 => ⟨rfl, ?_⟩)
  have JX := J_mq Jf z1 z2
  have e2 : X' 2 10 = Pf 2 10 := z2 2 10 (by decide) (zwy_n (by decide) (by decide) (by decide) (by decide) (by decide) (by decide) (by decide))
  exact ⟨JX.1, by omega⟩
end PM7
