section PM5
variable {G : zG} {d : Nat} {M P : zM} {Q : zV → zM → Prop}
theorem zSC_t {t : Int} (h : 0 ≤ t ∧ t < 4) : zSC (186 + 12 * t) := by
  have hc : t = 0 ∨ t = 1 ∨ t = 2 ∨ t = 3 := by omega
  unfold zSC
  rcases hc with rfl | rfl | rfl | rfl <;> decide
theorem s_part (hG : zP G) {t c j v n : Int} (ht : 0 ≤ t ∧ t < 4) (h3 : M (186 + 12 * t) 3 = n) (hc : 0 ≤ c ∧ c < n) (n24 : n ≤ 24) (hj : 0 ≤ j ∧ j ≤ 5) (hv : M (188 + 12 * t) (6 * c + j) = v) (h : Q (0, v) M) : Y G (d + 1) mX7_partOf 0 [(2, 186 + 12 * t), (0, c), (0, j), (9, 0)] [] M Q := by
  refine bX7_partOf_0 hG (zSC_t ht) ?_
  rw [h3, show 186 + 12 * t + 2 = 188 + 12 * t by omega, show c * 6 + j = 6 * c + j by omega, hv]
  exact ⟨by omega, fun _ => ⟨fun _ => ⟨by omega, by omega, by omega, h⟩, fun z => absurd hj z⟩, fun z => absurd (by omega) z⟩
theorem s_sort (hG : zP G) {t c v n : Int} (ht : 0 ≤ t ∧ t < 4) (h3 : M (186 + 12 * t) 3 = n) (hc : 0 ≤ c ∧ c < n) (n24 : n ≤ 24) (hv : M (187 + 12 * t) c = v) (h : Q (0, v) M) : Y G (d + 1) mX7_sortOf 0 [(2, 186 + 12 * t), (0, c)] [] M Q := by
  refine bX7_sortOf_0 hG (zSC_t ht) ?_
  rw [h3, show 186 + 12 * t + 1 = 187 + 12 * t by omega, hv]
  exact ⟨by omega, fun _ => ⟨by omega, h⟩, fun z => absurd (by omega) z⟩
theorem zmq_rw {X : zM} {a : Int} {f f' : Int → Int} (h : zmq P X) (he : ∀ i, 0 ≤ i → i < 1000000 → f' i = f i) : zmq (zrow P a f) (zrow X a f') := fun x y hx hn => by
  by_cases c : x = a
  · rw [c, zrow_row, zrow_row]
    exact he y (Int.not_lt.mp (fun z => hn (Or.inl z))) (Int.not_le.mp (fun z => hn (Or.inr (Or.inl z))))
  · rw [zrow_off c, zrow_off c]; exact h x y hx hn
theorem zcz_row {X X' : zM} {a : Int} {f : Int → Int} (h : zcz X X') (ha : 234 ≤ a) : zcz X (zrow X' a f) := fun x y hx hn => by rw [zrow_off (by omega)]; exact h x y hx hn
theorem zcq_mr {a : Int} {f : Int → Int} (h : zcq P M) (ha : 234 ≤ a) : zcq (zrow P a f) M := fun x hx => by rw [zrow_off (by omega)]; exact h x hx
/-- the class and the model with one question more -/
def zaC (M : zM) (n t p0 p1 p2 p3 p4 p5 : Int) : zM := zset (zset (zset (zset (zset (zset (zset (zset M 20 n (186 + 12 * t + 3)) 21 n p0) 22 n p1) 23 n p2) 24 n p3) 25 n p4) 26 n p5) 19 8 (n + 1)
def zaQ (M X : zM) (n x fr len : Int) : zM := zset (zrow (zrow (zset M 246 n len) 247 (zpa (X 247) (240 * n) (fun i => X 240 (fr + i)) (2 * len))) 248 (zpa (X 248) (4 * n) (fun k => X 240 (x + 8 + k)) 4)) 235 0 (n + 1)
theorem s_addc (hG : zP G) {t c n cnt : Int} {pt : Int → Int} (ht : 0 ≤ t ∧ t < 4) (m8 : M 19 8 = n) (hn : 0 ≤ n ∧ n ≤ 12) (h3 : M (186 + 12 * t) 3 = cnt) (hc : 0 ≤ c ∧ c < cnt) (n24 : cnt ≤ 24) (hp : ∀ j, 0 ≤ j → j ≤ 5 → M (188 + 12 * t) (6 * c + j) = pt j) (h1 : n < 12 → Q (0, 1) (zaC M n t (pt 0) (pt 1) (pt 2) (pt 3) (pt 4) (pt 5))) (h0 : n = 12 → Q (0, 0) M) : Y G (d + 2) mX3_add 0 [(2, 19), (2, 186 + 12 * t), (0, c)] [] M Q := by
  have zs := zSC_t ht
  have pa : ∀ (X : zM) (j : Int) (Q : zV → zM → Prop), (∀ a, (27 ≤ a ∨ a = 19) → X a = M a) → 0 ≤ j → j ≤ 5 → Q (0, pt j) X → Y G (d + 1) mX7_partOf 0 [(2, 186 + 12 * t), (0, c), (0, j), (9, 0)] [] X Q := fun X j Q hX j0 j5 hh => s_part hG ht (by rw [hX _ (by omega)]; exact h3) hc n24 ⟨j0, j5⟩ (by rw [hX _ (by omega)]; exact hp j j0 j5) hh
  have e19 : ∀ X : zM, (∀ a, (27 ≤ a ∨ a = 19) → X a = M a) → X 19 8 = n := fun X hX => by rw [hX 19 (Or.inr rfl)]; exact m8
  have st : ∀ (X : zM) (a v : Int), 20 ≤ a → a ≤ 26 → (∀ b, (27 ≤ b ∨ b = 19) → X b = M b) → ∀ b, (27 ≤ b ∨ b = 19) → zset X a n v b = M b := fun X a v a0 a1 hX b hb => by rw [zset_off (by omega)]; exact hX b hb
  have s0 := st M 20 (186 + 12 * t + 3) (by decide) (by decide) (fun _ _ => rfl)
  have s1 := st _ 21 (pt 0) (by decide) (by decide) s0
  have s2 := st _ 22 (pt 1) (by decide) (by decide) s1
  have s3 := st _ 23 (pt 2) (by decide) (by decide) s2
  have s4 := st _ 24 (pt 3) (by decide) (by decide) s3
  have s5 := st _ 25 (pt 4) (by decide) (by decide) s4
  refine bX3_add_0 hG zs ?_
  rw [m8]
  refine ⟨fun c0 => ⟨by omega, pa _ 0 _ s0 (by decide) (by decide) (bX3_add_38 hG zs ⟨by omega, ?_⟩)⟩, fun c0 => h0 (by omega)⟩
  rw [e19 _ s0]
  refine pa _ 1 _ s1 (by decide) (by decide) (bX3_add_53 hG zs ⟨by omega, ?_⟩)
  rw [e19 _ s1]
  refine pa _ 2 _ s2 (by decide) (by decide) (bX3_add_68 hG zs ⟨by omega, ?_⟩)
  rw [e19 _ s2]
  refine pa _ 3 _ s3 (by decide) (by decide) (bX3_add_83 hG zs ⟨by omega, ?_⟩)
  rw [e19 _ s3]
  refine pa _ 4 _ s4 (by decide) (by decide) (bX3_add_98 hG zs ⟨by omega, ?_⟩)
  rw [e19 _ s4]
  refine pa _ 5 _ s5 (by decide) (by decide) (bX3_add_113 hG zs ?_)
  rw [e19 _ s5]
  exact ⟨by omega, by omega, h1 c0⟩
theorem m_add (hG : zP G) {t x n beg len : Int} (ht : 0 ≤ t ∧ t < 4) (hx : 0 ≤ x ∧ x + 12 ≤ 3556) (m0 : M 235 0 = n) (hn : 0 ≤ n ∧ n ≤ 12) (m6 : M 240 (x + 6) = beg) (m7 : M 240 (x + 7) = beg + len) (hb : 0 ≤ beg ∧ 1 ≤ len ∧ len ≤ 120 ∧ beg + len ≤ 300) (h1 : n < 12 → Q (0, 1) (zaQ M M n x (889 * t + 289 + 2 * beg) len)) (h0 : n = 12 → Q (0, 0) M) : Y G d mX12_askMore 0 [(2, 234), (0, t), (0, x), (9, 0), (9, 0), (9, 0)] [] M Q := by
  refine bX12_askMore_0 hG ?_
  rw [m0, m6, m7]
  refine ⟨fun c => ⟨by omega, by omega, by omega, by omega, by omega, by omega, by omega, by omega, by omega, by omega, by omega, by omega, ?_⟩, fun c => h0 c⟩
  rw [show beg + len - beg = len by omega]
  have q1 := h1 (by omega)
  generalize hfr : 889 * t + 289 + 2 * beg = fr at *
  -- the third loop
  have l3 : ∀ (r : Nat) (k : Int) (X : zM), 0 ≤ k → k + r = 4 → X 235 0 = n → X 240 = M 240 → (∀ g, zrow X 248 g = zrow (zrow (zset M 246 n len) 247 (zpa (M 247) (240 * n) (fun i => M 240 (fr + i)) (2 * len))) 248 g) → X 248 = zpa (M 248) (4 * n) (fun k => M 240 (x + 8 + k)) k → Y G d mX12_askMore 116 [(2, 234), (0, t), (0, x), (0, n), (0, fr), (0, k)] [] X Q := fun r => by
    induction r with
    | zero =>
      intro k X k0 hk X0 X240 Xo X248
      have k4 : k = 4 := by omega
      refine bX12_askMore_116 hG ⟨fun _ => ?_, fun z => absurd z (by omega)⟩
      rw [X0]
      refine ⟨by omega, ?_⟩
      have e : X = zrow (zrow (zset M 246 n len) 247 (zpa (M 247) (240 * n) (fun i => M 240 (fr + i)) (2 * len))) 248 (zpa (M 248) (4 * n) (fun k => M 240 (x + 8 + k)) 4) := by
        rw [k4] at X248
        rw [← Xo, ← X248, zrow_self]
      rw [e]
      exact q1
    | succ r ih =>
      intro k X k0 hk X0 X240 Xo X248
      refine bX12_askMore_116 hG ⟨fun z => absurd z (by omega), fun _ => ⟨by omega, by omega, by omega, by omega, by omega, by omega, by omega, ?_⟩⟩
      rw [X240]
      refine ih (k + 1) _ (by omega) (by omega) (by rw [zset_off (by decide)]; exact X0) (by rw [zset_off (by decide)]; exact X240) (fun g => by rw [zset_is, zrow_two]; exact Xo g) ?_
      rw [zset_is, zrow_row, X248]
      exact zpa_up _ _ (fun k => M 240 (x + 8 + k)) k0
  have l2 : ∀ (r : Nat) (k : Int) (X : zM), 0 ≤ k → k + r = 2 * len → X = zrow (zset M 246 n len) 247 (zpa (M 247) (240 * n) (fun i => M 240 (fr + i)) k) → Y G d mX12_askMore 71 [(2, 234), (0, t), (0, x), (0, n), (0, fr), (0, k)] [] X Q := fun r => by
    induction r with
    | zero =>
      intro k X k0 hk hX
      have k4 : k = 2 * len := by omega
      have x46 : X 246 n = len := by rw [hX, zrow_off (by decide)]; exact zset_same
      refine bX12_askMore_71 hG ?_
      rw [x46]
      refine ⟨by omega, by omega, fun _ => ?_, fun z => absurd z (by omega)⟩
      refine l3 4 0 X (by decide) (by decide) (by rw [hX, zrow_off (by decide), zset_off (by decide)]; exact m0) (by rw [hX, zrow_off (by decide), zset_off (by decide)]) (fun g => by rw [hX, k4]) ?_
      rw [zpa_0, hX, zrow_off (by decide), zset_off (by decide)]
    | succ r ih =>
      intro k X k0 hk hX
      have x46 : X 246 n = len := by rw [hX, zrow_off (by decide)]; exact zset_same
      have x40 : X 240 = M 240 := by rw [hX, zrow_off (by decide), zset_off (by decide)]
      refine bX12_askMore_71 hG ?_
      rw [x46, x40]
      refine ⟨by omega, by omega, fun z => absurd z (by omega), fun _ => ⟨by omega, by omega, by omega, by omega, by omega, by omega, ih (k + 1) _ (by omega) (by omega) ?_⟩⟩
      rw [hX, zset_row]
      congr 1
      exact zpa_up _ _ (fun i => M 240 (fr + i)) k0
  refine l2 (2 * len).toNat 0 _ (by decide) (by omega) ?_
  rw [zpa_0, show M 247 = zset M 246 n len 247 from (zset_off (by decide)).symm, zrow_self]
end PM5
