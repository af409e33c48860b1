section FWF
variable {G : zG} {d n : Nat} {M : zM} {Q : zV → zM → Prop}
theorem sw_kin (hn : 11 ≤ n) (hW : zW G) {A : Int → Int} {N : Int} (hN : M 2 4 = N) (h8 : 0 ≤ N ∧ N ≤ 8) (hv : 0 ≤ M 2 10 ∧ M 2 10 ≤ 1000000000) (hF : ∀ c, 0 ≤ c → c < N → M 5 c = A (15 + 3 * c) ∧ M 6 c = A (16 + 3 * c) ∧ (A (15 + 3 * c) = A (16 + 3 * c) → A (15 + 3 * c) = -1)) (h : ∀ T K, zR 8 N 8 (zpw 8) T (zmB 8 N (zk0 A)) → (∀ p, 0 ≤ p → p < N → K p = zch A p N.toNat) → Q (9, 0) (zset (zrow (zrow M 10 K) 8 T) 2 10 (M 2 10 + 1))) : Yw n G (d + 2) mX10_measureKin 0 [(2, 2), (9, 0)] [] M Q := by
  have s8 : zsh (8 : Int).toNat = (100, 64) := by decide +kernel
  have s10 : zsh (10 : Int).toNat = (100, 8) := by decide +kernel
  refine wX10_measureKin_0 hn hW (sw_fill hn hW s8 (by decide) ?_)
  refine wX10_measureKin_8 hn hW (sw_fill hn hW s10 (by decide) ?_)
  refine wX10_measureKin_16 hn hW ?_
  rw [zrow_off (show (10 : Int) ≠ 8 by decide), zrow_cm (show (8 : Int) ≠ 10 by decide)]
  refine sw_kl hn hW hN h8 hF (fun T K hI => ?_) N.toNat 0 _ _ (by omega) (by omega) (zKI_0 h8.2)
  have hR := zKI_R hI
  refine sw_close hn hW s8 (by decide) (by decide) (Or.inr rfl) h8 hR ?_
  have e : zrow (zrow M 10 K) 8 (zcB 8 (zcD 8 T)) 2 10 = M 2 10 := by rw [zrow_off (by decide), zrow_off (by decide)]
  refine wX10_measureKin_63 hn hW ?_
  rw [e]
  exact ⟨by omega, h _ _ (zR_B (Or.inr rfl) h8 hR) hI.2.2⟩
/-! the roads into the table -/
theorem sw_wl (hn : 11 ≤ n) (hW : zW G) (h : ∀ T, (∀ k, 0 ≤ k → k < 36 → T k = if M 7 k ≤ 0 then -1 else M 7 k) → Yw n G d mX10_closeTable 0 [(2, 9), (0, 6), (9, 0), (9, 0), (9, 0), (9, 0), (9, 0), (9, 0)] [] (zrow M 9 T) (fun r M' => Yw n G (d + 1) mX10_measureWays 48 [(2, 2), (0, 36)] (zpush r []) M' Q)) : ∀ (k : Nat) (i : Int) (T : Int → Int), 0 ≤ i → i + k = 36 → (∀ k, 0 ≤ k → k < i → T k = if M 7 k ≤ 0 then -1 else M 7 k) → Yw n G (d + 1) mX10_measureWays 2 [(2, 2), (0, i)] [] (zrow M 9 T) Q
  | 0, i, T, i0, i1, hI => by
    have : i = 36 := by omega
    subst this
    exact wX10_measureWays_2 hn hW ⟨fun _ => h T hI, fun c => absurd c (by omega)⟩
  | k + 1, i, T, i0, i1, hI => by
    refine wX10_measureWays_2 hn hW ?_
    rw [zrow_off (show (7 : Int) ≠ 9 by decide)]
    have hx : ∀ v, v = (if M 7 i ≤ 0 then -1 else M 7 i) → ∀ k, 0 ≤ k → k < i + 1 → zup T i v k = if M 7 k ≤ 0 then -1 else M 7 k := fun v hv k k0 k1 => by
      by_cases c : k = i
      · subst c; rw [zup_at, hv]
      · rw [zup_ne c]; exact hI k k0 (by omega)
    refine ⟨fun c => absurd c (by omega), fun _ => ⟨by omega, fun c => ⟨by omega, by omega, ?_⟩, fun c => ⟨by omega, by omega, by omega, ?_⟩⟩⟩
    · rw [zset_row]
      exact sw_wl hn hW h k (i + 1) _ (by omega) (by omega) (hx _ (if_pos c).symm)
    · rw [zset_row]
      exact sw_wl hn hW h k (i + 1) _ (by omega) (by omega) (hx _ (if_neg (by omega)).symm)
theorem sw_ways (hn : 11 ≤ n) (hW : zW G) {A : Int → Int} (hv : 0 ≤ M 2 10 ∧ M 2 10 ≤ 1000000000) (hF : ∀ k, 0 ≤ k → k < 36 → M 7 k = A (38 + k) ∧ 0 ≤ A (38 + k) ∧ A (38 + k) ≤ 99) (h : ∀ T, zR 6 6 6 (zpw 6) T (zmB 6 6 (zw0 A)) → Q (9, 0) (zset (zrow M 9 T) 2 10 (M 2 10 + 1))) : Yw n G (d + 1) mX10_measureWays 0 [(2, 2), (9, 0)] [] M Q := by
  have s9 : zsh (9 : Int).toNat = (100, 36) := by decide +kernel
  refine wX10_measureWays_0 hn hW ?_
  rw [show M = zrow M 9 (M 9) from zrow_self.symm]
  refine sw_wl hn hW (fun T hT => ?_) 36 0 _ (by omega) (by omega) (fun k k0 k1 => by omega)
  have hR : zR 6 6 0 99 (zcD 6 T) (zw0 A) := by
    intro x y x0 x1 y0 y1
    obtain ⟨e1, e2, e3⟩ := hF (6 * x + y) (by omega) (by omega)
    have t1 := hT (x * 6 + y) (by omega) (by omega)
    rw [show x * 6 + y = 6 * x + y by omega, e1] at t1
    rw [zcD_at (Or.inl rfl) ⟨x0, x1⟩ ⟨y0, y1⟩, zw0_at A ⟨y0, y1⟩, show x * 6 + y = 6 * x + y by omega, t1]
    refine ⟨fun _ _ => ?_, fun q => by omega⟩
    by_cases c : x = y
    · rw [if_pos c, if_pos c, zkn_lo (by decide)]
      exact ⟨rfl, by omega, by omega, fun _ => by omega, fun _ => rfl⟩
    · rw [if_neg c, if_neg c]
      by_cases c2 : 0 < A (38 + (6 * x + y))
      · rw [if_pos c2, if_neg (by omega), zkn_lo (by omega)]
        exact ⟨rfl, by omega, by omega, fun _ => by omega, fun e => absurd e c⟩
      · rw [if_neg c2, if_pos (by omega), zkn_hi (by omega)]
        exact ⟨rfl, by omega, by omega, fun _ => by omega, fun e => absurd e c⟩
  have e : ∀ T', zrow M 9 T' 2 10 = M 2 10 := fun T' => by rw [zrow_off (by decide)]
  refine sw_close hn hW s9 (by decide) (by decide) (Or.inl rfl) (by decide) hR ?_
  refine wX10_measureWays_48 hn hW ?_
  rw [e]
  have q := h _ (zR_B (Or.inl rfl) (by decide) hR)
  exact ⟨by omega, q⟩
/-! the model's -/
theorem s_mJ (hG : zP G) {s b i B N : Int} {r0 : Int} {nr0 : Nat} (hr0 : zsh r0.toNat = (100, nr0)) (hl : (nr0 : Int) = s * s) (hs : s = 6 ∨ s = 8) (hB : 0 ≤ B ∧ B ≤ 40000) (hN : 0 ≤ N ∧ N ≤ s) (hb : 0 ≤ b ∧ b < N) (hi : 0 ≤ i ∧ i < N) : ∀ (k : Nat) (j : Int) (u : Int → Int), 0 ≤ j → j + k = N → (∃ t, zR s N b B t u) → Y G d mX12_close 10 [(2, r0), (0, N), (0, s), (0, b), (0, i + 1), (9, 0), (9, 0)] [] (zrow M r0 (zlp (zms s b i) k j u)) Q → Y G d mX12_close 19 [(2, r0), (0, N), (0, s), (0, b), (0, i), (0, j), (9, 0)] [] (zrow M r0 u) Q
  | 0, j, u, j0, j1, hR, h => bX12_close_19 hG hr0 ⟨fun _ => ⟨by omega, h⟩, fun c => absurd c (by omega)⟩
  | k + 1, j, u, j0, j1, hR, h => by
    obtain ⟨t, hR⟩ := hR
    have hj : 0 ≤ j ∧ j < N := ⟨j0, by omega⟩
    have q1 := zix hs (i := i) (j := b) ⟨by omega, by omega⟩ ⟨by omega, by omega⟩
    have q2 := zix hs (i := b) (j := j) ⟨by omega, by omega⟩ ⟨by omega, by omega⟩
    have q3 := zix hs (i := i) (j := j) ⟨by omega, by omega⟩ ⟨by omega, by omega⟩
    rw [Int.mul_comm i s] at q1 q3
    rw [Int.mul_comm b s] at q2
    have b1 := (hR i b (by omega) (by omega) (by omega) (by omega)).1 (by omega) (by omega)
    have b2 := (hR b j (by omega) (by omega) (by omega) (by omega)).1 (by omega) (by omega)
    have b3 := (hR i j (by omega) (by omega) (by omega) (by omega)).1 (by omega) (by omega)
    have go : Y G d mX12_close 19 [(2, r0), (0, N), (0, s), (0, b), (0, i), (0, j + 1), (9, 0)] [] (zrow M r0 (zms s b i j u)) Q := s_mJ hG hr0 hl hs hB hN hb hi k (j + 1) _ (by omega) (by omega) ⟨_, zR_step hs hB hN.2 hb hi hj hR⟩ h
    refine bX12_close_19 hG hr0 ⟨fun c => absurd c (by omega), fun _ => ?_⟩
    simp only [zrow_at]
    refine ⟨by omega, by omega, by omega, by omega, by omega, by omega, by omega, by omega, by omega, by omega, fun c => ⟨by omega, ?_⟩, fun c => ⟨by omega, by omega, by omega, by omega, ?_⟩⟩
    · rw [show zms s b i j u = u from if_neg (by omega)] at go; exact go
    · rw [show zms s b i j u = _ from if_pos c] at go; rw [zset_row]; exact go
theorem s_mI (hG : zP G) {s b B N : Int} {r0 : Int} {nr0 : Nat} (hr0 : zsh r0.toNat = (100, nr0)) (hl : (nr0 : Int) = s * s) (hs : s = 6 ∨ s = 8) (hB : 0 ≤ B ∧ B ≤ 40000) (hN : 0 ≤ N ∧ N ≤ s) (hb : 0 ≤ b ∧ b < N) : ∀ (k : Nat) (i : Int) (u : Int → Int), 0 ≤ i → i + k = N → (∃ t, zR s N b B t u) → Y G d mX12_close 2 [(2, r0), (0, N), (0, s), (0, b + 1), (9, 0), (9, 0), (9, 0)] [] (zrow M r0 (zlp (zmJ s N b) k i u)) Q → Y G d mX12_close 10 [(2, r0), (0, N), (0, s), (0, b), (0, i), (9, 0), (9, 0)] [] (zrow M r0 u) Q
  | 0, i, u, i0, i1, hR, h => bX12_close_10 hG hr0 ⟨fun _ => ⟨by omega, h⟩, fun c => absurd c (by omega)⟩
  | k + 1, i, u, i0, i1, hR, h => by
    have hi : 0 ≤ i ∧ i < N := ⟨i0, by omega⟩
    have hnx : ∃ t, zR s N b B t (zmJ s N b i u) := by
      obtain ⟨t, hR⟩ := hR
      exact ⟨_, zR_J hs hB hN hb hi hR⟩
    exact bX12_close_10 hG hr0 ⟨fun c => absurd c (by omega), fun _ => s_mJ hG hr0 hl hs hB hN hb hi N.toNat 0 u (by omega) (by omega) hR (s_mI hG hr0 hl hs hB hN hb k (i + 1) _ (by omega) (by omega) hnx h)⟩
theorem s_mB (hG : zP G) {s N : Int} {r0 : Int} {nr0 : Nat} (hr0 : zsh r0.toNat = (100, nr0)) (hl : (nr0 : Int) = s * s) (hs : s = 6 ∨ s = 8) (hN : 0 ≤ N ∧ N ≤ s) : ∀ (k : Nat) (b : Int) (u : Int → Int), 0 ≤ b → b + k = N → (∃ t, zR s N b (zpw b) t u) → Q (9, 0) (zrow M r0 (zlp (zmI s N) k b u)) → Y G d mX12_close 2 [(2, r0), (0, N), (0, s), (0, b), (9, 0), (9, 0), (9, 0)] [] (zrow M r0 u) Q
  | 0, b, u, b0, b1, hR, h => bX12_close_2 hG hr0 ⟨fun _ => h, fun c => absurd c (by omega)⟩
  | k + 1, b, u, b0, b1, hR, h => by
    have hb : 0 ≤ b ∧ b < N := ⟨b0, by omega⟩
    have hB := zpw_b (i := b) (by omega)
    have hnx : ∃ t, zR s N (b + 1) (zpw (b + 1)) t (zmI s N b u) := by
      obtain ⟨t, hR⟩ := hR
      rw [zpw_s b0]
      exact ⟨_, zR_next hB.1 (zR_I hs hB hN hb hR)⟩
    exact bX12_close_2 hG hr0 ⟨fun c => absurd c (by omega), fun _ => s_mI hG hr0 hl hs hB hN hb N.toNat 0 u (by omega) (by omega) hR (s_mB hG hr0 hl hs hN k (b + 1) _ (by omega) (by omega) hnx h)⟩
/-- a class's table to a model's, so that only the model's is to be told -/
def zun (s n : Int) (u : Int → Int) (k : Int) : Int := if k / s < n ∧ k % s < n then zkn (u k) else if k / s = k % s then 0 else -1
theorem zun_R {s n : Int} {u : Int → Int} (hs : s = 6 ∨ s = 8) (h : ∀ x y, 0 ≤ x → x < n → 0 ≤ y → y < n → 0 ≤ u (s * x + y) ∧ (u (s * x + y) = 100000 ∨ u (s * x + y) ≤ 99) ∧ (x = y → u (s * x + y) = 0)) : zR s n 0 99 (zun s n u) u := by
  intro x y x0 x1 y0 y1
  have e1 : (x * s + y) / s = x := by rcases hs with rfl | rfl <;> omega
  have e2 : (x * s + y) % s = y := by rcases hs with rfl | rfl <;> omega
  have e3 : zun s n u (x * s + y) = if x < n ∧ y < n then zkn (u (x * s + y)) else if x = y then 0 else -1 := by unfold zun; rw [e1, e2]
  rw [e3]
  refine ⟨fun xn yn => ?_, fun q => ?_⟩
  · obtain ⟨h1, h2, h3⟩ := h x y x0 xn y0 yn
    rw [if_pos ⟨xn, yn⟩, Int.mul_comm x s]
    exact ⟨rfl, h1, by omega, fun _ => by omega, h3⟩
  · rw [if_neg (by omega)]
    exact ⟨fun e => if_pos e, fun e => if_neg e⟩
theorem s_mclose (hG : zP G) {s N : Int} {r0 : Int} {nr0 : Nat} (hr0 : zsh r0.toNat = (100, nr0)) (hl : (nr0 : Int) = s * s) (hs : s = 6 ∨ s = 8) (hN : 0 ≤ N ∧ N ≤ s) {u : Int → Int} (hR : ∀ x y, 0 ≤ x → x < N → 0 ≤ y → y < N → 0 ≤ u (s * x + y) ∧ (u (s * x + y) = 100000 ∨ u (s * x + y) ≤ 99) ∧ (x = y → u (s * x + y) = 0)) (h : Q (9, 0) (zrow M r0 (zmB s N u))) : Y G d mX12_close 0 [(2, r0), (0, N), (0, s), (9, 0), (9, 0), (9, 0), (9, 0)] [] (zrow M r0 u) Q :=
  bX12_close_0 hG hr0 (s_mB hG hr0 hl hs hN N.toNat 0 u (by omega) (by omega) ⟨_, zun_R hs hR⟩ h)
end FWF
section FWG
variable {G : zG} {d : Nat} {M : zM} {Q : zV → zM → Prop}
theorem s_isChild (hG : zP G) {c p : Int} (hc : 0 ≤ c ∧ c < 8) (h1 : zic (M 235) c p → Q (0, 1) M) (h2 : ¬ zic (M 235) c p → Q (0, 0) M) : Y G d mX12_isChild 0 [(2, 234), (0, c), (0, p)] [] M Q := by
  have e1 : 14 + 3 * c + 1 = 15 + 3 * c := by omega
  have e2 : 14 + 3 * c + 2 = 16 + 3 * c := by omega
  refine bX12_isChild_0 hG ?_
  rw [e1, e2]
  exact ⟨by omega, by omega, by omega, by omega, fun w => h1 (Or.inl w), fun w => ⟨by omega, by omega, by omega, by omega, fun w2 => h2 (fun q => by rcases q with q | q; exact w q; exact w2 q), fun w2 => h1 (Or.inr w2)⟩⟩
theorem s_fk16 (hG : zP G) {N x : Int} (h8 : 0 ≤ N ∧ N ≤ 8) (hx : 0 ≤ x ∧ x < N) (h : ∀ U, (∀ x' y, 0 ≤ x' → x' < x + 1 → 0 ≤ y → y < N → U (8 * x' + y) = zk0 (M 235) (8 * x' + y)) → Y G (d + 1) mX12_findKin 9 [(2, 234), (0, N), (0, x + 1), (9, 0)] [] (zrow M 237 U) Q) : ∀ (k : Nat) (y : Int) (U : Int → Int), 0 ≤ y → y + k = N → (∀ x' y', 0 ≤ x' → x' < x + 1 → 0 ≤ y' → y' < N → (x' < x ∨ y' < y) → U (8 * x' + y') = zk0 (M 235) (8 * x' + y')) → Y G (d + 1) mX12_findKin 16 [(2, 234), (0, N), (0, x), (0, y)] [] (zrow M 237 U) Q
  | 0, y, U, y0, y1, hI => bX12_findKin_16 hG ⟨fun _ => ⟨by omega, h U (fun x' y' a b c e => hI x' y' a b c e (by omega))⟩, fun c => absurd c (by omega)⟩
  | k + 1, y, U, y0, y1, hI => by
    have go : ∀ v, v = zk0 (M 235) (8 * x + y) → Y G (d + 1) mX12_findKin 16 [(2, 234), (0, N), (0, x), (0, y + 1)] [] (zset (zrow M 237 U) 237 (8 * x + y) v) Q := fun v hv => by
      rw [zset_row]
      refine s_fk16 hG h8 hx h k (y + 1) _ (by omega) (by omega) (fun x' y' a b c e f => ?_)
      by_cases q : x' = x ∧ y' = y
      · obtain ⟨rfl, rfl⟩ := q
        rw [zup_at, hv]
      · rw [zup_ne (by omega)]
        exact hI x' y' a b c e (by omega)
    have z0 := zk0_at (M 235) (x := x) (y := y) ⟨by omega, by omega⟩
    have e : zrow M 237 U 235 = M 235 := zrow_off (by decide)
    refine bX12_findKin_16 hG ⟨fun c => absurd c (by omega), fun _ => ⟨by omega, by omega, fun c => ?_, fun c => ⟨by omega, by omega, go 0 (by rw [z0, if_pos c])⟩⟩⟩
    rw [if_neg c] at z0
    refine s_isChild hG ⟨by omega, by omega⟩ (fun w => ?_) (fun w => ?_)
    · rw [e] at w
      exact bX12_findKin_46 hG ⟨fun _ => ⟨by omega, by omega, go 1 (by rw [z0, if_pos (Or.inl w)])⟩, fun q => absurd q (by decide)⟩
    · rw [e] at w
      refine bX12_findKin_46 hG ⟨fun q => absurd rfl q, fun _ => ?_⟩
      refine s_isChild hG ⟨by omega, by omega⟩ (fun w2 => ?_) (fun w2 => ?_)
      · rw [e] at w2
        exact bX12_findKin_55 hG ⟨fun q => absurd q (by decide), fun _ => ⟨by omega, by omega, go 1 (by rw [z0, if_pos (Or.inr w2)])⟩⟩
      · rw [e] at w2
        exact bX12_findKin_55 hG ⟨fun _ => ⟨by omega, by omega, go 100000 (by rw [z0, if_neg (fun q => by rcases q with q | q; exact w q; exact w2 q)])⟩, fun q => absurd rfl q⟩
theorem s_fk9 (hG : zP G) {N : Int} (h8 : 0 ≤ N ∧ N ≤ 8) (h : ∀ U, (∀ x y, 0 ≤ x → x < N → 0 ≤ y → y < N → U (8 * x + y) = zk0 (M 235) (8 * x + y)) → Y G d mX12_close 0 [(2, 237), (0, N), (0, 8), (9, 0), (9, 0), (9, 0), (9, 0)] [] (zrow M 237 U) (fun r M' => Y G (d + 1) mX12_findKin 87 [(2, 234), (0, N), (0, N), (9, 0)] (zpush r []) M' Q)) : ∀ (k : Nat) (x : Int) (U : Int → Int), 0 ≤ x → x + k = N → (∀ x' y, 0 ≤ x' → x' < x → 0 ≤ y → y < N → U (8 * x' + y) = zk0 (M 235) (8 * x' + y)) → Y G (d + 1) mX12_findKin 9 [(2, 234), (0, N), (0, x), (9, 0)] [] (zrow M 237 U) Q
  | 0, x, U, x0, x1, hI => by
    have : x = N := by omega
    subst this
    exact bX12_findKin_9 hG ⟨fun _ => h U hI, fun c => absurd c (by omega)⟩
  | k + 1, x, U, x0, x1, hI => by
    refine bX12_findKin_9 hG ⟨fun c => absurd c (by omega), fun _ => ?_⟩
    exact s_fk16 hG h8 ⟨x0, by omega⟩ (fun U2 h2 => s_fk9 hG h8 h k (x + 1) U2 (by omega) (by omega) h2) N.toNat 0 U (by omega) (by omega) (fun x' y' a b c e f => hI x' y' a (by omega) c e)
theorem s_fk97 (hG : zP G) {N x : Int} (hr : ∀ k, 0 ≤ k → k < 36 → 0 ≤ M 235 (38 + k) ∧ M 235 (38 + k) ≤ 99) (hx : 0 ≤ x ∧ x < 6) (h : ∀ U, (∀ x' y, 0 ≤ x' → x' < x + 1 → 0 ≤ y → y < 6 → U (6 * x' + y) = zw0 (M 235) (6 * x' + y)) → Y G (d + 1) mX12_findKin 89 [(2, 234), (0, N), (0, x + 1), (9, 0)] [] (zrow M 238 U) Q) : ∀ (k : Nat) (y : Int) (U : Int → Int), 0 ≤ y → y + k = 6 → (∀ x' y', 0 ≤ x' → x' < x + 1 → 0 ≤ y' → y' < 6 → (x' < x ∨ y' < y) → U (6 * x' + y') = zw0 (M 235) (6 * x' + y')) → Y G (d + 1) mX12_findKin 97 [(2, 234), (0, N), (0, x), (0, y)] [] (zrow M 238 U) Q
  | 0, y, U, y0, y1, hI => bX12_findKin_97 hG ⟨fun _ => ⟨by omega, h U (fun x' y' a b c e => hI x' y' a b c e (by omega))⟩, fun c => absurd c (by omega)⟩
  | k + 1, y, U, y0, y1, hI => by
    have go : ∀ v, v = zw0 (M 235) (6 * x + y) → Y G (d + 1) mX12_findKin 97 [(2, 234), (0, N), (0, x), (0, y + 1)] [] (zset (zrow M 238 U) 238 (6 * x + y) v) Q := fun v hv => by
      rw [zset_row]
      refine s_fk97 hG hr hx h k (y + 1) _ (by omega) (by omega) (fun x' y' a b c e f => ?_)
      by_cases q : x' = x ∧ y' = y
      · obtain ⟨rfl, rfl⟩ := q
        rw [zup_at, hv]
      · rw [zup_ne (by omega)]
        exact hI x' y' a b c e (by omega)
    have z0 := zw0_at (M 235) (x := x) (y := y) ⟨by omega, by omega⟩
    have e : zrow M 238 U 235 = M 235 := zrow_off (by decide)
    have e2 : 38 + 6 * x + y = 38 + (6 * x + y) := by omega
    have := hr (6 * x + y) (by omega) (by omega)
    refine bX12_findKin_97 hG ?_
    rw [e, e2]
    refine ⟨fun c => absurd c (by omega), fun _ => ⟨by omega, by omega, fun c => ⟨by omega, by omega, by omega, by omega, fun c2 => ⟨by omega, by omega, go _ ?_⟩, fun c2 => ⟨by omega, by omega, by omega, by omega, by omega, by omega, go _ ?_⟩⟩, fun c => ⟨by omega, by omega, go 0 (by rw [z0, if_pos c])⟩⟩⟩
    · rw [z0, if_neg c, if_neg (by omega)]
    · rw [z0, if_neg c, if_pos c2]
theorem s_fk89 (hG : zP G) {N : Int} (hr : ∀ k, 0 ≤ k → k < 36 → 0 ≤ M 235 (38 + k) ∧ M 235 (38 + k) ≤ 99) (h : ∀ U, (∀ x y, 0 ≤ x → x < 6 → 0 ≤ y → y < 6 → U (6 * x + y) = zw0 (M 235) (6 * x + y)) → Y G d mX12_close 0 [(2, 238), (0, 6), (0, 6), (9, 0), (9, 0), (9, 0), (9, 0)] [] (zrow M 238 U) (fun r M' => Y G (d + 1) mX12_findKin 182 [(2, 234), (0, N), (0, 6), (9, 0)] (zpush r []) M' Q)) : ∀ (k : Nat) (x : Int) (U : Int → Int), 0 ≤ x → x + k = 6 → (∀ x' y, 0 ≤ x' → x' < x → 0 ≤ y → y < 6 → U (6 * x' + y) = zw0 (M 235) (6 * x' + y)) → Y G (d + 1) mX12_findKin 89 [(2, 234), (0, N), (0, x), (9, 0)] [] (zrow M 238 U) Q
  | 0, x, U, x0, x1, hI => by
    have : x = 6 := by omega
    subst this
    exact bX12_findKin_89 hG ⟨fun _ => h U hI, fun c => absurd c (by omega)⟩
  | k + 1, x, U, x0, x1, hI => by
    refine bX12_findKin_89 hG ⟨fun c => absurd c (by omega), fun _ => ?_⟩
    exact s_fk97 hG hr ⟨x0, by omega⟩ (fun U2 h2 => s_fk89 hG hr h k (x + 1) U2 (by omega) (by omega) h2) 6 0 U (by omega) (by omega) (fun x' y' a b c e f => hI x' y' a (by omega) c e)
theorem s_findKin (hG : zP G) {N : Int} (hN : M 235 1 = N) (h8 : 0 ≤ N ∧ N ≤ 8) (hr : ∀ k, 0 ≤ k → k < 36 → 0 ≤ M 235 (38 + k) ∧ M 235 (38 + k) ≤ 99) (h : ∀ U V, zE 8 N U (zmB 8 N (zk0 (M 235))) → zE 6 6 V (zmB 6 6 (zw0 (M 235))) → Q (9, 0) (zrow (zrow M 237 U) 238 V)) : Y G (d + 1) mX12_findKin 0 [(2, 234), (9, 0), (9, 0), (9, 0)] [] M Q := by
  have s1 : zsh (237 : Int).toNat = (100, 64) := by decide +kernel
  have s2 : zsh (238 : Int).toNat = (100, 36) := by decide +kernel
  refine bX12_findKin_0 hG ?_
  rw [hN, show M = zrow M 237 (M 237) from zrow_self.symm]
  refine s_fk9 hG h8 (fun U hU => ?_) N.toNat 0 _ (by omega) (by omega) (fun x' y a b => by omega)
  refine s_mclose hG s1 (by decide) (Or.inr rfl) h8 (fun x y x0 x1 y0 y1 => ?_) ?_
  · rw [hU x y x0 x1 y0 y1, zk0_at _ ⟨y0, by omega⟩]
    by_cases c : x = y
    · rw [if_pos c]; exact ⟨by omega, by omega, fun _ => rfl⟩
    · rw [if_neg c]
      split
      · exact ⟨by omega, by omega, fun e => absurd e c⟩
      · exact ⟨by omega, by omega, fun e => absurd e c⟩
  refine bX12_findKin_87 hG ?_
  have e : ∀ U, zrow M 237 U 235 = M 235 := fun U => zrow_off (by decide)
  rw [show zrow M 237 (zmB 8 N U) = zrow (zrow M 237 (zmB 8 N U)) 238 (zrow M 237 (zmB 8 N U) 238) from zrow_self.symm]
  refine s_fk89 hG (by rw [e]; exact hr) (fun V hV => ?_) 6 0 _ (by omega) (by omega) (fun x' y a b => by omega)
  rw [e] at hV
  refine s_mclose hG s2 (by decide) (Or.inl rfl) (by decide) (fun x y x0 x1 y0 y1 => ?_) ?_
  · rw [hV x y x0 x1 y0 y1, zw0_at _ ⟨y0, by omega⟩]
    have := hr (6 * x + y) (by omega) (by omega)
    by_cases c : x = y
    · rw [if_pos c]; exact ⟨by omega, by omega, fun _ => rfl⟩
    · rw [if_neg c]
      split
      · exact ⟨by omega, by omega, fun e => absurd e c⟩
      · exact ⟨by omega, by omega, fun e => absurd e c⟩
  exact bX12_findKin_182 hG (h _ _ (zE_B (Or.inr rfl) h8.2 hU) (zE_B (Or.inl rfl) (by decide) hV))
end FWG
