section FWK
variable {G : zG} {d n : Nat} {M : zM} {Q : zV → zM → Prop}
theorem zrow_cm {M : zM} {a b : Int} {f g : Int → Int} (h : a ≠ b) : zrow (zrow M a f) b g = zrow (zrow M b g) a f := by
  funext x y
  unfold zrow
  by_cases c : x = b
  · rw [if_pos c, if_neg (by omega), if_pos c]
  · rw [if_neg c]
    by_cases c2 : x = a
    · rw [if_pos c2, if_pos c2]
    · rw [if_neg c2, if_neg c2, if_neg c]
theorem zset_rowo {M : zM} {a b i v : Int} {f : Int → Int} (h : b ≠ a) : zset (zrow M a f) b i v = zrow (zset M b i v) a f := by
  rw [zset_is, zrow_cm h.symm, zrow_off h, ← zset_is]
/-- who is whose child, by the row a -/
abbrev zic (A : Int → Int) (c p : Int) : Prop := A (15 + 3 * c) = p ∨ A (16 + 3 * c) = p
def zk0 (A : Int → Int) (k : Int) : Int := if k / 8 = k % 8 then 0 else if zic A (k / 8) (k % 8) ∨ zic A (k % 8) (k / 8) then 1 else 100000
def zw0 (A : Int → Int) (k : Int) : Int := if k / 6 = k % 6 then 0 else if 0 < A (38 + k) then A (38 + k) else 100000
def zch (A : Int → Int) (p : Int) : Nat → Int
  | 0 => 0
  | k + 1 => zch A p k + if zic A k p then 1 else 0
theorem zk0_at (A : Int → Int) {x y : Int} (hy : 0 ≤ y ∧ y < 8) : zk0 A (8 * x + y) = if x = y then 0 else if zic A x y ∨ zic A y x then 1 else 100000 := by
  unfold zk0
  rw [show (8 * x + y) / 8 = x by omega, show (8 * x + y) % 8 = y by omega]
theorem zw0_at (A : Int → Int) {x y : Int} (hy : 0 ≤ y ∧ y < 6) : zw0 A (6 * x + y) = if x = y then 0 else if 0 < A (38 + (6 * x + y)) then A (38 + (6 * x + y)) else 100000 := by
  unfold zw0
  rw [show (6 * x + y) / 6 = x by omega, show (6 * x + y) % 6 = y by omega]
def zjp (N c p : Int) (T : Int → Int) : Int → Int := if 0 ≤ p ∧ p ≤ N - 1 then zup (zup T (c * 8 + p) 1) (p * 8 + c) 1 else T
def zjc (N p : Int) (K : Int → Int) : Int → Int := if 0 ≤ p ∧ p ≤ N - 1 then zup K p (K p + 1) else K
theorem sw_join (hn : 11 ≤ n) (hW : zW G) {N c p : Int} {T K : Int → Int} (hN : M 2 4 = N) (h8 : 0 ≤ N ∧ N ≤ 8) (hc : 0 ≤ c ∧ c < 8) (hK : ∀ p, 0 ≤ p → p < 8 → 0 ≤ K p ∧ K p ≤ 100) (h : Q (9, 0) (zrow (zrow M 10 (zjc N p K)) 8 (zjp N c p T))) : Yw n G (d + 1) mX10_joinParent 0 [(2, 2), (0, c), (0, p)] [] (zrow (zrow M 10 K) 8 T) Q := by
  have e1 : zrow (zrow M 10 K) 8 T 2 4 = N := by rw [zrow_off (by decide), zrow_off (by decide)]; exact hN
  have e2 : zrow (zrow M 10 K) 8 T 10 p = K p := by rw [zrow_off (by decide), zrow_at]
  refine wX10_joinParent_0 hn hW ?_
  rw [e1, e2]
  refine ⟨by omega, fun q => ?_, fun q => ?_⟩
  · have := hK p q.1 (by omega)
    refine ⟨by omega, by omega, by omega, by omega, by omega, by omega, by omega, by omega, by omega, ?_⟩
    have w1 : zjc N p K = _ := if_pos q
    have w2 : zjp N c p T = _ := if_pos q
    rw [w1, w2] at h
    rw [zset_row, zset_row, zset_rowo (by decide), zset_row]
    exact h
  · have w1 : zjc N p K = _ := if_neg q
    have w2 : zjp N c p T = _ := if_neg q
    rw [w1, w2] at h
    exact h
/-- what stands when the children below i are joined -/
def zKI (A : Int → Int) (N i : Int) (T K : Int → Int) : Prop :=
  (∀ x y, 0 ≤ x → x < 8 → 0 ≤ y → y < 8 → T (x * 8 + y) = if (x < i ∧ y < N ∧ zic A x y) ∨ (y < i ∧ x < N ∧ zic A y x) then 1 else -1) ∧ (∀ p, 0 ≤ p → p < 8 → 0 ≤ K p ∧ K p ≤ 2 * i) ∧ ∀ p, 0 ≤ p → p < N → K p = zch A p i.toNat
theorem zjp_at {N c p : Int} {T : Int → Int} (hN : N ≤ 8) (hc : 0 ≤ c ∧ c < 8) {x y : Int} (hx : 0 ≤ x ∧ x < 8) (hy : 0 ≤ y ∧ y < 8) : zjp N c p T (x * 8 + y) = if p < N ∧ ((x = c ∧ y = p) ∨ (x = p ∧ y = c)) then 1 else T (x * 8 + y) := by
  unfold zjp
  by_cases q : 0 ≤ p ∧ p ≤ N - 1
  · rw [if_pos q]
    by_cases c1 : x = p ∧ y = c
    · obtain ⟨rfl, rfl⟩ := c1
      rw [zup_at, if_pos (by omega)]
    · rw [zup_ne (fun w => c1 (by omega))]
      by_cases c2 : x = c ∧ y = p
      · obtain ⟨rfl, rfl⟩ := c2
        rw [zup_at, if_pos (by omega)]
      · rw [zup_ne (fun w => c2 (by omega)), if_neg (by omega)]
  · rw [if_neg q, if_neg (by omega)]
theorem zKI_step {A : Int → Int} {N i : Int} {T K : Int → Int} (hN : 0 ≤ N ∧ N ≤ 8) (hi : 0 ≤ i ∧ i < N) (hd : A (15 + 3 * i) = A (16 + 3 * i) → A (15 + 3 * i) = -1) (h : zKI A N i T K) : zKI A N (i + 1) (zjp N i (A (16 + 3 * i)) (zjp N i (A (15 + 3 * i)) T)) (zjc N (A (16 + 3 * i)) (zjc N (A (15 + 3 * i)) K)) := by
  obtain ⟨h1, h2, h3⟩ := h
  have kc : ∀ (K : Int → Int) (p q : Int), zjc N q K p = K p + if 0 ≤ q ∧ q < N ∧ q = p then 1 else 0 := fun K p q => by
    unfold zjc
    by_cases c : 0 ≤ q ∧ q ≤ N - 1
    · rw [if_pos c]
      by_cases c2 : p = q
      · subst c2; rw [zup_at, if_pos (by omega)]
      · rw [zup_ne c2, if_neg (by omega)]; omega
    · rw [if_neg c, if_neg (by omega)]; omega
  refine ⟨fun x y x0 x1 y0 y1 => ?_, fun p p0 p1 => ?_, fun p p0 p1 => ?_⟩
  · rw [zjp_at hN.2 ⟨hi.1, by omega⟩ ⟨x0, x1⟩ ⟨y0, y1⟩, zjp_at hN.2 ⟨hi.1, by omega⟩ ⟨x0, x1⟩ ⟨y0, y1⟩, h1 x y x0 x1 y0 y1]
    by_cases c : (x < i + 1 ∧ y < N ∧ zic A x y) ∨ (y < i + 1 ∧ x < N ∧ zic A y x)
    · rw [if_pos c]
      by_cases c1 : A (16 + 3 * i) < N ∧ ((x = i ∧ y = A (16 + 3 * i)) ∨ (x = A (16 + 3 * i) ∧ y = i))
      · rw [if_pos c1]
      · rw [if_neg c1]
        by_cases c2 : A (15 + 3 * i) < N ∧ ((x = i ∧ y = A (15 + 3 * i)) ∨ (x = A (15 + 3 * i) ∧ y = i))
        · rw [if_pos c2]
        · rw [if_neg c2]
          refine if_pos ?_
          rcases c with ⟨a1, a2, a3⟩ | ⟨a1, a2, a3⟩
          · left
            refine ⟨?_, a2, a3⟩
            by_cases e : x = i
            · subst e; omega
            · omega
          · right
            refine ⟨?_, a2, a3⟩
            by_cases e : y = i
            · subst e; omega
            · omega
    · rw [if_neg c, if_neg, if_neg, if_neg]
      · intro w; apply c
        rcases w with ⟨a1, a2, a3⟩ | ⟨a1, a2, a3⟩
        · exact Or.inl ⟨by omega, a2, a3⟩
        · exact Or.inr ⟨by omega, a2, a3⟩
      · rintro ⟨w, ⟨rfl, rfl⟩ | ⟨rfl, rfl⟩⟩
        · exact c (Or.inl ⟨by omega, w, Or.inl rfl⟩)
        · exact c (Or.inr ⟨by omega, w, Or.inl rfl⟩)
      · rintro ⟨w, ⟨rfl, rfl⟩ | ⟨rfl, rfl⟩⟩
        · exact c (Or.inl ⟨by omega, w, Or.inr rfl⟩)
        · exact c (Or.inr ⟨by omega, w, Or.inr rfl⟩)
  · rw [kc, kc]
    have := h2 p p0 p1
    split <;> split <;> omega
  · rw [kc, kc, h3 p p0 p1, show (i + 1).toNat = i.toNat + 1 by omega]
    show _ = zch A p i.toNat + if zic A (i.toNat : Int) p then 1 else 0
    rw [show (i.toNat : Int) = i by omega]
    by_cases c1 : A (15 + 3 * i) = p
    · rw [if_pos (show 0 ≤ A (15 + 3 * i) ∧ A (15 + 3 * i) < N ∧ A (15 + 3 * i) = p by omega), if_neg (by omega), if_pos (Or.inl c1)]; omega
    · rw [if_neg (by omega)]
      by_cases c2 : A (16 + 3 * i) = p
      · rw [if_pos (by omega), if_pos (Or.inr c2)]; omega
      · rw [if_neg (by omega), if_neg (by omega)]; omega
theorem sw_kl (hn : 11 ≤ n) (hW : zW G) {A : Int → Int} {N : Int} (hN : M 2 4 = N) (h8 : 0 ≤ N ∧ N ≤ 8) (hF : ∀ c, 0 ≤ c → c < N → M 5 c = A (15 + 3 * c) ∧ M 6 c = A (16 + 3 * c) ∧ (A (15 + 3 * c) = A (16 + 3 * c) → A (15 + 3 * c) = -1)) (h : ∀ T K, zKI A N N T K → Yw n G (d + 1) mX10_closeTable 0 [(2, 8), (0, 8), (9, 0), (9, 0), (9, 0), (9, 0), (9, 0), (9, 0)] [] (zrow (zrow M 10 K) 8 T) (fun r M' => Yw n G (d + 2) mX10_measureKin 63 [(2, 2), (0, N)] (zpush r []) M' Q)) : ∀ (k : Nat) (i : Int) (T K : Int → Int), 0 ≤ i → i + k = N → zKI A N i T K → Yw n G (d + 2) mX10_measureKin 18 [(2, 2), (0, i)] [] (zrow (zrow M 10 K) 8 T) Q
  | 0, i, T, K, i0, i1, hI => by
    have e1 : zrow (zrow M 10 K) 8 T 2 4 = N := by rw [zrow_off (by decide), zrow_off (by decide)]; exact hN
    refine wX10_measureKin_18 hn hW ?_
    rw [e1]
    refine ⟨fun _ => ?_, fun c => absurd c (by omega)⟩
    have : i = N := by omega
    subst this
    exact h T K hI
  | k + 1, i, T, K, i0, i1, hI => by
    have e1 : zrow (zrow M 10 K) 8 T 2 4 = N := by rw [zrow_off (by decide), zrow_off (by decide)]; exact hN
    obtain ⟨f1, f2, f3⟩ := hF i i0 (by omega)
    have hnx := zKI_step h8 ⟨i0, by omega⟩ f3 hI
    refine wX10_measureKin_18 hn hW ?_
    rw [e1, zrow_off (show (5 : Int) ≠ 8 by decide), zrow_off (show (5 : Int) ≠ 10 by decide), f1]
    refine ⟨fun c => absurd c (by omega), fun _ => ⟨by omega, ?_⟩⟩
    refine sw_join hn hW hN h8 ⟨i0, by omega⟩ (fun p p0 p1 => by have := hI.2.1 p p0 p1; omega) ?_
    refine wX10_measureKin_37 hn hW ?_
    rw [zrow_off (show (6 : Int) ≠ 8 by decide), zrow_off (show (6 : Int) ≠ 10 by decide), f2]
    refine ⟨by omega, ?_⟩
    refine sw_join hn hW hN h8 ⟨i0, by omega⟩ (fun p p0 p1 => ?_) ?_
    · have := hI.2.1 p p0 p1
      unfold zjc
      split
      · by_cases c : p = A (15 + 3 * i)
        · rw [c, zup_at, ← c]; omega
        · rw [zup_ne c]; omega
      · omega
    exact wX10_measureKin_48 hn hW ⟨by omega, sw_kl hn hW hN h8 hF h k (i + 1) _ _ (by omega) (by omega) hnx⟩
theorem zKI_R {A : Int → Int} {N : Int} {T K : Int → Int} (h : zKI A N N T K) : zR 8 N 0 99 (zcD 8 T) (zk0 A) := by
  intro x y x0 x1 y0 y1
  rw [zcD_at (Or.inr rfl) ⟨x0, x1⟩ ⟨y0, y1⟩, h.1 x y x0 x1 y0 y1, zk0_at A ⟨y0, y1⟩]
  refine ⟨fun xn yn => ?_, fun q => ⟨fun e => if_pos e, fun e => ?_⟩⟩
  · by_cases c : x = y
    · rw [if_pos c, if_pos c, zkn_lo (by decide)]
      refine ⟨rfl, by omega, by omega, fun _ => by omega, fun _ => rfl⟩
    · rw [if_neg c, if_neg c]
      by_cases c2 : zic A x y ∨ zic A y x
      · rw [if_pos c2, zkn_lo (by decide), if_pos]
        · exact ⟨rfl, by omega, by omega, fun _ => by omega, fun e => absurd e c⟩
        · rcases c2 with w | w
          · exact Or.inl ⟨xn, yn, w⟩
          · exact Or.inr ⟨yn, xn, w⟩
      · rw [if_neg c2, zkn_hi (by decide), if_neg]
        · exact ⟨rfl, by omega, by omega, fun _ => by omega, fun e => absurd e c⟩
        · rintro (w | w)
          · exact c2 (Or.inl w.2.2)
          · exact c2 (Or.inr w.2.2)
  · rw [if_neg e, if_neg (by omega)]
theorem zKI_0 {A : Int → Int} {N : Int} (hN : N ≤ 8) {T0 K0 : Int → Int} : zKI A N 0 (zfil T0 (-1) 64) (zfil K0 0 8) := by
  refine ⟨fun x y x0 x1 y0 y1 => ?_, fun p p0 p1 => ?_, fun p p0 p1 => ?_⟩
  · rw [if_neg (by omega)]
    exact if_pos (by omega)
  · have : zfil K0 0 8 p = 0 := if_pos ⟨p0, p1⟩
    omega
  · have : zfil K0 0 8 p = 0 := if_pos ⟨p0, by omega⟩
    rw [this]; rfl
end FWK
