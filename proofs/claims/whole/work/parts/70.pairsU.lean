section PU
variable {G : zG} {d : Nat} {M : zM} {Q : zV → zM → Prop}
theorem zj_A (hJ : zJ M) : zVA (M 235) := hJ.1
theorem zj_I (hJ : zJ M) : zVA (M 236) := hJ.2.1
theorem zj_j1 (hJ : zJ M) : zJ1 M := hJ.2.2.1
theorem zj_j2 (hJ : zJ M) : zJ2 M := hJ.2.2.2.1
theorem zj_j3 (hJ : zJ M) : zJ3 M := hJ.2.2.2.2.1
theorem zj_j4 (hJ : zJ M) : zJ4 M := hJ.2.2.2.2.2.1
theorem zj_j10 (hJ : zJ M) : zJ10 M := hJ.2.2.2.2.2.2.1
theorem zj_j5 (hJ : zJ M) : zJ5 M := hJ.2.2.2.2.2.2.2.1
theorem zj_j6 (hJ : zJ M) : zJ6 M := hJ.2.2.2.2.2.2.2.2.1
theorem zj_j7 (hJ : zJ M) : zJ7 M := hJ.2.2.2.2.2.2.2.2.2.1
theorem zj_j8 (hJ : zJ M) : zJ8 M := hJ.2.2.2.2.2.2.2.2.2.2.1
theorem zj_j9 (hJ : zJ M) : zJ9 M := hJ.2.2.2.2.2.2.2.2.2.2.2.1
theorem zj_j11 (hJ : zJ M) : zJ11 M := hJ.2.2.2.2.2.2.2.2.2.2.2.2.1
theorem zj_j12 (hJ : zJ M) : zJ12 M := hJ.2.2.2.2.2.2.2.2.2.2.2.2.2.1
theorem zj_j13 (hJ : zJ M) : zJ13 M := hJ.2.2.2.2.2.2.2.2.2.2.2.2.2.2.1
theorem zj_j14 (hJ : zJ M) : zJ14 M := hJ.2.2.2.2.2.2.2.2.2.2.2.2.2.2.2.1
theorem zj_j15 (hJ : zJ M) : zJ15 M := hJ.2.2.2.2.2.2.2.2.2.2.2.2.2.2.2.2.1
theorem zj_j18 (hJ : zJ M) : zJ18 M := hJ.2.2.2.2.2.2.2.2.2.2.2.2.2.2.2.2.2.1
theorem zj_j19 (hJ : zJ M) : zJ19 M := hJ.2.2.2.2.2.2.2.2.2.2.2.2.2.2.2.2.2.2.1
theorem zj_j16 (hJ : zJ M) : zJ16 M := hJ.2.2.2.2.2.2.2.2.2.2.2.2.2.2.2.2.2.2.2.1
theorem zj_j17 (hJ : zJ M) : zJ17 M := hJ.2.2.2.2.2.2.2.2.2.2.2.2.2.2.2.2.2.2.2.2.1
theorem zj_jF (hJ : zJ M) : zJF M := hJ.2.2.2.2.2.2.2.2.2.2.2.2.2.2.2.2.2.2.2.2.2.1
theorem zj_jS (hJ : zJ M) : zJS M M := hJ.2.2.2.2.2.2.2.2.2.2.2.2.2.2.2.2.2.2.2.2.2.2.1
theorem zj_ver (hJ : zJ M) : 0 ≤ M 2 10 := hJ.2.2.2.2.2.2.2.2.2.2.2.2.2.2.2.2.2.2.2.2.2.2.2.1
theorem zj_C (hJ : zJ M) : zJC M := hJ.2.2.2.2.2.2.2.2.2.2.2.2.2.2.2.2.2.2.2.2.2.2.2.2

/-! sets of pupils -/
def zpc (s : Nat) : Nat := s % 2 + s / 2 % 2 + s / 4 % 2 + s / 8 % 2 + s / 16 % 2 + s / 32 % 2
theorem zsp_tab : ∀ s : Nat, s < 64 → ∀ p : Nat, p < 6 → s.testBit p = true → zand (s : Int) (zxor (zshl 1 (p : Int)) (-1)) = ((s - 2 ^ p : Nat) : Int) ∧ zpc (s - 2 ^ p) + 1 = zpc s ∧ 2 ^ p ≤ s := by decide +kernel
theorem zsp_pc : ∀ n : Nat, n < 7 → ∀ s : Nat, s < 2 ^ n → zpc s ≤ n ∧ ((∀ i, i < n → s.testBit i = false) → s = 0) := by decide +kernel
theorem zsp_p0 : ∀ s : Nat, s < 64 → (zpc s = 0 ↔ s = 0) := by decide +kernel
theorem zsp_or : ∀ k : Nat, k < 6 → ∀ x : Nat, x < 2 ^ k → zor (x : Int) (zshl 1 (k : Int)) = ((x + 2 ^ k : Nat) : Int) ∧ zor (x : Int) 0 = (x : Int) := by decide +kernel
theorem zpw6 {n : Nat} (h : n ≤ 6) : 2 ^ n ≤ 64 := show 2 ^ n ≤ 2 ^ 6 from Nat.pow_le_pow_right (by decide) h
/-- the youngest of a set -/
def zyg (f : Int → Int) (s : Int) : Nat → Int → Int → Int
  | 0, _, b => b
  | r + 1, p, b => zyg f s r (p + 1) (if zbt s p = true ∧ (b = -1 ∨ f p < f b) then p else b)
theorem zyg_r {f : Int → Int} {s : Int} : ∀ (r : Nat) (p b : Int), 0 ≤ p → (b = -1 ∨ (0 ≤ b ∧ b < p ∧ zbt s b = true)) → (zyg f s r p b = -1 ∧ b = -1 ∧ ∀ i, p ≤ i → i < p + r → zbt s i = false) ∨ (0 ≤ zyg f s r p b ∧ zyg f s r p b < p + r ∧ zbt s (zyg f s r p b) = true)
  | 0, p, b, p0, hb => by
    show (b = -1 ∧ b = -1 ∧ ∀ i, p ≤ i → i < p + (0 : Nat) → zbt s i = false) ∨ (0 ≤ b ∧ b < p + (0 : Nat) ∧ zbt s b = true)
    rcases hb with e | ⟨q1, q2, q3⟩
    · exact Or.inl ⟨e, e, fun i i0 i1 => absurd i1 (by omega)⟩
    · exact Or.inr ⟨q1, by omega, q3⟩
  | r + 1, p, b, p0, hb => by
    have e : zyg f s (r + 1) p b = zyg f s r (p + 1) (if zbt s p = true ∧ (b = -1 ∨ f p < f b) then p else b) := rfl
    rw [e]
    by_cases c : zbt s p = true ∧ (b = -1 ∨ f p < f b)
    · rw [if_pos c]
      rcases zyg_r (f := f) (s := s) r (p + 1) p (by omega) (Or.inr ⟨p0, by omega, c.1⟩) with q | q
      · exact absurd q.2.1 (by omega)
      · exact Or.inr ⟨q.1, by have := q.2.1; omega, q.2.2⟩
    · rw [if_neg c]
      rcases zyg_r (f := f) (s := s) r (p + 1) b (by omega) (by rcases hb with z | ⟨q1, q2, q3⟩; exact Or.inl z; exact Or.inr ⟨q1, by omega, q3⟩) with q | q
      · refine Or.inl ⟨q.1, q.2.1, fun i i0 i1 => ?_⟩
        by_cases ci : i = p
        · cases hz : zbt s i with
          | false => rfl
          | true => rw [ci] at hz; exact absurd ⟨hz, Or.inl q.2.1⟩ c
        · exact q.2.2 i (by omega) (by omega)
      · exact Or.inr ⟨q.1, by have := q.2.1; omega, q.2.2⟩
theorem zyg_s {f : Int → Int} {s n : Nat} (hn : n ≤ 6) (hs : s < 2 ^ n) (h0 : s ≠ 0) : ∃ p : Nat, zyg f s n 0 (-1) = (p : Int) ∧ p < n ∧ s.testBit p = true := by
  rcases zyg_r (f := f) (s := (s : Int)) n 0 (-1) (by omega) (Or.inl rfl) with q | q
  · exfalso
    refine h0 ((zsp_pc n (by omega) s hs).2 (fun i hi => ?_))
    have := q.2.2 i (by omega) (by omega)
    exact this
  · obtain ⟨p, hp⟩ := Int.eq_ofNat_of_zero_le q.1
    refine ⟨p, hp, by omega, ?_⟩
    have := q.2.2
    rw [hp] at this
    exact this
theorem s_cyg (hG : zP G) {s n : Int} {f : Int → Int} (hs : 0 ≤ s ∧ s ≤ 63) (hn : M 157 5 = n ∧ 0 ≤ n ∧ n ≤ 6) (hf : ∀ p, 0 ≤ p → p < n → M 158 p = f p) : ∀ (r : Nat) (p b : Int), 0 ≤ p → p + r = n → -1 ≤ b → b < p → Q (0, zyg f s r p b) M → Y G d mX6_youngest 4 [(2, 157), (0, s), (0, b), (0, p)] [] M Q
  | 0, p, b, p0, p1, b0, b1, h => bX6_youngest_4 hG ⟨fun _ => h, fun c => absurd c (by omega)⟩
  | r + 1, p, b, p0, p1, b0, b1, h => by
    have e : zyg f s (r + 1) p b = zyg f s r (p + 1) (if zbt s p = true ∧ (b = -1 ∨ f p < f b) then p else b) := rfl
    rw [e] at h
    have nx := fun b' c0 c1 h' => s_cyg hG hs hn hf r (p + 1) b' (by omega) (by omega) c0 c1 h'
    refine bX6_youngest_4 hG ?_
    rw [hn.1]
    have hz := zbt_c (x := s) (t := p) (by omega) (by omega)
    refine ⟨fun c => absurd c (by omega), fun _ => ⟨fun c => ⟨by omega, nx b b0 (by omega) ?_⟩, fun c => ?_⟩⟩
    · rw [if_neg (fun z => by rw [hz.mp c] at z; exact absurd z.1 (by decide))] at h; exact h
    · have hb : zbt s p = true := by
        cases hq : zbt s p with
        | true => rfl
        | false => exact absurd (hz.mpr hq) c
      refine ⟨fun c2 => ⟨by omega, nx p (by omega) (by omega) ?_⟩, fun c2 => ⟨by omega, by omega, fun c3 => ⟨by omega, nx b b0 (by omega) ?_⟩, fun c3 => ⟨by omega, nx p (by omega) (by omega) ?_⟩⟩⟩
      · rw [if_pos ⟨hb, Or.inl c2⟩] at h; exact h
      · rw [hf p p0 (by omega), hf b (by omega) (by omega)] at c3
        rw [if_neg (fun z => by rcases z.2 with y | y <;> omega)] at h; exact h
      · rw [hf p p0 (by omega), hf b (by omega) (by omega)] at c3
        rw [if_pos ⟨hb, Or.inr c3⟩] at h; exact h
theorem s_myg (hG : zP G) {s n : Int} {f : Int → Int} (hs : 0 ≤ s ∧ s ≤ 63) (hn : M 235 2 = n ∧ 0 ≤ n ∧ n ≤ 6) (hf : ∀ p, 0 ≤ p → p < n → M 235 (74 + 5 * p) = f p) : ∀ (r : Nat) (p b : Int), 0 ≤ p → p + r = n → -1 ≤ b → b < p → Q (0, zyg f s r p b) M → Y G (d + 1) mX12_youngest 4 [(2, 234), (0, s), (0, b), (0, p)] [] M Q
  | 0, p, b, p0, p1, b0, b1, h => bX12_youngest_4 hG ⟨fun _ => h, fun c => absurd c (by omega)⟩
  | r + 1, p, b, p0, p1, b0, b1, h => by
    have e : zyg f s (r + 1) p b = zyg f s r (p + 1) (if zbt s p = true ∧ (b = -1 ∨ f p < f b) then p else b) := rfl
    rw [e] at h
    have nx := fun b' c0 c1 h' => s_myg hG hs hn hf r (p + 1) b' (by omega) (by omega) c0 c1 h'
    refine bX12_youngest_4 hG ?_
    rw [hn.1, Int.add_zero, Int.add_zero]
    have hz := zbt_m (x := s) (t := p) (by omega) (by omega)
    refine ⟨fun c => absurd c (by omega), fun _ => ⟨fun c => ?_, fun c => ⟨by omega, nx b b0 (by omega) ?_⟩⟩⟩
    · have hb : zbt s p = true := hz.mp c
      refine ⟨fun c2 => ⟨by omega, nx p (by omega) (by omega) ?_⟩, fun c2 => ⟨by omega, by omega, fun c3 => ⟨by omega, nx b b0 (by omega) ?_⟩, fun c3 => ⟨by omega, nx p (by omega) (by omega) ?_⟩⟩⟩
      · rw [if_pos ⟨hb, Or.inl (by omega)⟩] at h; exact h
      · rw [hf p p0 (by omega), hf b (by omega) (by omega)] at c3
        rw [if_neg (fun z => by rcases z.2 with y | y <;> omega)] at h; exact h
      · rw [hf p p0 (by omega), hf b (by omega) (by omega)] at c3
        rw [if_pos ⟨hb, Or.inr c3⟩] at h; exact h
    · rw [if_neg (fun z => c (hz.mpr z.1))] at h; exact h
/-- who hasn't asked -/
def zwai (h : Int → Bool) : Nat → Nat
  | 0 => 0
  | k + 1 => if h k = true then zwai h k else zwai h k + 2 ^ k
theorem zwai_r {h : Int → Bool} : ∀ k : Nat, zwai h k < 2 ^ k
  | 0 => by show 0 < 1; omega
  | k + 1 => by
    have q := zwai_r (h := h) k
    have p2 : 2 ^ (k + 1) = 2 ^ k + 2 ^ k := by rw [Nat.pow_succ]; omega
    show (if h k = true then zwai h k else zwai h k + 2 ^ k) < 2 ^ (k + 1)
    split <;> omega
theorem s_cwait (hG : zP G) {P : zM} {n : Nat} (n5 : 0 ≤ P 235 5 ∧ P 235 5 ≤ 6) (h9 : M 157 9 = P 235 5) (h163 : ∀ i, 0 ≤ i → i < P 235 5 → M 163 i = P 235 (104 + 2 * i)) (hn : M 157 5 = n ∧ n ≤ 6) (h : Q (0, (zwai (zha P) n : Int)) M) : Y G (d + 1) mX6_whoHasNotAsked 0 [(2, 157), (9, 0), (9, 0)] [] M Q := by
  have lp : ∀ (r k : Nat), k + r = n → Y G (d + 1) mX6_whoHasNotAsked 4 [(2, 157), (0, (zwai (zha P) k : Int)), (0, (k : Int))] [] M Q := fun r => by
    induction r with
    | zero =>
      intro k hk
      have : k = n := by omega
      subst this
      exact bX6_whoHasNotAsked_4 hG ⟨fun _ => h, fun c => absurd c (by omega)⟩
    | succ r ih =>
      intro k hk
      have st : zwai (zha P) (k + 1) = if zha P k = true then zwai (zha P) k else zwai (zha P) k + 2 ^ k := rfl
      have nx := ih (k + 1) (by omega)
      rw [st] at nx
      refine bX6_whoHasNotAsked_4 hG ⟨fun c => absurd c (by omega), fun _ => s_chasAsked hG n5 h9 h163 (bX6_whoHasNotAsked_17 hG ?_)⟩
      by_cases c : zha P k = true
      · rw [if_pos c] at nx ⊢
        exact ⟨fun _ => ⟨by omega, nx⟩, fun z => absurd z (by decide)⟩
      · rw [if_neg c] at nx ⊢
        refine ⟨fun z => absurd rfl z, fun _ => ⟨by omega, ?_⟩⟩
        rw [(zsp_or k (by omega) _ (zwai_r k)).1]
        exact nx
  exact bX6_whoHasNotAsked_0 hG (lp n 0 (by omega))
theorem s_mwait (hG : zP G) {n : Nat} (n5 : 0 ≤ M 235 5 ∧ M 235 5 ≤ 6) (hn : M 235 2 = n ∧ n ≤ 6) (h : Q (0, (zwai (zha M) n : Int)) M) : Y G (d + 1) mX12_waiting 0 [(2, 234), (9, 0), (9, 0)] [] M Q := by
  have lp : ∀ (r k : Nat), k + r = n → Y G (d + 1) mX12_waiting 4 [(2, 234), (0, (zwai (zha M) k : Int)), (0, (k : Int))] [] M Q := fun r => by
    induction r with
    | zero =>
      intro k hk
      have : k = n := by omega
      subst this
      exact bX12_waiting_4 hG ⟨fun _ => h, fun c => absurd c (by omega)⟩
    | succ r ih =>
      intro k hk
      have st : zwai (zha M) (k + 1) = if zha M k = true then zwai (zha M) k else zwai (zha M) k + 2 ^ k := rfl
      have nx := ih (k + 1) (by omega)
      rw [st] at nx
      refine bX12_waiting_4 hG ⟨fun c => absurd c (by omega), fun _ => s_mhasAsked hG n5 (bX12_waiting_20 hG ?_)⟩
      by_cases c : zha M k = true
      · rw [if_pos c] at nx ⊢
        refine ⟨fun z => absurd z (by decide), fun _ => ⟨by omega, ?_⟩⟩
        rw [(zsp_or k (by omega) _ (zwai_r k)).2]
        exact nx
      · rw [if_neg c] at nx ⊢
        refine ⟨fun _ => ⟨by omega, ?_⟩, fun z => absurd rfl z⟩
        rw [(zsp_or k (by omega) _ (zwai_r k)).1]
        exact nx
  exact bX12_waiting_0 hG (lp n 0 (by omega))
theorem zhb_e {f g : Int → Int} {p : Int} : ∀ k : Nat, (∀ i, 0 ≤ i → i < (k : Int) → f i = g i) → zhb f p k = zhb g p k
  | 0, _ => rfl
  | k + 1, h => by
    show (zhb f p k || decide (f k = p)) = (zhb g p k || decide (g k = p))
    rw [zhb_e k (fun i i0 i1 => h i i0 (by omega)), h k (by omega) (by omega)]
theorem zha_e {X P : zM} (n5 : 0 ≤ P 235 5 ∧ P 235 5 ≤ 6) (e : ∀ i, 0 ≤ i → i < 156 → X 235 i = P 235 i) (p : Int) : zha X p = zha P p := by
  unfold zha
  rw [e 5 (by decide) (by decide)]
  exact zhb_e _ (fun i i0 i1 => e _ (by omega) (by omega))
/-! one asks, in both -/
def zak (P : zM) (p q : Int) : zM := zset (zset (zset (zset (zset (zset P 163 (P 235 5) p) 164 (P 235 5) q) 157 9 (P 235 5 + 1)) 235 (104 + 2 * P 235 5) p) 235 (105 + 2 * P 235 5) q) 235 5 (P 235 5 + 1)
theorem zak_o {P : zM} {p q a i : Int} (c1 : ¬ (a = 163 ∧ i = P 235 5)) (c2 : ¬ (a = 164 ∧ i = P 235 5)) (c3 : ¬ (a = 157 ∧ i = 9)) (c4 : ¬ (a = 235 ∧ (i = 5 ∨ i = 104 + 2 * P 235 5 ∨ i = 105 + 2 * P 235 5))) : zak P p q a i = P a i := by
  unfold zak
  rw [zset_ne (fun z => c4 ⟨z.1, Or.inl z.2⟩), zset_ne (fun z => c4 ⟨z.1, Or.inr (Or.inr z.2)⟩), zset_ne (fun z => c4 ⟨z.1, Or.inr (Or.inl z.2)⟩), zset_ne c3, zset_ne c2, zset_ne c1]
theorem zak_5 {P : zM} {p q : Int} : zak P p q 235 5 = P 235 5 + 1 := zset_same
theorem zak_p {P : zM} {p q : Int} (h : 0 ≤ P 235 5) : zak P p q 235 (104 + 2 * P 235 5) = p := by
  unfold zak
  rw [zset_ne (fun z => by have := z.2; omega), zset_ne (fun z => by have := z.2; omega), zset_same]
theorem zak_q {P : zM} {p q : Int} (h : 0 ≤ P 235 5) : zak P p q 235 (105 + 2 * P 235 5) = q := by
  unfold zak
  rw [zset_ne (fun z => by have := z.2; omega), zset_same]
theorem zak_163 {P : zM} {p q i : Int} : zak P p q 163 i = if i = P 235 5 then p else P 163 i := by
  unfold zak
  rw [zset_off (by decide), zset_off (by decide), zset_off (by decide), zset_off (by decide), zset_off (by decide)]
  by_cases c : i = P 235 5
  · rw [if_pos c, c, zset_same]
  · rw [if_neg c, zset_ne (fun z => c z.2)]
theorem zak_164 {P : zM} {p q i : Int} : zak P p q 164 i = if i = P 235 5 then q else P 164 i := by
  unfold zak
  rw [zset_off (by decide), zset_off (by decide), zset_off (by decide), zset_off (by decide)]
  by_cases c : i = P 235 5
  · rw [if_pos c, c, zset_same]
  · rw [if_neg c, zset_ne (fun z => c z.2), zset_off (by decide)]
theorem zak_9 {P : zM} {p q : Int} : zak P p q 157 9 = P 235 5 + 1 := by
  unfold zak
  rw [zset_off (by decide), zset_off (by decide), zset_off (by decide), zset_same]
theorem zroom {P : zM} {p : Int} (hA : zVA (P 235)) (hp : 0 ≤ p ∧ p < P 235 2) (nh : zha P p = false) : P 235 5 < P 235 2 := by
  obtain ⟨n5, sq⟩ := zV5_s hA
  have n2 := hA.2.2.1.1
  obtain ⟨k, hk⟩ := Int.eq_ofNat_of_zero_le n5.1
  obtain ⟨m, hm⟩ := Int.eq_ofNat_of_zero_le n2.1
  have v5 := hA.2.2.2.2.2.1
  have room : k + 1 ≤ m := by
    refine zpig m (fun i => if i = (k : Int) then p else P 235 (104 + 2 * i)) (k + 1) (fun i i0 i1 => ?_) (fun i j i0 ij j1 => ?_)
    · show 0 ≤ (if i = (k : Int) then p else P 235 (104 + 2 * i)) ∧ (if i = (k : Int) then p else P 235 (104 + 2 * i)) < (m : Int)
      by_cases c : i = (k : Int)
      · rw [if_pos c]; omega
      · rw [if_neg c]
        have := (v5.2.1 i i0 (by omega)).1
        omega
    · show (if i = (k : Int) then p else P 235 (104 + 2 * i)) ≠ (if j = (k : Int) then p else P 235 (104 + 2 * j))
      rw [if_neg (by omega)]
      by_cases c : j = (k : Int)
      · rw [if_pos c]
        intro z
        have : zha P p = true := by unfold zha; exact zhb_t _ i i0 (by omega) z
        rw [nh] at this; exact absurd this (by decide)
      · rw [if_neg c]; exact v5.2.2 i j i0 ij (by omega)
  omega
theorem J_ak {P : zM} {p q : Int} (hJ : zJ P) (hp : 0 ≤ p ∧ p < P 235 2) (hq : 0 ≤ q ∧ q < P 235 0) (nh : zha P p = false) : zJn P (zak P p q) := by
  have n2 := hJ.1.2.2.1.1
  have n5 := (zV5_s hJ.1).1
  have rm := zroom hJ.1 hp nh
  refine J_ask (p := p) (q := q) hJ (fun a i hn => ?_) hp hq nh (fun i hi => zak_o (by omega) (by omega) (by omega) (by omega)) (fun i hi => zak_o (by omega) (by omega) (by omega) (by omega)) zak_5 (zak_p n5.1) (zak_q n5.1) zak_9 (fun i => zak_163) (fun i => zak_164)
  have nn : ∀ k lo hi, [(163, 0, 6), (164, 0, 6), (157, 9, 10), (235, 104, 116), ((235 : Int), (5 : Int), (6 : Int))][k]? = some (a, lo, hi) → ¬ (lo ≤ i ∧ i < hi) := fun k lo hi hk z => hn (Or.inr (Or.inr (zhit_at k hk z)))
  refine zak_o (fun z => ?_) (fun z => ?_) (fun z => ?_) (fun z => ?_)
  · obtain ⟨z1, z2⟩ := z; subst z1; exact nn 0 0 6 rfl (by omega)
  · obtain ⟨z1, z2⟩ := z; subst z1; exact nn 1 0 6 rfl (by omega)
  · obtain ⟨z1, z2⟩ := z; subst z1; exact nn 2 9 10 rfl (by omega)
  · obtain ⟨z1, z2⟩ := z; subst z1
    have w1 := nn 3 104 116 rfl
    have w2 := nn 4 5 6 rfl
    omega
end PU
