section PL2
variable {G : zG} {d : Nat} {M : zM} {Q : zV → zM → Prop}
/-! bits -/
theorem b_nI {x i : Nat} (hi : i < 32) : bt (nI x) i = x.testBit i := by
  show (BitVec.ofNat 32 x).getLsbD i = x.testBit i
  rw [BitVec.getLsbD_ofNat]
  simp [hi]
theorem zan_n {a b : Nat} (ha : a < 2 ^ 31) : zand a (zxor b (-1)) = ((a ^^^ (a &&& b) : Nat) : Int) := by
  have hl : a ^^^ (a &&& b) < 2 ^ 31 := Nat.xor_lt_two_pow ha (Nat.lt_of_le_of_lt Nat.and_le_left ha)
  have e : Int32.ofInt (a : Int) &&& Int32.ofInt (zxor (b : Int) (-1)) = nI (a ^^^ (a &&& b)) := by
    have e1 : Int32.ofInt (zxor (b : Int) (-1)) = nI b ^^^ (-1) := z_as _
    rw [e1]
    apply b_ext
    intro i hi
    rw [b_and, b_xor, b_m1 i hi, b_nI hi, b_nI hi, Nat.testBit_xor, Nat.testBit_and]
    show (bt (nI a) i && _) = _
    rw [b_nI hi]
    cases a.testBit i <;> cases b.testBit i <;> rfl
  show (Int32.ofInt (a : Int) &&& Int32.ofInt (zxor (b : Int) (-1))).toInt = _
  rw [e, nI_toInt hl]
theorem zan_b {a b i : Nat} : (a ^^^ (a &&& b)).testBit i = (a.testBit i && !b.testBit i) := by
  rw [Nat.testBit_xor, Nat.testBit_and]
  cases a.testBit i <;> cases b.testBit i <;> rfl
theorem zor_b {a k : Nat} (ha : a < 2 ^ 31) (hk : k < 31) : zor (a : Int) (zshl 1 (k : Int)) = ((a ||| 2 ^ k : Nat) : Int) := by
  rw [zshl1_n hk]
  exact zor_n ha (Nat.pow_lt_pow_right (by decide) hk)
def pl_bs (f : Nat → Bool) : Nat → Nat
  | 0 => 0
  | k + 1 => if f k = true then pl_bs f k ||| 2 ^ k else pl_bs f k
theorem pl_bs_l {f : Nat → Bool} : ∀ k : Nat, pl_bs f k < 2 ^ k
  | 0 => by show 0 < 1; omega
  | k + 1 => by
    have q := pl_bs_l (f := f) k
    have p2 : 2 ^ k < 2 ^ (k + 1) := Nat.pow_lt_pow_right (by decide) (by omega)
    show (if f k = true then pl_bs f k ||| 2 ^ k else pl_bs f k) < 2 ^ (k + 1)
    split
    · exact Nat.or_lt_two_pow (by omega) p2
    · omega
theorem pl_bs_b {f : Nat → Bool} {i : Nat} : ∀ k : Nat, (pl_bs f k).testBit i = (decide (i < k) && f i)
  | 0 => by
    show (0 : Nat).testBit i = _
    simp
  | k + 1 => by
    have q := pl_bs_b (f := f) (i := i) k
    show (if f k = true then pl_bs f k ||| 2 ^ k else pl_bs f k).testBit i = _
    by_cases c : f k = true
    · rw [if_pos c, Nat.testBit_or, q, Nat.testBit_two_pow]
      by_cases e : k = i
      · rw [← e, c, decide_eq_true (show k < k + 1 by omega)]; simp
      · rw [decide_eq_false e, Bool.or_false]
        congr 1
        by_cases z : i < k
        · rw [decide_eq_true z, decide_eq_true (by omega)]
        · rw [decide_eq_false z, decide_eq_false (by omega)]
    · rw [if_neg c, q]
      by_cases e : k = i
      · rw [← e]
        have : f k = false := by simpa using c
        rw [this, Bool.and_false, Bool.and_false]
      · congr 1
        by_cases z : i < k
        · rw [decide_eq_true z, decide_eq_true (by omega)]
        · rw [decide_eq_false z, decide_eq_false (by omega)]
theorem pl_bs_e {f g : Nat → Bool} : ∀ k : Nat, (∀ i, i < k → f i = g i) → pl_bs f k = pl_bs g k
  | 0, _ => rfl
  | k + 1, h => by
    show (if f k = true then pl_bs f k ||| 2 ^ k else pl_bs f k) = (if g k = true then pl_bs g k ||| 2 ^ k else pl_bs g k)
    rw [pl_bs_e k (fun i hi => h i (by omega)), h k (by omega)]
theorem p12_31 {n : Nat} (h : n ≤ 12) : 2 ^ n ≤ 4096 := show 2 ^ n ≤ 2 ^ 12 from Nat.pow_le_pow_right (by decide) h
/-- the first bit -/
def pl_fb (f : Nat → Bool) : Nat → Nat → Option Nat
  | 0, _ => none
  | r + 1, q => if f q = true then some q else pl_fb f r (q + 1)
def pl_v : Option Nat → Int
  | none => -1
  | some q => q
theorem pl_fb_low {f : Nat → Bool} {C : Nat → Nat → Bool} {L : Nat → Nat} {U p : Nat} : ∀ (r q : Nat), (∀ i, q ≤ i → i < q + r → f i = (C p i && !U.testBit (L i))) → pl_fb f r q = pl_low C L U p r q
  | 0, q, _ => rfl
  | r + 1, q, h => by
    show (if f q = true then some q else pl_fb f r (q + 1)) = (if (C p q && !U.testBit (L q)) = true then some q else pl_low C L U p r (q + 1))
    rw [h q (by omega) (by omega), pl_fb_low r (q + 1) (fun i i0 i1 => h i (by omega) (by omega))]
theorem s_lowestOf (hG : zP G) {B nq : Nat} (hB : B < 2 ^ 31) (hn : M 165 5 = nq ∧ nq ≤ 12) (h : Q (0, pl_v (pl_fb (fun i => B.testBit i) nq 0)) M) : Y G d mX2_lowestOf 0 [(2, 165), (0, (B : Int)), (9, 0)] [] M Q := by
  have lp : ∀ (r q : Nat), q + r = nq → Q (0, pl_v (pl_fb (fun i => B.testBit i) r q)) M → Y G d mX2_lowestOf 2 [(2, 165), (0, (B : Int)), (0, (q : Int))] [] M Q := fun r => by
    induction r with
    | zero => exact fun q hq h => bX2_lowestOf_2 hG ⟨fun _ => h, fun c => absurd c (by omega)⟩
    | succ r ih =>
      intro q hq h
      have e : pl_fb (fun i => B.testBit i) (r + 1) q = if B.testBit q = true then some q else pl_fb (fun i => B.testBit i) r (q + 1) := rfl
      rw [e] at h
      have hz := zbt_c (x := (B : Int)) (t := (q : Int)) (by omega) (by omega)
      have hz2 : zbt (B : Int) (q : Int) = B.testBit q := rfl
      rw [hz2] at hz
      refine bX2_lowestOf_2 hG ⟨fun c => absurd c (by omega), fun _ => ⟨fun c => ⟨by omega, ih (q + 1) (by omega) ?_⟩, fun c => ?_⟩⟩
      · rw [if_neg (by rw [hz.mp c]; decide)] at h; exact h
      · have hb : B.testBit q = true := by
          cases w : B.testBit q with
          | true => rfl
          | false => exact absurd (hz.mpr w) c
        rw [if_pos hb] at h; exact h
  exact bX2_lowestOf_0 hG (lp nq 0 (by omega) h)
/-- what the plans were looked up from -/
def pl_Cx (M : zM) (C : Nat → Nat → Bool) (L : Nat → Nat) (nq np : Nat) : Prop := (M 165 4 = np ∧ M 165 5 = nq) ∧ (np ≤ 6 ∧ nq ≤ 12) ∧ (∀ p : Nat, p < np → M 166 p = (pl_bs (C p) nq : Int)) ∧ (∀ q : Nat, q < nq → M 167 q = (pl_bs (fun i => L i == L q) nq : Int)) ∧ ∀ q, q < nq → L q < nq
def pl_Br (L : Nat → Nat) (nq U B : Nat) : Prop := B < 2 ^ nq ∧ ∀ i, i < nq → B.testBit i = U.testBit (L i)
theorem pl_Br_0 {L : Nat → Nat} {nq : Nat} : pl_Br L nq 0 0 := ⟨Nat.two_pow_pos nq, fun i _ => by simp⟩
theorem pl_Br_s {L : Nat → Nat} {nq U B q : Nat} (h : pl_Br L nq U B) : pl_Br L nq (U ||| 2 ^ L q) (B ||| pl_bs (fun i => L i == L q) nq) := by
  refine ⟨Nat.or_lt_two_pow h.1 (pl_bs_l nq), fun i hi => ?_⟩
  rw [Nat.testBit_or, Nat.testBit_or, h.2 i hi, pl_bs_b, decide_eq_true hi, Nat.testBit_two_pow, Bool.true_and]
  congr 1
  by_cases c : L i = L q
  · rw [c, decide_eq_true rfl]; simp
  · rw [decide_eq_false (fun z => c z.symm)]; simpa using c
section CX
variable {C : Nat → Nat → Bool} {L : Nat → Nat} {nq np : Nat}
theorem pl_Cx_m {M' : zM} (h : pl_Cx M C L nq np) (e4 : M' 165 4 = M 165 4) (e5 : M' 165 5 = M 165 5) (e6 : ∀ i, M' 166 i = M 166 i) (e7 : ∀ i, M' 167 i = M 167 i) : pl_Cx M' C L nq np := by
  obtain ⟨h1, h2, h3, h4, h5⟩ := h
  exact ⟨⟨by rw [e4]; exact h1.1, by rw [e5]; exact h1.2⟩, h2, fun p hp => by rw [e6]; exact h3 p hp, fun q hq => by rw [e7]; exact h4 q hq, h5⟩
theorem pl_next (hG : zP G) (hX : pl_Cx M C L nq np) {U B p : Nat} (hB : pl_Br L nq U B) (hp : p < np) (h : Q (0, pl_v (pl_lw C L nq U p)) M) : Y G d mX2_lowestOf 0 [(2, 165), (0, zand (M 166 p) (zxor (B : Int) (-1))), (9, 0)] [] M Q := by
  obtain ⟨h1, h2, h3, h4, h5⟩ := hX
  have l1 := pl_bs_l (f := C p) nq
  have l2 := p12_31 h2.2
  rw [h3 p hp, zan_n (by omega)]
  refine s_lowestOf (nq := nq) hG (Nat.xor_lt_two_pow (by omega) (Nat.lt_of_le_of_lt Nat.and_le_left (by omega))) ⟨h1.2, h2.2⟩ ?_
  rw [pl_fb_low (C := C) (L := L) (U := U) (p := p) nq 0 (fun i _ hi => ?_)]
  · exact h
  · show (pl_bs (C p) nq ^^^ (pl_bs (C p) nq &&& B)).testBit i = _
    rw [zan_b, pl_bs_b, decide_eq_true (by omega), Bool.true_and, hB.2 i (by omega)]
abbrev pl_fe (C : Nat → Nat → Bool) (L : Nat → Nat) (nq np k who U W p : Nat) : Bool := match pl_lw C L nq U p with
  | none => false
  | some q => pl_ex C L nq np k (who ||| 2 ^ p) (U ||| 2 ^ L q) W
theorem s_explore (hG : zP G) : ∀ (k : Nat) (M : zM) (who U B depth d : Nat) (Q : zV → zM → Prop), pl_Cx M C L nq np → k + depth = np → who < 64 → pl_Br L nq U B → (∀ M', zfr [(168, 0, 1000000)] M M' → (∀ W : Nat, W < 64 → M' 168 W = if pl_ex C L nq np k who U W = true then 1 else M 168 W) → Q (9, 0) M') → Y G (d + k + 1) mX2_explore 0 [(2, 165), (0, (who : Int)), (0, (B : Int)), (0, (depth : Int)), (9, 0), (9, 0)] [] M Q
  | 0, M, who, U, B, depth, d, Q, hX, hk, hw, hB, h => by
    have n6 := hX.2.1
    have e64 : zand (who : Int) (64 - 1) = (who : Int) := by
      have q : who &&& 63 = who := (by decide +kernel : ∀ w : Nat, w < 64 → w &&& 63 = w) who hw
      have := zand_n (a := who) (b := 63) (by omega)
      rw [q] at this
      exact this
    refine bX2_explore_0 hG ?_
    rw [e64]
    have e4 : zset M 168 (who : Int) 1 165 4 = np := by rw [zset_off (by decide)]; exact hX.1.1
    have hQ : Q (9, 0) (zset M 168 (who : Int) 1) := by
      refine h _ (zfr_set zfr_rfl (zhit_at 0 rfl ⟨by omega, by omega⟩)) (fun W hW => ?_)
      show _ = if (W == who) = true then (1 : Int) else M 168 W
      by_cases c : W = who
      · rw [c, zset_same, if_pos (by simp)]
      · rw [zset_ne (fun z => c (by have := z.2; omega)), if_neg (by simpa using c)]
    refine ⟨by omega, bX2_explore_18 hG ?_⟩
    rw [e4]
    exact ⟨fun _ => hQ, fun c => ⟨fun _ => hQ, fun c2 => absurd c2 (by omega)⟩⟩
  | k + 1, M, who, U, B, depth, d, Q, hX, hk, hw, hB, h => by
    have n6 := hX.2.1
    have e64 : zand (who : Int) (64 - 1) = (who : Int) := by
      have q : who &&& 63 = who := (by decide +kernel : ∀ w : Nat, w < 64 → w &&& 63 = w) who hw
      have := zand_n (a := who) (b := 63) (by omega)
      rw [q] at this
      exact this
    refine bX2_explore_0 hG ?_
    rw [e64]
    refine ⟨by omega, ?_⟩
    have lp : ∀ (r p : Nat) (M1 : zM), p + r = np → zfr [(168, 0, 1000000)] M M1 → (∀ W : Nat, W < 64 → M1 168 W = if (W == who || ((List.range p).filter (fun p => !who.testBit p)).any (fun p => pl_fe C L nq np k who U W p)) = true then 1 else M 168 W) → Y G (d + (k + 1) + 1) mX2_explore 18 [(2, 165), (0, (who : Int)), (0, (B : Int)), (0, (depth : Int)), (0, (p : Int)), (9, 0)] [] M1 Q := fun r => by
      induction r with
      | zero =>
        intro p M1 hp hf hM
        have : p = np := by omega
        subst this
        have e4 : M1 165 4 = p := by rw [hf 165 4 (by unfold zhw zhit; decide)]; exact hX.1.1
        exact bX2_explore_18 hG ⟨fun _ => h M1 hf hM, fun c => absurd c (by omega)⟩
      | succ r ih =>
        intro p M1 hp hf hM
        have e4 : M1 165 4 = np := by rw [hf 165 4 (by unfold zhw zhit; decide)]; exact hX.1.1
        have row : ∀ a, (a = 165 ∨ a = 166 ∨ a = 167) → ∀ i, 0 ≤ i → i < 100 → M1 a i = M a i := fun a ha i i0 i1 => hf a i (by unfold zhw zhit; simp; omega)
        have X1 : pl_Cx M1 C L nq np := by
          obtain ⟨h1, h2, h3, h4, h5⟩ := hX
          exact ⟨⟨e4, by rw [row 165 (by omega) 5 (by decide) (by decide)]; exact h1.2⟩, h2, fun p hp => by rw [row 166 (by omega) _ (by omega) (by omega)]; exact h3 p hp, fun q hq => by rw [row 167 (by omega) _ (by omega) (by omega)]; exact h4 q hq, h5⟩
        have hpn : p < np := by omega
        have rs : ∀ W, ((List.range (p + 1)).filter (fun p => !who.testBit p)).any (fun p => pl_fe C L nq np k who U W p) = (((List.range p).filter (fun p => !who.testBit p)).any (fun p => pl_fe C L nq np k who U W p) || (!who.testBit p && pl_fe C L nq np k who U W p)) := fun W => by
          rw [List.range_succ, List.filter_append, List.any_append]
          congr 1
          rw [List.filter_cons]
          cases hb : who.testBit p <;> simp
        have hz := zbt_c (x := (who : Int)) (t := (p : Int)) (by omega) (by omega)
        have hz2 : zbt (who : Int) (p : Int) = who.testBit p := rfl
        rw [hz2] at hz
        refine bX2_explore_18 hG ?_
        rw [e4]
        refine ⟨fun c => absurd c (by omega), fun _ => ⟨fun c => absurd c (by omega), fun _ => ⟨by omega, pl_next hG X1 hB hpn (bX2_explore_50 hG ?_)⟩⟩⟩
        refine ⟨fun c => ⟨by omega, ih (p + 1) M1 (by omega) hf (fun W hW => ?_)⟩, fun c => ⟨fun c2 => ⟨by omega, ih (p + 1) M1 (by omega) hf (fun W hW => ?_)⟩, fun c2 => ?_⟩⟩
        · have hb : who.testBit p = true := by
            cases w : who.testBit p with
            | true => rfl
            | false => exact absurd (hz.mpr w) c
          rw [hM W hW, rs, hb, Bool.not_true, Bool.false_and, Bool.or_false]
        · have hn : pl_lw C L nq U p = none := by
            cases w : pl_lw C L nq U p with
            | none => rfl
            | some q => rw [w] at c2; exact absurd c2 (by show ¬ ((q : Int) = -1); omega)
          rw [hM W hW, rs]
          unfold pl_fe
          rw [hn, Bool.and_false, Bool.or_false]
        · cases w : pl_lw C L nq U p with
          | none => rw [w] at c2; exact absurd rfl c2
          | some q =>
            have qs := pl_low_s nq 0 q w
            have hb := hz.mp c
            have wl : who ||| 2 ^ p < 64 := Nat.or_lt_two_pow (n := 6) hw (show 2 ^ p < 2 ^ 6 from Nat.pow_lt_pow_right (by decide) (by omega))
            have l2 := p12_31 n6.2
            have hb12 := hB.1
            rw [(pl_or_tab p (by omega) who hw hb).2]
            refine ⟨?_, by omega, ?_⟩
            · show (0 : Int) ≤ (q : Int) ∧ (q : Int) < 12
              omega
            · show Y G (d + (k + 1)) mX2_explore 0 [(2, 165), (0, ((who ||| 2 ^ p : Nat) : Int)), (0, zor (B : Int) (M1 167 (q : Int))), (0, (depth : Int) + 1), (9, 0), (9, 0)] [] M1 _
              rw [X1.2.2.2.1 q (by omega), zor_n (by omega) (by have := pl_bs_l (f := fun i => L i == L q) nq; omega)]
              refine s_explore hG k M1 (who ||| 2 ^ p) (U ||| 2 ^ L q) (B ||| pl_bs (fun i => L i == L q) nq) (depth + 1) d _ X1 (by omega) wl (pl_Br_s hB) (fun M2 hf2 hM2 => bX2_explore_89 hG ⟨by omega, ih (p + 1) M2 (by omega) (zfr_trans hf hf2) (fun W hW => ?_)⟩)
              have fe : pl_fe C L nq np k who U W p = pl_ex C L nq np k (who ||| 2 ^ p) (U ||| 2 ^ L q) W := by
                unfold pl_fe
                rw [w]
              rw [hM2 W hW, hM W hW, rs, hb, fe, Bool.not_false, Bool.true_and, ← Bool.or_assoc]
              generalize pl_ex C L nq np k (who ||| 2 ^ p) (U ||| 2 ^ L q) W = e1
              generalize (W == who || ((List.range p).filter (fun p => !who.testBit p)).any (fun p => pl_fe C L nq np k who U W p)) = e2
              cases e1 <;> cases e2 <;> rfl
    refine lp np 0 _ (by omega) (zfr_set zfr_rfl (zhit_at 0 rfl ⟨by omega, by omega⟩)) (fun W hW => ?_)
    show _ = if (W == who || ([].filter (fun p => !who.testBit p)).any (fun p => pl_fe C L nq np k who U W p)) = true then (1 : Int) else M 168 W
    by_cases c : W = who
    · rw [c, zset_same, if_pos (by simp)]
    · rw [zset_ne (fun z => c (by have := z.2; omega)), if_neg (by simpa using c)]
theorem s_exploreAll (hG : zP G) (hX : pl_Cx M C L nq np) (h : ∀ M', zfr [(168, 0, 1000000)] M M' → (∀ W : Nat, W < 64 → M' 168 W = if pl_ex C L nq np np 0 0 W = true then 1 else 0) → Q (9, 0) M') : Y G (d + np + 2) mX2_exploreAll 0 [(2, 165), (9, 0)] [] M Q := by
  have lp : ∀ (r w : Nat) (M1 : zM), w + r = 64 → zfr [(168, 0, 1000000)] M M1 → (∀ W : Nat, W < w → M1 168 W = 0) → Y G (d + np + 1 + 1) mX2_exploreAll 2 [(2, 165), (0, (w : Int))] [] M1 Q := fun r => by
    induction r with
    | zero =>
      intro w M1 hw hf hM
      have row : ∀ a, (a = 165 ∨ a = 166 ∨ a = 167) → ∀ i, 0 ≤ i → i < 100 → M1 a i = M a i := fun a ha i i0 i1 => hf a i (by unfold zhw zhit; simp; omega)
      have X1 : pl_Cx M1 C L nq np := by
        obtain ⟨h1, h2, h3, h4, h5⟩ := hX
        exact ⟨⟨by rw [row 165 (by omega) 4 (by decide) (by decide)]; exact h1.1, by rw [row 165 (by omega) 5 (by decide) (by decide)]; exact h1.2⟩, h2, fun p hp => by rw [row 166 (by omega) _ (by omega) (by omega)]; exact h3 p hp, fun q hq => by rw [row 167 (by omega) _ (by omega) (by omega)]; exact h4 q hq, h5⟩
      refine bX2_exploreAll_2 hG ⟨fun _ => ?_, fun c => absurd c (by omega)⟩
      refine s_explore hG np M1 0 0 0 0 d _ X1 (by omega) (by decide) pl_Br_0 (fun M2 hf2 hM2 => bX2_exploreAll_31 hG (h M2 (zfr_trans hf hf2) (fun W hW => ?_)))
      rw [hM2 W hW, hM W (by omega)]
    | succ r ih =>
      intro w M1 hw hf hM
      refine bX2_exploreAll_2 hG ⟨fun c => absurd c (by omega), fun _ => ⟨by omega, by omega, ih (w + 1) _ (by omega) (zfr_set hf (zhit_at 0 rfl ⟨by omega, by omega⟩)) (fun W hW => ?_)⟩⟩
      by_cases c : W = w
      · rw [c, zset_same]
      · rw [zset_ne (fun z => c (by have := z.2; omega))]; exact hM W (by omega)
  exact bX2_exploreAll_0 hG (lp 64 0 M (by omega) zfr_rfl (fun W hW => absurd hW (by omega)))
def pl_mx (f : Nat → Bool) : Nat → Int
  | 0 => 0
  | k + 1 => if f k = true then max (pl_mx f k) (zpc k : Int) else pl_mx f k
theorem pl_mx_s {f : Nat → Bool} : ∀ k : Nat, (0 ≤ pl_mx f k ∧ ∀ W, W < k → f W = true → (zpc W : Int) ≤ pl_mx f k) ∧ (pl_mx f k = 0 ∨ ∃ W, W < k ∧ f W = true ∧ (zpc W : Int) = pl_mx f k)
  | 0 => ⟨⟨Int.le_refl _, fun W hW => absurd hW (by omega)⟩, Or.inl rfl⟩
  | k + 1 => by
    obtain ⟨⟨a1, a2⟩, a3⟩ := pl_mx_s (f := f) k
    have e : pl_mx f (k + 1) = if f k = true then max (pl_mx f k) (zpc k : Int) else pl_mx f k := rfl
    rw [e]
    by_cases c : f k = true
    · rw [if_pos c]
      refine ⟨⟨by omega, fun W hW hf => ?_⟩, ?_⟩
      · by_cases z : W = k
        · rw [z]; omega
        · have := a2 W (by omega) hf; omega
      · by_cases z : pl_mx f k ≤ (zpc k : Int)
        · exact Or.inr ⟨k, by omega, c, by rw [Int.max_eq_right z]⟩
        · rw [Int.max_eq_left (by omega)]
          rcases a3 with w | ⟨W, w1, w2, w3⟩
          · exact Or.inl w
          · exact Or.inr ⟨W, by omega, w2, w3⟩
    · rw [if_neg c]
      refine ⟨⟨a1, fun W hW hf => ?_⟩, ?_⟩
      · by_cases z : W = k
        · rw [z] at hf; exact absurd hf c
        · exact a2 W (by omega) hf
      · rcases a3 with w | ⟨W, w1, w2, w3⟩
        · exact Or.inl w
        · exact Or.inr ⟨W, by omega, w2, w3⟩
theorem s_mostWhoCan (hG : zP G) (hX : pl_Cx M C L nq np) (h : ∀ M', zfr [(168, 0, 1000000)] M M' → Q (0, pl_mx (fun W => pl_ex C L nq np np 0 0 W) 64) M') : Y G (d + np + 3) mX2_mostWhoCan 0 [(2, 165), (9, 0), (9, 0)] [] M Q := by
  refine bX2_mostWhoCan_0 hG (s_exploreAll hG hX (fun M' hf hM => bX2_mostWhoCan_4 hG ?_))
  have hQ := h M' hf
  have lp : ∀ (r w : Nat), w + r = 64 → Y G (d + np + 2 + 1) mX2_mostWhoCan 8 [(2, 165), (0, pl_mx (fun W => pl_ex C L nq np np 0 0 W) w), (0, (w : Int))] [] M' Q := fun r => by
    induction r with
    | zero =>
      intro w hw
      have : w = 64 := by omega
      subst this
      exact bX2_mostWhoCan_8 hG ⟨fun _ => hQ, fun c => absurd c (by decide)⟩
    | succ r ih =>
      intro w hw
      have nx := ih (w + 1) (by omega)
      have e : pl_mx (fun W => pl_ex C L nq np np 0 0 W) (w + 1) = if pl_ex C L nq np np 0 0 w = true then max (pl_mx (fun W => pl_ex C L nq np np 0 0 W) w) (zpc w : Int) else pl_mx (fun W => pl_ex C L nq np np 0 0 W) w := rfl
      rw [e] at nx
      refine bX2_mostWhoCan_8 hG ?_
      rw [hM w (by omega)]
      refine ⟨fun c => absurd c (by omega), fun _ => ⟨by omega, ?_⟩⟩
      by_cases c : pl_ex C L nq np np 0 0 w = true
      · rw [if_pos c] at nx ⊢
        exact ⟨fun z => absurd z (by decide), fun _ => s_bc hG (by omega) (bX2_mostWhoCan_31 hG ⟨by omega, nx⟩)⟩
      · rw [if_neg c] at nx ⊢
        exact ⟨fun _ => ⟨by omega, nx⟩, fun z => absurd rfl z⟩
  exact lp 64 0 (by omega)
def pl_sh (f : Nat → Bool) (all : Nat) : Nat → Nat
  | 0 => all
  | k + 1 => if f k = true ∧ zpc k < zpc (pl_sh f all k) then k else pl_sh f all k
theorem pl_sh_s {f : Nat → Bool} {all : Nat} : ∀ k : Nat, k ≤ all + 1 → zpc (pl_sh f all k) ≤ zpc all ∧ pl_sh f all k ≤ all
  | 0, _ => ⟨Nat.le_refl _, Nat.le_refl _⟩
  | k + 1, hk => by
    have q := pl_sh_s (f := f) (all := all) k (by omega)
    show zpc (if f k = true ∧ zpc k < zpc (pl_sh f all k) then k else pl_sh f all k) ≤ zpc all ∧ (if f k = true ∧ zpc k < zpc (pl_sh f all k) then k else pl_sh f all k) ≤ all
    split
    · next c => exact ⟨by have := c.2; omega, by omega⟩
    · exact q
theorem pl_sh_e {f g : Nat → Bool} {all : Nat} : ∀ k : Nat, (∀ i, i < k → f i = g i) → pl_sh f all k = pl_sh g all k
  | 0, _ => rfl
  | k + 1, h => by
    show (if f k = true ∧ zpc k < zpc (pl_sh f all k) then k else pl_sh f all k) = (if g k = true ∧ zpc k < zpc (pl_sh g all k) then k else pl_sh g all k)
    rw [pl_sh_e k (fun i hi => h i (by omega)), h k (by omega)]
theorem pl_all_tab : ∀ n : Nat, n < 7 → zshl 1 (n : Int) - 1 = ((2 ^ n - 1 : Nat) : Int) ∧ ∀ s : Nat, s < 2 ^ n → (2 ^ n - 1) ^^^ ((2 ^ n - 1) &&& s) = 2 ^ n - 1 - s := by decide +kernel
theorem s_fewestToShut (hG : zP G) (hX : pl_Cx M C L nq np) (h : ∀ M', zfr [(168, 0, 1000000)] M M' → Q (0, (pl_sh (fun s => pl_ex C L nq np np 0 0 (2 ^ np - 1 - s)) (2 ^ np - 1) (2 ^ np - 1) : Int)) M') : Y G (d + np + 3) mX2_fewestToShut 0 [(2, 165), (9, 0), (9, 0), (9, 0)] [] M Q := by
  have n6 := hX.2.1
  have h64 := zpw6 n6.1
  have h1 := Nat.two_pow_pos np
  obtain ⟨ta, tb⟩ := pl_all_tab np (by omega)
  refine bX2_fewestToShut_0 hG (s_exploreAll hG hX (fun M' hf hM => bX2_fewestToShut_4 hG ?_))
  have e4 : M' 165 4 = np := by rw [hf 165 4 (by unfold zhw zhit; decide)]; exact hX.1.1
  rw [e4, ta]
  refine ⟨by omega, ?_⟩
  have hQ := h M' hf
  have lp : ∀ (r k : Nat), k + r = 2 ^ np → Y G (d + np + 2 + 1) mX2_fewestToShut 17 [(2, 165), (0, ((2 ^ np - 1 : Nat) : Int)), (0, (pl_sh (fun s => pl_ex C L nq np np 0 0 (2 ^ np - 1 - s)) (2 ^ np - 1) k : Int)), (0, (k : Int))] [] M' Q := fun r => by
    induction r with
    | zero =>
      intro k hk
      refine bX2_fewestToShut_17 hG ⟨fun _ => ?_, fun c => absurd c (by omega)⟩
      have hs := pl_sh_s (f := fun s => pl_ex C L nq np np 0 0 (2 ^ np - 1 - s)) (all := 2 ^ np - 1) (2 ^ np - 1) (by omega)
      have e : pl_sh (fun s => pl_ex C L nq np np 0 0 (2 ^ np - 1 - s)) (2 ^ np - 1) k = pl_sh (fun s => pl_ex C L nq np np 0 0 (2 ^ np - 1 - s)) (2 ^ np - 1) (2 ^ np - 1) := by
        have hk' : k = (2 ^ np - 1) + 1 := by omega
        rw [hk']
        show (if _ ∧ zpc (2 ^ np - 1) < zpc (pl_sh (fun s => pl_ex C L nq np np 0 0 (2 ^ np - 1 - s)) (2 ^ np - 1) (2 ^ np - 1)) then _ else _) = _
        rw [if_neg (fun z => by have := z.2; omega)]
      rw [e]; exact hQ
    | succ r ih =>
      intro k hk
      have nx := ih (k + 1) (by omega)
      have e : pl_sh (fun s => pl_ex C L nq np np 0 0 (2 ^ np - 1 - s)) (2 ^ np - 1) (k + 1) = if pl_ex C L nq np np 0 0 (2 ^ np - 1 - k) = true ∧ zpc k < zpc (pl_sh (fun s => pl_ex C L nq np np 0 0 (2 ^ np - 1 - s)) (2 ^ np - 1) k) then k else pl_sh (fun s => pl_ex C L nq np np 0 0 (2 ^ np - 1 - s)) (2 ^ np - 1) k := rfl
      rw [e] at nx
      have hs := pl_sh_s (f := fun s => pl_ex C L nq np np 0 0 (2 ^ np - 1 - s)) (all := 2 ^ np - 1) k (by omega)
      generalize pl_sh (fun s => pl_ex C L nq np np 0 0 (2 ^ np - 1 - s)) (2 ^ np - 1) k = b at *
      refine bX2_fewestToShut_17 hG ?_
      rw [zan_n (by omega), tb k (by omega), hM (2 ^ np - 1 - k) (by omega)]
      refine ⟨fun c => absurd c (by omega), fun _ => ⟨by omega, ?_⟩⟩
      by_cases c : pl_ex C L nq np np 0 0 (2 ^ np - 1 - k) = true
      · rw [if_pos c]
        refine ⟨fun z => absurd z (by decide), fun _ => s_bc hG (by omega) (bX2_fewestToShut_39 hG (s_bc hG (by omega) (bX2_fewestToShut_43 hG ⟨fun z => ⟨by omega, ?_⟩, fun z => ⟨by omega, ?_⟩⟩)))⟩
        · rw [if_neg (fun w => by have := w.2; omega)] at nx; exact nx
        · rw [if_pos ⟨c, by omega⟩] at nx; exact nx
      · rw [if_neg c]
        rw [if_neg (fun w => c w.1)] at nx
        exact ⟨fun _ => ⟨by omega, nx⟩, fun z => absurd rfl z⟩
  exact lp (2 ^ np) 0 (by omega)
end CX
end PL2
