section PL7
/-! the game, pure -/
def gm_mv : Nat → Nat → Nat → Nat → Bool
  | 0, _, _, _ => false
  | f + 1, x, y, z => (decide (0 < z) && !gm_mv f y x (z - 1)) || (decide (0 < x) && !gm_mv f y (x - 1) z)
theorem gm_mv_s {f x y z : Nat} : gm_mv (f + 1) x y z = ((decide (0 < z) && !gm_mv f y x (z - 1)) || (decide (0 < x) && !gm_mv f y (x - 1) z)) := rfl
theorem gm_st : ∀ (f x y z : Nat), x + y + z < f → gm_mv (f + 1) x y z = gm_mv f x y z
  | 0, x, y, z, h => absurd h (by omega)
  | f + 1, x, y, z, h => by
    have e1 : gm_mv (f + 1 + 1) x y z = ((decide (0 < z) && !gm_mv (f + 1) y x (z - 1)) || (decide (0 < x) && !gm_mv (f + 1) y (x - 1) z)) := rfl
    have e2 : gm_mv (f + 1) x y z = ((decide (0 < z) && !gm_mv f y x (z - 1)) || (decide (0 < x) && !gm_mv f y (x - 1) z)) := rfl
    rw [e1, e2]
    congr 1
    · by_cases c : 0 < z
      · rw [gm_st f y x (z - 1) (by omega)]
      · rw [decide_eq_false c, Bool.false_and, Bool.false_and]
    · by_cases c : 0 < x
      · rw [gm_st f y (x - 1) z (by omega)]
      · rw [decide_eq_false c, Bool.false_and, Bool.false_and]
def gm_ct (f : Nat → Bool) (U : Nat) : Nat → Nat
  | 0 => 0
  | k + 1 => gm_ct f U k + (if (f k && !U.testBit k) = true then 1 else 0)
theorem gm_ct_s {f : Nat → Bool} {U k : Nat} : gm_ct f U (k + 1) = gm_ct f U k + (if (f k && !U.testBit k) = true then 1 else 0) := rfl
theorem gm_ct_out {f : Nat → Bool} {U c : Nat} : ∀ n : Nat, (c < n → f c = false) → gm_ct f (U ||| 2 ^ c) n = gm_ct f U n
  | 0, _ => rfl
  | n + 1, h => by
    rw [gm_ct_s, gm_ct_s, gm_ct_out n (fun z => h (by omega))]
    congr 1
    by_cases e : c = n
    · rw [← e, h (by omega), Bool.false_and, Bool.false_and]
    · rw [Nat.testBit_or, Nat.testBit_two_pow, decide_eq_false e, Bool.or_false]
theorem gm_ct_in {f : Nat → Bool} {U c : Nat} (hf : f c = true) (hU : U.testBit c = false) : ∀ n : Nat, c < n → gm_ct f (U ||| 2 ^ c) n + 1 = gm_ct f U n
  | 0, h => absurd h (by omega)
  | n + 1, h => by
    rw [gm_ct_s, gm_ct_s]
    by_cases e : c = n
    · rw [← e, gm_ct_out c (fun z => absurd z (by omega)), hf, hU, Nat.testBit_or, hU, Nat.testBit_two_pow, decide_eq_true rfl]
      rfl
    · have := gm_ct_in hf hU n (by omega)
      rw [Nat.testBit_or, Nat.testBit_two_pow, decide_eq_false e, Bool.or_false]
      omega
theorem gm_ct_pos {f : Nat → Bool} {U : Nat} : ∀ n : Nat, (0 < gm_ct f U n ↔ ∃ c, c < n ∧ f c = true ∧ U.testBit c = false)
  | 0 => ⟨fun h => absurd h (Nat.lt_irrefl 0), fun ⟨c, h, _⟩ => absurd h (by omega)⟩
  | n + 1 => by
    rw [gm_ct_s]
    have ih := gm_ct_pos (f := f) (U := U) n
    by_cases e : (f n && !U.testBit n) = true
    · rw [if_pos e]
      rw [Bool.and_eq_true, Bool.not_eq_true'] at e
      exact ⟨fun _ => ⟨n, by omega, e⟩, fun _ => by omega⟩
    · rw [if_neg e, Nat.add_zero, ih]
      constructor
      · rintro ⟨c, h1, h2⟩; exact ⟨c, by omega, h2⟩
      · rintro ⟨c, h1, h2⟩
        refine ⟨c, ?_, h2⟩
        by_cases z : c = n
        · rw [z] at h2
          exact absurd (by rw [h2.1, h2.2]; rfl) e
        · omega
theorem gm_ct_e {f g : Nat → Bool} {U : Nat} : ∀ n : Nat, (∀ c, c < n → f c = g c) → gm_ct f U n = gm_ct g U n
  | 0, _ => rfl
  | n + 1, h => by rw [gm_ct_s, gm_ct_s, gm_ct_e n (fun c hc => h c (by omega)), h n (by omega)]
/-- does anything of a class suit one -/
def gm_h (C : Nat → Nat → Bool) (L : Nat → Nat) (nq a c : Nat) : Bool := (List.range nq).any (fun i => L i == c && C a i)
theorem gm_h_t {C : Nat → Nat → Bool} {L : Nat → Nat} {nq a c : Nat} : gm_h C L nq a c = true ↔ ∃ i, i < nq ∧ L i = c ∧ C a i = true := by
  unfold gm_h
  rw [List.any_eq_true]
  constructor
  · rintro ⟨i, h1, h2⟩
    rw [Bool.and_eq_true, beq_iff_eq] at h2
    exact ⟨i, List.mem_range.mp h1, h2⟩
  · rintro ⟨i, h1, h2, h3⟩
    exact ⟨i, List.mem_range.mpr h1, by rw [Bool.and_eq_true, beq_iff_eq]; exact ⟨h2, h3⟩⟩
abbrev gm_o (C : Nat → Nat → Bool) (L : Nat → Nat) (nq a b : Nat) : Nat → Bool := fun c => gm_h C L nq a c && !gm_h C L nq b c
abbrev gm_b (C : Nat → Nat → Bool) (L : Nat → Nat) (nq a b : Nat) : Nat → Bool := fun c => gm_h C L nq a c && gm_h C L nq b c
def gm_w (C : Nat → Nat → Bool) (L : Nat → Nat) (nq a b U : Nat) : Bool := gm_mv 13 (gm_ct (gm_o C L nq a b) U nq) (gm_ct (gm_o C L nq b a) U nq) (gm_ct (gm_b C L nq a b) U nq)
theorem gm_sum {f g : Nat → Bool} {U : Nat} : ∀ n : Nat, gm_ct (fun c => f c && !g c) U n + gm_ct (fun c => g c && !f c) U n + gm_ct (fun c => f c && g c) U n ≤ n
  | 0 => Nat.le_refl _
  | n + 1 => by
    have ih := gm_sum (f := f) (g := g) (U := U) n
    rw [gm_ct_s, gm_ct_s, gm_ct_s]
    cases f n <;> cases g n <;> cases U.testBit n <;> simp <;> omega
theorem gm_b_c {C : Nat → Nat → Bool} {L : Nat → Nat} {nq a b U n : Nat} : gm_ct (gm_b C L nq a b) U n = gm_ct (gm_b C L nq b a) U n := gm_ct_e n (fun c _ => Bool.and_comm _ _)
/-- who is to ask wins just if one can go where the other one loses -/
theorem gm_w_s {C : Nat → Nat → Bool} {L : Nat → Nat} {nq a b U : Nat} (h12 : nq ≤ 12) (hL : ∀ i, i < nq → L i < nq) : gm_w C L nq a b U = true ↔ ∃ q, q < nq ∧ C a q = true ∧ U.testBit (L q) = false ∧ gm_w C L nq b a (U ||| 2 ^ L q) = false := by
  have sm := gm_sum (f := gm_h C L nq a) (g := gm_h C L nq b) (U := U) nq
  have z1 : gm_ct (gm_o C L nq a b) U nq + gm_ct (gm_o C L nq b a) U nq + gm_ct (gm_b C L nq a b) U nq ≤ 12 := by
    have : gm_ct (gm_o C L nq a b) U nq + gm_ct (gm_o C L nq b a) U nq + gm_ct (gm_b C L nq a b) U nq ≤ nq := sm
    omega
  -- one step over a class that suits both, and over one that suits the one alone
  have both : ∀ c, c < nq → gm_h C L nq a c = true → gm_h C L nq b c = true → U.testBit c = false → gm_w C L nq b a (U ||| 2 ^ c) = gm_mv 12 (gm_ct (gm_o C L nq b a) U nq) (gm_ct (gm_o C L nq a b) U nq) (gm_ct (gm_b C L nq a b) U nq - 1) := fun c hc h1 h2 hu => by
    unfold gm_w
    rw [gm_ct_out (f := gm_o C L nq b a) nq (fun _ => by show (gm_h C L nq b c && !gm_h C L nq a c) = false; rw [h1, h2]; rfl), gm_ct_out (f := gm_o C L nq a b) nq (fun _ => by show (gm_h C L nq a c && !gm_h C L nq b c) = false; rw [h1, h2]; rfl), gm_b_c]
    have e := gm_ct_in (f := gm_b C L nq a b) (U := U) (c := c) (by show (gm_h C L nq a c && gm_h C L nq b c) = true; rw [h1, h2]; rfl) hu nq hc
    rw [show gm_ct (gm_b C L nq a b) (U ||| 2 ^ c) nq = gm_ct (gm_b C L nq a b) U nq - 1 by omega]
    exact gm_st 12 _ _ _ (by omega)
  have one : ∀ c, c < nq → gm_h C L nq a c = true → gm_h C L nq b c = false → U.testBit c = false → gm_w C L nq b a (U ||| 2 ^ c) = gm_mv 12 (gm_ct (gm_o C L nq b a) U nq) (gm_ct (gm_o C L nq a b) U nq - 1) (gm_ct (gm_b C L nq a b) U nq) := fun c hc h1 h2 hu => by
    unfold gm_w
    rw [gm_ct_out (f := gm_o C L nq b a) nq (fun _ => by show (gm_h C L nq b c && !gm_h C L nq a c) = false; rw [h2]; rfl), gm_ct_out (f := gm_b C L nq b a) nq (fun _ => by show (gm_h C L nq b c && gm_h C L nq a c) = false; rw [h2]; rfl), gm_b_c]
    have e := gm_ct_in (f := gm_o C L nq a b) (U := U) (c := c) (by show (gm_h C L nq a c && !gm_h C L nq b c) = true; rw [h1, h2]; rfl) hu nq hc
    rw [show gm_ct (gm_o C L nq a b) (U ||| 2 ^ c) nq = gm_ct (gm_o C L nq a b) U nq - 1 by omega]
    exact gm_st 12 _ _ _ (by omega)
  constructor
  · intro h
    unfold gm_w at h
    rw [gm_mv_s, Bool.or_eq_true, Bool.and_eq_true, Bool.and_eq_true, decide_eq_true_iff, decide_eq_true_iff, Bool.not_eq_true', Bool.not_eq_true'] at h
    rcases h with ⟨p1, p2⟩ | ⟨p1, p2⟩
    · obtain ⟨c, c1, c2, c3⟩ := (gm_ct_pos nq).mp p1
      have c2' : gm_h C L nq a c = true ∧ gm_h C L nq b c = true := Bool.and_eq_true_iff.mp c2
      obtain ⟨q, q1, q2, q3⟩ := gm_h_t.mp c2'.1
      refine ⟨q, q1, q3, by rw [q2]; exact c3, ?_⟩
      rw [q2, both c c1 c2'.1 c2'.2 c3]; exact p2
    · obtain ⟨c, c1, c2, c3⟩ := (gm_ct_pos nq).mp p1
      have c2' : gm_h C L nq a c = true ∧ (!gm_h C L nq b c) = true := Bool.and_eq_true_iff.mp c2
      obtain ⟨q, q1, q2, q3⟩ := gm_h_t.mp c2'.1
      refine ⟨q, q1, q3, by rw [q2]; exact c3, ?_⟩
      rw [q2, one c c1 c2'.1 (by simpa using c2'.2) c3]; exact p2
  · rintro ⟨q, q1, q2, q3, q4⟩
    have ha : gm_h C L nq a (L q) = true := gm_h_t.mpr ⟨q, q1, rfl, q2⟩
    unfold gm_w
    rw [gm_mv_s, Bool.or_eq_true, Bool.and_eq_true, Bool.and_eq_true, decide_eq_true_iff, decide_eq_true_iff, Bool.not_eq_true', Bool.not_eq_true']
    cases hb : gm_h C L nq b (L q) with
    | true =>
      rw [both (L q) (hL q q1) ha hb q3] at q4
      exact Or.inl ⟨(gm_ct_pos nq).mpr ⟨L q, hL q q1, by show (gm_h C L nq a (L q) && gm_h C L nq b (L q)) = true; rw [ha, hb]; rfl, q3⟩, q4⟩
    | false =>
      rw [one (L q) (hL q q1) ha hb q3] at q4
      exact Or.inr ⟨(gm_ct_pos nq).mpr ⟨L q, hL q q1, by show (gm_h C L nq a (L q) && !gm_h C L nq b (L q)) = true; rw [ha, hb]; rfl, q3⟩, q4⟩
/-! the class's side -/
variable {G : zG} {d : Nat} {M : zM} {Q : zV → zM → Prop}
theorem s_mover (hG : zP G) : ∀ (f : Nat) (depth x y z d : Nat) (Q : zV → zM → Prop), f + depth = 13 → x ≤ 100 → y ≤ 100 → z ≤ 100 → Q (0, if gm_mv f x y z = true then 1 else 0) M → Y G (d + f + 1) mX2_moverWins 0 [(0, (x : Int)), (0, (y : Int)), (0, (z : Int)), (0, (depth : Int))] [] M Q
  | 0, depth, x, y, z, d, Q, hf, hx, hy, hz, h => by
    exact bX2_moverWins_0 hG ⟨fun c => absurd c (by omega), fun _ => h⟩
  | f + 1, depth, x, y, z, d, Q, hf, hx, hy, hz, h => by
    rw [gm_mv_s] at h
    -- behind the first look
    have sec : (gm_mv f y x (z - 1) = true ∨ ¬ 0 < z) → (x : Int) ≤ 0 → Q (0, 0) M := fun hn c => by
      rw [show (decide (0 < x)) = false from decide_eq_false (by omega), Bool.false_and, Bool.or_false, if_neg (fun w => by
        rw [Bool.and_eq_true, decide_eq_true_iff, Bool.not_eq_true'] at w
        rcases hn with q | q
        · rw [q] at w; exact Bool.noConfusion w.2
        · exact q w.1)] at h
      exact h
    have thi : (gm_mv f y x (z - 1) = true ∨ ¬ 0 < z) → 0 < (x : Int) → Y G (d + (f + 1)) mX2_moverWins 0 [(0, (y : Int)), (0, (x : Int) - 1), (0, (z : Int)), (0, (depth : Int) + 1)] [] M (fun r M' => Y G (d + (f + 1) + 1) mX2_moverWins 43 [(0, (x : Int)), (0, (y : Int)), (0, (z : Int)), (0, (depth : Int))] (zpush r []) M' Q) := fun hn c => by
      rw [show (x : Int) - 1 = ((x - 1 : Nat) : Int) by omega]
      have h1 : (decide (0 < z) && !gm_mv f y x (z - 1)) = false := by
        rcases hn with q | q
        · rw [q]; simp
        · rw [decide_eq_false q]; rfl
      rw [h1, Bool.false_or, decide_eq_true (show 0 < x by omega), Bool.true_and] at h
      refine s_mover hG f (depth + 1) y (x - 1) z d _ (by omega) (by omega) (by omega) (by omega) (bX2_moverWins_43 hG ?_)
      cases hm : gm_mv f y (x - 1) z with
      | true =>
        rw [hm] at h
        exact ⟨fun _ => h, fun w => absurd w (by decide)⟩
      | false =>
        rw [hm] at h
        exact ⟨fun w => absurd rfl w, fun _ => h⟩
    refine bX2_moverWins_0 hG ⟨fun _ => ⟨fun c => ⟨fun c2 => sec (Or.inr (by omega)) c2, fun c2 => ⟨by omega, by omega, thi (Or.inr (by omega)) c2⟩⟩, fun c => ⟨by omega, by omega, ?_⟩⟩, fun c => absurd c (by omega)⟩
    show Y G (d + (f + 1)) mX2_moverWins 0 [(0, (y : Int)), (0, (x : Int)), (0, (z : Int) - 1), (0, (depth : Int) + 1)] [] M (fun r M' => Y G (d + (f + 1) + 1) mX2_moverWins 23 [(0, (x : Int)), (0, (y : Int)), (0, (z : Int)), (0, (depth : Int))] (zpush r []) M' Q)
    rw [show (z : Int) - 1 = ((z - 1 : Nat) : Int) by omega]
    refine s_mover hG f (depth + 1) y x (z - 1) d _ (by omega) (by omega) (by omega) (by omega) (bX2_moverWins_23 hG ?_)
    cases hm : gm_mv f y x (z - 1) with
    | true => exact ⟨fun _ => ⟨fun c2 => sec (Or.inl hm) c2, fun c2 => ⟨by omega, by omega, thi (Or.inl hm) c2⟩⟩, fun w => absurd w (by decide)⟩
    | false =>
      rw [hm, decide_eq_true (show 0 < z by omega)] at h
      exact ⟨fun w => absurd rfl w, fun _ => h⟩
section CX
variable {C : Nat → Nat → Bool} {L : Nat → Nat} {nq np : Nat}
theorem pl_fb_s {f : Nat → Bool} : ∀ (r q x : Nat), q ≤ x → x < q + r → f x = true → (∀ i, q ≤ i → i < x → f i = false) → pl_fb f r q = some x
  | 0, q, x, h1, h2, _, _ => absurd h2 (by omega)
  | r + 1, q, x, h1, h2, h3, h4 => by
    show (if f q = true then some q else pl_fb f r (q + 1)) = some x
    by_cases c : q = x
    · rw [c, if_pos h3]
    · rw [if_neg (by rw [h4 q (by omega) (by omega)]; decide)]
      exact pl_fb_s r (q + 1) x (by omega) (by omega) h3 (fun i i0 i1 => h4 i (by omega) i1)
/-- L is lowest in its class -/
abbrev pl_LL (L : Nat → Nat) (nq : Nat) : Prop := ∀ q, q < nq → L q ≤ q ∧ L (L q) = L q
theorem gm_and {f g : Nat → Bool} {n : Nat} (hn : n ≤ 12) {B : Nat} (hB : B < 4096) (hb : ∀ i, i < n → B.testBit i = f i) : zand (B : Int) (pl_bs g n : Int) ≠ 0 ↔ ∃ i, i < n ∧ f i = true ∧ g i = true := by
  have l := pl_bs_l (f := g) n
  have l2 := p12_31 hn
  rw [zand_n (by omega)]
  constructor
  · intro h
    have hne : B &&& pl_bs g n ≠ 0 := fun z => h (by rw [z]; rfl)
    obtain ⟨i, hi⟩ := Nat.exists_testBit_of_ne_zero hne
    rw [Nat.testBit_and, pl_bs_b, Bool.and_eq_true, Bool.and_eq_true, decide_eq_true_iff] at hi
    exact ⟨i, hi.2.1, by rw [← hb i hi.2.1]; exact hi.1, hi.2.2⟩
  · rintro ⟨i, h1, h2, h3⟩ z
    have hz : B &&& pl_bs g n = 0 := by omega
    have : (B &&& pl_bs g n).testBit i = true := by rw [Nat.testBit_and, hb i h1, h2, pl_bs_b, decide_eq_true h1, h3]; rfl
    rw [hz] at this
    simp at this
theorem s_winsFrom (hG : zP G) (hX : pl_Cx M C L nq np) (hLL : pl_LL L nq) {a b q : Nat} (ha : a < np) (hb : b < np) (hq : q < nq) (h : Q (0, if gm_w C L nq a b (2 ^ L q) = true then 1 else 0) M) : Y G (d + 15) mX2_winsFrom 0 [(2, 165), (0, zand (M 166 a) (zxor (M 167 q) (-1))), (0, zand (M 166 b) (zxor (M 167 q) (-1))), (9, 0), (9, 0), (9, 0), (9, 0), (9, 0), (9, 0)] [] M Q := by
  obtain ⟨h1, h2, h3, h4, h5⟩ := hX
  have l2 := p12_31 h2.2
  have la := pl_bs_l (f := C a) nq
  have lb := pl_bs_l (f := C b) nq
  rw [h3 a ha, h3 b hb, h4 q hq, zan_n (by omega), zan_n (by omega)]
  have hA : ∀ i, i < nq → (pl_bs (C a) nq ^^^ (pl_bs (C a) nq &&& pl_bs (fun j => L j == L q) nq)).testBit i = (C a i && !(L i == L q)) := fun i hi => by
    rw [zan_b, pl_bs_b, pl_bs_b, decide_eq_true hi]; simp
  have hB : ∀ i, i < nq → (pl_bs (C b) nq ^^^ (pl_bs (C b) nq &&& pl_bs (fun j => L j == L q) nq)).testBit i = (C b i && !(L i == L q)) := fun i hi => by
    rw [zan_b, pl_bs_b, pl_bs_b, decide_eq_true hi]; simp
  have lA : pl_bs (C a) nq ^^^ (pl_bs (C a) nq &&& pl_bs (fun j => L j == L q) nq) < 4096 := Nat.xor_lt_two_pow (n := 12) (by omega) (Nat.lt_of_le_of_lt Nat.and_le_left (by omega))
  have lB : pl_bs (C b) nq ^^^ (pl_bs (C b) nq &&& pl_bs (fun j => L j == L q) nq) < 4096 := Nat.xor_lt_two_pow (n := 12) (by omega) (Nat.lt_of_le_of_lt Nat.and_le_left (by omega))
  generalize pl_bs (C a) nq ^^^ (pl_bs (C a) nq &&& pl_bs (fun j => L j == L q) nq) = A at *
  generalize pl_bs (C b) nq ^^^ (pl_bs (C b) nq &&& pl_bs (fun j => L j == L q) nq) = B at *
  -- one class
  have fo : ∀ (p : Nat) (A : Nat), A < 4096 → (∀ i, i < nq → A.testBit i = (C p i && !(L i == L q))) → ∀ c, c < nq → L c = c → (zand (A : Int) (pl_bs (fun i => L i == L c) nq : Int) ≠ 0 ↔ (gm_h C L nq p c = true ∧ (2 ^ L q).testBit c = false)) := fun p A lA hA c hc hLc => by
    rw [gm_and h2.2 lA hA]
    constructor
    · rintro ⟨i, i1, i2, i3⟩
      rw [Bool.and_eq_true] at i2
      have e : L i = c := by rw [beq_iff_eq, hLc] at i3; exact i3
      have n : ¬ L i = L q := by simpa using i2.2
      exact ⟨gm_h_t.mpr ⟨i, i1, e, i2.1⟩, by rw [Nat.testBit_two_pow, decide_eq_false_iff_not]; exact fun z => n (by rw [e]; exact z.symm)⟩
    · rintro ⟨g1, g2⟩
      obtain ⟨i, i1, i2, i3⟩ := gm_h_t.mp g1
      rw [Nat.testBit_two_pow, decide_eq_false_iff_not] at g2
      refine ⟨i, i1, ?_, by rw [beq_iff_eq, hLc]; exact i2⟩
      rw [i3, Bool.true_and, Bool.not_eq_true', beq_eq_false_iff_ne, i2]
      exact fun z => g2 z.symm
  have lp : ∀ (r k : Nat), k + r = nq → Y G (d + 14 + 1) mX2_winsFrom 11 [(2, 165), (0, (A : Int)), (0, (B : Int)), (0, (gm_ct (gm_o C L nq a b) (2 ^ L q) k : Int)), (0, (gm_ct (gm_o C L nq b a) (2 ^ L q) k : Int)), (0, (gm_ct (gm_b C L nq a b) (2 ^ L q) k : Int)), (0, (k : Int)), (9, 0), (9, 0)] [] M Q := fun r => by
    induction r with
    | zero =>
      intro k hk
      have : k = nq := by omega
      subst this
      have sm := gm_sum (f := gm_h C L k a) (g := gm_h C L k b) (U := 2 ^ L q) k
      have sm' : gm_ct (gm_o C L k a b) (2 ^ L q) k + gm_ct (gm_o C L k b a) (2 ^ L q) k + gm_ct (gm_b C L k a b) (2 ^ L q) k ≤ k := sm
      refine bX2_winsFrom_11 hG ⟨fun _ => s_mover hG 13 0 _ _ _ d _ rfl (by omega) (by omega) (by omega) (bX2_winsFrom_147 hG ⟨?_, h⟩), fun c => absurd c (by omega)⟩
      split <;> omega
    | succ r ih =>
      intro k hk
      have nx := ih (k + 1) (by omega)
      rw [gm_ct_s, gm_ct_s, gm_ct_s] at nx
      have hkn : k < nq := by omega
      have sm := gm_sum (f := gm_h C L nq a) (g := gm_h C L nq b) (U := 2 ^ L q) k
      have sm' : gm_ct (gm_o C L nq a b) (2 ^ L q) k + gm_ct (gm_o C L nq b a) (2 ^ L q) k + gm_ct (gm_b C L nq a b) (2 ^ L q) k ≤ k := sm
      have lk := pl_bs_l (f := fun i => L i == L k) nq
      refine bX2_winsFrom_11 hG ⟨fun c => absurd c (by omega), fun _ => ⟨by omega, ?_⟩⟩
      rw [h4 k hkn]
      refine s_lowestOf (nq := nq) hG (by omega) ⟨h1.2, h2.2⟩ ?_
      rw [pl_fb_s (f := fun i => (pl_bs (fun i => L i == L k) nq).testBit i) nq 0 (L k) (by omega) (by have := h5 k hkn; omega) (by show (pl_bs (fun i => L i == L k) nq).testBit (L k) = true; rw [pl_bs_b, decide_eq_true (h5 k hkn), (hLL k hkn).2]; simp) (fun i _ hi => by
        show (pl_bs (fun i => L i == L k) nq).testBit i = false
        rw [pl_bs_b]
        have := h5 k hkn
        have hl := (hLL i (by omega)).1
        have : ¬ L i = L k := by omega
        simp [this])]
      show Y G (d + 14 + 1) mX2_winsFrom 31 [(2, 165), (0, (A : Int)), (0, (B : Int)), (0, (gm_ct (gm_o C L nq a b) (2 ^ L q) k : Int)), (0, (gm_ct (gm_o C L nq b a) (2 ^ L q) k : Int)), (0, (gm_ct (gm_b C L nq a b) (2 ^ L q) k : Int)), (0, (k : Int)), (9, 0), (9, 0)] [(0, (L k : Int))] M Q
      refine bX2_winsFrom_31 hG ⟨fun c => ⟨by omega, ?_⟩, fun c => ?_⟩
      · have none' : ∀ p, gm_h C L nq p k = false := fun p => by
          cases hh : gm_h C L nq p k with
          | false => rfl
          | true =>
            obtain ⟨i, i1, i2, i3⟩ := gm_h_t.mp hh
            have := (hLL i i1).2
            rw [i2] at this
            omega
        have e1 : gm_o C L nq a b k = false := by show (gm_h C L nq a k && _) = false; rw [none' a]; rfl
        have e2 : gm_o C L nq b a k = false := by show (gm_h C L nq b k && _) = false; rw [none' b]; rfl
        have e3 : gm_b C L nq a b k = false := by show (gm_h C L nq a k && _) = false; rw [none' a]; rfl
        rw [e1, e2, e3] at nx
        exact nx
      · have hLk : L k = k := by omega
        rw [h4 k hkn]
        have fa := fo a A lA hA k hkn hLk
        have fb := fo b B lB hB k hkn hLk
        have tt : ∀ (X Y' : Bool), ((X && Y') = true → (if (X && Y') = true then (1 : Nat) else 0) = 1) := fun X Y' h => if_pos h
        cases hu : (2 ^ L q).testBit k with
        | true =>
          rw [hu] at fa fb nx
          have za : zand (A : Int) (pl_bs (fun i => L i == L k) nq : Int) = 0 := by
            by_cases z : zand (A : Int) (pl_bs (fun i => L i == L k) nq : Int) = 0
            · exact z
            · exact Bool.noConfusion (fa.mp z).2
          have zb : zand (B : Int) (pl_bs (fun i => L i == L k) nq : Int) = 0 := by
            by_cases z : zand (B : Int) (pl_bs (fun i => L i == L k) nq : Int) = 0
            · exact z
            · exact Bool.noConfusion (fb.mp z).2
          rw [za, zb]
          rw [Bool.not_true, Bool.and_false, Bool.and_false, Bool.and_false] at nx
          refine ⟨by omega, fun _ => ⟨by omega, fun _ => ⟨by omega, by omega, by omega, by omega, ?_⟩, fun z => absurd rfl z⟩, fun z => absurd rfl z⟩
          rw [Int.add_zero, Int.add_zero, Int.add_zero]
          exact nx
        | false =>
          rw [hu] at fa fb nx
          rw [Bool.not_false, Bool.and_true, Bool.and_true, Bool.and_true] at nx
          have eo1 : gm_o C L nq a b k = (gm_h C L nq a k && !gm_h C L nq b k) := rfl
          have eo2 : gm_o C L nq b a k = (gm_h C L nq b k && !gm_h C L nq a k) := rfl
          have eo3 : gm_b C L nq a b k = (gm_h C L nq a k && gm_h C L nq b k) := rfl
          rw [eo1, eo2, eo3] at nx
          refine ⟨by omega, fun ca => ⟨by omega, fun cb => ⟨by omega, by omega, by omega, by omega, ?_⟩, fun cb => ⟨by omega, by omega, by omega, by omega, ?_⟩⟩, fun ca => ⟨by omega, fun cb => ⟨by omega, by omega, by omega, by omega, ?_⟩, fun cb => ⟨by omega, by omega, by omega, by omega, ?_⟩⟩⟩
          · have ha' : gm_h C L nq a k = false := by
              cases w : gm_h C L nq a k with
              | false => rfl
              | true => exact absurd ca (fa.mpr ⟨w, rfl⟩)
            have hb' : gm_h C L nq b k = false := by
              cases w : gm_h C L nq b k with
              | false => rfl
              | true => exact absurd cb (fb.mpr ⟨w, rfl⟩)
            rw [ha', hb'] at nx
            rw [Int.add_zero, Int.add_zero, Int.add_zero]
            exact nx
          · have ha' : gm_h C L nq a k = false := by
              cases w : gm_h C L nq a k with
              | false => rfl
              | true => exact absurd ca (fa.mpr ⟨w, rfl⟩)
            rw [ha', (fb.mp cb).1] at nx
            rw [Int.add_zero, Int.add_zero]
            exact nx
          · have hb' : gm_h C L nq b k = false := by
              cases w : gm_h C L nq b k with
              | false => rfl
              | true => exact absurd cb (fb.mpr ⟨w, rfl⟩)
            rw [(fa.mp ca).1, hb'] at nx
            rw [Int.add_zero, Int.add_zero]
            exact nx
          · rw [(fa.mp ca).1, (fb.mp cb).1] at nx
            rw [Int.add_zero, Int.add_zero]
            exact nx
  exact bX2_winsFrom_0 hG (lp nq 0 (by omega))
/-- the first question with which one who begins wins -/
def gm_fst (C : Nat → Nat → Bool) (L : Nat → Nat) (nq a b : Nat) : Option Nat := pl_fb (fun q => C a q && !gm_w C L nq b a (2 ^ L q)) nq 0
theorem s_winningStart (hG : zP G) (hX : pl_Cx M C L nq np) (hLL : pl_LL L nq) {a b : Nat} (ha : a < np) (hb : b < np) (h : Q (0, pl_v (gm_fst C L nq a b)) M) : Y G (d + 16) mX2_winningStart 0 [(2, 165), (0, (a : Int)), (0, (b : Int)), (9, 0)] [] M Q := by
  have n6 := hX.2.1
  have l2 := p12_31 n6.2
  have la := pl_bs_l (f := C a) nq
  have lp : ∀ (r q : Nat), q + r = nq → Q (0, pl_v (pl_fb (fun q => C a q && !gm_w C L nq b a (2 ^ L q)) r q)) M → Y G (d + 15 + 1) mX2_winningStart 2 [(2, 165), (0, (a : Int)), (0, (b : Int)), (0, (q : Int))] [] M Q := fun r => by
    induction r with
    | zero =>
      intro q hq h
      exact bX2_winningStart_2 hG ⟨fun _ => h, fun c => absurd c (by have := hX.1.2; omega)⟩
    | succ r ih =>
      intro q hq h
      have e : pl_fb (fun q => C a q && !gm_w C L nq b a (2 ^ L q)) (r + 1) q = if (C a q && !gm_w C L nq b a (2 ^ L q)) = true then some q else pl_fb (fun q => C a q && !gm_w C L nq b a (2 ^ L q)) r (q + 1) := rfl
      rw [e] at h
      have e5 := hX.1.2
      have hz := zbt_c (x := (pl_bs (C a) nq : Int)) (t := (q : Int)) (by omega) (by omega)
      have hz2 : zbt (pl_bs (C a) nq : Int) (q : Int) = (pl_bs (C a) nq).testBit q := rfl
      rw [hz2, pl_bs_b, decide_eq_true (show q < nq by omega), Bool.true_and] at hz
      refine bX2_winningStart_2 hG ⟨fun c => absurd c (by omega), fun _ => ⟨by omega, fun c => ⟨by omega, ih (q + 1) (by omega) ?_⟩, fun c => ⟨by omega, by omega, by omega, by omega, ?_⟩⟩⟩
      · rw [hX.2.2.1 a ha] at c
        rw [hz.mp c, Bool.false_and, if_neg (by decide)] at h; exact h
      · rw [hX.2.2.1 a ha] at c
        have hc : C a q = true := by
          cases w : C a q with
          | true => rfl
          | false => exact absurd (hz.mpr w) c
        rw [hc, Bool.true_and] at h
        refine s_winsFrom (d := d) hG hX hLL hb ha (by omega) (bX2_winningStart_57 hG ?_)
        cases hw : gm_w C L nq b a (2 ^ L q) with
        | true =>
          rw [hw, if_neg (by decide)] at h
          exact ⟨fun _ => ⟨by omega, ih (q + 1) (by omega) h⟩, fun z => absurd z (by decide)⟩
        | false =>
          rw [hw, if_pos (by decide)] at h
          exact ⟨fun z => absurd rfl z, fun _ => h⟩
  exact bX2_winningStart_0 hG (lp nq 0 (by omega) h)
end CX
end PL7
